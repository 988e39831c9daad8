/-! THE READER: rules -/
section RUL
variable {p : Lpar} {d D : Nat} {h h' h0 h1 h2 : AH} {T : Txt} {e i i0 : Nat} {c : Dc} {S : List (Int × Int)}
theorem tR_p6 {h : AH} : ∀ {x : Ex} {lo hi a b : Nat}, tR h x 3 lo hi a b → a = b ∨ jt h a = 6 := by
  intro x
  induction x with
  | leaf => intro lo hi a b hx; exact absurd hx.1 (by omega)
  | inner t k u l r ihl ihr =>
    intro lo hi a b hx
    unfold tR at hx
    split at hx
    · exact absurd hx.1 (by omega)
    split at hx
    · exact absurd hx.1 (by omega)
    split at hx
    · rcases hx with hx | hx
      · exact absurd hx.1 (by omega)
      · exact absurd hx.1 (by omega)
    split at hx
    · exact Or.inl hx.2
    · obtain ⟨-, q, h1, -, -, h4, -⟩ := hx
      rcases ihl h1 with z | z
      · exact Or.inr (by rw [z]; exact h4)
      · exact Or.inr z
def P38 (p : Lpar) (T : Txt) (e i k : Nat) (h : AH) (w : Option AV) (h' : AH) : Prop := ∃ v, w = some (jI v) ∧ Ly p h' ∧ Fe (fun a => a = 37 ∨ a = pT p + 11) h h' ∧ (∀ j, ¬ j = k → ji h' (pT p + 11) j = ji h (pT p + 11) j) ∧ ∃ i', TokR T e i' h' ∧ i ≤ i' ∧ Rs (pRel T i) (fun q => v = 0 ∧ ji h' 37 5 = -10 - (q : Int)) (fun r => v = 1 ∧ i' = r.2 ∧ ji h' (pT p + 11) k = r.1)
theorem r_38 (hd : 10 ≤ d) (L : Ly p h) (K : TokR T e i h) {k : Nat} (hk : k < 10) : ∃ w h', jE d 38 [jP 93, jI (k : Int)] h w h' ∧ P38 p T e i k h w h' := by
  obtain ⟨d, rfl⟩ : ∃ d', d = d' + 1 := ⟨d - 1, by omega⟩
  have hT := L.iT'
  have ky : ∀ (x : Int), pRel T i = .ok (x, i + 1) → Ly p (wi (wi h (pT p + 11) k x) 37 4 ((i + 1 : Nat) : Int)) → TokR T e (i + 1) (wi (wi h (pT p + 11) k x) 37 4 ((i + 1 : Nat) : Int)) → P38 p T e i k h (some (jI 1)) (wi (wi h (pT p + 11) k x) 37 4 ((i + 1 : Nat) : Int)) := fun x hR L1 K1 => by
    refine ⟨1, rfl, L1, (Fe.wi (Or.inr rfl)).trans (Fe.wi (Or.inl rfl)), fun j hj => by rw [ji_wi, if_neg (by omega), ji_wi, if_neg (by omega)], i + 1, K1, by omega, ?_⟩
    rw [hR]
    exact ⟨rfl, rfl, by rw [ji_wi, if_neg (by omega), ji_wi, if_pos ⟨rfl, rfl⟩]⟩
  refine jE_of (as := [jP 93, jI (k : Int)]) (Nat.le_of_ble_eq_true rfl) (c_38_0 (by omega) L K ?_)
  rw [Int.toNat_natCast]
  refine ⟨fun c1 => ⟨by omega, by omega, ky _ ?_⟩, fun c1 => ⟨fun c2 => ⟨by omega, by omega, ky _ ?_⟩, fun c2 => ⟨fun c3 => ⟨by omega, by omega, ky _ ?_⟩, fun c3 L1 K1 => ?_⟩⟩⟩
  · unfold pRel; rw [if_pos c1]
  · unfold pRel; rw [if_neg c1, if_neg (by omega), if_pos c2]
  · unfold pRel; rw [if_neg c1, if_pos c3]
  · refine ⟨0, rfl, L1, Fe.wi (Or.inl rfl), fun j hj => by rw [ji_wi, if_neg (by omega)], i, K1, Nat.le_refl _, ?_⟩
    unfold pRel
    rw [if_neg c1, if_neg c3, if_neg c2]
    exact ⟨rfl, flt_r⟩
/-- the indices around go, whatever they are -/
theorem m_45f (hd : 10 ≤ d) (L : Ly p h) (K : TokR T e i h) {x : Int} : ∃ h', jE d 45 [jP 93, jI x] h none h' ∧ Ly p h' ∧ E43 p h h' ∧ TokR T e i h' ∧ ji h' 37 5 = ji h 37 5 := by
  obtain ⟨d, rfl⟩ : ∃ d', d = d' + 1 := ⟨d - 1, by omega⟩
  have hT := L.iT'
  obtain ⟨v, h', hE, rfl, r⟩ := jE_of (d := d) (y := 45) (h := h) (as := [jP 93, jI x]) (P := fun v h' => v = none ∧ Ly p h' ∧ E43 p h h' ∧ TokR T e i h' ∧ ji h' 37 5 = ji h 37 5) (Nat.le_of_ble_eq_true rfl) (c_45_0 (by omega) L K (fun L1 K1 => ⟨rfl, L1, (E43.swi (by omega)).trans (E43.swi (by omega)), K1, by rw [ji_wi, if_neg (by omega), ji_wi, if_neg (by omega)]⟩))
  exact ⟨h', hE, r⟩
theorem slO_0 (sl : List Int) : slO sl 0 = sl.getD 0 (-1) ∧ slO sl 1 = sl.getD 1 (-1) := by
  unfold slO
  refine ⟨?_, ?_⟩
  · by_cases z : sl.length = 0
    · rw [if_pos (by omega), getD_len _ _ (by omega)]
    · rw [if_neg (by omega)]; rfl
  · by_cases z : sl.length ≤ 1
    · rw [if_pos (by omega), getD_len _ _ (by omega)]
    · rw [if_neg (by omega)]; rfl
abbrev ZR (D a : Nat) : Prop := a = 37 ∨ a = 93 ∨ a = 94 ∨ a = D ∨ (D + 1 ≤ a ∧ a ≤ D + 4) ∨ (D + 11 ≤ a ∧ a ≤ D + 13) ∨ (D + 22 ≤ a ∧ a ≤ D + 25)
abbrev ZQ (D a : Nat) : Prop := a = 37 ∨ a = 93 ∨ a = 94 ∨ (D + 1 ≤ a ∧ a ≤ D + 4) ∨ (D + 22 ≤ a ∧ a ≤ D + 25)
/-- what a rule's reading leaves of the other declarations -/
def RuB (p : Lpar) (c : Dc) (h g : AH) (o : Int × Int) : Prop := Fm (ZR (pT p)) h g ∧ (∀ m, ji g (pT p) m = ji h (pT p) m ∧ jr g (pT p) m = jr h (pT p) m) ∧ (∀ m, m < (dR c).length → ji g (pT p + 11) m = ji h (pT p + 11) m ∧ jr g (pT p + 12) m = jr h (pT p + 12) m ∧ jr g (pT p + 13) m = jr h (pT p + 13) m) ∧ ThR g (pT p + 22) (dS c) (dR c ++ [o])
section RUB
variable {g g' : AH} {o : Int × Int}
theorem RuB.step (R : RuB p c h g o) (L : Ly p g) (F : Fm (ZR (pT p)) g g') (h1 : ∀ m, ji g' (pT p) m = ji g (pT p) m ∧ jr g' (pT p) m = jr g (pT p) m) (h2 : ∀ m, m < (dR c).length → ji g' (pT p + 11) m = ji g (pT p + 11) m ∧ jr g' (pT p + 12) m = jr g (pT p + 12) m ∧ jr g' (pT p + 13) m = jr g (pT p + 13) m) (h3 : ∀ a k, pT p + 22 ≤ a → a ≤ pT p + 25 → ji g' a k = ji g a k) : RuB p c h g' o := by
  obtain ⟨r1, r2, r3, r4⟩ := R
  refine ⟨r1.trans F, fun m => ⟨(h1 m).1.trans (r2 m).1, (h1 m).2.trans (r2 m).2⟩, fun m hm => ?_, r4.cg (fun a k z1 z2 => h3 a k (by omega) (by omega))⟩
  obtain ⟨a1, a2, a3⟩ := h2 m hm
  obtain ⟨b1, b2, b3⟩ := r3 m hm
  exact ⟨a1.trans b1, a2.trans b2, a3.trans b3⟩
theorem RuB.ds (R : RuB p c h g o) (L : Ly p g) (D : DS p g g') : RuB p c h g' o := by
  have hT := L.iT'
  have hx := L.nx
  have hN : NF = 197 := rfl
  refine R.step L (D.1.mono (fun a _ z => by omega)) D.2 (fun m _ => ⟨D.1.ji (by omega) (by omega) m, D.1.jr (by omega) (by omega) m, D.1.jr (by omega) (by omega) m⟩) (fun a k z1 z2 => D.1.ji (by omega) (by omega) k)
theorem RuB.e43 (R : RuB p c h g o) (L : Ly p g) (D : E43 p g g') : RuB p c h g' o := R.ds L (DS.of43 L D)
theorem RuB.w37 (R : RuB p c h g o) (L : Ly p g) {k : Nat} {x : Int} : RuB p c h (wi g 37 k x) o := R.ds L (DS.w37 L)
theorem RuB.w12 (R : RuB p c h g o) (L : Ly p g) {v : Nat} : RuB p c h (wr g (pT p + 12) (dR c).length v) o := by
  refine R.step L (Fm.wr (by omega)) (fun m => ⟨rfl, by rw [jr_wr, if_neg (by omega)]⟩) (fun m hm => ⟨rfl, by rw [jr_wr, if_neg (by omega)], by rw [jr_wr, if_neg (by omega)]⟩) (fun a k _ _ => rfl)
theorem RuB.w13 (R : RuB p c h g o) (L : Ly p g) {v : Nat} : RuB p c h (wr g (pT p + 13) (dR c).length v) o := by
  refine R.step L (Fm.wr (by omega)) (fun m => ⟨rfl, by rw [jr_wr, if_neg (by omega)]⟩) (fun m hm => ⟨rfl, by rw [jr_wr, if_neg (by omega)], by rw [jr_wr, if_neg (by omega)]⟩) (fun a k _ _ => rfl)
theorem RuB.r38 (R : RuB p c h g o) (L : Ly p g) (f : Fe (fun a => a = 37 ∨ a = pT p + 11) g g') (k : ∀ j, ¬ j = (dR c).length → ji g' (pT p + 11) j = ji g (pT p + 11) j) : RuB p c h g' o := by
  have hT := L.iT'
  have hx := L.nx
  have hN : NF = 197 := rfl
  refine R.step L (f.1.mono (fun a _ z => by omega)) (fun m => ⟨f.1.ji (by omega) (by omega) m, f.1.jr (by omega) (by omega) m⟩) (fun m hm => ⟨k m (by omega), f.1.jr (by omega) (by omega) m, f.1.jr (by omega) (by omega) m⟩) (fun a k z1 z2 => f.1.ji (by omega) (by omega) k)
theorem RuB.dt (R : RuB p c h g o) : DT p h g := R.1.mono (fun a _ z => by omega)
/-- the declarations with the rule -/
theorem RuB.dec (R : RuB p c h g o) (L : Ly p h) (B : DecB (pT p) c h) (ol : (dL c).length = (dR c).length) {N : NmL} {w : Int} {a b : Ex} (h1 : ji g (pT p + 11) (dR c).length = w) (h2 : tR g a 3 NF (jx g) (jr g (pT p + 12) (dR c).length) 0) (h3 : tR g b 3 NF (jx g) (jr g (pT p + 13) (dR c).length) 0) : DecB (pT p) (N, dS c, dT c, dV c, dX c, dB c, dR c ++ [o], dL c ++ [(w, a, b)], c.2.2.2.2.2.2.2.2) g := by
  have hT := L.iT'
  have hN : NF = 197 := rfl
  have KF := KA.fm L R.1 (fun x z => by omega)
  have kk := B.ka KF
  obtain ⟨r1, r2, r3, r4⟩ := R
  have ft : ∀ x a, tR h x 3 NF (jx h) a 0 → tR g x 3 NF (jx g) a 0 := fun x a z => tR_mono z (Nat.le_refl _) KF.2.2 (fun c z1 z2 => KF.2.1 c z1 z2)
  refine ⟨kk.1 (fun x z1 z2 z => by omega), kk.2.1 (fun x z1 z2 z => by omega), kk.2.2.1 (fun x z1 z2 z => by omega), r4, ⟨?_, fun k hk => ?_⟩, kk.2.2.2.2.2.1 (fun z => by omega) (fun z => by omega), fun k hk => ?_, ?_, fun z => ?_, fun z => ?_⟩
  · rw [(r2 _).1]; exact B.2.2.2.2.1.1
  · rw [(KF.1 (pT p + 8) k (by omega) (by omega) (by omega)).1]; exact B.2.2.2.2.1.2 k hk
  · have hk : k < (dL c ++ [(w, a, b)]).length := hk
    rw [List.length_append] at hk
    have hk : k < (dL c).length + 1 := hk
    show ji _ (pT p + 11) k = ((dL c ++ [(w, a, b)]).getD k zL).1 ∧ tR _ ((dL c ++ [(w, a, b)]).getD k zL).2.1 3 NF _ (jr _ (pT p + 12) k) 0 ∧ tR _ ((dL c ++ [(w, a, b)]).getD k zL).2.2 3 NF _ (jr _ (pT p + 13) k) 0
    rw [getD_snoc]
    by_cases ck : k < (dL c).length
    · rw [if_pos ck]
      obtain ⟨b1, b2, b3⟩ := r3 k (by omega)
      rw [b1, b2, b3]
      have z := B.2.2.2.2.2.2.1 k ck
      exact ⟨z.1, ft _ _ z.2.1, ft _ _ z.2.2⟩
    · have ek : k = (dR c).length := by omega
      rw [if_neg ck, if_pos (by omega), ek]
      exact ⟨h1, h2, h3⟩
  · rw [(r2 _).1]; exact B.2.2.2.2.2.2.2.1
  · rw [(r2 _).2]; exact B.2.2.2.2.2.2.2.2.1 z
  · rw [(r2 _).2]; exact ft _ _ (B.2.2.2.2.2.2.2.2.2 z)
end RUB
theorem dWk_rule (O : okD c) {N : NmL} {o : Int × Int} {w : Int} {a b : Ex} {t : Int} (ht : szO (dS c) o.1 * szO (dS c) o.2 = t) : dWk (N, dS c, dT c, dV c, dX c, dB c, dR c ++ [o], dL c ++ [(w, a, b)], c.2.2.2.2.2.2.2.2) = dWk c + wkc (dS c) a t + wkc (dS c) b t := by
  show rWk (dS c) (dR c ++ [o]) (dL c ++ [(w, a, b)]) + (if dG c = 0 then 0 else wkc (dS c) (dE c) 1) = (rWk (dS c) (dR c) (dL c) + (if dG c = 0 then 0 else wkc (dS c) (dE c) 1)) + _ + _
  rw [rWk_snoc _ _ _ _ _ O.2.2.2.1]
  show rWk (dS c) (dR c) (dL c) + (wkc (dS c) a (szO (dS c) o.1 * szO (dS c) o.2) + wkc (dS c) b (szO (dS c) o.1 * szO (dS c) o.2)) + _ = _
  rw [ht]; omega
/-- behind both sums -/
theorem rule_3 (hd : 12 ≤ d) (H : TxR p T e i h c) (O : okD c) {nm : List Int} {gg : NmL} {sl : List Int} {g : AH} {j v : Nat} {w t : Int} {a b : Ex} {o : Int × Int} (hg : gg.length = sl.length) (hij : i ≤ j) (O5 : okX (dC c) ((dN c ++ [(nm, 3, ((dR c).length : Int))]) ++ gg) sl) (ht : szO (dS c) o.1 * szO (dS c) o.2 = t) (Lg : Ly p g) (Kg : TokR T e j g) (RB : RuB p c h g o) (S : SmH p (dC c) ((dN c ++ [(nm, 3, ((dR c).length : Int))]) ++ gg) sl T e j g t (dWk c + wkc (dC c).1 a t + wkc (dC c).1 b t)) (hv : NF ≤ v) (h1 : ji g (pT p + 11) (dR c).length = w) (h2 : tR g a 3 NF (jx g) (jr g (pT p + 12) (dR c).length) 0) (h3 : tR g b 3 NF (jx g) v 0) (hx : jx g ≤ jx h + 2 * (j - i)) (hr : (dR c).length < 10) (R : Er (Dc × Nat)) (eR : R = xb (pTake T 159 j) fun k => .ok ((dN c ++ [(nm, 3, ((dR c).length : Int))], dS c, dT c, dV c, dX c, dB c, dR c ++ [o], dL c ++ [(w, a, b)], c.2.2.2.2.2.2.2.2), k)) (L11 : Ly p (wr g (pT p + 13) (dR c).length v)) (K11 : TokR T e j (wr g (pT p + 13) (dR c).length v)) : ∃ h45, jE d 45 [jP 93, jI 0] (wr g (pT p + 13) (dR c).length v) none h45 ∧ Ly p h45 ∧ ∃ i48, TokR T e i48 h45 ∧ 0 ≤ ((dR c).length : Int) ∧ ((dR c).length : Int) < 10 ∧ ¬ (jr h45 (pT p + 13) (dR c).length) = 1 ∧ ((jr h45 (pT p + 13) (dR c).length) = 0 → TxP p T e i h R (some (jI 0)) h45) ∧ (¬ (jr h45 (pT p + 13) (dR c).length) = 0 → (tkK T i48 = 159 → (Ly p (wi h45 37 4 ((i48 + 1 : Nat) : Int)) → TokR T e (i48 + 1) (wi h45 37 4 ((i48 + 1 : Nat) : Int)) → TxP p T e i h R (some (jI 1)) (wi h45 37 4 ((i48 + 1 : Nat) : Int)))) ∧ (¬ tkK T i48 = 159 → (Ly p (wi h45 37 5 (-10 - (tkP T i48 : Int))) → TokR T e i48 (wi h45 37 5 (-10 - (tkP T i48 : Int))) → TxP p T e i h R (some (jI 0)) (wi h45 37 5 (-10 - (tkP T i48 : Int)))))) := by
  obtain ⟨L, K, N, B, W, Wb, A, V⟩ := H
  have hT := L.iT'
  have hxg := Lg.nx
  have hN : NF = 197 := rfl
  have X11 : SmX (pT p) (dC c) ((dN c ++ [(nm, 3, ((dR c).length : Int))]) ++ gg) ([] ++ sl) (wr g (pT p + 13) (dR c).length v) := S.2.2.1.cg (fun x k z => rfl)
  obtain ⟨h12, hE12, L12, f12, K12, X12⟩ := m_45 (d := d) (by omega) L11 K11 X11 O5 hg
  have x12 : jx h12 = jx g := f12.2.1
  have RB11 := RB.w13 Lg (v := v)
  have RB12 := RB11.e43 L11 f12
  have r12 : ∀ x k, x < NF → ¬ ZI (pT p) x → jr h12 x k = jr (wr g (pT p + 13) (dR c).length v) x k := fun x k z1 z2 => f12.1.jr (by show x < jx g; omega) z2 k
  have e13 : jr h12 (pT p + 13) (dR c).length = v := by rw [r12 _ _ (by omega) (by omega), jr_wr, if_pos ⟨rfl, rfl⟩]
  have e12 : jr h12 (pT p + 12) (dR c).length = jr g (pT p + 12) (dR c).length := by rw [r12 _ _ (by omega) (by omega), jr_wr, if_neg (by omega)]
  have e11 : ji h12 (pT p + 11) (dR c).length = w := by rw [f12.1.ji (by show _ < jx g; omega) (by omega)]; exact h1
  have old : ∀ y, NF ≤ y → y < jx g → jt h12 y = jt g y ∧ (∀ k, ji h12 y k = ji g y k) ∧ ∀ k, jr h12 y k = jr g y k := fun y y1 y2 => by
    have m1 := f12.1.2.1 y (by show y < jx g; omega)
    refine ⟨m1.1, fun k => ?_, fun k => ?_⟩
    · rw [f12.1.ji (by show y < jx g; omega) (by omega)]; rfl
    · rw [f12.1.jr (by show y < jx g; omega) (by omega), jr_wr, if_neg (by omega)]
  refine ⟨h12, hE12, L12, j, K12, by omega, by omega, ?_⟩
  rw [e13]
  refine ⟨by omega, fun z => by omega, fun _ => ⟨fun c1 L13 K13 => ?_, fun c1 L13 K13 => ?_⟩⟩
  · rw [take_y c1] at eR
    rw [eR]
    have RB13 := RB12.w37 L12 (k := 4) (x := ((j + 1 : Nat) : Int))
    have e93 : ∀ x k, ¬ x = 37 → ji (wi h12 37 4 ((j + 1 : Nat) : Int)) x k = ji h12 x k := fun x k z2 => by rw [ji_wi, if_neg (by omega)]
    have ew := dWk_rule O (N := dN c ++ [(nm, 3, ((dR c).length : Int))]) (w := w) (a := a) (b := b) ht
    have tr : ∀ {x : Ex} {q : Nat}, tR g x 3 NF (jx g) q 0 → tR (wi h12 37 4 ((j + 1 : Nat) : Int)) x 3 NF (jx (wi h12 37 4 ((j + 1 : Nat) : Int))) q 0 := fun z => tR_mono z (Nat.le_refl _) (by show _ ≤ jx h12; omega) (fun y y1 y2 => by
      obtain ⟨o1, o2, o3⟩ := old y y1 y2
      exact ⟨o1, fun k => (e93 y k (by omega)).trans (o2 k), o3⟩)
    refine ⟨1, rfl, L13, RB13.dt, j + 1, K13, by omega, by show jx h12 ≤ _; omega, rfl, rfl, by show jx h12 ≤ _; omega, L13, K13, X12.1.cg (fun x k z1 z2 => e93 x k (by omega)), ?_, ?_, ?_, (e93 _ _ (by omega)).trans X12.2.2.2.2.1, by show (dV c).length ≤ j + 1; omega⟩
    · refine RB13.dec L B O.2.2.2.1 ((e93 _ _ (by omega)).trans e11) ?_ ?_
      · rw [jr_wi, e12]; exact tr h2
      · rw [jr_wi, e13]; exact tr h3
    · rw [ew]
      show jl h12 (pT p) 14 = _
      rw [f12.1.jl (by show _ < jx g; omega) (by omega)]
      exact S.2.2.2.2.1
    · rw [ew]
      have y1 := S.2.2.2.2.2.2.2.1
      have y2 := S.2.2.2.2.2.2.2.2
      have e1 : (dC c).1 = dS c := rfl
      rw [e1] at y1 y2
      omega
  · rw [take_n c1] at eR
    exact tx_bad eR L13 K13 (RB12.dt.trans DT.w37) (by omega) (by show jx h12 ≤ _; omega) flt_r
/-- behind the relation -/
theorem rule_2 (hd : 41 ≤ d) (H : TxR p T e i h c) (O : okD c) {nm : List Int} {gg : NmL} {sl : List Int} {g : AH} {j : Nat} {w t : Int} {a : Ex} {o : Int × Int} (hg : gg.length = sl.length) (hsl : sl.length ≤ 2) (hij : i ≤ j) (O5 : okX (dC c) ((dN c ++ [(nm, 3, ((dR c).length : Int))]) ++ gg) sl) (ht : szO (dS c) o.1 * szO (dS c) o.2 = t) (RB : RuB p c h g o) (S : SmH p (dC c) ((dN c ++ [(nm, 3, ((dR c).length : Int))]) ++ gg) sl T e j g t (dWk c + wkc (dC c).1 a t)) (h1 : ji g (pT p + 11) (dR c).length = w) (h2 : tR g a 3 NF (jx g) (jr g (pT p + 12) (dR c).length) 0) (hx : jx g ≤ jx h + 2 * (j - i)) (hr : (dR c).length < 10) (R : Er (Dc × Nat)) (eR : R = xb (pSum T (dC c) 8 ((dN c ++ [(nm, 3, ((dR c).length : Int))]) ++ gg) sl j) fun b => xb (pTake T 159 b.2) fun k => .ok ((dN c ++ [(nm, 3, ((dR c).length : Int))], dS c, dT c, dV c, dX c, dB c, dR c ++ [o], dL c ++ [(w, a, b.1)], c.2.2.2.2.2.2.2.2), k)) : ∃ p44 h39, jE d 46 [jP 93, jI 0] g (some (jP p44)) h39 ∧ Ly p h39 ∧ ∃ i42, TokR T e i42 h39 ∧ 0 ≤ ((dR c).length : Int) ∧ ((dR c).length : Int) < 10 ∧ (p44 = 0 ∨ jt h39 p44 = 6) ∧ (Ly p (wr h39 (pT p + 13) (dR c).length p44) → TokR T e i42 (wr h39 (pT p + 13) (dR c).length p44) → ∃ h45, jE d 45 [jP 93, jI 0] (wr h39 (pT p + 13) (dR c).length p44) none h45 ∧ Ly p h45 ∧ ∃ i48, TokR T e i48 h45 ∧ 0 ≤ ((dR c).length : Int) ∧ ((dR c).length : Int) < 10 ∧ ¬ (jr h45 (pT p + 13) (dR c).length) = 1 ∧ ((jr h45 (pT p + 13) (dR c).length) = 0 → TxP p T e i h R (some (jI 0)) h45) ∧ (¬ (jr h45 (pT p + 13) (dR c).length) = 0 → (tkK T i48 = 159 → (Ly p (wi h45 37 4 ((i48 + 1 : Nat) : Int)) → TokR T e (i48 + 1) (wi h45 37 4 ((i48 + 1 : Nat) : Int)) → TxP p T e i h R (some (jI 1)) (wi h45 37 4 ((i48 + 1 : Nat) : Int)))) ∧ (¬ tkK T i48 = 159 → (Ly p (wi h45 37 5 (-10 - (tkP T i48 : Int))) → TokR T e i48 (wi h45 37 5 (-10 - (tkP T i48 : Int))) → TxP p T e i h R (some (jI 0)) (wi h45 37 5 (-10 - (tkP T i48 : Int))))))) := by
  have hT := S.1.iT'
  have hxg := S.1.nx
  have hN : NF = 197 := rfl
  obtain ⟨u, h10, hE10, v10, rfl, L10, D10, i10, K10, hi10, hb10, Q⟩ := (levels (p := p) (T := T) (e := e) (C := dC c) 8 (by decide)).2 d ((dN c ++ [(nm, 3, ((dR c).length : Int))]) ++ gg) sl j g t (dWk c + wkc (dC c).1 a t) (by omega) S O5 (by omega)
  have RB10 := RB.ds S.1 D10
  have hx10 := D10.1.2.2.1
  refine ⟨v10, h10, hE10, L10, i10, K10, by omega, by omega, ?_⟩
  cases hB3 : pSum T (dC c) 8 ((dN c ++ [(nm, 3, ((dR c).length : Int))]) ++ gg) sl j with
  | error q =>
    rw [hB3] at Q eR
    obtain ⟨t1, rf⟩ := Q
    subst t1
    refine ⟨Or.inl rfl, fun L11 K11 => ?_⟩
    obtain ⟨h12, hE12, L12, f12, K12, q12⟩ := m_45f (d := d) (by omega) L11 K11 (x := 0)
    have e12 : jr h12 (pT p + 13) (dR c).length = 0 := by rw [f12.1.jr (by show _ < jx h10; omega) (by omega), jr_wr, if_pos ⟨rfl, rfl⟩]
    refine ⟨h12, hE12, L12, i10, K12, by omega, by omega, ?_⟩
    rw [e12]
    have x12 : jx h12 = jx h10 := f12.2.1
    exact ⟨by decide, fun _ => tx_bad eR L12 K12 ((RB10.w13 L10).e43 L11 f12).dt (by omega) (by omega) (q12.trans rf), fun z => absurd rfl z⟩
  | ok b =>
    rw [hB3] at Q eR
    obtain ⟨t1, t3, t4, t5, t6, t7⟩ := Q
    have eR : R = xb (pTake T 159 i10) fun k => .ok ((dN c ++ [(nm, 3, ((dR c).length : Int))], dS c, dT c, dV c, dX c, dB c, dR c ++ [o], dL c ++ [(w, a, b.1)], c.2.2.2.2.2.2.2.2), k) := by rw [eR, t1]; rfl
    have q10 : jt h10 v10 = 6 := (tR_p6 t6).resolve_left (by omega)
    have k11 : ji h10 (pT p + 11) (dR c).length = w := by rw [D10.1.ji (by omega) (by omega)]; exact h1
    have k12 : jr h10 (pT p + 12) (dR c).length = jr g (pT p + 12) (dR c).length := D10.1.jr (by omega) (by omega) _
    have k2 : tR h10 a 3 NF (jx h10) (jr h10 (pT p + 12) (dR c).length) 0 := by
      rw [k12]
      exact tR_mono (D10.tree S.1 h2 (Nat.le_refl _) (Nat.le_refl _)) (Nat.le_refl _) hx10 (fun y _ _ => ⟨rfl, fun _ => rfl, fun _ => rfl⟩)
    exact ⟨Or.inr q10, fun L11 K11 => rule_3 (by omega) H O hg (by omega) O5 ht L10 K10 RB10 t7 t5 k11 k2 (tR_mono t6 (by omega) (Nat.le_refl _) (fun y _ _ => ⟨rfl, fun _ => rfl, fun _ => rfl⟩)) (by omega) hr R eR L11 K11⟩
/-- a rule, behind its colon -/
theorem rule_in (hd : 41 ≤ d) (H : TxR p T e i h c) (O : okD c) (hr : (dR c).length < 10) {nm : List Int} {gg : NmL} {sl : List Int} {i5 : Nat} {h5 : AH} (hi : i + 2 ≤ i5) (L5 : Ly p h5) (K5 : TokR T e i5 h5) (X5 : SmX (pT p) (dC c) ((dN c ++ [(nm, 3, ((dR c).length : Int))]) ++ gg) sl h5) (O5 : okX (dC c) ((dN c ++ [(nm, 3, ((dR c).length : Int))]) ++ gg) sl) (hg : gg.length = sl.length) (hsl : sl.length ≤ 2) (F5 : Fm (ZQ (pT p)) h h5) (x5 : jx h5 = jx h) (R5 : ThR h5 (pT p + 22) (dS c) (dR c ++ [(sl.getD 0 (-1), sl.getD 1 (-1))])) (eP : pRule T c i = xb (pSum T (dC c) 8 ((dN c ++ [(nm, 3, ((dR c).length : Int))]) ++ gg) sl i5) fun a => xb (pRel T a.2) fun r => xb (pSum T (dC c) 8 ((dN c ++ [(nm, 3, ((dR c).length : Int))]) ++ gg) sl r.2) fun b => xb (pTake T 159 b.2) fun j => .ok ((dN c ++ [(nm, 3, ((dR c).length : Int))], dS c, dT c, dV c, dX c, dB c, dR c ++ [(sl.getD 0 (-1), sl.getD 1 (-1))], dL c ++ [(r.1, a.1, b.1)], c.2.2.2.2.2.2.2.2), j)) : WF d 37 86 [jP 93, jI ((dR c).length : Int)] [] h5 (TxP p T e i h (pRule T c i)) := by
  have H0 := H
  obtain ⟨L, K, N, B, W, Wb, A, V⟩ := H
  have hT := L.iT'
  have hx := L.nx
  have hN : NF = 197 := rfl
  have hS := O.1.2.1
  generalize ht : szO (dS c) (sl.getD 0 (-1)) * szO (dS c) (sl.getD 1 (-1)) = t
  have tb : 0 ≤ t ∧ t ≤ 64 := by rw [← ht]; exact sz2_r hS _ _
  refine c_37_86 (by omega) L5 K5 ⟨_, _, m_44 (by omega) L5 K5 X5.2.2.2.2 (by omega), L5, i5, K5, _, _, m_53 (by omega) L5 L5.iT X5.2.1 hS, L5, i5, K5, _, _, m_44 (by omega) L5 K5 X5.2.2.2.2 (by omega), L5, i5, K5, _, _, m_53 (by omega) L5 L5.iT X5.2.1 hS, L5, i5, K5, ?_⟩
  rw [(slO_0 sl).1, (slO_0 sl).2, show szO (dC c).1 (sl.getD 0 (-1)) * szO (dC c).1 (sl.getD 1 (-1)) = t from ht, w32_i (by omega) (by omega), Int.toNat_natCast]
  intro L6 K6
  have W5 : jl h5 (pT p) 14 = dWk c := by rw [F5.jl (by omega) (by omega) 14]; exact W
  have RB5 : RuB p c h h5 (sl.getD 0 (-1), sl.getD 1 (-1)) := ⟨F5.mono (fun a _ z => by omega), fun m => ⟨F5.ji (by omega) (by omega) m, F5.jr (by omega) (by omega) m⟩, fun m _ => ⟨F5.ji (by omega) (by omega) m, F5.jr (by omega) (by omega) m, F5.jr (by omega) (by omega) m⟩, R5⟩
  have RB6 : RuB p c h (wl h5 93 7 t) (sl.getD 0 (-1), sl.getD 1 (-1)) := RB5.ds L5 (DS.wl93 L5)
  have H6 : SmH p (dC c) ((dN c ++ [(nm, 3, ((dR c).length : Int))]) ++ gg) sl T e i5 (wl h5 93 7 t) t (dWk c) := ⟨L6, K6, X5.cg (fun a k _ => rfl), by rw [jl_wl, if_pos ⟨rfl, rfl⟩], by rw [jl_wl, if_neg (by omega)]; exact W5, tb.1, by omega, Wb.1, by omega⟩
  obtain ⟨u, h7, hE7, v7, rfl, L7, D7, i7, K7, hi7, hb7, R⟩ := (levels (p := p) (T := T) (e := e) (C := dC c) 8 (by decide)).2 d ((dN c ++ [(nm, 3, ((dR c).length : Int))]) ++ gg) sl i5 (wl h5 93 7 t) t (dWk c) (by omega) H6 O5 (by omega)
  have x6 : jx (wl h5 93 7 t) = jx h := x5
  have RB7 := RB6.ds L6 D7
  have RB8 := RB7.w12 L7 (v := v7)
  have x7 := L7.nx
  clear RB5 RB6 F5 R5 W5 D7 X5 L6 K6
  refine ⟨v7, h7, hE7, L7, i7, K7, by omega, by omega, ?_⟩
  rw [jr_wr, if_pos ⟨rfl, rfl⟩]
  cases hB : pSum T (dC c) 8 ((dN c ++ [(nm, 3, ((dR c).length : Int))]) ++ gg) sl i5 with
  | error q =>
    rw [hB] at R eP
    obtain ⟨r1, rf⟩ := R
    subst r1
    exact ⟨Or.inl rfl, by omega, by omega, by decide, fun _ L8 K8 => tx_bad eP L8 K8 RB8.dt (by omega) (by show jx h7 ≤ _; omega) rf, fun z => absurd rfl z⟩
  | ok a =>
    rw [hB] at R eP
    obtain ⟨r1, r3, r4, r5, r6, r7⟩ := R
    have eP : pRule T c i = xb (pRel T i7) fun r => xb (pSum T (dC c) 8 ((dN c ++ [(nm, 3, ((dR c).length : Int))]) ++ gg) sl r.2) fun b => xb (pTake T 159 b.2) fun j => .ok ((dN c ++ [(nm, 3, ((dR c).length : Int))], dS c, dT c, dV c, dX c, dB c, dR c ++ [(sl.getD 0 (-1), sl.getD 1 (-1))], dL c ++ [(r.1, a.1, b.1)], c.2.2.2.2.2.2.2.2), j) := by rw [eP, r1]; rfl
    have q6 : jt h7 v7 = 6 := (tR_p6 r6).resolve_left (by omega)
    refine ⟨Or.inr q6, by omega, by omega, by omega, fun z => by omega, fun _ L8 K8 => ?_⟩
    obtain ⟨u, h9, hE9, v9, rfl, L9, f9, k9, i9, K9, hi9, R⟩ := r_38 (d := d) (by omega) L8 K8 hr
    have x9 : jx h9 = jx h7 := f9.2
    have RB9 := RB8.r38 L8 f9 k9
    refine ⟨v9, h9, hE9, L9, i9, K9, ?_⟩
    cases hB2 : pRel T i7 with
    | error q =>
      rw [hB2] at R eP
      exact ⟨fun _ => tx_bad eP L9 K9 RB9.dt (by omega) (by omega) R.2, fun z => absurd R.1 z⟩
    | ok rl =>
      rw [hB2] at R eP
      obtain ⟨s1, s2, s3⟩ := R
      have eP : pRule T c i = xb (pSum T (dC c) 8 ((dN c ++ [(nm, 3, ((dR c).length : Int))]) ++ gg) sl i9) fun b => xb (pTake T 159 b.2) fun j => .ok ((dN c ++ [(nm, 3, ((dR c).length : Int))], dS c, dT c, dV c, dX c, dB c, dR c ++ [(sl.getD 0 (-1), sl.getD 1 (-1))], dL c ++ [(rl.1, a.1, b.1)], c.2.2.2.2.2.2.2.2), j) := by rw [eP, s2]; rfl
      have j9 : ∀ x k, x < NF → ¬ x = 37 → ¬ x = pT p + 11 → ji h9 x k = ji h7 x k := fun x k z1 z2 z3 => by rw [f9.1.ji (by show x < jx h7; omega) (by omega) k]; rfl
      have l9 : ∀ x k, x < NF → ¬ x = 37 → ¬ x = pT p + 11 → jl h9 x k = jl h7 x k := fun x k z1 z2 z3 => by rw [f9.1.jl (by show x < jx h7; omega) (by omega) k]; rfl
      have H9 : SmH p (dC c) ((dN c ++ [(nm, 3, ((dR c).length : Int))]) ++ gg) sl T e i9 h9 t (dWk c + wkc (dC c).1 a.1 t) := ⟨L9, K9, r7.2.2.1.cg (fun x k z => j9 x k (by omega) (by omega) (by omega)), by rw [l9 _ _ (by omega) (by omega) (by omega)]; exact r7.2.2.2.1, by rw [l9 _ _ (by omega) (by omega) (by omega)]; exact r7.2.2.2.2.1, r7.2.2.2.2.2.1, r7.2.2.2.2.2.2.1, r7.2.2.2.2.2.2.2.1, by have := r7.2.2.2.2.2.2.2.2; omega⟩
      have e12 : jr h9 (pT p + 12) (dR c).length = v7 := by rw [f9.1.jr (by show _ < jx h7; omega) (by omega), jr_wr, if_pos ⟨rfl, rfl⟩]
      have t9 : tR h9 a.1 3 NF (jx h9) (jr h9 (pT p + 12) (dR c).length) 0 := by
        rw [e12]
        refine tR_mono r6 (by omega) (by omega) (fun y y1 y2 => ?_)
        have m1 := f9.1.2.1 y (by show y < jx h7; omega)
        refine ⟨m1.1, fun k => ?_, fun k => ?_⟩
        · rw [f9.1.ji (by show y < jx h7; omega) (by omega)]; rfl
        · rw [f9.1.jr (by show y < jx h7; omega) (by omega), jr_wr, if_neg (by omega)]
      exact ⟨fun z => by omega, fun _ => rule_2 hd H0 O hg hsl (by omega) O5 ht RB9 H9 s3 t9 (by omega) hr _ eP⟩
end RUL
