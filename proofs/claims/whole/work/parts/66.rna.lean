/-! THE REFERENCE: a NAME in a sum -/
abbrev ZH (A : Nat) (a k : Nat) : Prop := (a = 141 ∧ ((2 ≤ k ∧ k ≤ 6) ∨ k = 33 ∨ k = 51 ∨ k = 52)) ∨ (160 ≤ a ∧ a ≤ 163 ∧ A ≤ k)
section RNA
variable {p : Lpar} {d : Nat} {h h' h0 h1 g : AH} {T : Txt} {e i k A dp lo : Nat} {c : Dc} {G : NmL} {n : Nat → Nat} {sl : List Int}
theorem SmC.fF (S : SmC p T e c G n sl dp h) (f : Fq ZF h h') : SmC p T e c G n sl dp h' := S.fq f (fun a k z => by omega) (fun k z => by omega) (fun a k z => by omega)
theorem SmC.fH (S : SmC p T e c G n sl dp h) (f : Fq (ZH A) h h') : SmC p T e c G n sl dp h' := S.fq f (fun a k z => by omega) (fun k z => by omega) (fun a k z => by omega)
theorem Fq.toH (F : Fq ZF h g) : Fq (ZH A) h g := F.mono (fun a k z => by omega)
section F143
variable {Q : Option AV → AH → Prop} {v1 v2 v3 v4 v5 v6 v7 : Int}
/-- the act of data or a var -/
theorem n143_211 (hd : 9 ≤ d) (L : Ly p h) (hA : ji h 141 33 = (A : Int)) (hb : A < 2000) (H1 : v2 = -1 → ∀ L2 : Ly p (emH (wi h 141 51 1) A 5 v3 v6 v7), Q none (emH (wi h 141 51 1) A 5 v3 v6 v7)) (H2 : ¬ v2 = -1 → ∀ L2 : Ly p (emH (wi h 141 51 0) A 4 v2 v6 v7), Q none (emH (wi h 141 51 0) A 4 v2 v6 v7)) : WF d 143 211 [jP 141, jI v1, jI v2, jI v3, jI v4, jI v5, jI v6, jI v7] [] h Q := by
  have a33 : ∀ {x : Int}, ji (wi h 141 51 x) 141 33 = (A : Int) := by intro x; rw [ji_wi, if_neg (by omega)]; exact hA
  refine c_143_211 (by omega) L ⟨fun z L2 => c_143_225 (by omega) L2 ?_, fun z L2 => c_143_225 (by omega) L2 ?_⟩
  · rw [a33, Int.toNat_natCast]
    exact ⟨fun _ => ⟨fun _ => ⟨by omega, by omega, fun L3 => c_143_253 (by omega) L3 (H1 z L3)⟩, fun z2 => absurd z z2⟩, fun z2 => absurd z z2⟩
  · rw [a33, Int.toNat_natCast]
    exact ⟨fun z2 => absurd z2 z, fun _ => ⟨fun z2 => absurd z2 z, fun _ => ⟨by omega, by omega, fun L3 => c_143_253 (by omega) L3 (H2 z L3)⟩⟩⟩
theorem f143_211 (hd : 13 ≤ d) (L : Ly p h) (hA : ji h 141 33 = (A : Int)) (hb : A < 2000) (H : ∀ h', Ly p h' → Fq (ZH A) h h' → ji h' 141 6 = ji h 141 6 → Q none h') : WF d 143 211 [jP 141, jI v1, jI v2, jI v3, jI v4, jI v5, jI v6, jI v7] [] h Q := by
  have F : ∀ {x o a b f : Int}, Fq (ZH A) h (emH (wi h 141 51 x) A o a b f) := fun {x o a b f} => (Fq.wi (by omega)).trans (emH_F.mono (fun a k z => by omega))
  exact n143_211 (by omega) L hA hb (fun _ L2 => H _ L2 F (by rw [emH_i (by omega) (by omega), ji_wi, if_neg (by omega)])) (fun _ L2 => H _ L2 F (by rw [emH_i (by omega) (by omega), ji_wi, if_neg (by omega)]))
theorem f143_204 (hd : 13 ≤ d) (L : Ly p h) (hq : ¬ ji h 141 6 = -1) (hA : ji h 141 33 = (A : Int)) (hb : A < 2000) (H : ∀ h', Ly p h' → Fq (ZH A) h h' → ji h' 141 6 = ji h 141 6 → Q none h') : WF d 143 204 [jP 141, jI v1, jI v2, jI v3, jI v4, jI v5, jI v6, jI v7] [] h Q := c_143_204 (by omega) L ⟨0, h, e_121 (by omega) L hq, L, f143_211 hd L hA hb H⟩
theorem f143_196 (hd : 13 ≤ d) (L : Ly p h) (hq : ¬ ji h 141 6 = -1) (hA : ji h 141 33 = (A : Int)) (hb : A < 2000) (H : ∀ h', Ly p h' → Fq (ZH A) h h' → ji h' 141 6 = ji h 141 6 → Q none h') : WF d 143 196 [jP 141, jI v1, jI v2, jI v3, jI v4, jI v5, jI v6, jI v7] [] h Q := c_143_196 (by omega) L ⟨0, h, e_141 (by omega) L hq, L, f143_204 hd L hq hA hb H⟩
theorem f143_183 (hd : 13 ≤ d) (L : Ly p h) (hq : ¬ ji h 141 6 = -1) (hA : ji h 141 33 = (A : Int)) (hb : A < 2000) (H : ∀ h', Ly p h' → Fq (ZH A) h h' → ji h' 141 6 = ji h 141 6 → Q none h') : WF d 143 183 [jP 141, jI v1, jI v2, jI v3, jI v4, jI v5, jI v6, jI v7] [] h Q := c_143_183 (by omega) L ⟨fun _ => f143_204 hd L hq hA hb H, fun _ => ⟨0, h, e_121 (by omega) L hq, L, f143_196 hd L hq hA hb H⟩⟩
theorem f143_175 (hd : 13 ≤ d) (L : Ly p h) (hq : ¬ ji h 141 6 = -1) (hA : ji h 141 33 = (A : Int)) (hb : A < 2000) (H : ∀ h', Ly p h' → Fq (ZH A) h h' → ji h' 141 6 = ji h 141 6 → Q none h') : WF d 143 175 [jP 141, jI v1, jI v2, jI v3, jI v4, jI v5, jI v6, jI v7] [] h Q := c_143_175 (by omega) L ⟨0, h, e_141 (by omega) L hq, L, f143_183 hd L hq hA hb H⟩
/-- places -/
theorem places (hd : 17 ≤ d) (S : SmC p T e c G n sl dp h) (K : RtR T e i h) (O : okX (dC c) G sl) (hA : ji h 141 33 = (A : Int)) (hb : A < 2000) {o : Int × Int} (ho : (o.1 = -1 ∧ o.2 = -1) ∨ (0 ≤ o.1 ∧ o.1 < ((dS c).length : Int) ∧ (o.2 = -1 ∨ (0 ≤ o.2 ∧ o.2 < ((dS c).length : Int))))) (HE : ∀ h' q, pPlaces T (dC c) G sl o i = .error q → Ly p h' → Fq (ZH A) h h' → ji h' 141 6 = (q : Int) → Q none h') (HO : ∀ h' r, pPlaces T (dC c) G sl o i = .ok r → Ly p h' → Fq ZF h h' → RtR T e r.2.2 h' → WF d 143 211 [jP 141, jI v1, jI v2, jI v3, jI o.1, jI o.2, jI r.1, jI r.2.1] [] h' Q) : WF d 143 162 [jP 141, jI v1, jI v2, jI v3, jI o.1, jI o.2, jI 0, jI 0] [] h Q := by
  have L := S.1.1
  by_cases c0 : o.1 = -1
  · refine c_143_162 (by omega) L ⟨fun _ => HO h (0, 0, i) ?_ L Fq.refl K, fun z => absurd c0 z⟩
    unfold pPlaces; rw [if_pos c0]
  have eP : pPlaces T (dC c) G sl o i = xb (pTake T 191 i) fun i => xb (pPlace T (dC c) G sl o.1 i) fun q => if o.2 = -1 then xb (pTake T 193 q.2) fun i => .ok (q.1, 0, i) else xb (pTake T 144 q.2) fun i => xb (pPlace T (dC c) G sl o.2 i) fun r => xb (pTake T 193 r.2) fun i => .ok (q.1, r.1, i) := by unfold pPlaces; rw [if_neg c0]
  -- a fault stands at g
  have fl : ∀ {g : AH} {q : Nat}, Fq ZF h g → ji g 141 6 = (q : Int) → pPlaces T (dC c) G sl o i = .error q → (ji g 141 33 = (A : Int) ∧ ¬ ji g 141 6 = -1 ∧ ∀ h', Ly p h' → Fq (ZH A) g h' → ji h' 141 6 = ji g 141 6 → Q none h') := fun f h6 hq => ⟨(f.i (by omega)).trans hA, nq h6, fun h' L' F' e6 => HE h' _ hq L' (f.toH.trans F') (e6.trans h6)⟩
  by_cases c1 : ¬ tkK T i = 191
  · have L2 : Ly p (wi h 141 6 (tkP T i : Int)) := L.wi (by decide)
    obtain ⟨q1, q2, q3⟩ := fl (q := tkP T i) f6 w6_r (by rw [eP, take_n c1]; rfl)
    exact c_143_162 (by omega) L ⟨fun z => absurd z c0, fun _ => ⟨0, _, n_121 (by omega) L K c1 (by decide), L2, f143_175 (by omega) L2 q2 q1 hb q3⟩⟩
  have c1 := Decidable.not_not.mp c1
  obtain ⟨h2, hE2, L2, G2, K2⟩ := y_121 (d := d) (x := 91) (by omega) S.1 K c1 (by decide) (by decide)
  have F2 := G2.toF
  refine c_143_162 (by omega) L ⟨fun z => absurd z c0, fun _ => ⟨1, h2, hE2, L2, ?_⟩⟩
  rw [take_y c1, xb_pure] at eP
  obtain ⟨w, h3, hE3, x3, rfl, L3, G3, S3⟩ := t_141 (d := d) (by omega) (S.fF F2) K2 O (set := o.1) (by omega)
  have F3 := F2.trans G3
  refine c_143_175 (by omega) L2 ⟨x3, h3, hE3, L3, ?_⟩
  clear hE2 hE3
  rcases S3.cs with ⟨q, hr, h6⟩ | ⟨a, hr, va, K3⟩
  · obtain ⟨q1, q2, q3⟩ := fl (q := q) F3 h6 (by rw [eP, hr]; rfl)
    exact f143_183 (by omega) L3 q2 q1 hb q3
  rw [hr, xb_pure] at eP
  rw [va]
  by_cases c2 : o.2 = -1
  · rw [if_pos c2] at eP
    refine c_143_183 (by omega) L3 ⟨fun _ => ?_, fun z => absurd c2 z⟩
    by_cases c3 : ¬ tkK T a.2 = 193
    · have L4 : Ly p (wi h3 141 6 (tkP T a.2 : Int)) := L3.wi (by decide)
      obtain ⟨q1, q2, q3⟩ := fl (q := tkP T a.2) (F3.trans f6) w6_r (by rw [eP, take_n c3]; rfl)
      exact c_143_204 (by omega) L3 ⟨0, _, n_121 (by omega) L3 K3 c3 (by decide), L4, f143_211 (by omega) L4 q1 hb q3⟩
    have c3 := Decidable.not_not.mp c3
    obtain ⟨h4, hE4, L4, G4, K4⟩ := y_121 (d := d) (x := 93) (by omega) (S.fF F3).1 K3 c3 (by decide) (by decide)
    exact c_143_204 (by omega) L3 ⟨1, h4, hE4, L4, HO h4 (a.1, 0, a.2 + 1) (by rw [eP, take_y c3]; rfl) L4 (F3.trans G4.toF) K4⟩
  rw [if_neg c2] at eP
  by_cases c3 : ¬ tkK T a.2 = 144
  · have L4 : Ly p (wi h3 141 6 (tkP T a.2 : Int)) := L3.wi (by decide)
    obtain ⟨q1, q2, q3⟩ := fl (q := tkP T a.2) (F3.trans f6) w6_r (by rw [eP, take_n c3]; rfl)
    exact c_143_183 (by omega) L3 ⟨fun z => absurd z c2, fun _ => ⟨0, _, n_121 (by omega) L3 K3 c3 (by decide), L4, f143_196 (by omega) L4 q2 q1 hb q3⟩⟩
  have c3 := Decidable.not_not.mp c3
  obtain ⟨h4, hE4, L4, G4, K4⟩ := y_121 (d := d) (x := 44) (by omega) (S.fF F3).1 K3 c3 (by decide) (by decide)
  have F4 := F3.trans G4.toF
  refine c_143_183 (by omega) L3 ⟨fun z => absurd z c2, fun _ => ⟨1, h4, hE4, L4, ?_⟩⟩
  rw [take_y c3, xb_pure] at eP
  obtain ⟨w, h5, hE5, x5, rfl, L5, G5, S5⟩ := t_141 (d := d) (by omega) (S.fF F4) K4 O (set := o.2) (by omega)
  have F5 := F4.trans G5
  refine c_143_196 (by omega) L4 ⟨x5, h5, hE5, L5, ?_⟩
  clear hE4 hE5
  rcases S5.cs with ⟨q, hr, h6⟩ | ⟨b, hr, vb, K5⟩
  · obtain ⟨q1, q2, q3⟩ := fl (q := q) F5 h6 (by rw [eP, hr]; rfl)
    exact f143_204 (by omega) L5 q2 q1 hb q3
  rw [hr, xb_pure] at eP
  rw [vb]
  by_cases c4 : ¬ tkK T b.2 = 193
  · have L6 : Ly p (wi h5 141 6 (tkP T b.2 : Int)) := L5.wi (by decide)
    obtain ⟨q1, q2, q3⟩ := fl (q := tkP T b.2) (F5.trans f6) w6_r (by rw [eP, take_n c4]; rfl)
    exact c_143_204 (by omega) L5 ⟨0, _, n_121 (by omega) L5 K5 c4 (by decide), L6, f143_211 (by omega) L6 q1 hb q3⟩
  have c4 := Decidable.not_not.mp c4
  obtain ⟨h6, hE6, L6, G6, K6⟩ := y_121 (d := d) (x := 93) (by omega) (S.fF F5).1 K5 c4 (by decide) (by decide)
  exact c_143_204 (by omega) L5 ⟨1, h6, hE6, L6, HO h6 (a.1, b.1, b.2 + 1) (by rw [eP, take_y c4]; rfl) L6 (F5.trans G6.toF) K6⟩
end F143
def P143 (p : Lpar) (T : Txt) (e i A : Nat) (W : Int) (h : AH) (R : Er (Ex × Nat)) (w : Option AV) (h' : AH) : Prop := w = none ∧ Ly p h' ∧ Fq (ZH A) h h' ∧ Rs R (fun q => ji h' 141 6 = (q : Int)) (fun r => RtR T e r.2 h' ∧ i < r.2 ∧ ji h' 141 33 = (A : Int) + 1 ∧ cR h' r.1 A (A + 1) ∧ ji h' 141 51 = bI (hv r.1) ∧ jl h' 141 52 = w64 (W + 1))
theorem t_143 (hd : 18 ≤ d) (S : SmC p T e c G n sl dp h) (K : RtR T e i h) (O : okX (dC c) G sl) (c1 : tkK T i = 1) (hA : ji h 141 33 = (A : Int)) (hb : A < 2000) {W : Int} (hW : jl h 141 52 = w64 W) (h51 : ji h 141 51 = 0) : ∃ w h', jE d 143 [jP 141] h w h' ∧ P143 p T e i A W h (pNamed T (dC c) G sl i) w h' := by
  obtain ⟨d, rfl⟩ : ∃ d', d = d' + 1 := ⟨d - 1, by omega⟩
  have L := S.1.1
  have M := S.2.1.1
  have B := S.2.2.1
  have k6 := K.2.2.2.2.2.2
  have k5 := K.2.2.2.2.1 c1
  have hN := (tkG_all T i).2 c1
  have lr := lk_r M (tkN T i)
  have eL : lkT G T i = lkNm G (tkN T i) := by unfold lkT; rw [if_pos c1]
  have mb := M.2.2.1
  refine jE_of (as := [jP 141]) (Nat.le_of_ble_eq_true rfl) (c_143_0 (by omega) L ⟨_, h, t_123 (by omega) L M hN 4 (by decide) 158 rfl L.t158 (by rw [L.n158]; omega) M.1.2.2.2.2 k5, L, ?_⟩)
  refine c_143_16 (by omega) L ⟨_, h, t_123 (by omega) L M hN 1 (by decide) 146 rfl L.t146 (by rw [L.n146]; omega) M.1.2.1 k5, L, ?_⟩
  refine c_143_32 (by omega) L ⟨_, h, t_123 (by omega) L M hN 2 (by decide) 149 rfl L.t149 (by rw [L.n149]; omega) M.1.2.2.1 k5, L, ?_⟩
  have hk := fun z => O.lk (T := T) (i := i) z
  rw [eL] at hk
  have eP : pNamed T (dC c) G sl i = if (lkNm G (tkN T i)).1 = 4 then .ok (xIdx (lkNm G (tkN T i)).2, i + 1) else if (lkNm G (tkN T i)).1 = 1 then xb (pPlaces T (dC c) G sl ((dT c).getD (lkNm G (tkN T i)).2.toNat (-1, -1)) (i + 1)) fun q => .ok (xTab (lkNm G (tkN T i)).2 q.1 q.2.1, q.2.2) else if (lkNm G (tkN T i)).1 = 2 then xb (pPlaces T (dC c) G sl ((dX c).getD (lkNm G (tkN T i)).2.toNat (-1, -1)) (i + 1)) fun q => .ok (xVar (lkNm G (tkN T i)).2 q.1 q.2.1, q.2.2) else .error (tkP T i) := by unfold pNamed; rw [eL]
  generalize lkNm G (tkN T i) = lk at lr hk eP ⊢
  -- behind the name
  have go : ∀ {v1 v2 v3 : Int}, (∀ h1, Ly p h1 → Fq (ZH A) h h1 → SmC p T e c G n sl dp h1 → RtR T e (i + 1) h1 → ji h1 141 33 = (A : Int) → jl h1 141 52 = w64 (W + 1) → ji h1 141 51 = 0 → WF d 143 86 [jP 141, jI v1, jI v2, jI v3, jU, jU, jU, jU] [] h1 (P143 p T e i A W h (pNamed T (dC c) G sl i))) → Ly p (wl h 141 52 (w64 ((jl h 141 52) + 1))) → WF d 143 82 [jP 141, jI v1, jI v2, jI v3, jU, jU, jU, jU] [] (wl h 141 52 (w64 ((jl h 141 52) + 1))) (P143 p T e i A W h (pNamed T (dC c) G sl i)) := fun {v1 v2 v3} H L2 => by
    have F1 : Fq (ZH A) h (wl h 141 52 (w64 ((jl h 141 52) + 1))) := Fq.wl (by omega)
    obtain ⟨h1, hE1, L1, G1, K1⟩ := t_118 (d := d) (by omega) (S.fH F1).1 (K.fq (Fq.wl (Z := fun a k => a = 141 ∧ k = 52) (by omega)) (fun k _ _ => by omega)) (by rw [c1]; decide)
    have F2 := F1.trans (G1.toF.toH (A := A))
    refine c_143_82 (by omega) L2 ⟨h1, hE1, L1, H h1 L1 F2 (S.fH F2) K1 ?_ ?_ ?_⟩
    · rw [G1.i (by omega), ji_wl]; exact hA
    · rw [G1.l (by omega), jl_wl, if_pos ⟨rfl, rfl⟩, hW, w64_a]
    · rw [G1.i (by omega), ji_wl]; exact h51
  by_cases q4 : lk.1 = 4
  · rw [if_pos q4] at eP
    rw [if_pos (show lk.1 = ((4 : Nat) : Int) from q4)]
    refine c_143_48 (by omega) L ⟨fun z => by omega, fun _ => go (fun h1 L1 F1 S1 K1 a33 w52 z51 => c_143_86 (by omega) L1 ⟨fun z => by omega, fun _ => ?_⟩)⟩
    rw [a33, Int.toNat_natCast, eP]
    refine ⟨by omega, by omega, fun L3 => c_143_99 (by omega) L3 ?_⟩
    have FE : Fq (ZE A) h1 (emH h1 A 3 lk.2 0 0) := emH_F
    refine ⟨rfl, L3, F1.trans (FE.mono (fun a k z => by omega)), K1.fq FE (fun k _ _ => by omega), by show i < i + 1; omega, emH_33, ⟨rfl, emH_0, emH_1⟩, ?_, ?_⟩
    · show ji (emH h1 A 3 lk.2 0 0) 141 51 = 0
      rw [emH_i (by omega) (by omega)]; exact z51
    · show jl (emH h1 A 3 lk.2 0 0) 141 52 = _
      rw [emH_l]; exact w52
  rw [if_neg q4] at eP
  rw [if_neg (show ¬ lk.1 = ((4 : Nat) : Int) from q4)]
  by_cases q1 : lk.1 = 1
  · rw [if_pos q1] at eP
    rw [if_pos (show lk.1 = ((1 : Nat) : Int) from q1), if_neg (show ¬ lk.1 = ((2 : Nat) : Int) by omega)]
    have hk := hk (by omega)
    have hkt : lk.2 < ((dT c).length : Int) := hk.2.2.2.2.1 q1
    have tb : (dT c).length ≤ 6 := O.2.2.2.1
    have ro := B.2.1 lk.2.toNat (by omega)
    have om := O.2.2.1.2 _ (getD_mem (l := dT c) (k := lk.2.toNat) (by omega) (-1, -1))
    generalize ho : (dT c).getD lk.2.toNat (-1, -1) = o at eP ro om
    refine c_143_48 (by omega) L ⟨fun _ => ⟨fun z => by omega, fun _ => go (fun h1 L1 F1 S1 K1 a33 w52 z51 => ?_)⟩, fun z => absurd rfl z⟩
    have r1 : ji h1 147 (2 * lk.2.toNat) = o.1 ∧ ji h1 147 (2 * lk.2.toNat + 1) = o.2 := ⟨by rw [F1.i (by omega)]; exact ro.1, by rw [F1.i (by omega)]; exact ro.2⟩
    refine c_143_86 (by omega) L1 ⟨fun _ => ⟨fun z => by omega, fun _ => ?_⟩, fun z => absurd rfl z⟩
    rw [w32_i (by omega) (by omega), show (2 * lk.2).toNat = 2 * lk.2.toNat by omega, r1.1]
    refine ⟨by omega, by omega, c_143_126 (by omega) L1 ⟨fun z => by omega, fun _ => ?_⟩⟩
    rw [w32_i (x := 2 * lk.2) (by omega) (by omega), w32_i (by omega) (by omega), show (2 * lk.2 + 1).toNat = 2 * lk.2.toNat + 1 by omega, r1.2]
    refine ⟨by omega, by omega, c_143_156 (by omega) L1 (c_143_159 (by omega) L1 (places (by omega) S1 K1 O a33 hb om (fun h' q hq L' F' h6 => ⟨rfl, L', F1.trans F', ?_⟩) (fun h' r hr L' F' K' => n143_211 (by omega) L' ((F'.i (by omega)).trans a33) hb (fun z => by omega) (fun _ L2 => ?_))))⟩
    · rw [eP, hq]; exact h6
    · have FE : Fq (ZE A) (wi h' 141 51 0) (emH (wi h' 141 51 0) A 4 lk.2 r.1 r.2.1) := emH_F
      have FW : Fq (fun a k => a = 141 ∧ k = 51) h' (wi h' 141 51 0) := Fq.wi (by omega)
      have pk := pPlaces_ok (tkG_all T) O hr
      rw [eP, hr]
      refine ⟨rfl, L2, ((F1.trans F'.toH).trans (FW.mono (fun a k z => by omega))).trans (FE.mono (fun a k z => by omega)), (K'.fq FW (fun k _ _ => by omega)).fq FE (fun k _ _ => by omega), by show i < r.2.2; omega, emH_33, ⟨rfl, emH_0, emH_1, emH_2, emH_3⟩, ?_, ?_⟩
      · show ji (emH (wi h' 141 51 0) A 4 lk.2 r.1 r.2.1) 141 51 = 0
        rw [emH_i (by omega) (by omega), ji_wi, if_pos ⟨rfl, rfl⟩]
      · show jl (emH (wi h' 141 51 0) A 4 lk.2 r.1 r.2.1) 141 52 = _
        rw [emH_l, jl_wi, F'.l (by omega)]; exact w52
  rw [if_neg q1] at eP
  rw [if_neg (show ¬ lk.1 = ((1 : Nat) : Int) from q1)]
  by_cases q2 : lk.1 = 2
  · rw [if_pos q2] at eP
    rw [if_pos (show lk.1 = ((2 : Nat) : Int) from q2)]
    have hk := hk (by omega)
    have hkt : lk.2 < ((dX c).length : Int) := hk.2.2.2.2.2.1 q2
    have tb : (dX c).length ≤ 6 := O.2.2.2.2.2.1
    have ro := B.2.2.2.1 lk.2.toNat (by omega)
    have om := O.2.2.2.2.1.2 _ (getD_mem (l := dX c) (k := lk.2.toNat) (by omega) (-1, -1))
    generalize ho : (dX c).getD lk.2.toNat (-1, -1) = o at eP ro om
    refine c_143_48 (by omega) L ⟨fun _ => ⟨fun _ => ⟨fun z => by omega, fun _ => go (fun h1 L1 F1 S1 K1 a33 w52 z51 => ?_)⟩, fun z => absurd rfl z⟩, fun z => absurd rfl z⟩
    have r1 : ji h1 150 (2 * lk.2.toNat) = o.1 ∧ ji h1 150 (2 * lk.2.toNat + 1) = o.2 := ⟨by rw [F1.i (by omega)]; exact ro.1, by rw [F1.i (by omega)]; exact ro.2⟩
    refine c_143_86 (by omega) L1 ⟨fun _ => ⟨fun _ => ?_, fun z => absurd rfl z⟩, fun z => absurd rfl z⟩
    rw [w32_i (by omega) (by omega), show (2 * lk.2).toNat = 2 * lk.2.toNat by omega, r1.1]
    refine ⟨by omega, by omega, c_143_126 (by omega) L1 ⟨fun _ => ?_, fun z => absurd rfl z⟩⟩
    rw [w32_i (x := 2 * lk.2) (by omega) (by omega), w32_i (by omega) (by omega), show (2 * lk.2 + 1).toNat = 2 * lk.2.toNat + 1 by omega, r1.2]
    refine ⟨by omega, by omega, c_143_156 (by omega) L1 (c_143_159 (by omega) L1 (places (by omega) S1 K1 O a33 hb om (fun h' q hq L' F' h6 => ⟨rfl, L', F1.trans F', ?_⟩) (fun h' r hr L' F' K' => n143_211 (by omega) L' ((F'.i (by omega)).trans a33) hb (fun _ L2 => ?_) (fun z => absurd rfl z))))⟩
    · rw [eP, hq]; exact h6
    · have FE : Fq (ZE A) (wi h' 141 51 1) (emH (wi h' 141 51 1) A 5 lk.2 r.1 r.2.1) := emH_F
      have FW : Fq (fun a k => a = 141 ∧ k = 51) h' (wi h' 141 51 1) := Fq.wi (by omega)
      have pk := pPlaces_ok (tkG_all T) O hr
      rw [eP, hr]
      refine ⟨rfl, L2, ((F1.trans F'.toH).trans (FW.mono (fun a k z => by omega))).trans (FE.mono (fun a k z => by omega)), (K'.fq FW (fun k _ _ => by omega)).fq FE (fun k _ _ => by omega), by show i < r.2.2; omega, emH_33, ⟨rfl, emH_0, emH_1, emH_2, emH_3⟩, ?_, ?_⟩
      · show ji (emH (wi h' 141 51 1) A 5 lk.2 r.1 r.2.1) 141 51 = 1
        rw [emH_i (by omega) (by omega), ji_wi, if_pos ⟨rfl, rfl⟩]
      · show jl (emH (wi h' 141 51 1) A 5 lk.2 r.1 r.2.1) 141 52 = _
        rw [emH_l, jl_wi, F'.l (by omega)]; exact w52
  rw [if_neg q2] at eP
  rw [if_neg (show ¬ lk.1 = ((2 : Nat) : Int) from q2)]
  refine c_143_48 (by omega) L ⟨fun _ => ⟨fun _ => ⟨fun _ => ⟨fun _ L2 => c_143_71 (by omega) L2 ⟨rfl, L2, (f6 (h := h)).toH, ?_⟩, fun z => absurd k6 z⟩, fun z => absurd rfl z⟩, fun z => absurd rfl z⟩, fun z => absurd rfl z⟩
  rw [eP]; exact w6_r.trans K.2.2.1
end RNA
