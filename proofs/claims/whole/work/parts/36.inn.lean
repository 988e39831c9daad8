-- needs: 20.num 21.lay 22.spec 23.va 24.leaf 25.tbls 26.thg 27.tok 29.fr 30.tree 28.vb1 28.vb2 28.vb3 31.ctx 32.rd1 33.rd2 34.lvl 35.loop
/-! THE READER: sums inside, factors -/
def Tail50 (p : Lpar) (d : Nat) (T : Txt) (e : Nat) (v1 kp tm fl : Int) (hb : AH) (Q : Option AV → AH → Prop) : Prop := ∃ x61 h56, jE d 44 [jP 93, jI kp] (nw hb 3 7) (some (jI x61)) h56 ∧ Ly p h56 ∧ ∃ i59, TokR T e i59 h56 ∧ ∃ x67 h62, jE d 44 [jP 93, jI (w32 (kp + 1))] h56 (some (jI x67)) h62 ∧ Ly p h62 ∧ ∃ i65, TokR T e i65 h62 ∧ ∃ h68, jE d 11 [jP (jx hb), jI 4, jI kp, jI x61, jI x67] h62 none h68 ∧ Ly p h68 ∧ ∃ i71, TokR T e i71 h68 ∧ jt h68 (jx hb) = 3 ∧ ∃ x78 h73, jE d 53 [jP (pT p + 5), jI (ji h68 (jx hb) 2)] h68 (some (jI x78)) h73 ∧ Ly p h73 ∧ ∃ i76, TokR T e i76 h73 ∧ jt h73 (jx hb) = 3 ∧ ∃ x84 h79, jE d 53 [jP (pT p + 5), jI (ji h73 (jx hb) 3)] h73 (some (jI x84)) h79 ∧ Ly p h79 ∧ ∃ i82, TokR T e i82 h79 ∧ (Ly p (wl (wl h79 93 7 (w64 ((jl h68 93 7) * (w32 (x78 * x84))))) 93 7 (if 1000000000 < (w64 ((jl h68 93 7) * (w32 (x78 * x84)))) then 1000000000 else (w64 ((jl h68 93 7) * (w32 (x78 * x84)))))) → TokR T e i82 (wl (wl h79 93 7 (w64 ((jl h68 93 7) * (w32 (x78 * x84))))) 93 7 (if 1000000000 < (w64 ((jl h68 93 7) * (w32 (x78 * x84)))) then 1000000000 else (w64 ((jl h68 93 7) * (w32 (x78 * x84)))))) → ∃ p90 h85, jE d 46 [jP 93, jI (w32 (v1 + 1))] (wl (wl h79 93 7 (w64 ((jl h68 93 7) * (w32 (x78 * x84))))) 93 7 (if 1000000000 < (w64 ((jl h68 93 7) * (w32 (x78 * x84)))) then 1000000000 else (w64 ((jl h68 93 7) * (w32 (x78 * x84)))))) (some (jP p90)) h85 ∧ Ly p h85 ∧ ∃ i88, TokR T e i88 h85 ∧ jt h85 (jx hb) = 3 ∧ NF ≤ (jx hb) ∧ jt (wr h85 (jx hb) 4 p90) (jx hb) = 3 ∧ ¬ (jr (wr h85 (jx hb) 4 p90) (jx hb) 4) = 1 ∧ ((jr (wr h85 (jx hb) 4 p90) (jx hb) 4) = 0 → (Ly p (wr h85 (jx hb) 4 p90) → TokR T e i88 (wr h85 (jx hb) 4 p90) → Q (some (jP 0)) (wr h85 (jx hb) 4 p90))) ∧ (¬ (jr (wr h85 (jx hb) 4 p90) (jx hb) 4) = 0 → (tkK T i88 = 141 → jt (wi (wr h85 (jx hb) 4 p90) 37 4 ((i88 + 1 : Nat) : Int)) (jx hb) = 3 ∧ (Ly p (wi (wr h85 (jx hb) 4 p90) 37 4 ((i88 + 1 : Nat) : Int)) → TokR T e (i88 + 1) (wi (wr h85 (jx hb) 4 p90) 37 4 ((i88 + 1 : Nat) : Int)) → WF d 50 209 [jP 93, jI v1, jI kp, jL tm, jU, jI fl, jP (jx hb), jP (jr (wi (wr h85 (jx hb) 4 p90) 37 4 ((i88 + 1 : Nat) : Int)) (jx hb) 4)] [] (wi (wr h85 (jx hb) 4 p90) 37 4 ((i88 + 1 : Nat) : Int)) Q)) ∧ (¬ tkK T i88 = 141 → (Ly p (wi (wr h85 (jx hb) 4 p90) 37 5 (-10 - (tkP T i88 : Int))) → TokR T e i88 (wi (wr h85 (jx hb) 4 p90) 37 5 (-10 - (tkP T i88 : Int))) → Q (some (jP 0)) (wi (wr h85 (jx hb) 4 p90) 37 5 (-10 - (tkP T i88 : Int)))))))
/-- all is the same but the flag of a factor -/
def Ef (a6 : Nat) (h h' : AH) : Prop := (∀ a k, ¬ (a = a6 ∧ k = 5) → ji h' a k = ji h a k) ∧ (∀ a k, jl h' a k = jl h a k ∧ jr h' a k = jr h a k) ∧ (∀ a, jt h' a = jt h a ∧ jn h' a = jn h a) ∧ jx h' = jx h ∧ ju h' = ju h
section INN
variable {p : Lpar} {d n : Nat} {h h' h0 h1 h2 hb : AH} {C : Cx} {G : NmL} {sl : List Int} {T : Txt} {e i i0 j : Nat} {t w : Int}
theorem Ef.refl {a6 : Nat} : Ef a6 h h := ⟨fun _ _ _ => rfl, fun _ _ => ⟨rfl, rfl⟩, fun _ => ⟨rfl, rfl⟩, rfl, rfl⟩
theorem Ef.trans {a6 : Nat} (f : Ef a6 h h1) (g : Ef a6 h1 h2) : Ef a6 h h2 := ⟨fun a k z => (g.1 a k z).trans (f.1 a k z), fun a k => ⟨(g.2.1 a k).1.trans (f.2.1 a k).1, (g.2.1 a k).2.trans (f.2.1 a k).2⟩, fun a => ⟨(g.2.2.1 a).1.trans (f.2.2.1 a).1, (g.2.2.1 a).2.trans (f.2.2.1 a).2⟩, g.2.2.2.1.trans f.2.2.2.1, g.2.2.2.2.trans f.2.2.2.2⟩
theorem Ef.sw {a6 : Nat} {x : Int} : Ef a6 h (wi h a6 5 x) := ⟨fun a k z => by rw [ji_wi, if_neg z], fun _ _ => ⟨rfl, rfl⟩, fun _ => ⟨rfl, rfl⟩, rfl, rfl⟩
theorem Ef.tree {a6 : Nat} (f : Ef a6 h h') {x : Ex} {m lo hi a b : Nat} (hx : tR h x m lo hi a b) (hl : a6 < lo) : tR h' x m lo hi a b := tR_mono hx (Nat.le_refl _) (Nat.le_refl _) (fun c c1 c2 => ⟨(f.2.2.1 c).1, fun k => f.1 c k (by omega), fun k => (f.2.1 c k).2⟩)
theorem fl_run (hd : 9 ≤ d) {v1 v2 v3 v5 : Int} {a6 : Nat} (h6 : NF ≤ a6) {Q : Option AV → AH → Prop} : ∀ (x : Ex) (lo hi a b : Nat) (h : AH), tR h x 3 lo hi a b → a6 < lo → jt h a6 = 3 → Ly p h → TokR T e i h → (∀ h', Ef a6 h h' → ji h' a6 5 = (if ji h a6 5 = 0 ∧ hv x = false then 0 else if hv x = false then ji h' a6 5 else 1) → (hv x = false → ji h' a6 5 = 0 ∨ ¬ ji h a6 5 = 0) → Ly p h' → TokR T e i h' → WF d 50 209 [jP 93, jI v1, jI v2, jL v3, jU, jI v5, jP a6, jP b] [] h' Q) → WF d 50 209 [jP 93, jI v1, jI v2, jL v3, jU, jI v5, jP a6, jP a] [] h Q := by
  have hN : NF = 197 := rfl
  intro x
  induction x with
  | leaf => intro lo hi a b h hx; exact absurd hx.1 (by omega)
  | inner tt k u l r ihl ihr =>
    intro lo hi a b h hx hlo ht L K H
    unfold tR at hx
    by_cases c3 : tt ≤ 3
    · rw [if_pos c3] at hx; exact absurd hx.1 (by decide)
    rw [if_neg c3] at hx
    by_cases c4 : tt = 4
    · rw [if_pos c4] at hx; exact absurd hx.1 (by decide)
    rw [if_neg c4] at hx
    by_cases c5 : tt = 5
    · rw [if_pos c5] at hx; rcases hx with hx | hx <;> exact absurd hx.1 (by decide)
    rw [if_neg c5] at hx
    by_cases c6 : tt = 6
    · rw [if_pos c6] at hx
      have e6 : hv (.inner tt k u l r) = false := by subst c6; rfl
      rw [hx.2]
      refine H h Ef.refl ?_ (fun _ => ?_) L K
      · rw [e6]
        by_cases z : ji h a6 5 = 0
        · rw [if_pos ⟨z, rfl⟩]; exact z
        · rw [if_neg (fun q => z q.1), if_pos rfl]
      · by_cases z : ji h a6 5 = 0
        · exact Or.inl z
        · exact Or.inr z
    rw [if_neg c6] at hx
    obtain ⟨_, c, q1, q2, q3, q4, q5, q6, q7, q8⟩ := hx
    have ehv : hv (.inner tt k u l r) = (hv l || hv r) := by
      show (if tt = 3 then true else if tt ≤ 2 then false else if tt = 4 then hv l else if tt = 6 then false else hv l || hv r) = _
      rw [if_neg (by omega), if_neg (by omega), if_neg c4, if_neg c6]
    refine ihl lo c a c h q1 hlo ht L K (fun h' f e1 e1' L' K' => ?_)
    have jc : jt h' c = 6 := by rw [(f.2.2.1 c).1]; exact q4
    have ja : jt h' a6 = 3 := by rw [(f.2.2.1 a6).1]; exact ht
    have j2 : jr h' c 2 = jr h c 2 := (f.2.1 c 2).2
    have j3 : jr h' c 3 = b := by rw [(f.2.1 c 3).2]; exact q8
    have hh := tR_hold q7 (by omega)
    have st : ∀ x : Int, Ly p (wi h' a6 5 x) → TokR T e i (wi h' a6 5 x) → (x = (if ji h a6 5 = 0 ∧ hv (.inner tt k u l r) = false then 0 else if hv (.inner tt k u l r) = false then x else 1)) → (hv (.inner tt k u l r) = false → x = 0 ∨ ¬ ji h a6 5 = 0) → WF d 50 209 [jP 93, jI v1, jI v2, jL v3, jU, jI v5, jP a6, jP (jr (wi h' a6 5 x) c 3)] [] (wi h' a6 5 x) Q := by
      intro x L1 K1 ex ex2
      rw [jr_wi, j3]
      refine H _ (f.trans Ef.sw) ?_ ?_ L1 K1
      · rw [ji_wi, if_pos ⟨rfl, rfl⟩]; exact ex
      · rw [ji_wi, if_pos ⟨rfl, rfl⟩]; exact ex2
    refine c_50_209 hd L' K' ⟨by omega, fun z => by omega, fun _ => ⟨ja, fun z => ⟨jc, ?_, fun z2 => ⟨ja, h6, jc, fun L1 K1 => ?_⟩, fun z2 => ⟨ja, h6, jc, fun L1 K1 => ?_⟩⟩, fun z => ⟨ja, h6, jc, fun L1 K1 => ?_⟩⟩⟩
    · rw [j2]; intro z2; have := hh.2 (by omega); omega
    · rw [j2] at z2
      have hr := hh.1.mpr z2
      refine st 0 L1 K1 ?_ (fun _ => Or.inl rfl)
      rw [ehv, hr]
      cases hl : hv l with
      | false => simp
      | true => rw [hl] at e1; simp at e1; omega
    · rw [j2] at z2
      have hr : hv r = true := by
        cases hr : hv r with
        | true => rfl
        | false => exact absurd (hh.1.mp hr) z2
      refine st 1 L1 K1 ?_ (fun z => ?_)
      · rw [ehv, hr]; simp
      · rw [ehv, hr] at z; simp at z
    · refine st 1 L1 K1 ?_ (fun z2 => ?_)
      · by_cases cc : ji h a6 5 = 0 ∧ hv (.inner tt k u l r) = false
        · exfalso
          rw [ehv, Bool.or_eq_false_iff] at cc
          rw [if_pos ⟨cc.1, cc.2.1⟩] at e1
          exact z e1
        · rw [if_neg cc]; split <;> rfl
      · rw [ehv, Bool.or_eq_false_iff] at z2
        rcases e1' z2.1 with q | q
        · exact absurd q z
        · exact Or.inr q
theorem slO_nat (l : List Int) (k : Nat) : slO l (k : Int) = l.getD k (-1) := by
  unfold slO
  by_cases c : l.length ≤ k
  · rw [if_pos (by omega), List.getD_eq_getElem?_getD, List.getElem?_eq_none c]; rfl
  · rw [if_neg (by omega)]; rfl
theorem DS.off {h : AH} (f : DS p h0 h) (L0 : Ly p h0) (hs : ∀ a, a < jx h0 → sameC h h' a ∧ jt h' a = jt h a ∧ jn h' a = jn h a) (hx : jx h ≤ jx h') (hu : ju h' + 7 * jx h ≤ ju h + 7 * jx h') : DS p h0 h' := by
  have hT := L0.iT'
  have hxx := L0.nx
  have hN : NF = 197 := rfl
  refine ⟨⟨fun a ha hz k => ?_, fun a ha => ?_, by have := f.1.2.2.1; omega, by have := f.1.2.2.2; omega⟩, fun k => ?_⟩
  · have z := f.1.1 a ha hz k
    have y := (hs a ha).1 k
    exact ⟨y.1.trans z.1, y.2.1.trans z.2.1, y.2.2.trans z.2.2⟩
  · have z := f.1.2.1 a ha
    have y := (hs a ha).2
    exact ⟨y.1.trans z.1, y.2.trans z.2⟩
  · have y := (hs (pT p) (by omega)).1 k
    exact ⟨y.1.trans (f.2 k).1, y.2.2.trans (f.2 k).2⟩
theorem FcH_D (L : Ly p h) {k w o q : Int} : DS p h (FcH h k w o q) := by
  have f := FcH_F (Z := fun _ => False) (h := h) (k := k) (w := w) (o := o) (q := q)
  exact DS.new L f.2.2.1 f.2.2.2 (fun a ha => ⟨fun j => f.1 a ha (fun z => z) j, f.2.1 a ha⟩)
theorem fc_bad {q : Nat} {R : Er (Ex × Nat)} (hR : R = .error q) (L : Ly p h) (K : TokR T e i h) (f : DS p h0 h) (hi : i0 ≤ i) (hj : jx h ≤ jx h0 + 2 * (i - i0) + 1) (hq : ji h 37 5 = -10 - (q : Int)) : FcP p C G sl T e i0 h0 t w R (some (jP 0)) h := by
  rw [hR]; exact ⟨0, rfl, L, f, i, K, hi, hj, rfl, hq⟩
theorem tl_50 (hn : n ≤ 7) (S : SumS p T e C n) (hd : 16 + 3 * n ≤ d) {g : NmL} {s : List Int} (hgs : g.length = s.length) (hsl : (sl ++ s).length + 2 * n ≤ 18) (O : okX C (G ++ g) (sl ++ s)) (H : SmH p C (G ++ g) (sl ++ s) T e j hb t (w + t)) (f0 : DS p h0 hb) (hx0 : jx hb = jx h0) (hj : i0 < j) (L0 : Ly p h0) (hw0 : 0 ≤ w) {fl : Int} : Tail50 p d T e (7 - (n : Int)) (sl.length : Int) t fl hb (FcP p C G sl T e i0 h0 t w (xb (pSum T C n (G ++ g) (sl ++ s) j) fun q => xb (pTake T 141 q.2) fun j => .ok (xInn sl.length ((sl ++ s).getD sl.length (-1)) ((sl ++ s).getD (sl.length + 1) (-1)) q.1, j))) := by
  unfold Tail50
  obtain ⟨L, K, X, g1, g2, g3, g4, g5, g6⟩ := H
  have hx := L0.nx
  have hN : NF = 197 := rfl
  have hT := L.iT'
  have hl : sl.length ≤ 18 := by have := O.2.2.2.2.2.2.1; rw [List.length_append] at this; omega
  generalize ho : (sl ++ s).getD sl.length (-1) = o
  generalize hq : (sl ++ s).getD (sl.length + 1) (-1) = q2
  have Ln : Ly p (nw hb 3 7) := L.nw
  have Kn : TokR T e j (nw hb 3 7) := K.snw L
  have sn : SlR (nw hb 3 7) (sl ++ s) := ⟨by rw [ji_nw, if_neg (by omega)]; exact X.2.2.2.2.1, fun k hk => by rw [ji_nw, if_neg (by omega)]; exact X.2.2.2.2.2 k hk⟩
  have a1 : jE d 44 [jP 93, jI (sl.length : Int)] (nw hb 3 7) (some (jI o)) (nw hb 3 7) := by
    have := m_44 (d := d) (by omega) Ln Kn sn O.2.2.2.2.2.2.1 (s := (sl.length : Int))
    rw [slO_nat, ho] at this; exact this
  have a2 : jE d 44 [jP 93, jI (w32 ((sl.length : Int) + 1))] (nw hb 3 7) (some (jI q2)) (nw hb 3 7) := by
    have := m_44 (d := d) (by omega) Ln Kn sn O.2.2.2.2.2.2.1 (s := ((sl.length + 1 : Nat) : Int))
    rw [slO_nat, hq] at this
    rw [w32_i (by omega) (by omega)]; exact this
  have LF := FcH_L L (k := 4) (w := (sl.length : Int)) (o := o) (q := q2)
  have KF := FcH_K L K (k := 4) (w := (sl.length : Int)) (o := o) (q := q2)
  have fF := FcH_f (h := hb) (k := 4) (w := (sl.length : Int)) (o := o) (q := q2)
  have DF := FcH_D L (k := 4) (w := (sl.length : Int)) (o := o) (q := q2)
  have FF := FcH_F (Z := fun _ => False) (h := hb) (k := 4) (w := (sl.length : Int)) (o := o) (q := q2)
  have xF := FcH_x hb 4 (sl.length : Int) o q2
  have aF := FcH_ok (d := d) (by omega) L (k := 4) (w := (sl.length : Int)) (o := o) (q := q2)
  generalize FcH hb 4 (sl.length : Int) o q2 = hF at LF KF fF DF FF xF aF
  have iF : ∀ a k, a < jx hb → ji hF a k = ji hb a k := fun a k ha => FF.ji ha (fun z => z) k
  have lF : ∀ a k, a < jx hb → jl hF a k = jl hb a k := fun a k ha => FF.jl ha (fun z => z) k
  have XF : SmX (pT p) C (G ++ g) (sl ++ s) hF := X.cg (fun a k _ => iF a k (by omega))
  have a3 : jE d 53 [jP (pT p + 5), jI (ji hF (jx hb) 2)] hF (some (jI (szO C.1 o))) hF := by rw [fF.2.2.2.1]; exact m_53 (by omega) LF LF.iT XF.2.1 O.2.1
  have a4 : jE d 53 [jP (pT p + 5), jI (ji hF (jx hb) 3)] hF (some (jI (szO C.1 q2))) hF := by rw [fF.2.2.2.2.1]; exact m_53 (by omega) LF LF.iT XF.2.1 O.2.1
  refine ⟨_, _, a1, Ln, _, Kn, _, _, a2, Ln, _, Kn, _, aF, LF, _, KF, fF.1, _, _, a3, LF, _, KF, fF.1, _, _, a4, LF, _, KF, ?_⟩
  have sz := sz2_r O.2.1 o q2
  have tb : t * (szO C.1 o * szO C.1 q2) ≤ 1000000000 * 64 := Int.mul_le_mul g4 sz.2 sz.1 (by decide)
  have tb0 : 0 ≤ t * (szO C.1 o * szO C.1 q2) := Int.mul_nonneg g3 sz.1
  rw [lF 93 7 (by omega), g1, w32_i (x := szO C.1 o * szO C.1 q2) (by omega) (by omega), w64_id (x := t * (szO C.1 o * szO C.1 q2)) (by unfold r64; omega)]
  intro L1 K1
  have Hs : SmH p C (G ++ g) (sl ++ s) T e j (wl (wl hF 93 7 (t * (szO C.1 o * szO C.1 q2))) 93 7 (if 1000000000 < t * (szO C.1 o * szO C.1 q2) then 1000000000 else t * (szO C.1 o * szO C.1 q2))) (mnT (t * (szO C.1 o * szO C.1 q2))) (w + t) := by
    refine ⟨L1, K1, XF.cg (fun _ _ _ => rfl), by rw [jl_wl, if_pos ⟨rfl, rfl⟩]; rfl, ?_, by unfold mnT; split <;> omega, by unfold mnT; split <;> omega, g5, g6⟩
    rw [jl_wl, if_neg (by omega), jl_wl, if_neg (by omega), lF _ _ (by omega)]; exact g2
  have Ds : DS p hF (wl (wl hF 93 7 (t * (szO C.1 o * szO C.1 q2))) 93 7 (if 1000000000 < t * (szO C.1 o * szO C.1 q2) then 1000000000 else t * (szO C.1 o * szO C.1 q2))) := (DS.wl93 LF).trans (DS.wl93 LF.wl)
  have xs : jx (wl (wl hF 93 7 (t * (szO C.1 o * szO C.1 q2))) 93 7 (if 1000000000 < t * (szO C.1 o * szO C.1 q2) then 1000000000 else t * (szO C.1 o * szO C.1 q2))) = jx hb + 1 := xF
  have ts : jt (wl (wl hF 93 7 (t * (szO C.1 o * szO C.1 q2))) 93 7 (if 1000000000 < t * (szO C.1 o * szO C.1 q2) then 1000000000 else t * (szO C.1 o * szO C.1 q2))) (jx hb) = 3 ∧ (∀ k, ji (wl (wl hF 93 7 (t * (szO C.1 o * szO C.1 q2))) 93 7 (if 1000000000 < t * (szO C.1 o * szO C.1 q2) then 1000000000 else t * (szO C.1 o * szO C.1 q2))) (jx hb) k = ji hF (jx hb) k) := ⟨fF.1, fun _ => rfl⟩
  generalize wl (wl hF 93 7 (t * (szO C.1 o * szO C.1 q2))) 93 7 (if 1000000000 < t * (szO C.1 o * szO C.1 q2) then 1000000000 else t * (szO C.1 o * szO C.1 q2)) = hs at Hs Ds xs ts L1 K1 ⊢
  obtain ⟨u, h5, hE, v, rfl, L5, D5, i5, K5, hi5, hb5, R⟩ := S d _ _ j hs _ _ hd Hs O hsl
  have e8 : w32 (7 - (n : Int) + 1) = 8 - (n : Int) := by rw [w32_i (by omega) (by omega)]; omega
  have oA := D5.old L1 (c := jx hb) (by omega) (by omega)
  have tA : jt h5 (jx hb) = 3 := oA.1.trans ts.1
  have x5 := D5.1.2.2.1
  have D05 : DS p h0 h5 := ((f0.trans DF).trans Ds).trans D5
  rw [e8]
  refine ⟨v, h5, hE, L5, i5, K5, tA, by omega, tA, ?_⟩
  rw [jr_wr, if_pos ⟨rfl, rfl⟩]
  have D06 : DS p h0 (wr h5 (jx hb) 4 v) := D05.off L0 (fun a ha => ⟨fun k => ⟨rfl, rfl, by rw [jr_wr, if_neg (by omega)]⟩, rfl, rfl⟩) (Nat.le_refl _) (Nat.le_refl _)
  generalize pSum T C n (G ++ g) (sl ++ s) j = B at R ⊢
  cases B with
  | error q =>
    obtain ⟨r1, r2⟩ := R
    subst r1
    exact ⟨by decide, fun _ L6 K6 => fc_bad rfl L6 K6 D06 (by omega) (by show jx h5 ≤ _; omega) r2, fun z => absurd rfl z⟩
  | ok r =>
    obtain ⟨r1, r2, r3, r4, r5, r6⟩ := R
    refine ⟨by omega, fun z => by omega, fun _ => ⟨fun c => ⟨tA, fun L6 K6 => ?_⟩, fun c L6 K6 => ?_⟩⟩
    · have eR : (xb (.ok r : Er (Ex × Nat)) fun q => xb (pTake T 141 q.2) fun j => .ok (xInn sl.length o q2 q.1, j)) = .ok (xInn sl.length o q2 r.1, i5 + 1) := by
        show xb (pTake T 141 r.2) _ = _
        rw [← r1, take_y c]; rfl
      rw [eR]
      have D07 : DS p h0 (wi (wr h5 (jx hb) 4 v) 37 4 ((i5 + 1 : Nat) : Int)) := D06.trans (DS.w37 (L5.wr (by unfold mutR; omega)))
      have e7 : jr (wi (wr h5 (jx hb) 4 v) 37 4 ((i5 + 1 : Nat) : Int)) (jx hb) 4 = v := by rw [jr_wi, jr_wr, if_pos ⟨rfl, rfl⟩]
      have i7 : ∀ a k, ¬ a = 37 → ji (wi (wr h5 (jx hb) 4 v) 37 4 ((i5 + 1 : Nat) : Int)) a k = ji h5 a k := fun a k ha => by rw [ji_wi, if_neg (by omega)]; rfl
      have l7 : ∀ a k, jl (wi (wr h5 (jx hb) 4 v) 37 4 ((i5 + 1 : Nat) : Int)) a k = jl h5 a k := fun _ _ => rfl
      have t7 : tR (wi (wr h5 (jx hb) 4 v) 37 4 ((i5 + 1 : Nat) : Int)) r.1 3 (jx hb + 1) (jx h5) v 0 := by
        rw [xs] at r5
        exact tR_mono r5 (Nat.le_refl _) (Nat.le_refl _) (fun c c1 c2 => ⟨rfl, fun k => i7 c k (by omega), fun k => by rw [jr_wi, jr_wr, if_neg (by omega)]⟩)
      have x7 : jx (wi (wr h5 (jx hb) 4 v) 37 4 ((i5 + 1 : Nat) : Int)) = jx h5 := rfl
      have tA7 : jt (wi (wr h5 (jx hb) 4 v) 37 4 ((i5 + 1 : Nat) : Int)) (jx hb) = 3 := tA
      rw [e7]
      generalize wi (wr h5 (jx hb) 4 v) 37 4 ((i5 + 1 : Nat) : Int) = h7 at D07 e7 i7 l7 t7 x7 tA7 L6 K6 ⊢
      have f7 : ji h7 (jx hb) 5 = 0 := by rw [i7 _ _ (by omega), oA.2.1, ts.2, fF.2.2.2.2.2]; rfl
      refine fl_run (by omega) (by omega) r.1 _ _ v 0 h7 t7 (by omega) tA7 L6 K6 (fun h8 E8 e8 _ L8 K8 => ?_)
      refine c_50_209 (by omega) L8 K8 ⟨by decide, fun _ L9 K9 => ?_, fun z => absurd rfl z⟩
      have i8 : ∀ a k, ¬ a = 37 → ¬ a = jx hb → ji h8 a k = ji h5 a k := fun a k z1 z2 => (E8.1 a k (by omega)).trans (i7 a k z1)
      have X9 : SmX (pT p) C (G ++ g) (sl ++ s) (wl h8 93 7 t) := r6.2.2.1.cg (fun a k z => i8 a k (by omega) (by omega))
      obtain ⟨h9, hE9, L10, E9, K10, X10⟩ := m_45 (d := d) (by omega) L9 K9 X9 O hgs
      refine ⟨h9, hE9, L10, _, K10, ?_⟩
      have D08 : DS p h0 (wl h8 93 7 t) := (D07.off L0 (fun a ha => ⟨fun k => ⟨E8.1 a k (by omega), (E8.2.1 a k).1, (E8.2.1 a k).2⟩, (E8.2.2.1 a).1, (E8.2.2.1 a).2⟩) (by rw [E8.2.2.2.1]; omega) (by rw [E8.2.2.2.1, E8.2.2.2.2]; omega)).trans (DS.wl93 L8)
      have D9 : DS p (wl h8 93 7 t) h9 := DS.of43 L9 E9
      have x8 : jx (wl h8 93 7 t) = jx h5 := E8.2.2.2.1.trans x7
      have x9 : jx h9 = jx h5 := E9.2.1.trans x8
      have oA9 := D9.old L9 (c := jx hb) (by omega) (by omega)
      have jA : ∀ k, ¬ k = 5 → ji h9 (jx hb) k = ji hF (jx hb) k := fun k hk => by
        rw [oA9.2.1 k]
        show ji h8 (jx hb) k = _
        rw [E8.1 _ _ (by omega), i7 _ _ (by omega), oA.2.1, ts.2]
      have jA5 : ji h9 (jx hb) 5 = if hv r.1 = true then 1 else 0 := by
        rw [oA9.2.1 5]
        show ji h8 (jx hb) 5 = _
        rw [e8, f7]
        cases c : hv r.1 <;> simp
      have jAr : jr h9 (jx hb) 4 = v := by rw [oA9.2.2 4]; show jr h8 (jx hb) 4 = v; rw [(E8.2.1 _ _).2]; exact e7
      have t9 : tR h9 r.1 3 (jx hb + 1) (jx h9) v 0 := by
        rw [x9]
        exact D9.tree L9 (tR_mono (E8.tree t7 (by omega)) (Nat.le_refl _) (Nat.le_refl _) (fun _ _ _ => ⟨rfl, fun _ => rfl, fun _ => rfl⟩)) (by omega) (by omega)
      have lt : jl h9 93 7 = t := by rw [E9.2.2, jl_wl, if_pos ⟨rfl, rfl⟩]
      have lw : jl h9 (pT p) 14 = w + wkc C.1 (xInn sl.length o q2 r.1) t := by
        rw [E9.1.jl (by omega) (by omega) 14, jl_wl, if_neg (by omega), (E8.2.1 _ _).1, l7, r6.2.2.2.2.1]
        show _ = w + (t + wkc C.1 r.1 (mnT (t * (szO C.1 o * szO C.1 q2))))
        omega
      have wb : 0 ≤ w + wkc C.1 (xInn sl.length o q2 r.1) t ∧ w + wkc C.1 (xInn sl.length o q2 r.1) t ≤ 1000000000 * ((i5 + 1 : Nat) : Int) := by
        have z1 := r6.2.2.2.2.2.2.2.1
        have z2 := r6.2.2.2.2.2.2.2.2
        have z3 : w + wkc C.1 (xInn sl.length o q2 r.1) t = w + t + wkc C.1 r.1 (mnT (t * (szO C.1 o * szO C.1 q2))) := by
          show w + (t + wkc C.1 r.1 (mnT (t * (szO C.1 o * szO C.1 q2)))) = _
          omega
        rw [z3]
        omega
      refine ⟨jx hb, rfl, L10, D08.trans D9, i5 + 1, K10, by omega, by omega, rfl, by omega, by omega, ?_, L10, K10, X10, lt, lw, g3, g4, wb.1, wb.2⟩
      refine ⟨rfl, by omega, by omega, oA9.1.trans ((E8.2.2.1 _).1.trans tA7), (jA 0 (by decide)).trans fF.2.1, (jA 1 (by decide)).trans fF.2.2.1, (jA 2 (by decide)).trans fF.2.2.2.1, (jA 3 (by decide)).trans fF.2.2.2.2.1, jA5, ?_⟩
      rw [jAr]; exact t9
    · refine fc_bad (q := tkP T i5) ?_ L6 K6 (D06.trans (DS.w37 (L5.wr (by unfold mutR; omega)))) (by omega) (by show jx h5 ≤ _; omega) flt_r
      show xb (pTake T 141 r.2) _ = _
      rw [← r1, take_n c]; rfl
end INN
