-- needs: 20.num 21.lay 22.spec 23.va 24.leaf 25.tbls 26.thg 27.tok 29.fr 30.tree 28.vb1 28.vb2 28.vb3 31.ctx 32.rd1 33.rd2 34.lvl
/-! THE READER: the loop over the factors of a sum -/
section LOOP
variable {p : Lpar} {d n : Nat} {h h' h0 h1 h2 : AH} {C : Cx} {G : NmL} {sl : List Int} {T : Txt} {e i i0 : Nat} {t w : Int}
theorem lp_put {s q f : Ex} {neg : Bool} {a2 a3 v j : Nat} {h7 : AH} (J : LpI p C G sl T e i0 h0 t w i h s neg q a2 a3) (L0 : Ly p h0) (hD : DS p h h1) (hi : i < j) (hj : jx h1 + 1 ≤ jx h + 2 * (j - i)) (hS : SmH p C G sl T e j h1 t (w + wkc C.1 s t + wkc C.1 q t + wkc C.1 f t)) (hv : jx h ≤ v) (L7 : Ly p h7) (ei : ∀ a k, ji h7 a k = ji h1 a k) (el : ∀ a k, jl h7 a k = jl h1 a k) (et : ∀ a, jt h7 a = jt h1 a ∧ jn h7 a = jn h1 a) (ex : jx h7 = jx h1) (eu : ju h7 = ju h1) (er : ∀ a k, ¬ (a = v ∧ k = 6) → ¬ (a = a3 ∧ (k = 1 ∨ k = 2)) → jr h7 a k = jr h1 a k) (m1 : tR h7 (xMul q f) 1 (a3 + 1) (jx h1) (jr h7 a3 1) 0) (m2 : tR h7 (xMul q f) 2 (a3 + 1) (jx h1) (jr h7 a3 2) 0) : LpJ p C G sl T e i0 h0 t w j h7 s neg (xMul q f) a2 a3 := by
  obtain ⟨j1, j2, j3, j4, j5, j6, j7, j8, j9, j10, j11, j12, j13⟩ := J
  obtain ⟨L, K, X, g1, g2, g3, g4, g5, g6⟩ := hS
  have hx := L0.nx
  have hN : NF = 197 := rfl
  have hTT := L.iT'
  have fx := hD.1.2.2.1
  have o3 := hD.old j1.1 (c := a3) (by omega) j7
  have ww : w + wkc C.1 s t + wkc C.1 (xMul q f) t = w + wkc C.1 s t + wkc C.1 q t + wkc C.1 f t := by rw [wkc_mul]; omega
  have f7 : DS p h0 h7 := by
    have z := j2.trans hD
    refine ⟨⟨fun a ha hz k => ?_, fun a ha => ?_, by rw [ex]; exact z.1.2.2.1, by rw [ex, eu]; exact z.1.2.2.2⟩, fun k => ⟨by rw [ei]; exact (z.2 k).1, by rw [er _ _ (by omega) (by omega)]; exact (z.2 k).2⟩⟩
    · have y := z.1.1 a ha hz k
      exact ⟨(ei a k).trans y.1, (el a k).trans y.2.1, (er a k (by omega) (by omega)).trans y.2.2⟩
    · exact ⟨(et a).1.trans (z.1.2.1 a ha).1, (et a).2.trans (z.1.2.1 a ha).2⟩
  refine ⟨⟨⟨L7, K.cg (fun a k _ _ => ei a k), X.cg (fun a k _ => ei a k), by rw [el]; exact g1, by rw [ww, el]; exact g2, g3, g4, by rw [ww]; exact g5, by rw [ww]; exact g6⟩, f7, by omega, by rw [ex]; omega, ?_, j6, by rw [ex]; omega, by rw [(et a3).1, o3.1]; exact j8, by rw [ei, o3.2.1]; exact j9, by rw [ex]; exact m1, by rw [ex]; exact m2, by rw [er a3 3 (by omega) (by omega), o3.2.2]; exact j12, j13⟩, by omega, by rw [ex]; omega⟩
  refine tR_mono j5 (Nat.le_refl _) (Nat.le_refl _) (fun c c1 c2 => ?_)
  have oc := hD.old j1.1 (c := c) (by omega) (by omega)
  exact ⟨(et c).1.trans oc.1, fun k => (ei c k).trans (oc.2.1 k), fun k => (er c k (by omega) (by omega)).trans (oc.2.2 k)⟩
theorem lp_n {s q f : Ex} {neg : Bool} {a2 a3 v j : Nat} (J : LpI p C G sl T e i0 h0 t w i h s neg q a2 a3) (L0 : Ly p h0) (hD : DS p h h1) (hi : i < j) (hj : jx h1 + 1 ≤ jx h + 2 * (j - i)) (hS : SmH p C G sl T e j h1 t (w + wkc C.1 s t + wkc C.1 q t + wkc C.1 f t)) (hf : tR h1 f 0 (jx h) (jx h1) v 0) (hvf : hv f = false) : LpJ p C G sl T e i0 h0 t w j (wr (wr h1 v 6 (jr h1 a3 1)) a3 1 v) s neg (xMul q f) a2 a3 := by
  have L := hS.1
  have hx := L0.nx
  have fx := hD.1.2.2.1
  have cc := tR_cell hf
  have j6 := J.2.2.2.2.2.1
  have j7 := J.2.2.2.2.2.2.1
  have o3 := hD.old J.1.1 (c := a3) (by omega) j7
  have er : ∀ a k, ¬ (a = v ∧ k = 6) → ¬ (a = a3 ∧ (k = 1 ∨ k = 2)) → jr (wr (wr h1 v 6 (jr h1 a3 1)) a3 1 v) a k = jr h1 a k := fun a k z1 z2 => by rw [jr_wr, if_neg (by omega), jr_wr, if_neg (by omega)]
  have L7 : Ly p (wr (wr h1 v 6 (jr h1 a3 1)) a3 1 v) := (L.wr (by unfold mutR; omega)).wr (by unfold mutR; omega)
  have tq : ∀ {m a : Nat}, tR h q m (a3 + 1) (jx h) a 0 → tR (wr (wr h1 v 6 (jr h1 a3 1)) a3 1 v) q m (a3 + 1) (jx h1) a 0 := fun {m a} hq => tR_mono hq (Nat.le_refl _) (by omega) (fun c c1 c2 => by
    have oc := hD.old J.1.1 (c := c) (by omega) (by omega)
    exact ⟨oc.1, oc.2.1, fun k => (er c k (by omega) (by omega)).trans (oc.2.2 k)⟩)
  refine lp_put J L0 hD hi hj hS cc.1 L7 (fun _ _ => rfl) (fun _ _ => rfl) (fun _ => ⟨rfl, rfl⟩) rfl rfl er ?_ ?_
  · rw [jr_wr, if_pos ⟨rfl, rfl⟩]
    refine tR_mul1n hvf ?_ ?_
    · exact tR_mono (tR_fac_next hf (n := jr h1 a3 1)) (by omega) (Nat.le_refl _) (fun c c1 c2 => ⟨rfl, fun _ => rfl, fun k => by rw [jr_wr, if_neg (by omega)]⟩)
    · rw [jr_wr, if_neg (by omega), jr_wr, if_pos ⟨rfl, rfl⟩]
      have := tq J.2.2.2.2.2.2.2.2.2.1
      rw [← o3.2.2 1] at this
      exact this
  · rw [jr_wr, if_neg (by omega), jr_wr, if_neg (by omega)]
    have := tq J.2.2.2.2.2.2.2.2.2.2.1
    rw [← o3.2.2 2] at this
    exact tR_mul2n hvf this
theorem lp_y {s q f : Ex} {neg : Bool} {a2 a3 v j : Nat} (J : LpI p C G sl T e i0 h0 t w i h s neg q a2 a3) (L0 : Ly p h0) (hD : DS p h h1) (hi : i < j) (hj : jx h1 + 1 ≤ jx h + 2 * (j - i)) (hS : SmH p C G sl T e j h1 t (w + wkc C.1 s t + wkc C.1 q t + wkc C.1 f t)) (hf : tR h1 f 0 (jx h) (jx h1) v 0) (hvf : hv f = true) : LpJ p C G sl T e i0 h0 t w j (wr h1 a3 2 v) s neg (xMul q f) a2 a3 := by
  have L := hS.1
  have hx := L0.nx
  have fx := hD.1.2.2.1
  have cc := tR_cell hf
  have j6 := J.2.2.2.2.2.1
  have j7 := J.2.2.2.2.2.2.1
  have o3 := hD.old J.1.1 (c := a3) (by omega) j7
  have er : ∀ a k, ¬ (a = v ∧ k = 6) → ¬ (a = a3 ∧ (k = 1 ∨ k = 2)) → jr (wr h1 a3 2 v) a k = jr h1 a k := fun a k z1 z2 => by rw [jr_wr, if_neg (by omega)]
  have L7 : Ly p (wr h1 a3 2 v) := L.wr (by unfold mutR; omega)
  refine lp_put J L0 hD hi hj hS cc.1 L7 (fun _ _ => rfl) (fun _ _ => rfl) (fun _ => ⟨rfl, rfl⟩) rfl rfl er ?_ ?_
  · rw [jr_wr, if_neg (by omega), o3.2.2]
    refine tR_mul1y hvf (tR_mono J.2.2.2.2.2.2.2.2.2.1 (Nat.le_refl _) (by omega) (fun c c1 c2 => ?_))
    have oc := hD.old J.1.1 (c := c) (by omega) (by omega)
    exact ⟨oc.1, oc.2.1, fun k => (er c k (by omega) (by omega)).trans (oc.2.2 k)⟩
  · rw [jr_wr, if_pos ⟨rfl, rfl⟩]
    exact tR_mul2y hvf (tR_mono hf (by omega) (Nat.le_refl _) (fun c c1 c2 => ⟨rfl, fun _ => rfl, fun k => by rw [jr_wr, if_neg (by omega)]⟩))
theorem lp_end {s q : Ex} {neg : Bool} {a2 a3 : Nat} (J : LpJ p C G sl T e i0 h0 t w i h s neg q a2 a3) : SuP p C G sl T e i0 h0 t w (.ok (xPart neg s q, i)) (some (jP a2)) h := by
  obtain ⟨⟨j1, j2, j3, j4, j5, j6, j7, j8, j9, j10, j11, j12, j13⟩, k1, k2⟩ := J
  refine ⟨a2, rfl, j1.1, j2, i, j1.2.1, by omega, by omega, rfl, k1, k2, j13, ?_, ?_⟩
  · exact tR_part j5 j6 j7 j8 j9 j10 j11 j12
  · rw [wkc_part, ← Int.add_assoc]; exact j1
theorem lp_bad {q : Nat} (L : Ly p h) (K : TokR T e i h) (f : DS p h0 h) (hi : i0 ≤ i) (hj : jx h ≤ jx h0 + 2 * (i - i0) + 2) (hq : ji h 37 5 = -10 - (q : Int)) : SuP p C G sl T e i0 h0 t w (.error q) (some (jP 0)) h := ⟨0, rfl, L, f, i, K, hi, hj, rfl, hq⟩
/-- what comes behind a factor -/
theorem lp_cont (hd : 15 ≤ d) (L0 : Ly p h0) {s q : Ex} {neg : Bool} {a2 a3 m pl : Nat} {v1 v4 : Int} {h7 : AH} {i7 p6 : Nat} (fac : Nat → Er (Ex × Nat)) (J : LpJ p C G sl T e i0 h0 t w i7 h7 s neg q a2 a3)
    (IH : ∀ (i : Nat) (h : AH) (s : Ex) (neg : Bool) (q : Ex) (a3 : Nat) (z5 z6 z7 : AV), LpI p C G sl T e i0 h0 t w i h s neg q a2 a3 → WF d 46 44 [jP 93, jI v1, jP a2, jP a3, jI (w32 (v4 + 1)), z5, z6, z7] [] h (SuP p C G sl T e i0 h0 t w (loopW T fac m s neg q i))) :
    (tkK T i7 = 142 → (Ly p (wi h7 37 4 ((i7 + 1 : Nat) : Int)) → TokR T e (i7 + 1) (wi h7 37 4 ((i7 + 1 : Nat) : Int)) → WF d 46 44 [jP 93, jI v1, jP a2, jP a3, jI (w32 (v4 + 1)), jI (pl : Int), jP p6, jI (ck (tkK T i7))] [] (wi h7 37 4 ((i7 + 1 : Nat) : Int)) (SuP p C G sl T e i0 h0 t w (if tkK T i7 = 142 then loopW T fac m s neg q (i7 + 1) else if tkK T i7 = 143 then loopW T fac m (xPart neg s q) false xOne (i7 + 1) else if tkK T i7 = 145 then loopW T fac m (xPart neg s q) true xOne (i7 + 1) else .ok (xPart neg s q, i7))))) ∧ (¬ tkK T i7 = 142 → (tkK T i7 = 143 → (Ly p (nw (wi h7 37 4 ((i7 + 1 : Nat) : Int)) 6 4) → TokR T e (i7 + 1) (nw (wi h7 37 4 ((i7 + 1 : Nat) : Int)) 6 4) → ∃ h17, jE d 29 [jP (jx (wi h7 37 4 ((i7 + 1 : Nat) : Int))), jI 0] (nw (wi h7 37 4 ((i7 + 1 : Nat) : Int)) 6 4) none h17 ∧ Ly p h17 ∧ ∃ i20, TokR T e i20 h17 ∧ jt h17 a3 = 6 ∧ NF ≤ a3 ∧ jt (wr h17 a3 3 (jx (wi h7 37 4 ((i7 + 1 : Nat) : Int)))) a3 = 6 ∧ (Ly p (wr h17 a3 3 (jx (wi h7 37 4 ((i7 + 1 : Nat) : Int)))) → TokR T e i20 (wr h17 a3 3 (jx (wi h7 37 4 ((i7 + 1 : Nat) : Int)))) → WF d 46 44 [jP 93, jI v1, jP a2, jP (jr (wr h17 a3 3 (jx (wi h7 37 4 ((i7 + 1 : Nat) : Int)))) a3 3), jI (w32 (v4 + 1)), jI (pl : Int), jP p6, jI (ck (tkK T i7))] [] (wr h17 a3 3 (jx (wi h7 37 4 ((i7 + 1 : Nat) : Int)))) (SuP p C G sl T e i0 h0 t w (if tkK T i7 = 142 then loopW T fac m s neg q (i7 + 1) else if tkK T i7 = 143 then loopW T fac m (xPart neg s q) false xOne (i7 + 1) else if tkK T i7 = 145 then loopW T fac m (xPart neg s q) true xOne (i7 + 1) else .ok (xPart neg s q, i7)))))) ∧ (¬ tkK T i7 = 143 → (tkK T i7 = 145 → (Ly p (nw (wi h7 37 4 ((i7 + 1 : Nat) : Int)) 6 4) → TokR T e (i7 + 1) (nw (wi h7 37 4 ((i7 + 1 : Nat) : Int)) 6 4) → ∃ h28, jE d 29 [jP (jx (wi h7 37 4 ((i7 + 1 : Nat) : Int))), jI 1] (nw (wi h7 37 4 ((i7 + 1 : Nat) : Int)) 6 4) none h28 ∧ Ly p h28 ∧ ∃ i31, TokR T e i31 h28 ∧ jt h28 a3 = 6 ∧ NF ≤ a3 ∧ jt (wr h28 a3 3 (jx (wi h7 37 4 ((i7 + 1 : Nat) : Int)))) a3 = 6 ∧ (Ly p (wr h28 a3 3 (jx (wi h7 37 4 ((i7 + 1 : Nat) : Int)))) → TokR T e i31 (wr h28 a3 3 (jx (wi h7 37 4 ((i7 + 1 : Nat) : Int)))) → WF d 46 44 [jP 93, jI v1, jP a2, jP (jr (wr h28 a3 3 (jx (wi h7 37 4 ((i7 + 1 : Nat) : Int)))) a3 3), jI (w32 (v4 + 1)), jI (pl : Int), jP p6, jI (ck (tkK T i7))] [] (wr h28 a3 3 (jx (wi h7 37 4 ((i7 + 1 : Nat) : Int)))) (SuP p C G sl T e i0 h0 t w (if tkK T i7 = 142 then loopW T fac m s neg q (i7 + 1) else if tkK T i7 = 143 then loopW T fac m (xPart neg s q) false xOne (i7 + 1) else if tkK T i7 = 145 then loopW T fac m (xPart neg s q) true xOne (i7 + 1) else .ok (xPart neg s q, i7)))))) ∧ (¬ tkK T i7 = 145 → SuP p C G sl T e i0 h0 t w (if tkK T i7 = 142 then loopW T fac m s neg q (i7 + 1) else if tkK T i7 = 143 then loopW T fac m (xPart neg s q) false xOne (i7 + 1) else if tkK T i7 = 145 then loopW T fac m (xPart neg s q) true xOne (i7 + 1) else .ok (xPart neg s q, i7)) (some (jP a2)) h7))) := by
  have hx := L0.nx
  have hN : NF = 197 := rfl
  have j6 := J.1.2.2.2.2.2.1
  have j7 := J.1.2.2.2.2.2.2.1
  have j8 := J.1.2.2.2.2.2.2.2.1
  have nx : ∀ (neg' : Bool), (tkK T i7 = 143 ∨ tkK T i7 = 145) → Ly p (nw (wi h7 37 4 ((i7 + 1 : Nat) : Int)) 6 4) → TokR T e (i7 + 1) (nw (wi h7 37 4 ((i7 + 1 : Nat) : Int)) 6 4) → ∃ h17, jE d 29 [jP (jx (wi h7 37 4 ((i7 + 1 : Nat) : Int))), jI (if neg' = true then 1 else 0)] (nw (wi h7 37 4 ((i7 + 1 : Nat) : Int)) 6 4) none h17 ∧ Ly p h17 ∧ ∃ i20, TokR T e i20 h17 ∧ jt h17 a3 = 6 ∧ NF ≤ a3 ∧ jt (wr h17 a3 3 (jx (wi h7 37 4 ((i7 + 1 : Nat) : Int)))) a3 = 6 ∧ (Ly p (wr h17 a3 3 (jx (wi h7 37 4 ((i7 + 1 : Nat) : Int)))) → TokR T e i20 (wr h17 a3 3 (jx (wi h7 37 4 ((i7 + 1 : Nat) : Int)))) → ∀ (z5 z6 z7 : AV), WF d 46 44 [jP 93, jI v1, jP a2, jP (jr (wr h17 a3 3 (jx (wi h7 37 4 ((i7 + 1 : Nat) : Int)))) a3 3), jI (w32 (v4 + 1)), z5, z6, z7] [] (wr h17 a3 3 (jx (wi h7 37 4 ((i7 + 1 : Nat) : Int)))) (SuP p C G sl T e i0 h0 t w (loopW T fac m (xPart neg s q) neg' xOne (i7 + 1)))) := by
    intro neg' hc L1 K1
    have I1 := lp_adv J.1 L0 (by omega)
    have I2 := lp_new (neg' := neg') I1 L0 (by have := J.2.1; omega) (by show jx h7 ≤ _; have := J.2.2; omega)
    have jt3 : jt (wi (nw (wi h7 37 4 ((i7 + 1 : Nat) : Int)) 6 4) (jx (wi h7 37 4 ((i7 + 1 : Nat) : Int))) 0 (if neg' = true then 1 else 0)) a3 = 6 := by show jt (nw (wi h7 37 4 ((i7 + 1 : Nat) : Int)) 6 4) a3 = 6; rw [jt_nw, if_neg (by show ¬ a3 = jx h7; omega)]; exact j8
    refine ⟨_, m_29 (by omega) (by show NF ≤ jx h7; omega) (by rw [jt_nw, if_pos rfl]) (by cases neg' <;> simp), L1.wi (by show 32 ≤ jx h7; omega), _, K1.swi (by show jx h7 < 37 ∨ 40 < jx h7; omega), jt3, by omega, jt3, fun _ _ z5 z6 z7 => ?_⟩
    rw [jr_wr, if_pos ⟨rfl, rfl⟩]
    exact IH _ _ _ _ _ _ _ _ _ I2
  refine ⟨fun c L1 K1 => ?_, fun c => ⟨fun c2 L1 K1 => ?_, fun c2 => ⟨fun c3 L1 K1 => ?_, fun c3 => ?_⟩⟩⟩
  · rw [if_pos c]
    exact IH _ _ _ _ _ _ _ _ _ (lp_adv J.1 L0 (by omega))
  · rw [if_neg c, if_pos c2]
    obtain ⟨h17, g1, g2, i20, g3, g4, g5, g6, g7⟩ := nx false (Or.inl c2) L1 K1
    exact ⟨h17, g1, g2, i20, g3, g4, g5, g6, fun L2 K2 => g7 L2 K2 _ _ _⟩
  · rw [if_neg c, if_neg c2, if_pos c3]
    obtain ⟨h17, g1, g2, i20, g3, g4, g5, g6, g7⟩ := nx true (Or.inr c3) L1 K1
    exact ⟨h17, g1, g2, i20, g3, g4, g5, g6, fun L2 K2 => g7 L2 K2 _ _ _⟩
  · rw [if_neg c, if_neg c2, if_neg c3]
    exact lp_end J
theorem lp_run (F : FacS p T e C n) (hd : 15 + 3 * n ≤ d) (L0 : Ly p h0) (O : okX C G sl) (hsl : sl.length + 2 * n ≤ 18) {a2 : Nat} : ∀ (m : Nat) (i : Nat) (h : AH) (s : Ex) (neg : Bool) (q : Ex) (a3 : Nat) (v4 : Int) (z5 z6 z7 : AV), m ≤ 400 → v4 = 400 - (m : Int) → LpI p C G sl T e i0 h0 t w i h s neg q a2 a3 → WF d 46 44 [jP 93, jI (8 - (n : Int)), jP a2, jP a3, jI v4, z5, z6, z7] [] h (SuP p C G sl T e i0 h0 t w (loopW T (facR T C n G sl) m s neg q i)) := by
  intro m
  induction m with
  | zero =>
    intro i h s neg q a3 v4 z5 z6 z7 hm hv J
    refine c_46_44 (by omega) J.1.1 J.1.2.1 ⟨fun _ L1 K1 => ?_, fun z => by omega⟩
    exact lp_bad L1 K1 (J.2.1.trans (DS.w37 J.1.1)) J.2.2.1 (by have := J.2.2.2.1; show jx h ≤ _; omega) flt_r
  | succ m ih =>
    intro i h s neg q a3 v4 z5 z6 z7 hm hv4 J
    have hx := L0.nx
    have hN : NF = 197 := rfl
    have j3 := J.2.2.1
    have j4 := J.2.2.2.1
    have j6 := J.2.2.2.2.2.1
    have j7 := J.2.2.2.2.2.2.1
    have j8 := J.2.2.2.2.2.2.2.1
    have tp := J.1.2.1.ok.2.1
    refine c_46_44 (by omega) J.1.1 J.1.2.1 ⟨fun z => by omega, fun _ => ?_⟩
    obtain ⟨u, h1, hE, v, rfl, L1, hD, i1, K1, hi1, hb, R⟩ := F d G sl i h t _ hd J.1 O hsl
    have o3 := hD.old J.1.1 (c := a3) (by omega) j7
    refine ⟨v, h1, hE, L1, i1, K1, ?_⟩
    show ¬ v = 1 ∧ _
    have lw : loopW T (facR T C n G sl) (m + 1) s neg q i = xb (facR T C n G sl i) fun f => if hv f.1 = true ∧ hv q = true then .error (tkP T i) else if tkK T f.2 = 142 then loopW T (facR T C n G sl) m s neg (xMul q f.1) (f.2 + 1) else if tkK T f.2 = 143 then loopW T (facR T C n G sl) m (xPart neg s (xMul q f.1)) false xOne (f.2 + 1) else if tkK T f.2 = 145 then loopW T (facR T C n G sl) m (xPart neg s (xMul q f.1)) true xOne (f.2 + 1) else .ok (xPart neg s (xMul q f.1), f.2) := rfl
    rw [lw]
    generalize facR T C n G sl i = A at R ⊢
    cases A with
    | error q1 =>
      obtain ⟨r1, r2⟩ := R
      subst r1
      exact ⟨by decide, fun z => absurd rfl z, fun _ => lp_bad L1 K1 (J.2.1.trans hD) (by omega) (by omega) r2⟩
    | ok f =>
      obtain ⟨r1, r2, r3, r4, r5⟩ := R
      have cc := tR_cell r4
      have fx := hD.1.2.2.1
      refine ⟨by omega, fun _ => ⟨cc.2.2.1, fun z => ⟨by rw [o3.1]; exact j8, ?_⟩, fun z => ⟨by rw [o3.1]; exact j8, ?_⟩⟩, fun z => by omega⟩
      · -- without vars
        have hvf : hv f.1 = false := by
          cases c : hv f.1 with
          | false => rfl
          | true => rw [cc.2.2.2.1, if_pos c] at z; exact absurd z (by decide)
        have J7 := lp_n J L0 hD (by omega) r3 r5 r4 hvf
        subst r1
        refine ⟨_, m_30n (by omega) (by rw [o3.1]; exact j8) cc.2.2.1 z, J7.1.1.1, f.2, J7.1.1.2.1, ?_⟩
        show _ ∧ _
        have e1 : (xb (.ok f : Er (Ex × Nat)) fun f => if hv f.1 = true ∧ hv q = true then .error (tkP T i) else if tkK T f.2 = 142 then loopW T (facR T C n G sl) m s neg (xMul q f.1) (f.2 + 1) else if tkK T f.2 = 143 then loopW T (facR T C n G sl) m (xPart neg s (xMul q f.1)) false xOne (f.2 + 1) else if tkK T f.2 = 145 then loopW T (facR T C n G sl) m (xPart neg s (xMul q f.1)) true xOne (f.2 + 1) else .ok (xPart neg s (xMul q f.1), f.2)) = (if tkK T f.2 = 142 then loopW T (facR T C n G sl) m s neg (xMul q f.1) (f.2 + 1) else if tkK T f.2 = 143 then loopW T (facR T C n G sl) m (xPart neg s (xMul q f.1)) false xOne (f.2 + 1) else if tkK T f.2 = 145 then loopW T (facR T C n G sl) m (xPart neg s (xMul q f.1)) true xOne (f.2 + 1) else .ok (xPart neg s (xMul q f.1), f.2)) := by
          show (if _ then _ else _) = _
          rw [if_neg (by rw [hvf]; simp)]
        rw [e1]
        exact lp_cont (by omega) L0 _ J7 (fun i h s neg q a3 z5 z6 z7 J => ih i h s neg q a3 _ z5 z6 z7 (by omega) (by rw [hv4, w32_i (by omega) (by omega)]; omega) J)
      · have hvf : hv f.1 = true := by
          cases c : hv f.1 with
          | true => rfl
          | false => rw [cc.2.2.2.1, if_neg (by rw [c]; decide)] at z; exact absurd rfl z
        have hh := tR_hold (hD.tree J.1.1 J.2.2.2.2.2.2.2.2.2.2.1 (by omega) (Nat.le_refl _)) (by omega)
        have e2 := o3.2.2 2
        rw [← e2] at hh
        refine ⟨by intro z2; have := hh.2 (by omega); omega, fun z2 => ⟨by rw [o3.1]; exact j8, ?_⟩, fun z2 => ⟨⟨by omega, by omega⟩, fun L2 K2 => ?_⟩⟩
        · have hvq : hv q = false := hh.1.mpr z2
          have J7 := lp_y J L0 hD (by omega) r3 r5 r4 hvf
          subst r1
          refine ⟨_, m_30y (by omega) (by rw [o3.1]; exact j8) cc.2.2.1 z, J7.1.1.1, f.2, J7.1.1.2.1, ?_⟩
          have e1 : (xb (.ok f : Er (Ex × Nat)) fun f => if hv f.1 = true ∧ hv q = true then .error (tkP T i) else if tkK T f.2 = 142 then loopW T (facR T C n G sl) m s neg (xMul q f.1) (f.2 + 1) else if tkK T f.2 = 143 then loopW T (facR T C n G sl) m (xPart neg s (xMul q f.1)) false xOne (f.2 + 1) else if tkK T f.2 = 145 then loopW T (facR T C n G sl) m (xPart neg s (xMul q f.1)) true xOne (f.2 + 1) else .ok (xPart neg s (xMul q f.1), f.2)) = (if tkK T f.2 = 142 then loopW T (facR T C n G sl) m s neg (xMul q f.1) (f.2 + 1) else if tkK T f.2 = 143 then loopW T (facR T C n G sl) m (xPart neg s (xMul q f.1)) false xOne (f.2 + 1) else if tkK T f.2 = 145 then loopW T (facR T C n G sl) m (xPart neg s (xMul q f.1)) true xOne (f.2 + 1) else .ok (xPart neg s (xMul q f.1), f.2)) := by
            show (if _ then _ else _) = _
            rw [if_neg (by rw [hvq]; simp)]
          rw [e1]
          exact lp_cont (by omega) L0 _ J7 (fun i h s neg q a3 z5 z6 z7 J => ih i h s neg q a3 _ z5 z6 z7 (by omega) (by rw [hv4, w32_i (by omega) (by omega)]; omega) J)
        · have hvq : hv q = true := by
            cases c : hv q with
            | true => rfl
            | false => exact absurd (hh.1.mp c) z2
          show SuP p C G sl T e i0 h0 t w (if hv f.1 = true ∧ hv q = true then .error (tkP T i) else _) _ _
          rw [if_pos ⟨hvf, hvq⟩]
          exact lp_bad L2 K2 ((J.2.1.trans hD).trans (DS.w37 L1)) (by omega) (by show jx h1 ≤ _; omega) flt_r
theorem lp_0 {neg : Bool} (H : SmH p C G sl T e i h t w) : LpI p C G sl T e i h t w i (wi (nw h 6 4) (jx h) 0 (if neg = true then 1 else 0)) xZero neg xOne (jx h) (jx h) := by
  obtain ⟨L, K, X, g1, g2, g3, g4, g5, g6⟩ := H
  have hx := L.nx
  have hN : NF = 197 := rfl
  have hTT := L.iT'
  generalize hh : wi (nw h 6 4) (jx h) 0 (if neg = true then 1 else 0) = h'
  have ei : ∀ a k, a < jx h → ji h' a k = ji h a k := fun a k ha => by rw [← hh, ji_wi, if_neg (by omega), ji_nw, if_neg (by omega)]
  have el : ∀ a k, a < jx h → jl h' a k = jl h a k := fun a k ha => by rw [← hh, jl_wi, jl_nw, if_neg (by omega)]
  have er : ∀ a k, a < jx h → jr h' a k = jr h a k := fun a k ha => by rw [← hh, jr_wi, jr_nw, if_neg (by omega)]
  have et : ∀ a, a < jx h → jt h' a = jt h a ∧ jn h' a = jn h a := fun a ha => by rw [← hh]; exact ⟨by show jt (nw h 6 4) a = _; rw [jt_nw, if_neg (by omega)], by show jn (nw h 6 4) a = _; rw [jn_nw, if_neg (by omega)]⟩
  have ex : jx h' = jx h + 1 := by rw [← hh]; rfl
  have eu : ju h' = ju h + 4 := by rw [← hh]; rfl
  have L' : Ly p h' := by rw [← hh]; exact (L.nw).wi (by omega)
  have w0 : w + wkc C.1 xZero t + wkc C.1 xOne t = w := by show w + (0 + 0) + 0 = w; omega
  refine ⟨⟨L', K.cg (fun a k _ _ => ei a k (by omega)), X.cg (fun a k _ => ei a k (by omega)), by rw [el _ _ (by omega)]; exact g1, by rw [w0, el _ _ (by omega)]; exact g2, g3, g4, by rw [w0]; exact g5, by rw [w0]; exact g6⟩, DS.new L (by omega) (by omega) (fun a ha => ⟨fun k => ⟨ei a k ha, el a k ha, er a k ha⟩, et a ha⟩), Nat.le_refl _, by omega, ⟨rfl, rfl⟩, Nat.le_refl _, by omega, by rw [← hh]; show jt (nw h 6 4) (jx h) = 6; rw [jt_nw, if_pos rfl], by rw [← hh, ji_wi, if_pos ⟨rfl, rfl⟩], ⟨Or.inl rfl, ?_⟩, ⟨Or.inr rfl, ?_⟩, ?_, by omega⟩
  · rw [← hh, jr_wi, jr_nw, if_pos rfl]
  · rw [← hh, jr_wi, jr_nw, if_pos rfl]
  · rw [← hh, jr_wi, jr_nw, if_pos rfl]
theorem sum_of_fac (hn : n ≤ 8) (F : FacS p T e C n) : SumS p T e C n := by
  intro d G sl i h t w hd H O hsl
  obtain ⟨d, rfl⟩ : ∃ d', d = d' + 1 := ⟨d - 1, by omega⟩
  have hx := H.1.nx
  have hN : NF = 197 := rfl
  refine jE_of (as := [jP 93, jI (8 - (n : Int))]) (Nat.le_of_ble_eq_true rfl) (show WF d 46 0 [jP 93, jI (8 - (n : Int)), jU, jU, jU, jU, jU, jU] [] h (SuP p C G sl T e i h t w (pSum T C n G sl i)) from ?_)
  rw [pSum_eq]
  refine c_46_0 (by omega) H.1 H.2.1 ⟨fun c L1 K1 => ?_, fun c L1 K1 => ?_⟩
  · have I := lp_0 (neg := true) H
    refine ⟨_, m_29 (by omega) hx (by rw [jt_nw, if_pos rfl]) (Or.inr rfl), I.1.1, _, I.1.2.1, I.2.2.2.2.2.2.2.1, fun z => ?_, fun z => ⟨ns c (by decide), fun L2 K2 => ?_⟩⟩
    · rw [ji_wi, if_pos ⟨rfl, rfl⟩] at z; exact absurd z (by decide)
    · unfold sumW
      rw [if_pos c]
      exact lp_run F (by omega) H.1 O hsl 400 _ _ _ _ _ _ _ _ _ _ (Nat.le_refl _) (by decide) (lp_adv I H.1 (ns c (by decide)))
  · have I := lp_0 (neg := false) H
    refine ⟨_, m_29 (by omega) hx (by rw [jt_nw, if_pos rfl]) (Or.inl rfl), I.1.1, _, I.1.2.1, I.2.2.2.2.2.2.2.1, fun z => ?_, fun z => ?_⟩
    · unfold sumW
      rw [if_neg c]
      exact lp_run F (by omega) H.1 O hsl 400 _ _ _ _ _ _ _ _ _ _ (Nat.le_refl _) (by decide) I
    · rw [ji_wi, if_pos ⟨rfl, rfl⟩] at z; exact absurd rfl z
end LOOP
