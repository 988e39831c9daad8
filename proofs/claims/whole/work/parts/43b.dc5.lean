/-! THE READER: the goal -/
section DC5
variable {p : Lpar} {d D : Nat} {h h' h0 h1 h2 : AH} {T : Txt} {e i i0 : Nat} {c : Dc} {S : List (Int × Int)} {Z A : Nat → Prop}
/-- the goal, behind min or max -/
theorem goal_in (hd : 41 ≤ d) (H : TxR p T e i h c) (O : okD c) (hG : dG c = 0) {gg : Int} (hgg : gg = 1 ∨ gg = 2) (hi : i + 2 ≤ e) (K2 : TokR T e (i + 2) (wl (wi (wi (wi h 37 4 ((i + 1 : Nat) : Int)) (pT p) 12 gg) 37 4 ((i + 2 : Nat) : Int)) 93 7 1)) (eP : pGoal T c i = xb (pSum T (dC c) 8 (dN c) [] (i + 2)) fun a => xb (pTake T 159 a.2) fun j => .ok ((dN c, dS c, dT c, dV c, dX c, dB c, dR c, dL c, gg, a.1), j)) : ∃ p9 h4, jE d 46 [jP 93, jI 0] (wl (wi (wi (wi h 37 4 ((i + 1 : Nat) : Int)) (pT p) 12 gg) 37 4 ((i + 2 : Nat) : Int)) 93 7 1) (some (jP p9)) h4 ∧ Ly p h4 ∧ ∃ i7, TokR T e i7 h4 ∧ ¬ (jr (wr h4 (pT p) 13 p9) (pT p) 13) = 1 ∧ ((jr (wr h4 (pT p) 13 p9) (pT p) 13) = 0 → (Ly p (wr h4 (pT p) 13 p9) → TokR T e i7 (wr h4 (pT p) 13 p9) → TxP p T e i h (pGoal T c i) (some (jI 0)) (wr h4 (pT p) 13 p9))) ∧ (¬ (jr (wr h4 (pT p) 13 p9) (pT p) 13) = 0 → (tkK T i7 = 159 → (Ly p (wi (wr h4 (pT p) 13 p9) 37 4 ((i7 + 1 : Nat) : Int)) → TokR T e (i7 + 1) (wi (wr h4 (pT p) 13 p9) 37 4 ((i7 + 1 : Nat) : Int)) → TxP p T e i h (pGoal T c i) (some (jI 1)) (wi (wr h4 (pT p) 13 p9) 37 4 ((i7 + 1 : Nat) : Int)))) ∧ (¬ tkK T i7 = 159 → (Ly p (wi (wr h4 (pT p) 13 p9) 37 5 (-10 - (tkP T i7 : Int))) → TokR T e i7 (wi (wr h4 (pT p) 13 p9) 37 5 (-10 - (tkP T i7 : Int))) → TxP p T e i h (pGoal T c i) (some (jI 0)) (wi (wr h4 (pT p) 13 p9) 37 5 (-10 - (tkP T i7 : Int)))))) := by
  have X := H.smx
  obtain ⟨L, K, N, B, W, Wb, A, V⟩ := H
  have hT := L.iT'
  have hx := L.nx
  have hN : NF = 197 := rfl
  generalize hh : wl (wi (wi (wi h 37 4 ((i + 1 : Nat) : Int)) (pT p) 12 gg) 37 4 ((i + 2 : Nat) : Int)) 93 7 1 = h2 at K2
  have L2 : Ly p h2 := by rw [← hh]; exact (((L.wi (by decide)).wi (by omega)).wi (by decide)).wl
  have i2 : ∀ a k, ¬ a = 37 → ¬ (a = pT p ∧ k = 12) → ji h2 a k = ji h a k := fun a k z1 z2 => by rw [← hh]; show ji (wi (wi (wi h 37 4 ((i + 1 : Nat) : Int)) (pT p) 12 gg) 37 4 ((i + 2 : Nat) : Int)) a k = _; rw [ji_wi, if_neg (by omega), ji_wi, if_neg z2, ji_wi, if_neg (by omega)]
  have g2 : ji h2 (pT p) 12 = gg := by rw [← hh]; show ji (wi (wi (wi h 37 4 ((i + 1 : Nat) : Int)) (pT p) 12 gg) 37 4 ((i + 2 : Nat) : Int)) (pT p) 12 = _; rw [ji_wi, if_neg (by omega), ji_wi, if_pos ⟨rfl, rfl⟩]
  have l2 : ∀ a k, ¬ (a = 93 ∧ k = 7) → jl h2 a k = jl h a k := fun a k z => by rw [← hh, jl_wl, if_neg z]; rfl
  have t2 : jl h2 93 7 = 1 := by rw [← hh, jl_wl, if_pos ⟨rfl, rfl⟩]
  have r2 : ∀ a k, jr h2 a k = jr h a k := fun a k => by rw [← hh]; rfl
  have x2 : jx h2 = jx h := by rw [← hh]; rfl
  have D2 : DT p h h2 := by rw [← hh]; exact ((DT.w37.trans (Fm.wi (by omega))).trans DT.w37).trans (Fm.wl (by omega))
  have H2 : SmH p (dC c) (dN c) [] T e (i + 2) h2 1 (dWk c) := ⟨L2, K2, X.cg (fun a k z => i2 a k (by omega) (by omega)), t2, by rw [l2 _ _ (by omega)]; exact W, by decide, by decide, Wb.1, by omega⟩
  obtain ⟨u, h4, hE, v, rfl, L4, D4, i4, K4, hi4, hb4, R⟩ := (levels (p := p) (T := T) (e := e) (C := dC c) 8 (by decide)).2 d (dN c) [] (i + 2) h2 1 (dWk c) (by omega) H2 O.1 (by decide)
  have D24 : DT p h h4 := D2.trans (DT.ds D4)
  have D5 : DT p h (wr h4 (pT p) 13 v) := D24.trans (Fm.wr (by omega))
  refine ⟨v, h4, hE, L4, i4, K4, ?_⟩
  rw [jr_wr, if_pos ⟨rfl, rfl⟩]
  cases hB : pSum T (dC c) 8 (dN c) [] (i + 2) with
  | error q =>
    rw [hB] at R eP
    obtain ⟨r1, rf⟩ := R
    subst r1
    exact ⟨by decide, fun _ L5 K5 => tx_bad eP L5 K5 D5 (by omega) (by show jx h4 ≤ _; omega) rf, fun z => absurd rfl z⟩
  | ok r =>
    rw [hB] at R eP
    obtain ⟨r1, r3, r4, r5, r6, r7⟩ := R
    refine ⟨by omega, fun z => by omega, fun _ => ⟨fun c1 L5 K5 => ?_, fun c1 L5 K5 => ?_⟩⟩
    · have eP : pGoal T c i = .ok ((dN c, dS c, dT c, dV c, dX c, dB c, dR c, dL c, gg, r.1), i4 + 1) := by
        rw [eP]
        show xb (pTake T 159 r.2) _ = _
        rw [← r1, take_y c1]; rfl
      rw [eP]
      have hg0 : ¬ gg = 0 := by omega
      have d4i : ∀ k, ji h4 (pT p) k = ji h2 (pT p) k := fun k => (D4.2 k).1
      have F5 : KA (fun x => x = 37 ∨ x = 93 ∨ x = 94 ∨ x = pT p ∨ (pT p + 1 ≤ x ∧ x ≤ pT p + 4)) (pT p) h (wi (wr h4 (pT p) 13 v) 37 4 ((i4 + 1 : Nat) : Int)) := by
        have q : Fm (fun x => x = 37 ∨ x = 93 ∨ x = 94 ∨ x = pT p ∨ (pT p + 1 ≤ x ∧ x ≤ pT p + 4)) h (wi (wr h4 (pT p) 13 v) 37 4 ((i4 + 1 : Nat) : Int)) := by
          refine Fm.trans (Fm.trans (Fm.trans ?_ (D4.1.mono (fun x _ z => by omega))) (Fm.wr (by omega))) (Fm.wi (Or.inl rfl))
          rw [← hh]
          exact (((Fm.wi (Or.inl rfl)).trans (Fm.wi (by omega))).trans (Fm.wi (Or.inl rfl))).trans (Fm.wl (by omega))
        exact KA.fm L q (fun x z => by omega)
      have k5 := B.ka F5
      have ew : dWk (dN c, dS c, dT c, dV c, dX c, dB c, dR c, dL c, gg, r.1) = dWk c + wkc (dS c) r.1 1 := by
        show rWk (dS c) (dR c) (dL c) + (if gg = 0 then 0 else wkc (dS c) r.1 1) = (rWk (dS c) (dR c) (dL c) + (if dG c = 0 then 0 else wkc (dS c) (dE c) 1)) + _
        rw [if_neg hg0, if_pos hG]; omega
      refine ⟨1, rfl, L5, D5.trans DT.w37, i4 + 1, K5, by omega, by show jx h4 ≤ _; omega, rfl, rfl, by show jx h4 ≤ _; omega, L5, K5, ?_, ?_, ?_, ?_, ?_, by show (dV c).length ≤ i4 + 1; omega⟩
      · exact r7.2.2.1.1.cg (fun x k z1 z2 => by rw [ji_wi, if_neg (by omega)]; rfl)
      · refine ⟨k5.1 (fun x z1 z2 z => by omega), k5.2.1 (fun x z1 z2 z => by omega), k5.2.2.1 (fun x z1 z2 z => by omega), k5.2.2.2.1 (fun x z1 z2 z => by omega), ⟨?_, fun k hk => ?_⟩, k5.2.2.2.2.2.1 (fun z => by omega) (fun z => by omega), k5.2.2.2.2.2.2.1 (fun z => by omega) (fun z => by omega) (fun z => by omega), ?_, fun z => absurd z hg0, fun _ => ?_⟩
        · rw [ji_wi, if_neg (by omega)]
          show ji h4 (pT p) 6 = _
          rw [d4i, i2 _ _ (by omega) (by omega)]; exact B.2.2.2.2.1.1
        · rw [(F5.1 (pT p + 8) k (by omega) (by omega) (by omega)).1]; exact B.2.2.2.2.1.2 k hk
        · rw [ji_wi, if_neg (by omega)]
          show ji h4 (pT p) 12 = _
          rw [d4i, g2]
        · rw [jr_wi, jr_wr, if_pos ⟨rfl, rfl⟩]
          exact tR_mono r6 (by omega) (Nat.le_refl _) (fun q q1 q2 => ⟨rfl, fun k => by rw [ji_wi, if_neg (by omega)]; rfl, fun k => by rw [jr_wi, jr_wr, if_neg (by omega)]⟩)
      · rw [ew]; exact r7.2.2.2.2.1
      · rw [ew]
        have y1 := r7.2.2.2.2.2.2.2.1
        have y2 := r7.2.2.2.2.2.2.2.2
        have e1 : (dC c).1 = dS c := rfl
        rw [e1] at y1 y2
        omega
      · rw [ji_wi, if_neg (by omega)]
        exact r7.2.2.1.2.2.2.2.1
    · refine tx_bad (q := tkP T i4) ?_ L5 K5 (D5.trans DT.w37) (by omega) (by show jx h4 ≤ _; omega) flt_r
      rw [eP]
      show xb (pTake T 159 r.2) _ = _
      rw [← r1, take_n c1]; rfl
theorem r_39 (hd : 42 ≤ d) (H : TxR p T e i h c) (O : okD c) (hk : tkK T i = 14) : ∃ u h', jE d 39 [jP 93] h u h' ∧ TxP p T e i h (pGoal T c i) u h' := by
  obtain ⟨d, rfl⟩ : ∃ d', d = d' + 1 := ⟨d - 1, by omega⟩
  have H0 := H
  obtain ⟨L, K, N, B, W, Wb, A, V⟩ := H
  have eg : ji h (pT p) 12 = dG c := B.2.2.2.2.2.2.2.1
  refine jE_of (as := [jP 93]) (Nat.le_of_ble_eq_true rfl) (c_39_0 (by omega) L K ?_)
  rw [eg]
  refine ⟨fun c1 => ⟨ns hk (by decide), fun c2 L2 K2 => ?_, fun c2 => ⟨fun c3 L2 K2 => ?_, fun c3 L2 K2 => ?_⟩⟩, fun c1 L2 K2 => ?_⟩
  · refine goal_in (by omega) H0 O c1 (Or.inl rfl) K2.2.2.2.1 K2 ?_
    unfold pGoal
    rw [if_neg (fun z => z c1), if_pos (Or.inl c2), if_pos c2]
  · refine goal_in (by omega) H0 O c1 (Or.inr rfl) K2.2.2.2.1 K2 ?_
    unfold pGoal
    rw [if_neg (fun z => z c1), if_pos (Or.inr c3), if_neg c2]
  · refine tx_bad (q := tkP T (i + 1)) ?_ L2 K2 (DT.w37.trans DT.w37) (by omega) (by show jx h ≤ _; omega) flt_r
    unfold pGoal
    rw [if_neg (fun z => z c1), if_neg (by omega)]
  · refine tx_bad (q := tkP T i) ?_ L2 K2 DT.w37 (by omega) (by show jx h ≤ _; omega) flt_r
    unfold pGoal
    rw [if_pos c1]
end DC5
