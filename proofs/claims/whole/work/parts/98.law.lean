/-! THE LAW -/
set_option maxRecDepth 100000 in
theorem sT_b : sT 165 ≤ 100000 := by decide +kernel
section LAW
variable {L d : Nat} {xs : Nat → Int} {h : AH}
abbrev lwQ (v : Option AV) (h' : AH) : Prop := v = some (jI 1) ∧ jx h' ≤ 600032 ∧ ju h' ≤ 7302249
theorem lw_loop (hd : 100 ≤ d) (hx : ∀ k, r32 (xs k)) (l2 : L ≤ 2048) : ∀ (s i : Nat) (h : AH), L < 4 * (i + s) + 4 → i ≤ 512 → LIn L xs i h → WF d 202 18 (lv (4 * (i : Int))) [] h lwQ := by
  have fin : ∀ (i : Nat) (h : AH), i ≤ 512 → LIn L xs i h → ((1 : Int) = 0 ∨ (1 : Int) = 1) ∧ lwQ (some (jI 1)) h := fun i h hi I => by
    obtain ⟨p, T, c, pt, W, e, SC, SR, P1, P2, H2, x1, x2⟩ := I
    have b := sT_b
    refine ⟨Or.inr rfl, rfl, ?_, ?_⟩
    · omega
    · omega
  have tl : ∀ (i : Nat) (h : AH), LIn L xs i h → jt h 2 = 40 ∧ jn h 2 = L ∧ ∀ j : Int, 0 ≤ j → j < (L : Int) → inA h 2 0 j := fun i h I => by
    obtain ⟨p, T, c, pt, W, e, SC, _⟩ := I
    exact ⟨(sc_at SC.1 e 0).2.1, (sc_at SC.1 e 0).2.2, fun j h0 h1 => sc_in SC.1 e h0 h1⟩
  intro s
  induction s with
  | zero =>
    intro i h hs hi I
    obtain ⟨t1, t2, t3⟩ := tl i h I
    refine b_202_18 ⟨by rw [t1]; decide, by rw [t1]; decide, fun _ => fin i h hi I, fun z => ?_⟩
    rw [t2, w32_i (x := (L : Int) - 4) (by omega) (by omega)] at z
    omega
  | succ s ih =>
    intro i h hs hi I
    obtain ⟨t1, t2, t3⟩ := tl i h I
    refine b_202_18 ⟨by rw [t1]; decide, by rw [t1]; decide, fun _ => fin i h hi I, fun z => ?_⟩
    rw [t2, w32_i (x := (L : Int) - 4) (by omega) (by omega)] at z
    have v0 : 0 ≤ 4 * (i : Int) := by omega
    have vL : 4 * (i : Int) + 4 ≤ (L : Int) := by omega
    have K : ∀ h', LIn L xs (i + 1) h' → WF d 202 723 (lv (4 * (i : Int))) [] h' lwQ := fun h' I' => by
      refine b_202_723 ?_
      rw [w32_i (x := 4 * (i : Int) + 4) (by omega) (by omega), show 4 * (i : Int) + 4 = 4 * ((i + 1 : Nat) : Int) by omega]
      exact ih (i + 1) h' (by omega) (by omega) I'
    have I1 : LIn L xs (i + 1) h := by
      obtain ⟨p, T, c, pt, W, e, SC, SR, P1, P2, H2, x1, x2⟩ := I
      exact ⟨p, T, c, pt, W, e, SC, SR, P1, P2, H2, by omega, x2⟩
    exact ⟨t3 _ v0 (by omega), fun _ => K h I1, fun _ => lw_c0 hd hx v0 vL l2 I K, fun _ => lw_c1 hd hx v0 vL l2 I K, fun _ => lw_c2 hd hx v0 vL l2 I K, fun _ => lw_c3 hd hx v0 vL l2 I K, fun _ => lw_c4 hd hx v0 vL l2 I K, fun _ => lw_c5 hd hx v0 vL l2 I K, fun _ => lw_c6 hd hx v0 vL l2 I K, fun _ => lw_c7 hd hx v0 vL l2 I K, fun _ => lw_c8 hd hx v0 vL l2 I K, fun _ => lw_c9 hd hx v0 vL l2 I K, fun _ => lw_c10 hd hx v0 vL l2 I K, fun _ => lw_c11 hd hx v0 vL l2 I K, fun _ => lw_c12 hd hx v0 vL l2 I K, fun _ => lw_c13 hd hx v0 vL l2 I K, fun _ => lw_c14 hd hx v0 vL l2 I K, fun _ => lw_c15 hd hx v0 vL l2 I K, fun _ => lw_c16 hd hx v0 vL l2 I K, fun _ => lw_c17 hd hx v0 vL l2 I K, fun _ => lw_c18 hd hx v0 vL l2 I K, fun _ => lw_c19 hd hx v0 vL l2 I K, trivial⟩
end LAW
/-- what is left of the claim: the law's path on the abstract machine -/
def LawRuns : Prop := ∀ (L : Nat) (xs : Nat → Int), L ≤ 2048 → (∀ k, r32 (xs k)) → ∃ d n h', d ≤ 600 ∧ jPa (jE d) (jcode 202) (mT 202).2.2.2.1 (some (jI 1)) h' n 0 (jent 4 [jP 2]) [] (hI L xs) ∧ jx h' ≤ 600032 ∧ ju h' ≤ 7302249
theorem law_runs : LawRuns := by
  intro L xs l2 hx
  have B0 := bd0 (L := L) (xs := xs)
  have B1 := B0.nw (t := 11) (s := 7) (by decide) (by decide) (by decide)
  obtain ⟨h1, E1, B2⟩ := k_80_32 (d := 120) (by omega) B1
  have B3 := B2.nw (t := 12) (s := 84) (by decide) (by decide) (by decide)
  obtain ⟨h2, E2, B4⟩ := k_106_141 (d := 120) (by omega) B3
  have x1 : jx h1 = 141 := B2.x
  have W : WF 120 202 0 (jent 4 [jP 2]) [] (hI L xs) lwQ := by
    refine b_202_0 ⟨by rw [B0.x]; decide, h1, E1, by rw [x1]; decide, h2, by rw [x1]; exact E2, ?_⟩
    rw [x1]
    exact lw_loop (by omega) hx l2 (L + 1) 0 h2 (by omega) (by omega) (bdI B4)
  obtain ⟨n, v, h', a, rfl, b1, b2⟩ := W
  exact ⟨120, n, h', by decide, a, b1, b2⟩
