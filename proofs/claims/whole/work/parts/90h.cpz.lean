/-! THE CLASS: a number without its sign is added -/
section CPZ
variable {p : Lpar} {d : Nat} {h h0 h' g : AH} {W : List Int} {v : Int} {Q : Option AV → AH → Prop}
theorem sz_28 (hd : 1 ≤ d) (L : Ly p h) {v3 : Int} : ∀ (f m e : Nat), m < 10 ^ f → 1 ≤ f → e + (dgs f m).length ≤ 1552 → WF d 5 66 [jP 35, jL v, jU, jL v3, jU, jI ((e + (dgs f m).length - 1 : Nat) : Int), jI (((e + (dgs f m).length - 1 : Nat) : Int) - 1), jU] [] h Q → WF d 5 28 [jP 35, jL v, jU, jL v3, jU, jI (e : Int), jL (-((m / 10 : Nat) : Int)), jU] [] h Q := by
  have bb : isBy 35 1551 := Or.inr ⟨rfl, rfl⟩
  intro f
  induction f with
  | zero => intro m e _ h1; omega
  | succ f ih =>
    intro m e hm _ hl K
    by_cases z : m < 10
    · have ed : dgs (f + 1) m = [48 + (m : Int)] := by
        show (if m < 10 then _ else _) = _
        rw [if_pos z]
      rw [ed] at K hl
      have K : WF d 5 66 [jP 35, jL v, jU, jL v3, jU, jI ((e + 1 - 1 : Nat) : Int), jI (((e + 1 - 1 : Nat) : Int) - 1), jU] [] h Q := K
      have hl : e + 1 ≤ 1552 := hl
      rw [show e + 1 - 1 = e by omega] at K
      rw [show m / 10 = 0 by omega]
      refine c_5_28 (by omega) L bb ⟨fun _ => ⟨fun _ => ?_, fun y => by omega⟩, fun y => absurd (by decide) y⟩
      rw [w32_i (x := (e : Int) - 1) (by omega) (by omega)]
      exact K
    · have ed : dgs (f + 1) m = dgs f (m / 10) ++ [48 + ((m % 10 : Nat) : Int)] := by
        show (if m < 10 then _ else _) = _
        rw [if_neg z]
      rw [Nat.pow_succ] at hm
      have f1 : 1 ≤ f := by
        by_cases y : f = 0
        · subst y; omega
        · omega
      rw [ed, List.length_append] at K hl
      have hl : e + ((dgs f (m / 10)).length + 1) ≤ 1552 := hl
      have K : WF d 5 66 [jP 35, jL v, jU, jL v3, jU, jI ((e + ((dgs f (m / 10)).length + 1) - 1 : Nat) : Int), jI (((e + ((dgs f (m / 10)).length + 1) - 1 : Nat) : Int) - 1), jU] [] h Q := K
      rw [show e + ((dgs f (m / 10)).length + 1) - 1 = e + 1 + (dgs f (m / 10)).length - 1 by omega] at K
      have q := ih (m / 10) (e + 1) (by omega) f1 (by omega) K
      have nz : ¬ jcmp (-((m / 10 : Nat) : Int)) 0 = 0 := fun y => by
        have := jcmp_0.mp y
        omega
      have t := (td10 (m / 10)).1
      have mb : m < 10 ^ f * 10 := hm
      refine c_5_28 (by omega) L bb ⟨fun y => absurd y nz, fun _ => ?_⟩
      rw [t, w32_i (x := (e : Int) + 1) (by omega) (by omega)]
      by_cases big : (m / 10 / 10 : Nat) < 9223372036854775808
      · rw [w64_id (x := -((m / 10 / 10 : Nat) : Int)) (by unfold r64; omega)]
        exact q
      · sorry
end CPZ
