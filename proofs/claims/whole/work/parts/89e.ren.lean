/-! THE REFERENCE: where a sum over indices ends -/
section REN
variable {p : Lpar} {d : Nat} {h h' : AH}
theorem cR_10 : ∀ {x : Ex} {lo hi : Nat}, cR h x lo hi → ∀ i, lo ≤ i → i < hi → ji h 160 i = 10 → (lo : Int) ≤ ji h 161 i := by
  intro x
  induction x with
  | leaf =>
    intro lo hi hx i h1 h2 h3
    have e := hx.1
    have : i = lo := by omega
    subst this
    have := hx.2
    omega
  | inner t k u l r ihl ihr =>
    intro lo hi hx i h1 h2 h3
    unfold cR at hx
    have one : hi = lo + 1 → i = lo := fun z => by omega
    split at hx
    · have := one hx.1; subst this; have := hx.2.1; omega
    split at hx
    · have := one hx.1; subst this; have := hx.2.1; omega
    split at hx
    · have := one hx.1; subst this; have := hx.2.1; omega
    split at hx
    · have := one hx.1; subst this; have := hx.2.1; omega
    split at hx
    · rcases hx with ⟨_, hx⟩ | ⟨_, m, e1, e2, _, _, _, hx, e3, e4⟩
      · exact ihl hx i h1 h2 h3
      · by_cases z : i = lo
        · subst z; omega
        by_cases z2 : i = m
        · subst z2; omega
        · have := ihl hx i (by omega) (by omega) h3
          omega
    split at hx
    · obtain ⟨m, n, e1, e2, e3, e4⟩ := hx
      have := cR_lt e2
      by_cases z : i = n
      · subst z; omega
      by_cases z2 : i < m
      · exact ihl e2 i h1 z2 h3
      · have := ihr e3 i (by omega) (by omega) h3
        omega
    split at hx
    · have := one hx.1; subst this; have := hx.2; omega
    · obtain ⟨m, n, e1, e2, e3, e4⟩ := hx
      have := cR_lt e2
      by_cases z : i = n
      · subst z
        rw [h3] at e4
        split at e4 <;> omega
      by_cases z2 : i < m
      · exact ihl e2 i h1 z2 h3
      · have := ihr e3 i (by omega) (by omega) h3
        omega
theorem m_153 (hd : 10 ≤ d) (L : Ly p h) {l : Ex} {lo m : Nat} (hx : cR h l (lo + 1) m) (e1 : ji h 160 m = 10) (e2 : ji h 161 m = (lo : Int)) (hm : m < 2000) : jE d 153 [jP 141, jI (lo : Int)] h (some (jI ((m + 1 : Nat) : Int))) h := by
  obtain ⟨d, rfl⟩ : ∃ d', d = d' + 1 := ⟨d - 1, by omega⟩
  have lt := cR_lt hx
  have key : ∀ (s i : Nat), m = i + s → lo + 1 ≤ i → WF d 153 4 [jP 141, jI (lo : Int), jI (i : Int)] [] h (fun v h' => v = some (jI ((m + 1 : Nat) : Int)) ∧ h' = h) := by
    intro s
    induction s with
    | zero =>
      intro i hi hl
      have hi : m = i := by omega
      subst hi
      refine c_153_4 (by omega) L ⟨by omega, by omega, fun _ => ⟨by omega, by omega, fun _ => ⟨?_, rfl⟩, fun z => ?_⟩, fun z => ?_⟩
      · rw [w32_i (by omega) (by omega)]; rfl
      · rw [Int.toNat_natCast] at z; exact absurd e2 z
      · rw [Int.toNat_natCast] at z; exact absurd e1 z
    | succ s ih =>
      intro i hi hl
      have q := ih (i + 1) (by omega) (by omega)
      refine c_153_4 (by omega) L ⟨by omega, by omega, fun z => ⟨by omega, by omega, fun z2 => ?_, fun _ => ?_⟩, fun _ => ?_⟩
      · rw [Int.toNat_natCast] at z z2
        have := cR_10 hx i hl (by omega) z
        omega
      · rw [w32_i (x := (i : Int) + 1) (by omega) (by omega)]; exact q
      · rw [w32_i (x := (i : Int) + 1) (by omega) (by omega)]; exact q
  refine jE_eq (Nat.le_of_ble_eq_true rfl) (c_153_0 (by omega) L ?_)
  rw [w32_i (x := (lo : Int) + 1) (by omega) (by omega)]
  exact key (m - (lo + 1)) (lo + 1) (by omega) (Nat.le_refl _)
end REN
