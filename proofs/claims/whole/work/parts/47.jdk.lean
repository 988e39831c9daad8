/-! STRINGS, and what the JDK does with them -/
section JDK
variable {p : Lpar} {d : Nat} {h : AH}
theorem Ly.old (L : Ly p h) : Old (pL p) (pX p) h := L.2.2.2.2.2.2
theorem Ly.sT (L : Ly p h) {i : Nat} (hi : i < 9) : jt h (i + 4) = 60 := by rw [(L.old (i + 4) (by omega)).1]; exact hI_tK hi
theorem Ly.sC (L : Ly p h) {i : Nat} (hi : i < 9) : ji h (i + 4) 1 = 0 := by rw [((L.old (i + 4) (by omega)).2.2 1).1]; exact hI_iK hi
theorem Ly.sR (L : Ly p h) {i : Nat} (hi : i < 9) : jr h (i + 4) 0 = i + 13 := by rw [((L.old (i + 4) (by omega)).2.2 0).2]; exact hI_rK hi
theorem Ly.bT (L : Ly p h) {i : Nat} (hi : i < 9) : jt h (i + 13) = 42 := by rw [(L.old (i + 13) (by omega)).1]; exact hI_tV hi
theorem Ly.bN (L : Ly p h) {i : Nat} (hi : i < 9) : jn h (i + 13) = (sBy.getD i []).length := by rw [(L.old (i + 13) (by omega)).2.1]; exact hI_nV hi
theorem Ly.bI (L : Ly p h) {i k : Nat} (hi : i < 9) : ji h (i + 13) k = (sBy.getD i []).getD k 0 := by rw [((L.old (i + 13) (by omega)).2.2 k).1]; exact hI_iV hi
theorem sBy_b : ∀ i, i < 9 → ∀ j, j < 12 → 0 ≤ (sBy.getD i []).getD j 0 ∧ (sBy.getD i []).getD j 0 ≤ 127 := by decide +kernel
theorem jshr_z : ∀ n : Nat, n < 12 → jshr (n : Int) 0 = (n : Int) := by decide +kernel
theorem jchr : ∀ n : Nat, n < 128 → ji2c (jand (n : Int) 255) = (n : Int) := by decide +kernel
theorem m_193 (hd : 1 ≤ d) (L : Ly p h) {i : Nat} (hi : i < 9) : jE d 193 [jP (i + 4)] h (some (jI 0)) h := by
  obtain ⟨d, rfl⟩ := Nat.exists_eq_add_of_le' hd
  refine jE_eq (Nat.le_of_ble_eq_true rfl) (b_193_0 ⟨fun c => absurd c (by decide), fun _ => ?_⟩)
  rw [L.sC hi]
  exact ⟨L.sT hi, ⟨by decide, by decide⟩, rfl, rfl⟩
theorem m_194 (hd : 1 ≤ d) (L : Ly p h) {i : Nat} (hi : i < 9) : jE d 194 [jP (i + 4)] h (some (jI 1)) h := by
  obtain ⟨d, rfl⟩ := Nat.exists_eq_add_of_le' hd
  refine jE_eq (Nat.le_of_ble_eq_true rfl) (b_194_0 ⟨fun c => absurd c (by decide), fun _ => ?_⟩)
  rw [L.sC hi]
  exact ⟨L.sT hi, fun c => absurd rfl c, fun _ => ⟨Or.inr rfl, rfl, rfl⟩⟩
theorem m_189 (hd : 2 ≤ d) (L : Ly p h) {i : Nat} (hi : i < 9) : jE d 189 [jP (i + 4)] h (some (jI ((sBy.getD i []).length : Int))) h := by
  obtain ⟨d, rfl⟩ : ∃ d', d = d' + 1 := ⟨d - 1, by omega⟩
  refine jE_eq (Nat.le_of_ble_eq_true rfl) (b_189_0 ?_)
  rw [L.sR hi, L.bT hi, L.bN hi]
  refine ⟨L.sT hi, by decide, by decide, L.sT hi, 0, h, m_193 (by omega) L hi, ?_, rfl⟩
  rw [jshr_z _ (by have := (sBy_len i hi).1; omega)]
theorem m_201 (hd : 1 ≤ d) {a b : Int} (h0 : 0 ≤ a) (h1 : a < b) : jE d 201 [jI a, jI b, jP 1] h (some (jI a)) h := by
  obtain ⟨d, rfl⟩ := Nat.exists_eq_add_of_le' hd
  exact jE_eq (Nat.le_of_ble_eq_true rfl) (b_201_0 ⟨fun c => by omega, fun _ => ⟨fun _ => ⟨rfl, rfl⟩, fun c => by omega⟩⟩)
theorem m_195 (hd : 2 ≤ d) {a b : Int} (h0 : 0 ≤ a) (h1 : a < b) : jE d 195 [jI a, jI b] h none h := by
  obtain ⟨d, rfl⟩ : ∃ d', d = d' + 1 := ⟨d - 1, by omega⟩
  exact jE_eq (Nat.le_of_ble_eq_true rfl) (b_195_0 ⟨_, _, m_201 (by omega) h0 h1, rfl, rfl⟩)
theorem m_196 (hd : 3 ≤ d) (L : Ly p h) {i k : Nat} (hi : i < 9) (hk : k < (sBy.getD i []).length) : jE d 196 [jP (i + 13), jI (k : Int)] h (some (jI ((sBy.getD i []).getD k 0))) h := by
  obtain ⟨d, rfl⟩ : ∃ d', d = d' + 1 := ⟨d - 1, by omega⟩
  have hl := (sBy_len i hi).1
  have hb := sBy_b i hi k (by omega)
  have ec : ji2c (jand ((sBy.getD i []).getD k 0) 255) = (sBy.getD i []).getD k 0 := by
    have := jchr ((sBy.getD i []).getD k 0).toNat (by omega)
    rw [Int.toNat_of_nonneg hb.1] at this
    exact this
  refine jE_eq (Nat.le_of_ble_eq_true rfl) (b_196_0 ?_)
  rw [L.bT hi, L.bN hi]
  refine ⟨by decide, by decide, h, m_195 (by omega) (by omega) (by omega), Or.inl ⟨Or.inr (L.bT hi), by omega, by rw [L.bN hi]; omega⟩, ?_⟩
  rw [Int.toNat_natCast, L.bI hi, ec]
  exact ⟨⟨by omega, by omega⟩, rfl, rfl⟩
theorem m_190 (hd : 4 ≤ d) (L : Ly p h) {i k : Nat} (hi : i < 9) (hk : k < (sBy.getD i []).length) : jE d 190 [jP (i + 4), jI (k : Int)] h (some (jI ((sBy.getD i []).getD k 0))) h := by
  obtain ⟨d, rfl⟩ : ∃ d', d = d' + 1 := ⟨d - 1, by omega⟩
  have hl := (sBy_len i hi).1
  have hb := sBy_b i hi k (by omega)
  refine jE_eq (Nat.le_of_ble_eq_true rfl) (b_190_0 ⟨L.sT hi, 1, h, m_194 (by omega) L hi, fun c => absurd c (by decide), fun _ => ?_⟩)
  rw [L.sR hi]
  exact ⟨L.sT hi, _, h, m_196 (by omega) L hi hk, ⟨by omega, by omega⟩, rfl, rfl⟩
theorem m_197 (hd : 1 ≤ d) {b : Int} (h0 : 0 ≤ b) (h1 : b ≤ 255) : jE d 197 [jI b] h (some (jI 1)) h := by
  obtain ⟨d, rfl⟩ := Nat.exists_eq_add_of_le' hd
  exact jE_eq (Nat.le_of_ble_eq_true rfl) (b_197_0 ⟨fun c => by omega, fun _ => ⟨fun c => by omega, fun _ => ⟨Or.inr rfl, rfl, rfl⟩⟩⟩)
/-- the first place of b in the bytes from k on, or -1 -/
theorem m_199 (hd : 1 ≤ d) (L : Ly p h) {i : Nat} {b : Int} (hi : i < 9) : ∃ x, jE d 199 [jP (i + 13), jI b, jI 0, jI ((sBy.getD i []).length : Int)] h (some (jI x)) h ∧ (0 ≤ x ↔ ∃ k, k < (sBy.getD i []).length ∧ (sBy.getD i []).getD k 0 = ji2b b) := by
  obtain ⟨d, rfl⟩ := Nat.exists_eq_add_of_le' hd
  have hl := (sBy_len i hi).1
  have key : ∀ (j k : Nat), j + k = (sBy.getD i []).length → (∀ m, m < k → ¬ (sBy.getD i []).getD m 0 = ji2b b) → WF d 199 7 [jP (i + 13), jI b, jI 0, jI ((sBy.getD i []).length : Int), jI (ji2b b), jI (k : Int)] [] h (fun w h' => ∃ x, w = some (jI x) ∧ h' = h ∧ (0 ≤ x ↔ ∃ k, k < (sBy.getD i []).length ∧ (sBy.getD i []).getD k 0 = ji2b b)) := by
    intro j
    induction j with
    | zero =>
      intro k hk hn
      refine b_199_7 ⟨fun _ => ⟨-1, rfl, rfl, fun z => absurd z (by decide), fun ⟨m, m1, m2⟩ => absurd m2 (hn m (by omega))⟩, fun z => by omega⟩
    | succ j ih =>
      intro k hk hn
      refine b_199_7 ⟨fun z => by omega, fun _ => ⟨Or.inl ⟨Or.inr (L.bT hi), by omega, by rw [L.bN hi]; omega⟩, ?_⟩⟩
      rw [Int.toNat_natCast, L.bI hi]
      refine ⟨fun c => ?_, fun c => ⟨_, rfl, rfl, fun _ => ⟨k, by omega, Decidable.not_not.mp c⟩, fun _ => by omega⟩⟩
      rw [w32_i (by omega) (by omega)]
      exact ih (k + 1) (by omega) (fun m hm => by
        by_cases e : m = k
        · rw [e]; exact c
        · exact hn m (by omega))
  obtain ⟨v, h', hE, x, rfl, rfl, hx⟩ := jE_of (d := d) (y := 199) (h := h) (as := [jP (i + 13), jI b, jI 0, jI ((sBy.getD i []).length : Int)]) (Nat.le_of_ble_eq_true rfl) (b_199_0 (key _ 0 rfl (fun m hm => absurd hm (by omega))))
  exact ⟨x, hE, hx⟩
theorem m_198 (hd : 2 ≤ d) (L : Ly p h) {i : Nat} {b : Int} (hi : i < 9) (hn : 0 < (sBy.getD i []).length) (h0 : 0 ≤ b) (h1 : b ≤ 255) : ∃ x, jE d 198 [jP (i + 13), jI b, jI 0, jI ((sBy.getD i []).length : Int)] h (some (jI x)) h ∧ (0 ≤ x ↔ ∃ k, k < (sBy.getD i []).length ∧ (sBy.getD i []).getD k 0 = ji2b b) := by
  obtain ⟨d, rfl⟩ : ∃ d', d = d' + 1 := ⟨d - 1, by omega⟩
  obtain ⟨x, hE, hx⟩ := m_199 (d := d) (b := b) (by omega) L hi
  refine ⟨x, jE_eq (Nat.le_of_ble_eq_true rfl) (b_198_0 ⟨1, h, m_197 (by omega) h0 h1, fun _ => ?_, fun c => absurd (by decide) c⟩), hx⟩
  rw [L.bT hi, L.bN hi, if_neg (show ¬ (0 : Int) < 0 by decide), if_neg (Int.lt_irrefl _)]
  exact ⟨by decide, by decide, fun _ => ⟨x, h, hE, rfl, rfl⟩, fun c => by omega⟩
theorem m_192 (hd : 3 ≤ d) (L : Ly p h) {i : Nat} {b : Int} (hi : i < 9) (hn : 0 < (sBy.getD i []).length) (h0 : 0 ≤ b) (h1 : b ≤ 255) : ∃ x, jE d 192 [jP (i + 4), jI b, jI 0] h (some (jI x)) h ∧ (0 ≤ x ↔ ∃ k, k < (sBy.getD i []).length ∧ (sBy.getD i []).getD k 0 = ji2b b) := by
  obtain ⟨d, rfl⟩ : ∃ d', d = d' + 1 := ⟨d - 1, by omega⟩
  obtain ⟨x, hE, hx⟩ := m_198 (d := d) (b := b) (by omega) L hi hn h0 h1
  refine ⟨x, jE_eq (Nat.le_of_ble_eq_true rfl) (b_192_0 ⟨L.sT hi, 1, h, m_194 (by omega) L hi, fun c => absurd c (by decide), fun _ => ?_⟩), hx⟩
  rw [L.sR hi]
  exact ⟨L.sT hi, L.sT hi, _, h, m_189 (by omega) L hi, x, h, hE, rfl, rfl⟩
theorem m_191 (hd : 4 ≤ d) (L : Ly p h) {i : Nat} {b : Int} (hi : i < 9) (hn : 0 < (sBy.getD i []).length) (h0 : 0 ≤ b) (h1 : b ≤ 255) : ∃ x, jE d 191 [jP (i + 4), jI b] h (some (jI x)) h ∧ (0 ≤ x ↔ ∃ k, k < (sBy.getD i []).length ∧ (sBy.getD i []).getD k 0 = ji2b b) := by
  obtain ⟨d, rfl⟩ : ∃ d', d = d' + 1 := ⟨d - 1, by omega⟩
  obtain ⟨x, hE, hx⟩ := m_192 (d := d) (b := b) (by omega) L hi hn h0 h1
  exact ⟨x, jE_eq (Nat.le_of_ble_eq_true rfl) (b_191_0 ⟨L.sT hi, x, h, hE, rfl, rfl⟩), hx⟩
theorem i2c_b : ∀ n : Nat, n < 256 → ji2c (n : Int) = (n : Int) := by decide +kernel
theorem i2b_a : ∀ n : Nat, n < 256 → jand (ji2b (n : Int)) 255 = (n : Int) ∧ -128 ≤ ji2b (n : Int) ∧ ji2b (n : Int) ≤ 127 := by decide +kernel
theorem sg_ix : ∀ n : Nat, n < 256 → ((∃ k, k < (sBy.getD 0 []).length ∧ (sBy.getD 0 []).getD k 0 = ji2b (n : Int)) ↔ isSg (n : Int) = true) := by decide +kernel
/-- a SIGN of one byte -/
theorem m_191s (hd : 4 ≤ d) (L : Ly p h) {b : Int} (h0 : 0 ≤ b) (h1 : b ≤ 255) : ∃ x, jE d 191 [jP 4, jI (ji2c b)] h (some (jI x)) h ∧ (0 ≤ x ↔ isSg b = true) := by
  have e1 := i2c_b b.toNat (by omega)
  have e2 := sg_ix b.toNat (by omega)
  rw [Int.toNat_of_nonneg h0] at e1 e2
  obtain ⟨x, hE, hx⟩ := m_191 (d := d) (i := 0) (b := b) hd L (by decide) (by decide) h0 h1
  rw [e1]
  exact ⟨x, hE, hx.trans e2⟩
theorem m_188 (hd : 1 ≤ d) {a b : Int} : jE d 188 [jL a, jL b] h (some (jI (jcmp a b))) h := by
  obtain ⟨d, rfl⟩ := Nat.exists_eq_add_of_le' hd
  refine jE_eq (Nat.le_of_ble_eq_true rfl) (b_188_0 ⟨fun c => ⟨fun c2 => ⟨?_, rfl⟩, fun c2 => ⟨by rw [Decidable.not_not.mp c2], rfl⟩⟩, fun c => ⟨?_, rfl⟩⟩)
  · have : jcmp a b = 1 := by
      unfold jcmp at c c2 ⊢
      split
      · rfl
      · rename_i q
        rw [if_neg q] at c c2
        split at c
        · rename_i q2; rw [if_pos q2] at c2; exact absurd rfl c2
        · exact absurd c (by decide)
    rw [this]
  · have : jcmp a b = -1 := by
      unfold jcmp at c ⊢
      split
      · rename_i q; rw [if_pos q] at c; exact absurd (by decide) c
      · rename_i q
        rw [if_neg q] at c
        split
        · rename_i q2; rw [if_pos q2] at c; exact absurd (by decide) c
        · rfl
    rw [this]
end JDK
