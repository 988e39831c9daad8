-- needs: 20.num 21.lay 22.spec 23.va
/-! SMALL METHODS -/
theorem drop_getD {α : Type} {l : List α} {k : Nat} (hk : k < l.length) (z : α) : l.drop k = l.getD k z :: l.drop (k + 1) := by
  rw [List.drop_eq_getElem_cons hk, List.getD_eq_getElem?_getD, List.getElem?_eq_getElem hk]; rfl
theorem getD_snoc {α : Type} (l : List α) (x z : α) (k : Nat) : (l ++ [x]).getD k z = if k < l.length then l.getD k z else if k = l.length then x else z := by
  rw [List.getD_eq_getElem?_getD, List.getD_eq_getElem?_getD, List.getElem?_append]
  split
  · rfl
  · rename_i h
    by_cases e : k = l.length
    · rw [if_pos e, e, Nat.sub_self]; rfl
    · rw [if_neg e, List.getElem?_eq_none (by show 1 ≤ k - l.length; omega)]; rfl
theorem w32_i {x : Int} (h1 : -2147483648 ≤ x) (h2 : x ≤ 2147483647) : w32 x = x := w32_id ⟨h1, h2⟩
section LEAF
variable {p : Lpar} {d : Nat} {h : AH} {D t N : Nat}
/-! tokens -/
theorem m_70 (hd : 1 ≤ d) (L : Ly p h) (h0 : 0 ≤ ji h 37 4) (h1 : ji h 37 4 < 401) : jE d 70 [jP 37] h (some (jI (ji h 38 (Int.toNat (ji h 37 4))))) h := by
  obtain ⟨d, rfl⟩ := Nat.exists_eq_add_of_le' hd
  exact jE_eq (Nat.le_of_ble_eq_true rfl) (c_70_0 (Nat.zero_le _) L ⟨h0, h1, rfl, rfl⟩)
theorem m_71 (hd : 1 ≤ d) (L : Ly p h) (h0 : 0 ≤ ji h 37 4) (h1 : ji h 37 4 < 401) : jE d 71 [jP 37] h (some (jI (ji h 39 (Int.toNat (ji h 37 4))))) h := by
  obtain ⟨d, rfl⟩ := Nat.exists_eq_add_of_le' hd
  exact jE_eq (Nat.le_of_ble_eq_true rfl) (c_71_0 (Nat.zero_le _) L ⟨h0, h1, rfl, rfl⟩)
theorem m_72 (hd : 1 ≤ d) (L : Ly p h) (h0 : 0 ≤ ji h 37 4) (h1 : ji h 37 4 < 401) : jE d 72 [jP 37] h (some (jI (ji h 40 (Int.toNat (ji h 37 4))))) h := by
  obtain ⟨d, rfl⟩ := Nat.exists_eq_add_of_le' hd
  exact jE_eq (Nat.le_of_ble_eq_true rfl) (c_72_0 (Nat.zero_le _) L ⟨h0, h1, rfl, rfl⟩)
theorem m_73 (hd : 1 ≤ d) (L : Ly p h) (h0 : 0 ≤ ji h 37 4) (h1 : ji h 37 4 < 401) : jE d 73 [jP 37] h (some (jI (if ji h 38 (Int.toNat (ji h 37 4)) = 3 then ji h 40 (Int.toNat (ji h 37 4)) else 0))) h := by
  obtain ⟨d, rfl⟩ := Nat.exists_eq_add_of_le' hd
  exact jE_eq (Nat.le_of_ble_eq_true rfl) (c_73_0 (Nat.zero_le _) L ⟨h0, h1, fun c => ⟨h0, h1, by rw [if_pos c], rfl⟩, fun c => ⟨by rw [if_neg c], rfl⟩⟩)
theorem m_74 (hd : 1 ≤ d) (L : Ly p h) (h0 : 0 ≤ ji h 37 4) (h1 : ji h 37 4 + 1 < ji h 37 3) (h2 : ji h 37 4 < 401) : jE d 74 [jP 37] h none (wi h 37 4 (ji h 37 4 + 1)) := by
  obtain ⟨d, rfl⟩ := Nat.exists_eq_add_of_le' hd
  have e : w32 (ji h 37 4 + 1) = ji h 37 4 + 1 := w32_i (by omega) (by omega)
  refine jE_eq (Nat.le_of_ble_eq_true rfl) (c_74_0 (Nat.zero_le _) L ?_)
  rw [e]
  exact ⟨fun c => by omega, fun _ _ => ⟨rfl, rfl⟩⟩
theorem m_75y (hd : 1 ≤ d) (L : Ly p h) {k : Int} (h0 : 0 ≤ ji h 37 4) (h1 : ji h 37 4 < 401) (h2 : ji h 38 (Int.toNat (ji h 37 4)) = k → ji h 37 4 + 1 < ji h 37 3) (h3 : 0 ≤ ji h 39 (Int.toNat (ji h 37 4)) ∧ ji h 39 (Int.toNat (ji h 37 4)) ≤ 1000) (c : ji h 38 (Int.toNat (ji h 37 4)) = k) : jE d 75 [jP 37, jI k] h (some (jI 1)) (wi h 37 4 (ji h 37 4 + 1)) := by
  obtain ⟨d, rfl⟩ := Nat.exists_eq_add_of_le' hd
  have e : w32 (ji h 37 4 + 1) = ji h 37 4 + 1 := w32_i (by omega) (by omega)
  refine jE_eq (Nat.le_of_ble_eq_true rfl) (c_75_0 (Nat.zero_le _) L ⟨h0, h1, fun _ => ?_, fun q => absurd c q⟩)
  rw [e]
  exact ⟨fun q => by have := h2 c; omega, fun _ _ => ⟨rfl, rfl⟩⟩
theorem m_75n (hd : 1 ≤ d) (L : Ly p h) {k : Int} (h0 : 0 ≤ ji h 37 4) (h1 : ji h 37 4 < 401) (h2 : ji h 38 (Int.toNat (ji h 37 4)) = k → ji h 37 4 + 1 < ji h 37 3) (h3 : 0 ≤ ji h 39 (Int.toNat (ji h 37 4)) ∧ ji h 39 (Int.toNat (ji h 37 4)) ≤ 1000) (c : ¬ ji h 38 (Int.toNat (ji h 37 4)) = k) : jE d 75 [jP 37, jI k] h (some (jI 0)) (wi h 37 5 (-10 - ji h 39 (Int.toNat (ji h 37 4)))) := by
  obtain ⟨d, rfl⟩ := Nat.exists_eq_add_of_le' hd
  have e : w32 (-10 - ji h 39 (Int.toNat (ji h 37 4))) = -10 - ji h 39 (Int.toNat (ji h 37 4)) := w32_i (by omega) (by omega)
  refine jE_eq (Nat.le_of_ble_eq_true rfl) (c_75_0 (Nat.zero_le _) L ⟨h0, h1, fun q => absurd q c, fun _ => ⟨h0, h1, fun _ => ?_⟩⟩)
  rw [e]
  exact ⟨rfl, rfl⟩
theorem m_76 (hd : 1 ≤ d) (L : Ly p h) (h0 : 0 ≤ ji h 37 4) (h1 : ji h 37 4 < 401) (h3 : 0 ≤ ji h 39 (Int.toNat (ji h 37 4)) ∧ ji h 39 (Int.toNat (ji h 37 4)) ≤ 1000) : jE d 76 [jP 37] h (some (jI 0)) (wi h 37 5 (-10 - ji h 39 (Int.toNat (ji h 37 4)))) := by
  obtain ⟨d, rfl⟩ := Nat.exists_eq_add_of_le' hd
  have e : w32 (-10 - ji h 39 (Int.toNat (ji h 37 4))) = -10 - ji h 39 (Int.toNat (ji h 37 4)) := w32_i (by omega) (by omega)
  refine jE_eq (Nat.le_of_ble_eq_true rfl) (c_76_0 (Nat.zero_le _) L ⟨h0, h1, fun _ => ?_⟩)
  rw [e]
  exact ⟨rfl, rfl⟩
theorem m_77 (hd : 1 ≤ d) (L : Ly p h) {v : Int} (h3 : 0 ≤ v ∧ v ≤ 1000) : jE d 77 [jP 37, jI v] h none (wi h 37 5 (-10 - v)) := by
  obtain ⟨d, rfl⟩ := Nat.exists_eq_add_of_le' hd
  refine jE_eq (Nat.le_of_ble_eq_true rfl) (c_77_0 (Nat.zero_le _) L fun _ => ?_)
  rw [w32_i (by omega) (by omega)]
  exact ⟨rfl, rfl⟩
theorem m_69 (hd : 1 ≤ d) (L : Ly p h) {k q v : Int} (h0 : 0 ≤ ji h 37 3) (h1 : ji h 37 3 < 401) : jE d 69 [jP 37, jI k, jI q, jI v] h none (wi (wi (wi (wi h 38 (ji h 37 3).toNat k) 39 (ji h 37 3).toNat q) 40 (ji h 37 3).toNat v) 37 3 (ji h 37 3 + 1)) := by
  obtain ⟨d, rfl⟩ := Nat.exists_eq_add_of_le' hd
  have e : w32 (ji h 37 3 + 1) = ji h 37 3 + 1 := w32_i (by omega) (by omega)
  refine jE_eq (Nat.le_of_ble_eq_true rfl) (c_69_0 (Nat.zero_le _) L ⟨fun c => by omega, fun _ => ⟨h0, h1, h0, h1, h0, h1, fun _ => ?_⟩⟩)
  rw [e]
  exact ⟨rfl, rfl⟩
theorem m_78 (hd : 1 ≤ d) (L : Ly p h) {c : Int} : jE d 78 [jI c] h (some (jI (if 97 ≤ c ∧ c ≤ 122 then 1 else 0))) h := by
  obtain ⟨d, rfl⟩ := Nat.exists_eq_add_of_le' hd
  exact jE_eq (Nat.le_of_ble_eq_true rfl) (c_78_0 (Nat.zero_le _) L ⟨fun q => ⟨by rw [if_neg (by omega)], rfl⟩, fun q => ⟨fun q2 => ⟨by rw [if_neg (by omega)], rfl⟩, fun q2 => ⟨by rw [if_pos (by omega)], rfl⟩⟩⟩)
theorem m_79 (hd : 1 ≤ d) (L : Ly p h) {c : Int} : jE d 79 [jI c] h (some (jI (if 48 ≤ c ∧ c ≤ 57 then 1 else 0))) h := by
  obtain ⟨d, rfl⟩ := Nat.exists_eq_add_of_le' hd
  exact jE_eq (Nat.le_of_ble_eq_true rfl) (c_79_0 (Nat.zero_le _) L ⟨fun q => ⟨by rw [if_neg (by omega)], rfl⟩, fun q => ⟨fun q2 => ⟨by rw [if_neg (by omega)], rfl⟩, fun q2 => ⟨by rw [if_pos (by omega)], rfl⟩⟩⟩)
/-! the reference's -/
theorem jcmp_lt {x y : Int} : jcmp x y < 0 ↔ x < y := by
  unfold jcmp
  split
  · omega
  · split <;> omega
theorem jcmp_gt {x y : Int} : 0 < jcmp x y ↔ y < x := by
  unfold jcmp
  split
  · omega
  · split <;> omega
theorem jcmp_eq {x y : Int} : jcmp x y = 0 ↔ x = y := by
  unfold jcmp
  split
  · omega
  · split <;> omega
theorem m_107 (hd : 1 ≤ d) (L : Ly p h) {v a b : Int} : jE d 107 [jL v, jL a, jL b] h (some (jI (if a ≤ v ∧ v ≤ b then 1 else 0))) h := by
  obtain ⟨d, rfl⟩ := Nat.exists_eq_add_of_le' hd
  refine jE_eq (Nat.le_of_ble_eq_true rfl) (c_107_0 (Nat.zero_le _) L ?_)
  rw [jcmp_lt, jcmp_gt]
  exact ⟨fun q => ⟨by rw [if_neg (by omega)], rfl⟩, fun q => ⟨fun q2 => ⟨by rw [if_neg (by omega)], rfl⟩, fun q2 => ⟨by rw [if_pos (by omega)], rfl⟩⟩⟩
theorem m_110 (hd : 1 ≤ d) (L : Ly p h) {k : Int} (h0 : 0 ≤ k) (h1 : ji h 141 1 ≤ 400) : jE d 110 [jP 141, jI k] h (some (jI (if k < ji h 141 1 then ji h 142 k.toNat else -1))) h := by
  obtain ⟨d, rfl⟩ := Nat.exists_eq_add_of_le' hd
  exact jE_eq (Nat.le_of_ble_eq_true rfl) (c_110_0 (Nat.zero_le _) L ⟨fun q => ⟨by rw [if_neg (by omega)], rfl⟩, fun q => ⟨h0, by omega, by rw [if_pos (by omega)], rfl⟩⟩)
theorem m_111 (hd : 2 ≤ d) (L : Ly p h) {c : Int} : jE d 111 [jI c] h (some (jI (if 97 ≤ c ∧ c ≤ 122 then 1 else 0))) h := by
  obtain ⟨d, rfl⟩ := Nat.exists_eq_add_of_le' hd
  exact jE_eq (d := d + 1) (Nat.le_of_ble_eq_true rfl) (c_111_0 (Nat.zero_le _) L ⟨_, _, m_107 (by omega) L, L, by split <;> simp, rfl, rfl⟩)
theorem m_112 (hd : 2 ≤ d) (L : Ly p h) {c : Int} : jE d 112 [jI c] h (some (jI (if 48 ≤ c ∧ c ≤ 57 then 1 else 0))) h := by
  obtain ⟨d, rfl⟩ := Nat.exists_eq_add_of_le' hd
  exact jE_eq (d := d + 1) (Nat.le_of_ble_eq_true rfl) (c_112_0 (Nat.zero_le _) L ⟨_, _, m_107 (by omega) L, L, by split <;> simp, rfl, rfl⟩)
theorem m_119y (hd : 1 ≤ d) (L : Ly p h) {v : Int} (c : ji h 141 6 = -1) : jE d 119 [jP 141, jI v] h none (wi h 141 6 v) := by
  obtain ⟨d, rfl⟩ := Nat.exists_eq_add_of_le' hd
  exact jE_eq (Nat.le_of_ble_eq_true rfl) (c_119_0 (Nat.zero_le _) L ⟨fun _ _ => ⟨rfl, rfl⟩, fun q => absurd c q⟩)
theorem m_119n (hd : 1 ≤ d) (L : Ly p h) {v : Int} (c : ¬ ji h 141 6 = -1) : jE d 119 [jP 141, jI v] h none (wi h 141 6 (ji h 141 6)) := by
  obtain ⟨d, rfl⟩ := Nat.exists_eq_add_of_le' hd
  exact jE_eq (Nat.le_of_ble_eq_true rfl) (c_119_0 (Nat.zero_le _) L ⟨fun q => absurd q c, fun _ _ => ⟨rfl, rfl⟩⟩)
theorem m_122 (hd : 1 ≤ d) (L : Ly p h) : jE d 122 [jP 141] h (some (jI (if ji h 141 6 = -1 then 1 else 0))) h := by
  obtain ⟨d, rfl⟩ := Nat.exists_eq_add_of_le' hd
  exact jE_eq (Nat.le_of_ble_eq_true rfl) (c_122_0 (Nat.zero_le _) L ⟨fun q => ⟨by rw [if_pos q], rfl⟩, fun q => ⟨by rw [if_neg q], rfl⟩⟩)
/-- the first place of x among the first n, from k on -/
def fdA (f : Nat → Int) (x : Int) : Nat → Nat → Int
  | 0, _ => -1
  | n + 1, k => if f k = x then (k : Int) else fdA f x n (k + 1)
theorem m_123 (hd : 1 ≤ d) (L : Ly p h) {a n : Nat} {m : Int} {x : Int} (ht : jt h a = 20) (hn : (n : Int) = m) (hl : n ≤ jn h a) (hb : n ≤ 1000000) : jE d 123 [jP a, jI m, jI x] h (some (jI (fdA (ji h a) x n 0))) h := by
  obtain ⟨d, rfl⟩ := Nat.exists_eq_add_of_le' hd
  refine jE_eq (Nat.le_of_ble_eq_true rfl) (c_123_0 (Nat.zero_le _) L ?_)
  have key : ∀ (j k : Nat), j + k = n → WF d 123 2 [jP a, jI m, jI x, jI (k : Int)] [] h (fun v h' => v = some (jI (fdA (ji h a) x j k)) ∧ h' = h) := by
    intro j
    induction j with
    | zero => intro k hk; exact c_123_2 (Nat.zero_le _) L ⟨fun _ => ⟨rfl, rfl⟩, fun q => by omega⟩
    | succ j ih =>
      intro k hk
      refine c_123_2 (Nat.zero_le _) L ⟨fun q => by omega, fun q => ⟨⟨Or.inl ht, by omega, by omega⟩, ?_, ?_⟩⟩
      · rw [Int.toNat_natCast]
        intro e
        refine ⟨?_, rfl⟩
        show _ = some (jI (if ji h a k = x then (k : Int) else _))
        rw [if_pos e]
      · rw [Int.toNat_natCast]
        intro e
        have := ih (k + 1) (by omega)
        rw [w32_i (by omega) (by omega)]
        show WF d 123 2 [jP a, jI m, jI x, jI ((k : Int) + 1)] [] h (fun v h' => v = some (jI (if ji h a k = x then (k : Int) else fdA (ji h a) x j (k + 1))) ∧ h' = h)
        rw [if_neg e]
        exact this
  exact key n 0 rfl
theorem m_127 (hd : 1 ≤ d) (L : Ly p h) {s : Int} (h0 : s = -1 ∨ (0 ≤ s ∧ s < 6)) : jE d 127 [jP 141, jI s] h (some (jI (if s = -1 then 1 else ji h 145 s.toNat))) h := by
  obtain ⟨d, rfl⟩ := Nat.exists_eq_add_of_le' hd
  exact jE_eq (Nat.le_of_ble_eq_true rfl) (c_127_0 (Nat.zero_le _) L ⟨fun q => ⟨by rw [if_pos q], rfl⟩, fun q => ⟨by omega, by omega, by rw [if_neg q], rfl⟩⟩)
theorem m_147 (hd : 1 ≤ d) (L : Ly p h) {q : Int} (h0 : -20 ≤ q) : jE d 147 [jP 141, jI q] h (some (jI (if 0 ≤ q then q else ji h 173 (-1 - q).toNat))) h := by
  obtain ⟨d, rfl⟩ := Nat.exists_eq_add_of_le' hd
  refine jE_eq (Nat.le_of_ble_eq_true rfl) (c_147_0 (Nat.zero_le _) L ⟨fun z => ⟨by rw [if_pos z], rfl⟩, fun z => ?_⟩)
  rw [w32_i (by omega) (by omega)]
  exact ⟨by omega, by omega, by rw [if_neg z], rfl⟩
theorem m_136 (hd : 1 ≤ d) (L : Ly p h) {o a b c : Int} (h0 : 0 ≤ ji h 141 33) (h1 : ji h 141 33 < 2000) : jE d 136 [jP 141, jI o, jI a, jI b, jI c] h none (wi (wi (wi (wi (wi h 160 (ji h 141 33).toNat o) 161 (ji h 141 33).toNat a) 162 (ji h 141 33).toNat b) 163 (ji h 141 33).toNat c) 141 33 (ji h 141 33 + 1)) := by
  obtain ⟨d, rfl⟩ := Nat.exists_eq_add_of_le' hd
  have e : w32 (ji h 141 33 + 1) = ji h 141 33 + 1 := w32_i (by omega) (by omega)
  refine jE_eq (Nat.le_of_ble_eq_true rfl) (c_136_0 (Nat.zero_le _) L ⟨h0, h1, h0, h1, h0, h1, h0, h1, fun _ => ?_⟩)
  rw [e]
  exact ⟨rfl, rfl⟩
theorem m_182 (hd : 1 ≤ d) (L : Ly p h) {c : Int} (h0 : 0 ≤ ji h 141 81) (h1 : ji h 141 81 < 2400) : jE d 182 [jP 141, jI c] h none (wi (wi h 195 (ji h 141 81).toNat c) 141 81 (ji h 141 81 + 1)) := by
  obtain ⟨d, rfl⟩ := Nat.exists_eq_add_of_le' hd
  have e : w32 (ji h 141 81 + 1) = ji h 141 81 + 1 := w32_i (by omega) (by omega)
  refine jE_eq (Nat.le_of_ble_eq_true rfl) (c_182_0 (Nat.zero_le _) L ⟨h0, h1, fun _ => ?_⟩)
  rw [e]
  exact ⟨rfl, rfl⟩
end LEAF
