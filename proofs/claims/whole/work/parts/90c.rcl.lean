/-! THE REFERENCE: its plain calls -/
section RCA
variable {p : Lpar} {d : Nat} {h h' g : AH} {c : Dc} {T : Txt} {pt : Nat → Int} {W : List Int} {k i j w x r v : Int}
/-- a printed text stands in the reference -/
def PapM (W : List Int) (h : AH) : Prop := ji h 141 81 = (W.length : Int) ∧ W.length ≤ 1551 ∧ ∀ k, k < W.length → ji h 195 k = W.getD k 0
theorem Rst.t0 (S : Rst p T c pt h) : 0 ≤ tot (dS c) (dX c) ∧ 0 ≤ tot (dS c) (dR c) := ⟨(tot_r S.2.2.1.1.1.2.1 _).1, (tot_r S.2.2.1.1.1.2.1 _).1⟩
theorem m_167 (hd : 10 ≤ d) (S : Rst p T c pt h) : jE d 167 [jP 141, jI x] h (some (jI (if isC c x then 1 else 0))) h := by
  obtain ⟨d, rfl⟩ : ∃ d', d = d' + 1 := ⟨d - 1, by omega⟩
  have e := S.2.2.2.2.1.1
  have t := S.2.2.1.2.1
  have t0 := S.t0.1
  refine jE_eq (Nat.le_of_ble_eq_true rfl) (c_167_0 (by omega) S.1 ?_)
  rw [e, w32_i (x := tot (dS c) (dX c) - 1) (by omega) (by omega)]
  exact ⟨fun z => ⟨by rw [if_pos ⟨z.1, by omega⟩], rfl⟩, fun z => ⟨by rw [if_neg (by omega)], rfl⟩⟩
theorem m_168 (hd : 10 ≤ d) (S : Rst p T c pt h) : jE d 168 [jP 141, jI x] h (some (jI (if isR c x then 1 else 0))) h := by
  obtain ⟨d, rfl⟩ : ∃ d', d = d' + 1 := ⟨d - 1, by omega⟩
  have e := S.2.2.2.2.2.1.1
  have t := S.2.2.1.2.2.1
  have t0 := S.t0.2
  refine jE_eq (Nat.le_of_ble_eq_true rfl) (c_168_0 (by omega) S.1 ?_)
  rw [e, w32_i (x := tot (dS c) (dR c) - 1) (by omega) (by omega)]
  exact ⟨fun z => ⟨by rw [if_pos ⟨z.1, by omega⟩], rfl⟩, fun z => ⟨by rw [if_neg (by omega)], rfl⟩⟩
theorem ow_no {S O : List (Int × Int)} (z : ¬ (0 ≤ x ∧ x < tot S O)) : owO S O x = -1 := by unfold owO; rw [if_pos (by omega)]
theorem m_169 (hd : 11 ≤ d) (S : Rst p T c pt h) : jE d 169 [jP 141, jI x, jI w] h (some (jI (aAbout c pt x w))) h := by
  obtain ⟨d, rfl⟩ : ∃ d', d = d' + 1 := ⟨d - 1, by omega⟩
  refine jE_eq (Nat.le_of_ble_eq_true rfl) (c_169_0 (by omega) S.1 ⟨_, h, m_167 (by omega) S, S.1, fun z => ⟨by unfold aAbout; rw [if_pos (ow_no (bz0 z))], rfl⟩, fun z => ?_⟩)
  have z := bz1 z
  have t := S.2.2.1.2.1
  obtain ⟨c1, c2, c3, c4, c5, c6⟩ := S.2.2.2.2.1.2 x.toNat (by omega)
  rw [show ((x.toNat : Nat) : Int) = x by omega] at c1 c2 c3 c4 c5
  unfold aAbout
  rw [if_neg (ow_in z)]
  refine ⟨fun y => c_169_94 (by omega) S.1 ⟨?_, rfl⟩, fun y => c_169_52 (by omega) S.1 ⟨z.1, by omega, ?_, rfl⟩, fun y => c_169_59 (by omega) S.1 ⟨z.1, by omega, ?_, rfl⟩, fun y => c_169_66 (by omega) S.1 ⟨z.1, by omega, ?_, rfl⟩, fun y => c_169_73 (by omega) S.1 ⟨z.1, by omega, ?_, rfl⟩, fun y => c_169_80 (by omega) S.1 ⟨z.1, by omega, ?_, rfl⟩, fun y => c_169_87 (by omega) S.1 ⟨z.1, by omega, ?_, rfl⟩⟩
  · rw [if_neg (by omega), if_neg (by omega), if_neg (by omega), if_neg (by omega), if_neg (by omega), if_neg (by omega)]
  · rw [if_pos y, c1]
  · rw [if_neg (by omega), if_pos y, c2]
  · rw [if_neg (by omega), if_neg (by omega), if_pos y, c3]
  · rw [if_neg (by omega), if_neg (by omega), if_neg (by omega), if_pos y, c4]
  · rw [if_neg (by omega), if_neg (by omega), if_neg (by omega), if_neg (by omega), if_pos y, c5]
  · rw [if_neg (by omega), if_neg (by omega), if_neg (by omega), if_neg (by omega), if_neg (by omega), if_pos y, c6]
theorem m_170 (hd : 11 ≤ d) (S : Rst p T c pt h) : jE d 170 [jP 141, jI x, jI w] h (some (jI (aRow c x w))) h := by
  obtain ⟨d, rfl⟩ : ∃ d', d = d' + 1 := ⟨d - 1, by omega⟩
  refine jE_eq (Nat.le_of_ble_eq_true rfl) (c_170_0 (by omega) S.1 ⟨_, h, m_168 (by omega) S, S.1, fun z => ⟨by unfold aRow; rw [if_pos (ow_no (bz0 z))], rfl⟩, fun z => ?_⟩)
  have z := bz1 z
  have t := S.2.2.1.2.2.1
  obtain ⟨c1, c2, c3, c4, _⟩ := S.2.2.2.2.2.1.2 x.toNat (by omega)
  rw [show ((x.toNat : Nat) : Int) = x by omega] at c1 c2 c3 c4
  unfold aRow
  rw [if_neg (ow_in z)]
  refine ⟨fun y => c_170_72 (by omega) S.1 ⟨?_, rfl⟩, fun y => c_170_44 (by omega) S.1 ⟨z.1, by omega, ?_, rfl⟩, fun y => c_170_51 (by omega) S.1 ⟨z.1, by omega, ?_, rfl⟩, fun y => c_170_58 (by omega) S.1 ⟨z.1, by omega, ?_, rfl⟩, fun y => c_170_65 (by omega) S.1 ⟨z.1, by omega, ?_, rfl⟩⟩
  · rw [if_neg (by omega), if_neg (by omega), if_neg (by omega), if_neg (by omega)]
  · rw [if_pos y, c1]
  · rw [if_neg (by omega), if_pos y, c2]
  · rw [if_neg (by omega), if_neg (by omega), if_pos y, c3]
  · rw [if_neg (by omega), if_neg (by omega), if_neg (by omega), if_pos y, c4]
theorem m_171 (hd : 11 ≤ d) (S : Rst p T c pt h) : jE d 171 [jP 141, jI r, jI x] h (some (jL (aFac c r x))) h := by
  obtain ⟨d, rfl⟩ : ∃ d', d = d' + 1 := ⟨d - 1, by omega⟩
  unfold aFac
  refine jE_eq (Nat.le_of_ble_eq_true rfl) (c_171_0 (by omega) S.1 ⟨_, h, m_168 (by omega) S, S.1, fun z => ⟨by rw [if_neg (bz0 z)], rfl⟩, fun z => ⟨_, h, m_167 (by omega) S, S.1, fun y => ⟨by rw [if_pos (bz1 z), if_neg (bz0 y)], rfl⟩, fun y => ?_⟩⟩)
  have z := bz1 z
  have y := bz1 y
  have o1 := S.2.2.1.2.1
  have o2 := S.2.2.1.2.2.1
  have q := (S.2.2.2.2.2.1.2 r.toNat (by omega)).2.2.2.2.1 x.toNat (by omega)
  rw [if_pos z, if_pos y, w32_i (x := 41 * r) (by omega) (by omega), w32_i (x := 41 * r + x) (by omega) (by omega), show Int.toNat (41 * r + x) = 41 * r.toNat + x.toNat by omega]
  exact ⟨by omega, by omega, by rw [q], rfl⟩
theorem m_172 (hd : 11 ≤ d) (S : Rst p T c pt h) : jE d 172 [jP 141, jI r] h (some (jL (aRight c r))) h := by
  obtain ⟨d, rfl⟩ : ∃ d', d = d' + 1 := ⟨d - 1, by omega⟩
  unfold aRight
  refine jE_eq (Nat.le_of_ble_eq_true rfl) (c_172_0 (by omega) S.1 ⟨_, h, m_168 (by omega) S, S.1, fun z => ⟨by rw [if_neg (bz0 z)], rfl⟩, fun z => ?_⟩)
  have z := bz1 z
  have o2 := S.2.2.1.2.2.1
  have q := (S.2.2.2.2.2.1.2 r.toNat (by omega)).2.2.2.2.2
  rw [if_pos z, w32_i (x := 41 * r) (by omega) (by omega), w32_i (x := 41 * r + 40) (by omega) (by omega), show Int.toNat (41 * r + 40) = 41 * r.toNat + 40 by omega]
  exact ⟨by omega, by omega, by rw [q], rfl⟩
theorem m_173 (hd : 11 ≤ d) (S : Rst p T c pt h) : jE d 173 [jP 141, jI x] h (some (jL (aPrice c x))) h := by
  obtain ⟨d, rfl⟩ : ∃ d', d = d' + 1 := ⟨d - 1, by omega⟩
  have o1 := S.2.2.1.2.1
  have G := S.2.2.2.2.2.2
  have eg := G.1
  unfold aPrice
  refine jE_eq (Nat.le_of_ble_eq_true rfl) (c_173_0 (by omega) S.1 ?_)
  refine ⟨fun z => ?_, fun z => ⟨_, h, m_167 (by omega) S, S.1, fun y => ⟨by rw [if_neg z, if_neg (bz0 y)], rfl⟩, fun y => ?_⟩⟩
  · rw [eg, if_pos z]
    refine ⟨fun u => ⟨by rw [if_pos u], rfl⟩, fun u => ⟨fun _ => ⟨by rw [if_neg u, show Int.toNat 40 = 40 from rfl, G.2.1 u 40 (by omega)], rfl⟩, fun t => absurd z t⟩⟩
  · have y := bz1 y
    rw [eg, if_neg z, if_pos y]
    refine ⟨fun u => ⟨by rw [if_pos u], rfl⟩, fun u => ⟨fun t => absurd t z, fun _ => ⟨y.1, by omega, by rw [if_neg u, G.2.1 u x.toNat (by omega)], rfl⟩⟩⟩
theorem m_174 (hd : 10 ≤ d) (S : Rst p T c pt h) {n : Nat} (hn : ji h 141 81 = (n : Int)) : jE d 174 [jP 141, jI w] h (some (jI (aCount T c n w))) h := by
  obtain ⟨d, rfl⟩ : ∃ d', d = d' + 1 := ⟨d - 1, by omega⟩
  have K := S.2.2.2.1.1
  have O := S.2.2.1
  have G := S.2.2.2.2.2.2
  refine jE_eq (Nat.le_of_ble_eq_true rfl) (c_174_0 (by omega) S.1 ⟨fun z => ⟨?_, rfl⟩, fun z => ⟨by omega, by omega, ?_, rfl⟩, fun z => ⟨by omega, by omega, ?_, rfl⟩, fun z => ⟨by omega, by omega, ?_, rfl⟩, fun z => ⟨by omega, by omega, ?_, rfl⟩, fun z => ⟨?_, rfl⟩, fun z => ⟨?_, rfl⟩, fun z => ⟨?_, rfl⟩, fun z => ⟨?_, rfl⟩, fun z => ⟨?_, rfl⟩, fun z => ⟨?_, rfl⟩⟩)
  · unfold aCount; rw [if_neg (by omega), if_neg (by omega), if_neg (by omega), if_neg (by omega), if_neg (by omega), if_neg (by omega), if_neg (by omega), if_neg (by omega), if_neg (by omega), if_neg (by omega)]
  · subst z; rw [show Int.toNat 0 = 0 from rfl, K 0 (by omega)]; rfl
  · subst z; rw [show Int.toNat 1 = 1 from rfl, K 1 (by omega)]; rfl
  · subst z; rw [show Int.toNat 2 = 2 from rfl, K 2 (by omega)]; rfl
  · subst z; rw [show Int.toNat 3 = 3 from rfl, K 3 (by omega)]; rfl
  · subst z; rw [S.2.2.2.2.1.1]; rfl
  · subst z; rw [S.2.2.2.2.2.1.1]; rfl
  · subst z; rw [G.2.2, w32_i (by have := O.2.2.2.1; omega) (by have := O.2.2.2.2; omega)]; rfl
  · subst z; rw [G.1]; rfl
  · subst z; rw [S.2.1.1]; rfl
  · subst z; rw [hn]; rfl
theorem m_162 (hd : 10 ≤ d) (S : Rst p T c pt h) : jE d 162 [jP 141, jI k, jI w] h (some (jI (aSet c k w))) h := by
  obtain ⟨d, rfl⟩ : ∃ d', d = d' + 1 := ⟨d - 1, by omega⟩
  have K := S.2.2.2.1
  have l6 : (dS c).length ≤ 6 := S.2.2.1.1.1.2.1.1
  have e0 : ji h 175 0 = ((dS c).length : Int) := K.1 0 (by omega)
  refine jE_eq (Nat.le_of_ble_eq_true rfl) (c_162_0 (by omega) S.1 ?_)
  rw [show Int.toNat 0 = 0 from rfl, e0, w32_i (x := ((dS c).length : Int) - 1) (by omega) (by omega)]
  unfold aSet
  refine ⟨fun z => ?_, fun z => ⟨by rw [if_neg (by omega)], rfl⟩⟩
  have q := K.2.2.1 k.toNat (by omega)
  rw [if_pos ⟨z.1, by omega⟩]
  refine ⟨fun y => ⟨fun u => ⟨z.1, by omega, ?_, rfl⟩, fun u => ⟨z.1, by omega, ?_, rfl⟩⟩, fun y => ⟨?_, rfl⟩⟩
  · rw [if_pos u, q.2, szO_in (by omega) (by omega)]
  · rw [if_neg u, if_pos (by omega), q.1]; rfl
  · rw [if_neg (by omega), if_neg (by omega)]
end RCA
