/-! THE ANSWERS; the class's plain calls -/
abbrev aUnk : Int := -100001
def aSet (c : Dc) (k w : Int) : Int := if 0 ≤ k ∧ k < ((dS c).length : Int) then (if w = 0 then szO (dS c) k else if w = 1 then fsO (dS c) k else -100001) else -100001
def aData (c : Dc) (k i j : Int) : Int := if spO (dS c) (dT c) k i j = -1 then -100001 else (dV c).getD (spO (dS c) (dT c) k i j).toNat 0
def aCol (c : Dc) (k i j : Int) : Int := if spO (dS c) (dX c) k i j = -1 then -100001 else spO (dS c) (dX c) k i j
def aAbout (c : Dc) (pt : Nat → Int) (x w : Int) : Int := if owO (dS c) (dX c) x = -1 then -100001 else if w = 0 then owO (dS c) (dX c) x else if w = 1 then fN (dS c) (dX c) x else if w = 2 then sN (dS c) (dX c) x else if w = 3 then ((dB c).getD (owO (dS c) (dX c) x).toNat (0, 0)).1 else if w = 4 then ((dB c).getD (owO (dS c) (dX c) x).toNat (0, 0)).2 else if w = 5 then pt x.toNat else -100001
def aRow (c : Dc) (x w : Int) : Int := if owO (dS c) (dR c) x = -1 then -100001 else if w = 0 then owO (dS c) (dR c) x else if w = 1 then fN (dS c) (dR c) x else if w = 2 then sN (dS c) (dR c) x else if w = 3 then ((dL c).getD (owO (dS c) (dR c) x).toNat zL).1 else -100001
abbrev isC (c : Dc) (x : Int) : Prop := 0 ≤ x ∧ x < tot (dS c) (dX c)
abbrev isR (c : Dc) (x : Int) : Prop := 0 ≤ x ∧ x < tot (dS c) (dR c)
def aFac (c : Dc) (r x : Int) : Int := if isR c r then (if isC c x then w64 (rowL c r.toNat x.toNat) else -100001) else -100001
def aRight (c : Dc) (r : Int) : Int := if isR c r then w64 (-(rowL c r.toNat 40)) else -100001
def aPrice (c : Dc) (x : Int) : Int := if x = -1 then (if dG c = 0 then -100003 else w64 (lin c (dE c) (fun _ => 0) 40)) else if isC c x then (if dG c = 0 then -100003 else w64 (lin c (dE c) (fun _ => 0) x.toNat)) else -100001
def aCount (T : Txt) (c : Dc) (n : Nat) (w : Int) : Int := if w = 0 then ((dS c).length : Int) else if w = 1 then ((dT c).length : Int) else if w = 2 then ((dX c).length : Int) else if w = 3 then ((dR c).length : Int) else if w = 4 then tot (dS c) (dX c) else if w = 5 then tot (dS c) (dR c) else if w = 6 then dWk c else if w = 7 then dG c else if w = 8 then (T.1 : Int) else if w = 9 then (n : Int) else -100001
section ANS
variable {p : Lpar} {d D : Nat} {h h' g : AH} {c : Dc} {T : Txt} {pt : Nat → Int} {k i j w x r v : Int}
theorem szO_in {S : List (Int × Int)} (h0 : 0 ≤ k) (h1 : k < (S.length : Int)) : szO S k = (S.getD k.toNat (0, 0)).2 := by unfold szO; rw [if_neg (by omega)]
theorem Cst.ok (S : Cst p T c pt h) : okS (dS c) ∧ okO (dS c) (dT c) ∧ (dT c).length ≤ 6 ∧ okO (dS c) (dX c) ∧ (dX c).length ≤ 6 ∧ okO (dS c) (dR c) ∧ (dR c).length ≤ 10 := by
  have O := S.2.2.2.2.2.2.1.1
  exact ⟨O.1.2.1, O.1.2.2.1, O.1.2.2.2.1, O.1.2.2.2.2.1, O.1.2.2.2.2.2.1, O.2.1, O.2.1.1⟩
theorem Cst.B (S : Cst p T c pt h) : DecB (pD p) c h := S.2.2.2.2.1
theorem isT1 (hD : isD D) : isTh D (D + 14) 6 := ⟨hD, Or.inl ⟨rfl, rfl⟩⟩
theorem isT2 (hD : isD D) : isTh D (D + 18) 6 := ⟨hD, Or.inr (Or.inl ⟨rfl, rfl⟩)⟩
theorem isT3 (hD : isD D) : isTh D (D + 22) 10 := ⟨hD, Or.inr (Or.inr ⟨rfl, rfl⟩)⟩
theorem Cst.spT (S : Cst p T c pt h) (hd : 2 ≤ d) (hi : r32 i) (hj : r32 j) : jE d 60 [jP (pD p + 14), jI k, jI i, jI j] h (some (jI (spO (dS c) (dT c) k i j))) h := m_60 (S := dS c) hd S.1 S.1.iD (isT1 S.1.iD) S.B.1 S.ok.1 S.B.2.1 S.ok.2.1 S.ok.2.2.1 hi hj
theorem Cst.spX (S : Cst p T c pt h) (hd : 2 ≤ d) (hi : r32 i) (hj : r32 j) : jE d 60 [jP (pD p + 18), jI k, jI i, jI j] h (some (jI (spO (dS c) (dX c) k i j))) h := m_60 (S := dS c) hd S.1 S.1.iD (isT2 S.1.iD) S.B.1 S.ok.1 S.B.2.2.1 S.ok.2.2.2.1 S.ok.2.2.2.2.1 hi hj
theorem Cst.owX (S : Cst p T c pt h) (hd : 1 ≤ d) : jE d 61 [jP (pD p + 18), jI x] h (some (jI (owO (dS c) (dX c) x))) h := m_61 (S := dS c) hd S.1 S.1.iD (isT2 S.1.iD) S.ok.1 S.B.2.2.1 S.ok.2.2.2.1 S.ok.2.2.2.2.1
theorem Cst.owR (S : Cst p T c pt h) (hd : 1 ≤ d) : jE d 61 [jP (pD p + 22), jI x] h (some (jI (owO (dS c) (dR c) x))) h := m_61 (S := dS c) hd S.1 S.1.iD (isT3 S.1.iD) S.ok.1 S.B.2.2.2.1 S.ok.2.2.2.2.2.1 S.ok.2.2.2.2.2.2
theorem Cst.fnX (S : Cst p T c pt h) (hd : 2 ≤ d) : jE d 62 [jP (pD p + 18), jI x] h (some (jI (fN (dS c) (dX c) x))) h := m_62 (S := dS c) hd S.1 S.1.iD (isT2 S.1.iD) S.B.1 S.ok.1 S.B.2.2.1 S.ok.2.2.2.1 S.ok.2.2.2.2.1
theorem Cst.fnR (S : Cst p T c pt h) (hd : 2 ≤ d) : jE d 62 [jP (pD p + 22), jI x] h (some (jI (fN (dS c) (dR c) x))) h := m_62 (S := dS c) hd S.1 S.1.iD (isT3 S.1.iD) S.B.1 S.ok.1 S.B.2.2.2.1 S.ok.2.2.2.2.2.1 S.ok.2.2.2.2.2.2
theorem Cst.snX (S : Cst p T c pt h) (hd : 2 ≤ d) : jE d 63 [jP (pD p + 18), jI x] h (some (jI (sN (dS c) (dX c) x))) h := m_63 (S := dS c) hd S.1 S.1.iD (isT2 S.1.iD) S.B.1 S.ok.1 S.B.2.2.1 S.ok.2.2.2.1 S.ok.2.2.2.2.1
theorem Cst.snR (S : Cst p T c pt h) (hd : 2 ≤ d) : jE d 63 [jP (pD p + 22), jI x] h (some (jI (sN (dS c) (dR c) x))) h := m_63 (S := dS c) hd S.1 S.1.iD (isT3 S.1.iD) S.B.1 S.ok.1 S.B.2.2.2.1 S.ok.2.2.2.2.2.1 S.ok.2.2.2.2.2.2
theorem m_85 (hd : 10 ≤ d) (S : Cst p T c pt h) : jE d 85 [jP 32, jI k, jI w] h (some (jI (aSet c k w))) h := by
  obtain ⟨d, rfl⟩ : ∃ d', d = d' + 1 := ⟨d - 1, by omega⟩
  have st := S.B.1
  have l6 := S.ok.1.1
  refine jE_eq (Nat.le_of_ble_eq_true rfl) (c_85_0 (by omega) S.1 ?_)
  rw [st.1]
  unfold aSet
  refine ⟨fun z => ⟨by rw [if_neg (by omega)], rfl⟩, fun z => ⟨fun y => ?_, fun y => ⟨by rw [if_neg (by omega)], rfl⟩⟩⟩
  have q := st.2 k.toNat (by omega)
  rw [if_pos ⟨by omega, y⟩]
  refine ⟨fun u => ⟨by omega, by omega, ?_, rfl⟩, fun u => ⟨fun t => ⟨by omega, by omega, ?_, rfl⟩, fun t => ⟨?_, rfl⟩⟩⟩
  · rw [if_pos u, q.2, szO_in (by omega) y]
  · rw [if_neg u, if_pos t, q.1]; rfl
  · rw [if_neg u, if_neg t]
theorem m_86 (hd : 10 ≤ d) (S : Cst p T c pt h) (hi : r32 i) (hj : r32 j) : jE d 86 [jP 32, jI k, jI i, jI j] h (some (jI (aData c k i j))) h := by
  obtain ⟨d, rfl⟩ : ∃ d', d = d' + 1 := ⟨d - 1, by omega⟩
  have b := S.B.2.2.2.2.1
  have E9 := m_9 (d := d) (k := spO (dS c) (dT c) k i j) (by omega) S.1 S.1.iD b.1 S.2.2.2.2.2.2.1.2.1 b.2
  refine jE_eq (Nat.le_of_ble_eq_true rfl) (c_86_0 (by omega) S.1 ⟨_, h, S.spT (by omega) hi hj, S.1, fun z => ⟨?_, rfl⟩, fun z => ⟨_, h, E9, S.1, ?_, rfl⟩⟩)
  · unfold aData; rw [if_pos z]
  · unfold aData
    rw [if_neg z]
    by_cases y : spO (dS c) (dT c) k i j < 0
    · exfalso
      unfold spO at y z
      have t0 := tot_r S.ok.1
      split at y
      · rename_i q; rw [if_pos q] at z; exact z rfl
      · rename_i q
        rw [if_neg q] at z
        split at y
        · rename_i q2; rw [if_pos q2] at z; exact z rfl
        · rename_i q2
          have o1 := (ofO_r S.ok.1 (thS (dT c) k).1 i).2.2 (fun u => q2 (Or.inl u))
          have o2 := (ofO_r S.ok.1 (thS (dT c) k).2 j).2.2 (fun u => q2 (Or.inr u))
          have s2 := szO_r S.ok.1 (thS (dT c) k).2
          have m1 : 0 ≤ ofO (dS c) (thS (dT c) k).1 i * szO (dS c) (thS (dT c) k).2 := Int.mul_nonneg o1.1 s2.1
          have t1 : 0 ≤ stO (dS c) (dT c) k.toNat := (t0 _).1
          omega
    · rw [if_neg y]
theorem m_87 (hd : 10 ≤ d) (S : Cst p T c pt h) (hi : r32 i) (hj : r32 j) : jE d 87 [jP 32, jI k, jI i, jI j] h (some (jI (aCol c k i j))) h := by
  obtain ⟨d, rfl⟩ : ∃ d', d = d' + 1 := ⟨d - 1, by omega⟩
  refine jE_eq (Nat.le_of_ble_eq_true rfl) (c_87_0 (by omega) S.1 ⟨_, h, S.spX (by omega) hi hj, S.1, fun z => ⟨?_, rfl⟩, fun z => ⟨?_, rfl⟩⟩)
  · unfold aCol; rw [if_pos z]
  · unfold aCol; rw [if_neg z]
theorem Cst.owX_r (S : Cst p T c pt h) (z : ¬ owO (dS c) (dX c) x = -1) : 0 ≤ x ∧ x < tot (dS c) (dX c) ∧ x < 40 ∧ 0 ≤ owO (dS c) (dX c) x ∧ owO (dS c) (dX c) x < ((dX c).length : Int) ∧ owO (dS c) (dX c) x < 6 ∧ (owO (dS c) (dX c) x).toNat < (dB c).length := by
  have q := owO_r z
  have l6 := S.ok.2.2.2.2.1
  have t := S.2.2.2.2.2.2.1.2.2.1
  have lb : (dB c).length = (dX c).length := S.2.2.2.2.2.2.1.1.2.2.1
  exact ⟨q.1, q.2.1, by omega, q.2.2.1, q.2.2.2.1, by omega, by omega⟩
theorem Cst.owR_r (S : Cst p T c pt h) (z : ¬ owO (dS c) (dR c) x = -1) : 0 ≤ x ∧ x < tot (dS c) (dR c) ∧ x < 40 ∧ 0 ≤ owO (dS c) (dR c) x ∧ owO (dS c) (dR c) x < ((dR c).length : Int) ∧ owO (dS c) (dR c) x < 10 ∧ (owO (dS c) (dR c) x).toNat < (dL c).length := by
  have q := owO_r z
  have l6 := S.ok.2.2.2.2.2.2
  have t := S.2.2.2.2.2.2.1.2.2.2.1
  have lb : (dL c).length = (dR c).length := S.2.2.2.2.2.2.1.1.2.2.2.1
  exact ⟨q.1, q.2.1, by omega, q.2.2.1, q.2.2.2.1, by omega, by omega⟩
theorem m_88 (hd : 10 ≤ d) (S : Cst p T c pt h) : jE d 88 [jP 32, jI x, jI w] h (some (jI (aAbout c pt x w))) h := by
  obtain ⟨d, rfl⟩ : ∃ d', d = d' + 1 := ⟨d - 1, by omega⟩
  refine jE_eq (Nat.le_of_ble_eq_true rfl) (c_88_0 (by omega) S.1 ⟨_, h, S.owX (by omega), S.1, fun z => ⟨by unfold aAbout; rw [if_pos z], rfl⟩, fun z => ?_⟩)
  obtain ⟨r1, r2, r3, r4, r5, r6, r7⟩ := S.owX_r z
  have b := S.B.2.2.2.2.2.1 _ r7
  have P := S.2.2.2.2.2.2.2.2 x.toNat (by omega)
  unfold aAbout
  rw [if_neg z]
  refine ⟨fun y => c_88_116 (by omega) S.1 ⟨?_, rfl⟩, fun y => c_88_60 (by omega) S.1 ⟨?_, rfl⟩, fun y => c_88_62 (by omega) S.1 ⟨_, h, S.fnX (by omega), S.1, ?_, rfl⟩, fun y => c_88_74 (by omega) S.1 ⟨_, h, S.snX (by omega), S.1, ?_, rfl⟩, fun y => c_88_86 (by omega) S.1 ⟨r4, r6, ?_, rfl⟩, fun y => c_88_96 (by omega) S.1 ⟨r4, r6, ?_, rfl⟩, fun y => c_88_106 (by omega) S.1 ⟨r1, r3, ?_, rfl⟩⟩
  · rw [if_neg (by omega), if_neg (by omega), if_neg (by omega), if_neg (by omega), if_neg (by omega), if_neg (by omega)]
  · rw [if_pos y]
  · rw [if_neg (by omega), if_pos y]
  · rw [if_neg (by omega), if_neg (by omega), if_pos y]
  · rw [if_neg (by omega), if_neg (by omega), if_neg (by omega), if_pos y, b.1]
  · rw [if_neg (by omega), if_neg (by omega), if_neg (by omega), if_neg (by omega), if_pos y, b.2]
  · rw [if_neg (by omega), if_neg (by omega), if_neg (by omega), if_neg (by omega), if_neg (by omega), if_pos y, P]
theorem m_89 (hd : 10 ≤ d) (S : Cst p T c pt h) : jE d 89 [jP 32, jI x, jI w] h (some (jI (aRow c x w))) h := by
  obtain ⟨d, rfl⟩ : ∃ d', d = d' + 1 := ⟨d - 1, by omega⟩
  refine jE_eq (Nat.le_of_ble_eq_true rfl) (c_89_0 (by omega) S.1 ⟨_, h, S.owR (by omega), S.1, fun z => ⟨by unfold aRow; rw [if_pos z], rfl⟩, fun z => ?_⟩)
  obtain ⟨r1, r2, r3, r4, r5, r6, r7⟩ := S.owR_r z
  have b := S.B.2.2.2.2.2.2.1 _ r7
  unfold aRow
  rw [if_neg z]
  refine ⟨fun y => c_89_88 (by omega) S.1 ⟨?_, rfl⟩, fun y => c_89_52 (by omega) S.1 ⟨?_, rfl⟩, fun y => c_89_54 (by omega) S.1 ⟨_, h, S.fnR (by omega), S.1, ?_, rfl⟩, fun y => c_89_66 (by omega) S.1 ⟨_, h, S.snR (by omega), S.1, ?_, rfl⟩, fun y => c_89_78 (by omega) S.1 ⟨r4, r6, ?_, rfl⟩⟩
  · rw [if_neg (by omega), if_neg (by omega), if_neg (by omega), if_neg (by omega)]
  · rw [if_pos y]
  · rw [if_neg (by omega), if_pos y]
  · rw [if_neg (by omega), if_neg (by omega), if_pos y]
  · rw [if_neg (by omega), if_neg (by omega), if_neg (by omega), if_pos y, b.1]
theorem m_101 (hd : 10 ≤ d) (S : Cst p T c pt h) : jE d 101 [jP 32, jI x] h (some (jI (if isC c x then 1 else 0))) h := by
  obtain ⟨d, rfl⟩ : ∃ d', d = d' + 1 := ⟨d - 1, by omega⟩
  have e : ji h (pD p + 18) 5 = tot (dS c) (dX c) := S.B.2.2.1.2.1
  refine jE_eq (Nat.le_of_ble_eq_true rfl) (c_101_0 (by omega) S.1 ?_)
  rw [e]
  exact ⟨fun z => ⟨by rw [if_neg (by omega)], rfl⟩, fun z => ⟨fun y => ⟨by rw [if_neg (by omega)], rfl⟩, fun y => ⟨by rw [if_pos ⟨by omega, by omega⟩], rfl⟩⟩⟩
theorem m_102 (hd : 10 ≤ d) (S : Cst p T c pt h) : jE d 102 [jP 32, jI x] h (some (jI (if isR c x then 1 else 0))) h := by
  obtain ⟨d, rfl⟩ : ∃ d', d = d' + 1 := ⟨d - 1, by omega⟩
  have e : ji h (pD p + 22) 5 = tot (dS c) (dR c) := S.B.2.2.2.1.2.1
  refine jE_eq (Nat.le_of_ble_eq_true rfl) (c_102_0 (by omega) S.1 ?_)
  rw [e]
  exact ⟨fun z => ⟨by rw [if_neg (by omega)], rfl⟩, fun z => ⟨fun y => ⟨by rw [if_neg (by omega)], rfl⟩, fun y => ⟨by rw [if_pos ⟨by omega, by omega⟩], rfl⟩⟩⟩
theorem bz0 {P : Prop} [Decidable P] (z : (if P then (1 : Int) else 0) = 0) : ¬ P := fun q => by rw [if_pos q] at z; exact absurd z (by decide)
theorem bz1 {P : Prop} [Decidable P] (z : ¬ (if P then (1 : Int) else 0) = 0) : P := Classical.byContradiction (fun q => z (by rw [if_neg q]))
theorem m_90 (hd : 11 ≤ d) (S : Cst p T c pt h) : jE d 90 [jP 32, jI r, jI x] h (some (jL (aFac c r x))) h := by
  obtain ⟨d, rfl⟩ : ∃ d', d = d' + 1 := ⟨d - 1, by omega⟩
  have O := S.2.2.2.2.2.2.1
  have M := S.2.2.2.2.2.2.2.1.1
  unfold aFac
  refine jE_eq (Nat.le_of_ble_eq_true rfl) (c_90_0 (by omega) S.1 ⟨_, h, m_102 (by omega) S, S.1, fun z => ⟨by rw [if_neg (bz0 z)], rfl⟩, fun z => ⟨_, h, m_101 (by omega) S, S.1, fun y => ⟨by rw [if_pos (bz1 z), if_neg (bz0 y)], rfl⟩, fun y => ?_⟩⟩)
  have z := bz1 z
  have y := bz1 y
  have o1 := O.2.2.1
  have o2 := O.2.2.2.1
  rw [if_pos z, if_pos y]
  exact ⟨z.1, by omega, y.1, by omega, by rw [(M r.toNat (by omega)).1 x.toNat (by omega)], rfl⟩
theorem m_91 (hd : 11 ≤ d) (S : Cst p T c pt h) : jE d 91 [jP 32, jI r] h (some (jL (aRight c r))) h := by
  obtain ⟨d, rfl⟩ : ∃ d', d = d' + 1 := ⟨d - 1, by omega⟩
  have O := S.2.2.2.2.2.2.1
  have M := S.2.2.2.2.2.2.2.1.1
  unfold aRight
  refine jE_eq (Nat.le_of_ble_eq_true rfl) (c_91_0 (by omega) S.1 ⟨_, h, m_102 (by omega) S, S.1, fun z => ⟨by rw [if_neg (bz0 z)], rfl⟩, fun z => ?_⟩)
  have z := bz1 z
  have o2 := O.2.2.2.1
  rw [if_pos z]
  exact ⟨z.1, by omega, by rw [(M r.toNat (by omega)).2], rfl⟩
theorem m_92 (hd : 11 ≤ d) (S : Cst p T c pt h) : jE d 92 [jP 32, jI x] h (some (jL (aPrice c x))) h := by
  obtain ⟨d, rfl⟩ : ∃ d', d = d' + 1 := ⟨d - 1, by omega⟩
  have O := S.2.2.2.2.2.2.1
  have o1 := O.2.2.1
  have M := S.2.2.2.2.2.2.2.1.2
  have eg : ji h (pD p) 12 = dG c := S.B.2.2.2.2.2.2.2.1
  unfold aPrice
  refine jE_eq (Nat.le_of_ble_eq_true rfl) (c_92_0 (by omega) S.1 ?_)
  refine ⟨fun z => ?_, fun z => ⟨_, h, m_101 (by omega) S, S.1, fun y => ⟨by rw [if_neg z, if_neg (bz0 y)], rfl⟩, fun y => ?_⟩⟩
  · rw [eg, if_pos z]
    refine ⟨fun u => ⟨by rw [if_pos u], rfl⟩, fun u => ⟨fun _ => ⟨by rw [if_neg u, (M u).2], rfl⟩, fun t => absurd z t⟩⟩
  · have y := bz1 y
    rw [eg, if_neg z, if_pos y]
    refine ⟨fun u => ⟨by rw [if_pos u], rfl⟩, fun u => ⟨fun t => absurd t z, fun _ => ⟨y.1, by omega, by rw [if_neg u, (M u).1 _ (by omega)], rfl⟩⟩⟩
theorem m_93 (hd : 10 ≤ d) (S : Cst p T c pt h) {n : Nat} (hn : ji h 35 1 = (n : Int)) : jE d 93 [jP 32, jI w] h (some (jI (aCount T c n w))) h := by
  obtain ⟨d, rfl⟩ : ∃ d', d = d' + 1 := ⟨d - 1, by omega⟩
  have B := S.B
  have O := S.2.2.2.2.2.2.1
  have W := S.2.2.2.2.2.1
  refine jE_eq (Nat.le_of_ble_eq_true rfl) (c_93_0 (by omega) S.1 ⟨fun z => c_93_155 (by omega) S.1 ⟨?_, rfl⟩, fun z => c_93_56 (by omega) S.1 ⟨?_, rfl⟩, fun z => c_93_67 (by omega) S.1 ⟨?_, rfl⟩, fun z => c_93_78 (by omega) S.1 ⟨?_, rfl⟩, fun z => c_93_89 (by omega) S.1 ⟨?_, rfl⟩, fun z => c_93_100 (by omega) S.1 ⟨?_, rfl⟩, fun z => c_93_111 (by omega) S.1 ⟨?_, rfl⟩, fun z => c_93_122 (by omega) S.1 ⟨?_, rfl⟩, fun z => c_93_131 (by omega) S.1 ⟨?_, rfl⟩, fun z => c_93_139 (by omega) S.1 ⟨?_, rfl⟩, fun z => c_93_147 (by omega) S.1 ⟨?_, rfl⟩⟩)
  · unfold aCount; rw [if_neg (by omega), if_neg (by omega), if_neg (by omega), if_neg (by omega), if_neg (by omega), if_neg (by omega), if_neg (by omega), if_neg (by omega), if_neg (by omega), if_neg (by omega)]
  · subst z; rw [B.1.1]; rfl
  · subst z; rw [B.2.1.1]; rfl
  · subst z; rw [B.2.2.1.1]; rfl
  · subst z; rw [B.2.2.2.1.1]; rfl
  · subst z; rw [B.2.2.1.2.1]; rfl
  · subst z; rw [B.2.2.2.1.2.1]; rfl
  · subst z; rw [W, w32_i (by have := O.2.2.2.2.1; omega) (by have := O.2.2.2.2.2; omega)]; rfl
  · subst z; rw [B.2.2.2.2.2.2.2.1]; rfl
  · subst z; rw [S.2.1.2.1]; rfl
  · subst z; rw [hn]; rfl
end ANS
