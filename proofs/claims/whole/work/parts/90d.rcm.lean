/-! THE REFERENCE: data, column, points, feed, cut, name -/
section RCB
variable {p : Lpar} {d : Nat} {h h' g : AH} {c : Dc} {T : Txt} {pt : Nat → Int} {W : List Int} {k i j w x r v s : Int}
/-- v is a number of set s, or s is none -/
abbrev inS (c : Dc) (s v : Int) : Prop := ¬ ofO (dS c) s v = -1
theorem kset (S : Rst p T c pt h) (h0 : 0 ≤ s) (h1 : s < ((dS c).length : Int)) : ji h 177 s.toNat = fsO (dS c) s ∧ ji h 178 s.toNat = szO (dS c) s := by
  have q := S.2.2.2.1.2.2.1 s.toNat (by omega)
  exact ⟨q.1, by rw [szO_in h0 h1]; exact q.2⟩
theorem m_163 (hd : 10 ≤ d) (S : Rst p T c pt h) (hs : s = -1 ∨ (0 ≤ s ∧ s < ((dS c).length : Int))) : jE d 163 [jP 141, jI s, jI v] h (some (jI (if inS c s v then 1 else 0))) h := by
  obtain ⟨d, rfl⟩ : ∃ d', d = d' + 1 := ⟨d - 1, by omega⟩
  have hS : okS (dS c) := S.2.2.1.1.1.2.1
  have l6 := hS.1
  refine jE_eq (Nat.le_of_ble_eq_true rfl) (c_163_0 (by omega) S.1 ⟨fun z => ⟨?_, rfl⟩, fun z => ?_⟩)
  · have e : ofO (dS c) s v = 0 := by unfold ofO; rw [if_pos (by omega)]
    rw [if_pos (show inS c s v by show ¬ ofO (dS c) s v = -1; rw [e]; decide)]
  · obtain ⟨q1, q2⟩ := kset S (s := s) (by omega) (by omega)
    have r1 := fsO_r hS s
    have r2 := szO_r hS s
    rw [q1, q2, w32_i (x := fsO (dS c) s + szO (dS c) s) (by omega) (by omega), w32_i (x := fsO (dS c) s + szO (dS c) s - 1) (by omega) (by omega)]
    have e : ofO (dS c) s v = if v < fsO (dS c) s ∨ szO (dS c) s ≤ v - fsO (dS c) s then -1 else v - fsO (dS c) s := by
      unfold ofO; rw [if_neg (by omega)]
    refine ⟨by omega, by omega, by omega, by omega, by omega, by omega, fun y => ⟨?_, rfl⟩, fun y => ⟨?_, rfl⟩⟩
    · rw [if_pos (by unfold inS; rw [e, if_neg (by omega)]; omega)]
    · rw [if_neg (by unfold inS; rw [e, if_pos (by omega)]; exact fun u => u rfl)]
theorem m_164 (hd : 10 ≤ d) (S : Rst p T c pt h) {o : Int × Int} (ho : (o.1 = -1 ∧ o.2 = -1) ∨ (0 ≤ o.1 ∧ o.1 < ((dS c).length : Int) ∧ (o.2 = -1 ∨ (0 ≤ o.2 ∧ o.2 < ((dS c).length : Int))))) (h1 : inS c o.1 i) (h2 : inS c o.2 j) : jE d 164 [jP 141, jI o.1, jI o.2, jI i, jI j] h (some (jI (ofO (dS c) o.1 i * szO (dS c) o.2 + ofO (dS c) o.2 j))) h := by
  obtain ⟨d, rfl⟩ : ∃ d', d = d' + 1 := ⟨d - 1, by omega⟩
  have hS : okS (dS c) := S.2.2.1.1.1.2.1
  have l6 := hS.1
  have z1 : ∀ s : Int, s = -1 → szO (dS c) s = 1 ∧ ∀ x, ofO (dS c) s x = 0 := fun s hs => ⟨by unfold szO; rw [if_pos (by omega)], fun x => by unfold ofO; rw [if_pos (by omega)]⟩
  have e : ∀ s v : Int, 0 ≤ s → s < ((dS c).length : Int) → inS c s v → ofO (dS c) s v = v - fsO (dS c) s ∧ 0 ≤ v - fsO (dS c) s ∧ v - fsO (dS c) s < szO (dS c) s := fun s v y1 y2 y3 => by
    have e : ofO (dS c) s v = if v < fsO (dS c) s ∨ szO (dS c) s ≤ v - fsO (dS c) s then -1 else v - fsO (dS c) s := by
      unfold ofO; rw [if_neg (by omega)]
    by_cases z : v < fsO (dS c) s ∨ szO (dS c) s ≤ v - fsO (dS c) s
    · rw [if_pos z] at e; exact absurd e y3
    · rw [if_neg z] at e; exact ⟨e, by omega, by omega⟩
  refine jE_eq (Nat.le_of_ble_eq_true rfl) (c_164_0 (by omega) S.1 ⟨fun z => ?_, fun z => ?_⟩)
  · have z2 : o.2 = -1 := by omega
    refine ⟨fun _ => ⟨?_, rfl⟩, fun y => absurd z2 y⟩
    rw [(z1 _ z).2, (z1 _ z2).1, (z1 _ z2).2]; rfl
  · obtain ⟨o1, o2, o3⟩ : 0 ≤ o.1 ∧ o.1 < ((dS c).length : Int) ∧ (o.2 = -1 ∨ (0 ≤ o.2 ∧ o.2 < ((dS c).length : Int))) := by
      rcases ho with y | y
      · exact absurd y.1 z
      · exact y
    obtain ⟨q1, _⟩ := kset S o1 o2
    obtain ⟨f1, f2, f3⟩ := e _ _ o1 o2 h1
    have s8 := szO_r hS o.1
    have fr := fsO_r hS o.1
    rw [q1, f1, w32_i (x := i - fsO (dS c) o.1) (by omega) (by omega)]
    refine ⟨o1, by omega, fun y => ⟨?_, rfl⟩, fun y => ?_⟩
    · rw [(z1 _ y).1, (z1 _ y).2, Int.mul_one, Int.add_zero]
    · obtain ⟨p1, p2⟩ : 0 ≤ o.2 ∧ o.2 < ((dS c).length : Int) := by omega
      obtain ⟨r1, r2⟩ := kset S p1 p2
      obtain ⟨g1, g2, g3⟩ := e _ _ p1 p2 h2
      have s9 := szO_r hS o.2
      have fr2 := fsO_r hS o.2
      have m1 : (i - fsO (dS c) o.1) * szO (dS c) o.2 ≤ 8 * 8 := Int.mul_le_mul (by omega) (by omega) (by omega) (by omega)
      have m2 : 0 ≤ (i - fsO (dS c) o.1) * szO (dS c) o.2 := Int.mul_nonneg (by omega) (by omega)
      rw [r1, r2, g1, w32_i (x := (i - fsO (dS c) o.1) * szO (dS c) o.2) (by omega) (by omega), w32_i (x := (i - fsO (dS c) o.1) * szO (dS c) o.2 + j) (by omega) (by omega), w32_i (by omega) (by omega), Int.add_sub_assoc]
      exact ⟨p1, by omega, p1, by omega, rfl, rfl⟩
theorem sp_in {S O : List (Int × Int)} (h0 : 0 ≤ k) (h1 : k < (O.length : Int)) (a1 : ¬ ofO S (thS O k).1 i = -1) (a2 : ¬ ofO S (thS O k).2 j = -1) (hS : okS S) : spO S O k i j = stO S O k.toNat + (ofO S (thS O k).1 i * szO S (thS O k).2 + ofO S (thS O k).2 j) ∧ 0 ≤ stO S O k.toNat ∧ 0 ≤ ofO S (thS O k).1 i * szO S (thS O k).2 + ofO S (thS O k).2 j ∧ ofO S (thS O k).1 i * szO S (thS O k).2 + ofO S (thS O k).2 j < szO S (thS O k).1 * szO S (thS O k).2 := by
  have e : spO S O k i j = stO S O k.toNat + ofO S (thS O k).1 i * szO S (thS O k).2 + ofO S (thS O k).2 j := by
    unfold spO
    rw [if_neg (by omega), if_neg (by omega)]
  rw [e]
  have t0 : 0 ≤ stO S O k.toNat := (tot_r hS _).1
  have r1 := (ofO_r hS (thS O k).1 i).2.2 a1
  have r2 := (ofO_r hS (thS O k).2 j).2.2 a2
  clear e a1 a2
  generalize thS O k = o at *
  generalize ofO S o.1 i = x at *
  generalize ofO S o.2 j = y at *
  have m1 : 0 ≤ x * szO S o.2 := Int.mul_nonneg (by omega) (by omega)
  have m2 : (x + 1) * szO S o.2 ≤ szO S o.1 * szO S o.2 := Int.mul_le_mul_of_nonneg_right (by omega) (by omega)
  rw [Int.add_mul, Int.one_mul] at m2
  exact ⟨by omega, by omega, by omega, by omega⟩
theorem sp_out {S O : List (Int × Int)} (h : k < 0 ∨ (O.length : Int) ≤ k ∨ ofO S (thS O k).1 i = -1 ∨ ofO S (thS O k).2 j = -1) : spO S O k i j = -1 := by
  unfold spO
  by_cases z : k < 0 ∨ (O.length : Int) ≤ k
  · rw [if_pos z]
  · rw [if_neg z, if_pos (by omega)]
theorem m_165 (hd : 11 ≤ d) (S : Rst p T c pt h) : jE d 165 [jP 141, jI k, jI i, jI j] h (some (jI (aData c k i j))) h := by
  obtain ⟨d, rfl⟩ : ∃ d', d = d' + 1 := ⟨d - 1, by omega⟩
  have K := S.2.2.2.1
  have O := S.2.2.1.1
  have hS : okS (dS c) := O.1.2.1
  have hT : okO (dS c) (dT c) := O.1.2.2.1
  have lT : (dT c).length ≤ 6 := O.1.2.2.2.1
  have e1 : ji h 175 1 = ((dT c).length : Int) := K.1 1 (by omega)
  refine jE_eq (Nat.le_of_ble_eq_true rfl) (c_165_0 (by omega) S.1 ?_)
  rw [show Int.toNat 1 = 1 from rfl, e1, w32_i (x := ((dT c).length : Int) - 1) (by omega) (by omega)]
  unfold aData
  refine ⟨fun z => ?_, fun z => ⟨by rw [if_pos (sp_out (by omega))], rfl⟩⟩
  have q := K.2.2.2.1 k.toNat (by omega)
  have q1 : ji h 179 (2 * k.toNat) = (thS (dT c) k).1 := q.1
  have q2 : ji h 179 (2 * k.toNat + 1) = (thS (dT c) k).2 := q.2
  have ho := th_ok hT (x := k) (by omega) (by omega)
  rw [(i2x (x := k) (by omega) (by omega)).1, (i2x (x := k) (by omega) (by omega)).2, Int.toNat_natCast, Int.toNat_natCast, q1]
  refine ⟨by omega, by omega, _, h, m_163 (by omega) S (by omega), S.1, fun y => ⟨?_, rfl⟩, fun y => ⟨by omega, by omega, (if inS c (thS (dT c) k).2 j then 1 else 0), h, by rw [q2]; exact m_163 (by omega) S (by omega), S.1, fun u => ⟨?_, rfl⟩, fun u => ?_⟩⟩
  · rw [if_pos (sp_out (Or.inr (Or.inr (Or.inl (Classical.not_not.mp (bz0 y))))))]
  · rw [if_pos (sp_out (Or.inr (Or.inr (Or.inr (Classical.not_not.mp (bz0 u))))))]
  · have y := bz1 y
    have u := bz1 u
    rw [q1, q2]
    obtain ⟨s1, s2, s3, s4⟩ := sp_in (O := dT c) (by omega) (by omega) y u hS
    have sz := sz2_r hS (thS (dT c) k).1 (thS (dT c) k).2
    have E := m_164 (d := d) (by omega) S ho y u
    have V := K.2.2.2.2.1 k.toNat (ofO (dS c) (thS (dT c) k).1 i * szO (dS c) (thS (dT c) k).2 + ofO (dS c) (thS (dT c) k).2 j).toNat (by omega) (by
      have s4 : ofO (dS c) (thS (dT c) k).1 i * szO (dS c) (thS (dT c) k).2 + ofO (dS c) (thS (dT c) k).2 j < szO (dS c) ((dT c).getD k.toNat (-1, -1)).1 * szO (dS c) ((dT c).getD k.toNat (-1, -1)).2 := s4
      omega)
    refine ⟨by omega, by omega, by omega, by omega, _, h, E, S.1, ?_⟩
    rw [if_neg (by omega), s1]
    clear E y u q q1 q2 ho s1
    generalize ofO (dS c) (thS (dT c) k).1 i * szO (dS c) (thS (dT c) k).2 + ofO (dS c) (thS (dT c) k).2 j = o at *
    rw [w32_i (x := 64 * k) (by omega) (by omega), w32_i (x := 64 * k + o) (by omega) (by omega), show Int.toNat (64 * k + o) = 64 * k.toNat + o.toNat by omega, V, show (stO (dS c) (dT c) k.toNat + o).toNat = (stO (dS c) (dT c) k.toNat).toNat + o.toNat by omega]
    exact ⟨by omega, by omega, rfl, rfl⟩
theorem m_166 (hd : 11 ≤ d) (S : Rst p T c pt h) : jE d 166 [jP 141, jI k, jI i, jI j] h (some (jI (aCol c k i j))) h := by
  obtain ⟨d, rfl⟩ : ∃ d', d = d' + 1 := ⟨d - 1, by omega⟩
  have K := S.2.2.2.1
  have O := S.2.2.1.1
  have hS : okS (dS c) := O.1.2.1
  have hX : okO (dS c) (dX c) := O.1.2.2.2.2.1
  have lX : (dX c).length ≤ 6 := O.1.2.2.2.2.2.1
  have t40 := S.2.2.1.2.1
  have e1 : ji h 175 2 = ((dX c).length : Int) := K.1 2 (by omega)
  refine jE_eq (Nat.le_of_ble_eq_true rfl) (c_166_0 (by omega) S.1 ?_)
  rw [show Int.toNat 2 = 2 from rfl, e1, w32_i (x := ((dX c).length : Int) - 1) (by omega) (by omega)]
  unfold aCol
  refine ⟨fun z => ?_, fun z => ⟨by rw [if_pos (sp_out (by omega))], rfl⟩⟩
  have q := K.2.2.2.2.2 k.toNat (by omega)
  have q1 : ji h 181 (2 * k.toNat) = (thS (dX c) k).1 := q.1
  have q2 : ji h 181 (2 * k.toNat + 1) = (thS (dX c) k).2 := q.2.1
  have q3 : ji h 182 k.toNat = stO (dS c) (dX c) k.toNat := q.2.2
  have ho := th_ok hX (x := k) (by omega) (by omega)
  rw [(i2x (x := k) (by omega) (by omega)).1, (i2x (x := k) (by omega) (by omega)).2, Int.toNat_natCast, Int.toNat_natCast, q1]
  refine ⟨by omega, by omega, _, h, m_163 (by omega) S (by omega), S.1, fun y => ⟨?_, rfl⟩, fun y => ⟨by omega, by omega, (if inS c (thS (dX c) k).2 j then 1 else 0), h, by rw [q2]; exact m_163 (by omega) S (by omega), S.1, fun u => ⟨?_, rfl⟩, fun u => ?_⟩⟩
  · rw [if_pos (sp_out (Or.inr (Or.inr (Or.inl (Classical.not_not.mp (bz0 y))))))]
  · rw [if_pos (sp_out (Or.inr (Or.inr (Or.inr (Classical.not_not.mp (bz0 u))))))]
  · have y := bz1 y
    have u := bz1 u
    rw [q1, q2, q3]
    obtain ⟨s1, s2, s3, s4⟩ := sp_in (O := dX c) (by omega) (by omega) y u hS
    have sz := sz2_r hS (thS (dX c) k).1 (thS (dX c) k).2
    have t1 := stO_mono (S := dS c) (O := dX c) hS (j := k.toNat) (k := (dX c).length) (by omega) (Nat.le_refl _)
    rw [stO_len] at t1
    have E := m_164 (d := d) (by omega) S ho y u
    refine ⟨by omega, by omega, by omega, by omega, by omega, by omega, _, h, E, S.1, ?_⟩
    rw [if_neg (by omega), s1, w32_i (by omega) (by omega)]
    exact ⟨rfl, rfl⟩
theorem m_176 (hd : 10 ≤ d) (S : Rst p T c pt h) (z : isR c r) : jE d 176 [jP 141, jI r] h (some (jL (leftV c pt r.toNat))) h := by
  obtain ⟨d, rfl⟩ : ∃ d', d = d' + 1 := ⟨d - 1, by omega⟩
  have e := S.2.2.2.2.1.1
  have t40 := S.2.2.1.2.1
  have o2 := S.2.2.1.2.2.1
  have t0 := S.t0.1
  have M := (S.2.2.2.2.2.1.2 r.toNat (by omega)).2.2.2.2.1
  have P := S.2.2.2.2.1.2
  have key : ∀ (s i : Nat), (tot (dS c) (dX c)).toNat = i + s → WF d 176 5 [jP 141, jI r, jL (w64 (ptS i (rowL c r.toNat) pt)), jU, jI (i : Int)] [] h (fun v h' => v = some (jL (leftV c pt r.toNat)) ∧ h' = h) := by
    intro s
    induction s with
    | zero =>
      intro i hi
      refine c_176_5 (by omega) S.1 ?_
      rw [e]
      exact ⟨fun _ => ⟨by unfold leftV; rw [hi]; rfl, rfl⟩, fun z => by omega⟩
    | succ s ih =>
      intro i hi
      refine c_176_5 (by omega) S.1 ?_
      rw [e, w32_i (x := 41 * r) (by omega) (by omega), w32_i (x := 41 * r + (i : Int)) (by omega) (by omega), show Int.toNat (41 * r + (i : Int)) = 41 * r.toNat + i by omega, Int.toNat_natCast, M i (by omega), (P i (by omega)).2.2.2.2.2, w64_pt, w32_i (x := (i : Int) + 1) (by omega) (by omega)]
      exact ⟨fun z => by omega, fun _ => ⟨by omega, by omega, by omega, by omega, ih (i + 1) (by omega)⟩⟩
  exact jE_eq (Nat.le_of_ble_eq_true rfl) (c_176_0 (by omega) S.1 (by have q := key (tot (dS c) (dX c)).toNat 0 (by omega); rw [show ptS 0 (rowL c r.toNat) pt = 0 from rfl, w64_z] at q; exact q))
theorem m_177 (hd : 12 ≤ d) (S : Rst p T c pt h) : jE d 177 [jP 141, jI r] h (some (jL (aLeft c pt r))) h := by
  obtain ⟨d, rfl⟩ : ∃ d', d = d' + 1 := ⟨d - 1, by omega⟩
  unfold aLeft
  refine jE_eq (Nat.le_of_ble_eq_true rfl) (c_177_0 (by omega) S.1 ⟨_, h, m_168 (by omega) S, S.1, fun z => ⟨by rw [if_neg (bz0 z)], rfl⟩, fun z => ?_⟩)
  have z := bz1 z
  exact ⟨_, h, m_176 (by omega) S z, S.1, by rw [if_pos z], rfl⟩
theorem m_178 (hd : 12 ≤ d) (S : Rst p T c pt h) (z : isR c r) : jE d 178 [jP 141, jI r] h (some (jI (if isKp c pt r.toNat = true then 1 else 0))) h := by
  obtain ⟨d, rfl⟩ : ∃ d', d = d' + 1 := ⟨d - 1, by omega⟩
  have o2 := S.2.2.1.2.2.1
  obtain ⟨_, _, _, c4, _, c6⟩ := S.2.2.2.2.2.1.2 r.toNat (by omega)
  refine jE_eq (Nat.le_of_ble_eq_true rfl) (c_178_0 (by omega) S.1 ⟨_, h, m_176 (by omega) S z, S.1, ?_⟩)
  rw [w32_i (x := 41 * r) (by omega) (by omega), w32_i (x := 41 * r + 40) (by omega) (by omega), show Int.toNat (41 * r + 40) = 41 * r.toNat + 40 by omega, c4, c6]
  unfold isKp
  generalize leftV c pt r.toNat = A
  generalize w64 (-rowL c r.toNat 40) = B
  generalize ((dL c).getD (owO (dS c) (dR c) (r.toNat : Nat)).toNat zL).1 = q
  have c0 := jcmp_0 (a := A) (b := B)
  have c1 := jcmp_n (a := A) (b := B)
  have c2 := jcmp_p (a := A) (b := B)
  generalize jcmp A B = k at c0 c1 c2 ⊢
  have yes : ∀ v : Int, v = 1 → isKb q A B = true → some (jI v) = some (jI (if isKb q A B = true then (1 : Int) else 0)) ∧ h = h := fun v hv u => ⟨by rw [if_pos u, hv], rfl⟩
  have noo : ∀ v : Int, v = 0 → ¬ isKb q A B = true → some (jI v) = some (jI (if isKb q A B = true then (1 : Int) else 0)) ∧ h = h := fun v hv u => ⟨by rw [if_neg u, hv], rfl⟩
  exact ⟨by omega, by omega, z.1, by omega, fun q0 => ⟨z.1, by omega, fun q1 => ⟨fun k0 => yes _ rfl (isKb_t (by omega)), fun k0 => noo _ rfl (isKb_f (by omega))⟩, fun q1 => ⟨fun k1 => noo _ rfl (isKb_f (by omega)), fun k1 => yes _ rfl (isKb_t (by omega))⟩⟩, fun q0 => ⟨fun k1 => noo _ rfl (isKb_f (by omega)), fun k1 => yes _ rfl (isKb_t (by omega))⟩⟩
theorem m_179 (hd : 13 ≤ d) (S : Rst p T c pt h) : jE d 179 [jP 141, jI r] h (some (jI (aHolds c pt r))) h := by
  obtain ⟨d, rfl⟩ : ∃ d', d = d' + 1 := ⟨d - 1, by omega⟩
  unfold aHolds
  refine jE_eq (Nat.le_of_ble_eq_true rfl) (c_179_0 (by omega) S.1 ⟨_, h, m_168 (by omega) S, S.1, fun z => ⟨by rw [if_neg (bz0 z)], rfl⟩, fun z => ?_⟩)
  have z := bz1 z
  refine ⟨_, h, m_178 (by omega) S z, S.1, fun y => ⟨by rw [if_pos z, if_neg (bz0 y)], rfl⟩, fun y => ⟨by rw [if_pos z, if_pos (bz1 y)], rfl⟩⟩
theorem m_180 (hd : 13 ≤ d) (S : Rst p T c pt h) (hi : r32 i) : jE d 180 [jP 141, jI i] h (some (jI (aBrok c pt i))) h := by
  obtain ⟨d, rfl⟩ : ∃ d', d = d' + 1 := ⟨d - 1, by omega⟩
  have e := S.2.2.2.2.2.1.1
  have t40 := S.2.2.1.2.2.1
  have t0 := S.t0.2
  have key : ∀ (s row a : Nat), (tot (dS c) (dR c)).toNat = row + s → (a : Int) ≤ i → a ≤ row → WF d 180 12 [jP 141, jI i, jI (a : Int), jI (row : Int)] [] h (fun v h' => v = some (jI (brN c pt s row (i - (a : Int)))) ∧ h' = h) := by
    intro s
    induction s with
    | zero =>
      intro row a hr ha ha2
      refine c_180_12 (by omega) S.1 ?_
      rw [e]
      exact ⟨fun _ => ⟨rfl, rfl⟩, fun z => by omega⟩
    | succ s ih =>
      intro row a hr ha ha2
      have zr : isR c (row : Int) := ⟨by omega, by omega⟩
      refine c_180_12 (by omega) S.1 ?_
      rw [e, w32_i (x := (row : Int) + 1) (by omega) (by omega), w32_i (x := (a : Int) + 1) (by omega) (by omega)]
      refine ⟨fun z => by omega, fun _ => ⟨_, h, m_178 (by omega) S zr, S.1, fun y => ?_, fun y => ?_⟩⟩
      · have y := bz0 y
        rw [Int.toNat_natCast] at y
        have eb : brN c pt (s + 1) row (i - (a : Int)) = if i - (a : Int) = 0 then (row : Int) else brN c pt s (row + 1) (i - (a : Int) - 1) := by
          show (if isKp c pt row = true then _ else _) = _
          rw [if_neg y]
        rw [eb]
        refine ⟨fun u => ⟨by rw [if_pos (by omega)], rfl⟩, fun u => ?_⟩
        rw [if_neg (by omega)]
        have q := ih (row + 1) (a + 1) (by omega) (by omega) (by omega)
        rw [show i - ((a + 1 : Nat) : Int) = i - (a : Int) - 1 by omega] at q
        exact q
      · have y := bz1 y
        rw [Int.toNat_natCast] at y
        have eb : brN c pt (s + 1) row (i - (a : Int)) = brN c pt s (row + 1) (i - (a : Int)) := by
          show (if isKp c pt row = true then _ else _) = _
          rw [if_pos y]
        rw [eb]
        exact ih (row + 1) a (by omega) ha (by omega)
  unfold aBrok
  refine jE_eq (Nat.le_of_ble_eq_true rfl) (c_180_0 (by omega) S.1 ⟨fun z => ?_, fun z => ⟨by rw [if_pos (by omega)], rfl⟩⟩)
  rw [if_neg (by omega)]
  have q := key (tot (dS c) (dR c)).toNat 0 0 (by omega) (by omega) (by omega)
  rw [show i - ((0 : Nat) : Int) = i by omega] at q
  exact q
theorem m_181 (hd : 12 ≤ d) (S : Rst p T c pt h) : jE d 181 [jP 141] h (some (jL (aWorth c pt))) h := by
  obtain ⟨d, rfl⟩ : ∃ d', d = d' + 1 := ⟨d - 1, by omega⟩
  have G := S.2.2.2.2.2.2
  have e := S.2.2.2.2.1.1
  have t40 := S.2.2.1.2.1
  have t0 := S.t0.1
  have P := S.2.2.2.2.1.2
  unfold aWorth
  refine jE_eq (Nat.le_of_ble_eq_true rfl) (c_181_0 (by omega) S.1 ?_)
  rw [G.1]
  refine ⟨fun z => ⟨by rw [if_pos z], rfl⟩, fun z => ?_⟩
  rw [if_neg z]
  have key : ∀ (s i : Nat), (tot (dS c) (dX c)).toNat = i + s → WF d 181 21 [jP 141, jL (w64 (lin c (dE c) (fun _ => 0) 40 + ptS i (lin c (dE c) (fun _ => 0)) pt)), jU, jI (i : Int)] [] h (fun v h' => v = some (jL (w64 (lin c (dE c) (fun _ => 0) 40 + ptS (tot (dS c) (dX c)).toNat (lin c (dE c) (fun _ => 0)) pt))) ∧ h' = h) := by
    intro s
    induction s with
    | zero =>
      intro i hi
      refine c_181_21 (by omega) S.1 ?_
      rw [e]
      exact ⟨fun _ => ⟨by rw [hi]; rfl, rfl⟩, fun z => by omega⟩
    | succ s ih =>
      intro i hi
      refine c_181_21 (by omega) S.1 ?_
      rw [e, Int.toNat_natCast, G.2.1 z i (by omega), (P i (by omega)).2.2.2.2.2, w64_pt, Int.add_assoc, w32_i (x := (i : Int) + 1) (by omega) (by omega)]
      exact ⟨fun z => by omega, fun _ => ⟨by omega, by omega, by omega, by omega, ih (i + 1) (by omega)⟩⟩
  have q := key (tot (dS c) (dX c)).toNat 0 (by omega)
  rw [show ptS 0 (lin c (dE c) (fun _ => 0)) pt = 0 from rfl, Int.add_zero] at q
  rw [show Int.toNat 40 = 40 from rfl, G.2.1 z 40 (by omega)]
  exact q
theorem m_187 (hd : 10 ≤ d) (S : Rst p T c pt h) (P : PapM W h) : jE d 187 [jP 141, jI i] h (some (jI (aOut W i))) h := by
  obtain ⟨d, rfl⟩ : ∃ d', d = d' + 1 := ⟨d - 1, by omega⟩
  have l := P.2.1
  refine jE_eq (Nat.le_of_ble_eq_true rfl) (c_187_0 (by omega) S.1 ?_)
  rw [P.1, w32_i (x := (W.length : Int) - 1) (by omega) (by omega)]
  unfold aOut
  exact ⟨fun z => ⟨z.1, by omega, by rw [if_pos ⟨z.1, by omega⟩, P.2.2 i.toNat (by omega)], rfl⟩, fun z => ⟨by rw [if_neg (by omega)], rfl⟩⟩
theorem m_175 (hd : 11 ≤ d) (S : Rst p T c pt h) : ∃ h', jE d 175 [jP 141, jI x, jI v] h (some (jI (aPut c pt x v))) h' ∧ Rst p T c (pPut c pt x v) h' ∧ Fq (fun a _ => a = 188) h h' := by
  suffices hh : ∃ w h', jE d 175 [jP 141, jI x, jI v] h w h' ∧ w = some (jI (aPut c pt x v)) ∧ Rst p T c (pPut c pt x v) h' ∧ Fq (fun a _ => a = 188) h h' by
    obtain ⟨w, h', hE, rfl, q⟩ := hh
    exact ⟨h', hE, q⟩
  obtain ⟨d, rfl⟩ : ∃ d', d = d' + 1 := ⟨d - 1, by omega⟩
  have S0 := S
  obtain ⟨L, X, O, K, ⟨e65, C⟩, R, G⟩ := S0
  have same : ∀ _ : Nat, (¬ (¬ owO (dS c) (dX c) x = -1 ∧ (((dB c).getD (owO (dS c) (dX c) x).toNat (0, 0)).1 ≤ v ∧ v ≤ ((dB c).getD (owO (dS c) (dX c) x).toNat (0, 0)).2))) → Rst p T c (pPut c pt x v) h ∧ Fq (fun a _ => a = 188) h h := fun _ z => by
    refine ⟨⟨L, X, O, K, ⟨e65, fun k hk => ?_⟩, R, G⟩, Fq.refl⟩
    obtain ⟨c1, c2, c3, c4, c5, c6⟩ := C k hk
    refine ⟨c1, c2, c3, c4, c5, ?_⟩
    rw [c6]
    unfold pPut
    rw [if_neg (fun y => z ⟨y.1, y.2.1⟩)]
  refine jE_of (as := [jP 141, jI x, jI v]) (Nat.le_of_ble_eq_true rfl) (c_175_0 (by omega) L ⟨_, h, m_167 (by omega) S, L, fun z => ?_, fun z => ?_⟩)
  · have z := ow_no (S := dS c) (O := dX c) (bz0 z)
    exact ⟨by unfold aPut; rw [if_pos z], same 0 (fun y => y.1 z)⟩
  have z := bz1 z
  have no := ow_in z
  have t := O.2.1
  obtain ⟨c1, c2, c3, c4, c5, c6⟩ := C x.toNat (by omega)
  rw [show ((x.toNat : Nat) : Int) = x by omega] at c4 c5
  rw [c4, c5]
  unfold aPut
  rw [if_neg no]
  refine ⟨z.1, by omega, z.1, by omega, fun y => ⟨z.1, by omega, z.1, by omega, fun L2 => ⟨?_, ?_, Fq.wi rfl⟩⟩, fun y => ⟨by rw [if_neg y], same 0 (fun u => y u.2)⟩⟩
  · rw [if_pos y, c6]
  · have F : Fq (fun a _ => a = 188) h (wi h 188 x.toNat v) := Fq.wi rfl
    refine ⟨L2, X.fq F (by omega) (fun k => by omega), O, K.cg (fun a k z1 z2 => F.i (by omega)), ⟨(F.i (by omega)).trans e65, fun k hk => ?_⟩, ⟨(F.i (by omega)).trans R.1, R.2.fq F (fun i k y hy z => by omega)⟩, G.fq F (by omega) (by omega) (fun k => by omega)⟩
    obtain ⟨d1, d2, d3, d4, d5, d6⟩ := C k hk
    refine ⟨(F.i (by omega)).trans d1, (F.i (by omega)).trans d2, (F.i (by omega)).trans d3, (F.i (by omega)).trans d4, (F.i (by omega)).trans d5, ?_⟩
    rw [ji_wi]
    unfold pPut
    by_cases e : k = x.toNat
    · rw [if_pos ⟨rfl, e⟩, if_pos ⟨no, y, e⟩]
    · rw [if_neg (fun q => e q.2), if_neg (fun q => e q.2.2)]; exact d6
theorem Rst.tx (S : Rst p T c pt h) {T' : Txt} (L : Ly p h') (F : Fq (fun a k => (a = 141 ∧ k = 1) ∨ a = 142) h h') (X : TxM T' h') : Rst p T' c pt h' := by
  obtain ⟨_, _, O, K, ⟨e1, C⟩, ⟨e2, W⟩, G⟩ := S
  exact ⟨L, X, O, K.cg (fun a k z1 z2 => F.i (by omega)), ⟨(F.i (by omega)).trans e1, C.fq F (fun i k z => by omega)⟩, ⟨(F.i (by omega)).trans e2, W.fq F (fun i k y hy z => by omega)⟩, G.fq F (by omega) (by omega) (fun k => by omega)⟩
abbrev Z141 (a k : Nat) : Prop := (a = 141 ∧ k = 1) ∨ a = 142
theorem m_109 (hd : 10 ≤ d) (S : Rst p T c pt h) (hT : okT T) : ∃ h', jE d 109 [jP 141, jI i] h (some (jI (aCut T i))) h' ∧ Rst p (tCut T i) c pt h' ∧ Fq Z141 h h' := by
  suffices hh : ∃ w h', jE d 109 [jP 141, jI i] h w h' ∧ w = some (jI (aCut T i)) ∧ Rst p (tCut T i) c pt h' ∧ Fq Z141 h h' by
    obtain ⟨w, h', hE, rfl, q⟩ := hh
    exact ⟨h', hE, q⟩
  obtain ⟨d, rfl⟩ : ∃ d', d = d' + 1 := ⟨d - 1, by omega⟩
  have t4 := hT.1
  have X := S.2.1
  refine jE_of (as := [jP 141, jI i]) (Nat.le_of_ble_eq_true rfl) (c_109_0 (by omega) S.1 ?_)
  rw [X.1]
  unfold aCut tCut
  refine ⟨fun z L2 => ?_, fun z => ?_⟩
  · have F : Fq Z141 h (wi h 141 1 i) := Fq.wi (Or.inl ⟨rfl, rfl⟩)
    rw [if_pos z, if_pos z, w32_i (x := (T.1 : Int) - i) (by omega) (by omega)]
    refine ⟨rfl, S.tx L2 F ⟨?_, fun k hk => ?_⟩, F⟩
    · rw [ji_wi, if_pos ⟨rfl, rfl⟩]; show i = ((i.toNat : Nat) : Int); omega
    · have hk : k < i.toNat := hk
      rw [ji_wi, if_neg (by omega)]; exact X.2 k (by omega)
  · rw [if_neg z, if_neg z]
    exact ⟨rfl, S, Fq.refl⟩
theorem m_108 (hd : 10 ≤ d) (S : Rst p T c pt h) (hT : okT T) (hw : r64 w) {n : Int} : ∃ h', jE d 108 [jP 141, jI n, jL w] h (some (jI (aFeed T n))) h' ∧ Rst p (tFeed T n w) c pt h' ∧ Fq Z141 h h' := by
  suffices hh : ∃ u h', jE d 108 [jP 141, jI n, jL w] h u h' ∧ u = some (jI (aFeed T n)) ∧ Rst p (tFeed T n w) c pt h' ∧ Fq Z141 h h' by
    obtain ⟨u, h', hE, rfl, q⟩ := hh
    exact ⟨h', hE, q⟩
  obtain ⟨d, rfl⟩ : ∃ d', d = d' + 1 := ⟨d - 1, by omega⟩
  have t4 := hT.1
  have X := S.2.1
  have no : ∀ v : Int, ¬ (1 ≤ n ∧ n ≤ 8 ∧ (T.1 : Int) + n ≤ 400) → v = aFeed T n → (some (jI v) = some (jI (aFeed T n)) ∧ Rst p (tFeed T n w) c pt h ∧ Fq Z141 h h) := fun v z hv => by
    unfold tFeed
    rw [if_neg z, hv]
    exact ⟨rfl, S, Fq.refl⟩
  refine jE_of (as := [jP 141, jI n, jL w]) (Nat.le_of_ble_eq_true rfl) (c_108_0 (by omega) S.1 ?_)
  rw [X.1]
  refine ⟨fun y => ?_, fun y => no _ (by omega) (by unfold aFeed; rw [if_neg (by omega)])⟩
  rw [w32_i (x := (T.1 : Int) + n) (by omega) (by omega)]
  refine ⟨fun x => ?_, fun x => no _ (by omega) (by unfold aFeed; rw [if_pos y, if_neg x])⟩
  obtain ⟨m, rfl⟩ : ∃ m : Nat, n = (m : Int) := ⟨n.toNat, by omega⟩
  have key : ∀ (s q : Nat) (g : AH), m = q + s → Ly p g → Fq Z141 h g → TxM (T.1 + q, (fdT T m w).2) g → WF d 108 35 [jP 141, jI (m : Int), jL w, jU, jI ((s : Int) - 1)] [] g (fun u h' => u = some (jI (aFeed T (m : Int))) ∧ Rst p (tFeed T (m : Int) w) c pt h' ∧ Fq Z141 h h') := by
    intro s
    induction s with
    | zero =>
      intro q g hq L F Y
      refine c_108_35 (by omega) L ⟨fun _ => ⟨?_, ?_, F⟩, fun z => by omega⟩
      · rw [Y.1]
        unfold aFeed
        rw [if_pos y, if_pos x]
        show some (jI ((T.1 + q : Nat) : Int)) = _
        rw [show ((T.1 + q : Nat) : Int) = (T.1 : Int) + (m : Int) by omega]
      · unfold tFeed
        rw [if_pos ⟨y.1, y.2, x⟩, Int.toNat_natCast]
        have eq : m = q := by omega
        refine S.tx L F ?_
        rw [eq] at Y ⊢
        exact Y
    | succ s ih =>
      intro q g hq L F Y
      have Y1 : ji g 141 1 = ((T.1 + q : Nat) : Int) := Y.1
      refine c_108_35 (by omega) L ⟨fun z => by omega, fun _ => ?_⟩
      rw [Y1, show (((s + 1 : Nat) : Int) - 1) = (s : Int) by omega, w32_i (x := 8 * (s : Int)) (by omega) (by omega), fd_r (by omega) w hw, Int.toNat_natCast]
      refine ⟨by omega, by omega, fun L2 => c_108_61 (by omega) L2 ?_⟩
      rw [ji_wi, if_neg (by omega), Y1, w32_i (x := ((T.1 + q : Nat) : Int) + 1) (by omega) (by omega)]
      refine fun L3 => c_108_71 (by omega) L3 ?_
      rw [w32_i (x := (s : Int) + -1) (by omega) (by omega)]
      refine ih (q + 1) _ (by omega) L3 ((F.trans (Fq.wi (Or.inr rfl))).trans (Fq.wi (Or.inl ⟨rfl, rfl⟩))) ⟨?_, fun k hk => ?_⟩
      · rw [ji_wi, if_pos ⟨rfl, rfl⟩]; show _ = ((T.1 + (q + 1) : Nat) : Int); omega
      · have hk : k < T.1 + (q + 1) := hk
        rw [ji_wi, if_neg (by omega), ji_wi]
        by_cases ek : k = T.1 + q
        · rw [if_pos ⟨rfl, ek⟩]
          show _ = if k < T.1 then T.2 k else fdB w (m - 1 - (k - T.1))
          rw [if_neg (by omega), show m - 1 - (k - T.1) = s by omega]
        · rw [if_neg (fun q => ek q.2)]
          exact Y.2 k (by show k < T.1 + q; omega)
  have q := key m 0 h (by omega) S.1 Fq.refl ⟨X.1, fun k hk => by
    have hk : k < T.1 := hk
    rw [X.2 k hk]
    show _ = if k < T.1 then T.2 k else _
    rw [if_pos hk]⟩
  rw [w32_i (x := (m : Int) - 1) (by omega) (by omega)]
  exact q
end RCB
