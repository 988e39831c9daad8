/-! THE REFERENCE: the rows that are kept -/
def KpW (h : AH) (c : Dc) (m : Nat) : Prop := ∀ x : Nat, x < m → ji h 189 x = owO (dS c) (dR c) x ∧ ji h 190 x = fN (dS c) (dR c) x ∧ ji h 191 x = sN (dS c) (dR c) x ∧ ji h 192 x = ((dL c).getD (owO (dS c) (dR c) x).toNat zL).1 ∧ (∀ j, j < 40 → jl h 193 (41 * x + j) = w64 (rowL c x j)) ∧ jl h 193 (41 * x + 40) = w64 (-(rowL c x 40))
abbrev ZKr (a k : Nat) : Prop := a = 172 ∨ a = 173 ∨ (a = 141 ∧ (k = 54 ∨ k = 72)) ∨ (189 ≤ a ∧ a ≤ 193)
/-- what stands while rows are made -/
def RkS (p : Lpar) (c : Dc) (A : Nat) (g : AH) : Prop := GoC p c g ∧ RRl g c A ∧ A ≤ 1600 ∧ shD c ∧ ji g 141 20 = ((dR c).length : Int) ∧ tot (dS c) (dR c) ≤ 40
section RKR
variable {p : Lpar} {d r x row A : Nat} {h h' g g0 : AH} {c : Dc} {Q : Option AV → AH → Prop} {a b v1 v2 v3 : Int} {z5 : AV}
theorem RkS.fq (S : RkS p c A g) (F : Fq ZKr g h) : RkS p c A h := by
  obtain ⟨⟨C1, C2, C3, C4, C5⟩, R, hA, sh, e, t⟩ := S
  exact ⟨⟨C1.fq F (fun a k z => by omega), C2.cg (fun a k z => F.i (by omega)), C3, C4, fun k hk => (F.i (by omega)).trans (C5 k hk)⟩, R.cg (Nat.le_refl _) (fun a k z => F.i (by omega)) (fun a k z => F.l (by omega)), hA, sh, (F.i (by omega)).trans e, t⟩
theorem m_155 (hd : 10 ≤ d) (L : Ly p h) (B : RTb h c) (O : okD c) (R : RRl h c A) (hr : r < (dR c).length) : jE d 155 [jP 141, jI (r : Int)] h (some (jI (szO (dS c) ((dR c).getD r (-1, -1)).1 * szO (dS c) ((dR c).getD r (-1, -1)).2))) h := by
  obtain ⟨d, rfl⟩ : ∃ d', d = d' + 1 := ⟨d - 1, by omega⟩
  have hS : okS (dS c) := O.1.2.1
  have l6 := hS.1
  have lR : (dR c).length ≤ 10 := O.2.1.1
  have ho := O.2.1.2 _ (getD_mem hr (-1, -1))
  have q := R.1 r hr
  have z := sz2_r hS ((dR c).getD r (-1, -1)).1 ((dR c).getD r (-1, -1)).2
  refine jE_eq (Nat.le_of_ble_eq_true rfl) (c_155_0 (by omega) L ?_)
  rw [w32_i (x := 2 * (r : Int)) (by omega) (by omega), w32_i (x := 2 * (r : Int) + 1) (by omega) (by omega), show 2 * (r : Int) + 1 = ((2 * r + 1 : Nat) : Int) by omega, show 2 * (r : Int) = ((2 * r : Nat) : Int) by omega, Int.toNat_natCast, Int.toNat_natCast, q.1, q.2, many_at B (by omega), many_at B (by omega), w32_i (by omega) (by omega)]
  exact ⟨by omega, by omega, by omega, by omega, by omega, by omega, rfl, rfl⟩
theorem in_row (O : okD c) (hr : r < (dR c).length) (hx : (x : Int) < szO (dS c) ((dR c).getD r (-1, -1)).1 * szO (dS c) ((dR c).getD r (-1, -1)).2) (hrow : (row : Int) = stO (dS c) (dR c) r + (x : Int)) : InS (dS c) (slR ((dR c).getD r (-1, -1))) (rnu c row) := by
  have hS : okS (dS c) := O.1.2.1
  obtain ⟨o1, o2, o3, o4, o5, o6⟩ := ow_of hS O.2.1 hr hx
  rw [← hrow] at o1 o2 o3
  have ho := O.2.1.2 _ (getD_mem hr (-1, -1))
  generalize (dR c).getD r (-1, -1) = o at *
  have s1 := szO_r hS o.1
  have hd0 : (0 : Int) ≤ Int.tdiv (x : Int) (szO (dS c) o.2) ∧ Int.tdiv (x : Int) (szO (dS c) o.2) < szO (dS c) o.1 := by
    rw [Int.tdiv_eq_ediv_of_nonneg (by omega)]
    exact ⟨Int.ediv_nonneg (by omega) (by omega), Int.ediv_lt_of_lt_mul o6 hx⟩
  have hm0 : (0 : Int) ≤ Int.tmod (x : Int) (szO (dS c) o.2) ∧ Int.tmod (x : Int) (szO (dS c) o.2) < szO (dS c) o.2 := by
    rw [Int.tmod_eq_emod_of_nonneg (by omega)]
    exact ⟨Int.emod_nonneg _ (by omega), Int.emod_lt_of_pos _ o6⟩
  intro s hs
  unfold slR at hs ⊢
  unfold rnu
  by_cases z : o.1 = -1
  · rw [if_pos z] at hs; exact absurd hs (Nat.not_lt_zero s)
  rw [if_neg z] at hs ⊢ o2
  by_cases y : o.2 = -1
  · rw [if_pos y] at hs ⊢
    have hs : s < 1 := hs
    have e : s = 0 := by omega
    subst e
    rw [if_pos rfl, o2]
    show 0 ≤ o.1 ∧ o.1 < ((dS c).length : Int) ∧ fsO (dS c) o.1 ≤ _ ∧ _ < fsO (dS c) o.1 + szO (dS c) o.1
    omega
  rw [if_neg y] at hs ⊢ o3
  have hs : s < 2 := hs
  rcases (by omega : s = 0 ∨ s = 1) with e | e
  · subst e
    rw [if_pos rfl, o2]
    show 0 ≤ o.1 ∧ o.1 < ((dS c).length : Int) ∧ fsO (dS c) o.1 ≤ _ ∧ _ < fsO (dS c) o.1 + szO (dS c) o.1
    omega
  · subst e
    rw [if_neg (by decide), o3]
    show 0 ≤ o.2 ∧ o.2 < ((dS c).length : Int) ∧ fsO (dS c) o.2 ≤ _ ∧ _ < fsO (dS c) o.2 + szO (dS c) o.2
    omega
/-- numbers of a row, its relation -/
theorem row_159a (hd : 9 ≤ d) (L : Ly p g) (B : RTb g c) (hS : okS (dS c)) (e72 : ji g 141 72 = (row : Int)) (hr : r < 10) {rel : Int} (e155 : ji g 155 r = rel) (ha : a = -1 ∨ (0 ≤ a ∧ a < ((dS c).length : Int))) (hb : b = -1 ∨ (0 ≤ b ∧ b < ((dS c).length : Int))) (hx : x ≤ 64) (hz : 0 < szO (dS c) b) (hc : row < 40) (K : ∀ g', Ly p g' → Fq (fun i k => (190 ≤ i ∧ i ≤ 192) ∧ k = row) g g' → ji g' 190 row = (if a = -1 then -1 else fsO (dS c) a + Int.tdiv (x : Int) (szO (dS c) b)) → ji g' 191 row = (if b = -1 then -1 else fsO (dS c) b + Int.tmod (x : Int) (szO (dS c) b)) → ji g' 192 row = rel → WF d 159 139 [jP 141, jI (r : Int), jI a, jI b, jI (x : Int), z5] [] g' Q) : WF d 159 58 [jP 141, jI (r : Int), jI a, jI b, jI (x : Int), z5] [] g Q := by
  have l6 := hS.1
  have fa := fsO_r hS a
  have fb := fsO_r hS b
  have td := td_r (x := (x : Int)) (by omega) (by omega) hz
  have mb : ∀ g1 : AH, RTb g1 c → (if b = -1 then 1 else ji g1 145 b.toNat) = szO (dS c) b := fun g1 B1 => many_at B1 hb
  have s2 : ∀ X : Int, X = (if a = -1 then -1 else fsO (dS c) a + Int.tdiv (x : Int) (szO (dS c) b)) → Ly p (wi g 190 row X) → WF d 159 91 [jP 141, jI (r : Int), jI a, jI b, jI (x : Int), z5] [] (wi g 190 row X) Q := by
    intro X hX L2
    have F2 : Fq (fun i k => (190 ≤ i ∧ i ≤ 192) ∧ k = row) g (wi g 190 row X) := Fq.wi (by omega)
    have e2 : ji (wi g 190 row X) 190 row = X := by rw [ji_wi, if_pos ⟨rfl, rfl⟩]
    generalize wi g 190 row X = g2 at L2 F2 e2 ⊢
    have B2 : RTb g2 c := B.cg (fun r k z => F2.i (by omega))
    have e722 : ji g2 141 72 = (row : Int) := (F2.i (by omega)).trans e72
    have s3 : ∀ Y : Int, Y = (if b = -1 then -1 else fsO (dS c) b + Int.tmod (x : Int) (szO (dS c) b)) → Ly p (wi g2 191 row Y) → WF d 159 124 [jP 141, jI (r : Int), jI a, jI b, jI (x : Int), z5] [] (wi g2 191 row Y) Q := by
      intro Y hY L3
      have F3 : Fq (fun i k => (190 ≤ i ∧ i ≤ 192) ∧ k = row) g (wi g2 191 row Y) := F2.trans (Fq.wi (by omega))
      have e3 : ji (wi g2 191 row Y) 191 row = Y := by rw [ji_wi, if_pos ⟨rfl, rfl⟩]
      have e13 : ji (wi g2 191 row Y) 190 row = X := by rw [ji_wi, if_neg (by omega)]; exact e2
      generalize wi g2 191 row Y = g3 at L3 F3 e3 e13 ⊢
      have e723 : ji g3 141 72 = (row : Int) := (F3.i (by omega)).trans e72
      have e1553 : ji g3 155 r = rel := (F3.i (by omega)).trans e155
      refine c_159_124 hd L3 ?_
      rw [e723, Int.toNat_natCast, Int.toNat_natCast, e1553]
      refine ⟨by omega, by omega, by omega, by omega, fun L4 => ?_⟩
      refine K _ L4 (F3.trans (Fq.wi (by omega))) ?_ ?_ ?_
      · rw [ji_wi, if_neg (by omega), e13]; exact hX
      · rw [ji_wi, if_neg (by omega), e3]; exact hY
      · rw [ji_wi, if_pos ⟨rfl, rfl⟩]
    refine c_159_91 hd L2 ?_
    rw [e722, Int.toNat_natCast]
    refine ⟨fun z => ⟨by omega, by omega, s3 (-1) (by rw [if_pos z])⟩, fun z => ?_⟩
    rw [mb g2 B2, (set_at B2 (s := b) (by omega) (by omega)).1, w32_i (x := Int.tmod (x : Int) (szO (dS c) b)) (by omega) (by omega), w32_i (x := fsO (dS c) b + Int.tmod (x : Int) (szO (dS c) b)) (by omega) (by omega)]
    exact ⟨by omega, by omega, by omega, by omega, by omega, by omega, s3 _ (by rw [if_neg z])⟩
  refine c_159_58 hd L ?_
  rw [e72, Int.toNat_natCast]
  refine ⟨fun z => ⟨by omega, by omega, s2 (-1) (by rw [if_pos z])⟩, fun z => ?_⟩
  rw [mb g B, (set_at B (s := a) (by omega) (by omega)).1, w32_i (x := Int.tdiv (x : Int) (szO (dS c) b)) (by omega) (by omega), w32_i (x := fsO (dS c) a + Int.tdiv (x : Int) (szO (dS c) b)) (by omega) (by omega)]
  exact ⟨by omega, by omega, by omega, by omega, by omega, by omega, s2 _ (by rw [if_neg z])⟩
/-- both sums of a row -/
theorem row_159b (hd : 16 ≤ d) (S : RkS p c A g) (hr : r < (dR c).length) (e72 : ji g 141 72 = (row : Int)) (hc : row < 40) (hI : InS (dS c) (slR ((dR c).getD r (-1, -1))) (rnu c row)) (e190 : ji g 190 row = fN (dS c) (dR c) row) (e191 : ji g 191 row = sN (dS c) (dR c) row) (K : ∀ g', RkS p c A g' → Fq (fun i k => i = 172 ∨ i = 173 ∨ (i = 141 ∧ k = 54)) g g' → StK g' 0 (lin c ((dL c).getD r zL).2.1 (rnu c row)) → StK g' 1 (lin c ((dL c).getD r zL).2.2 (rnu c row)) → WF d 159 220 [jP 141, jI (r : Int), jI a, jI b, jI (x : Int), z5] [] g' Q) : WF d 159 139 [jP 141, jI (r : Int), jI a, jI b, jI (x : Int), z5] [] g Q := by
  have O := S.1.2.2.1
  have lR : (dR c).length ≤ 10 := O.2.1.1
  have lL : (dL c).length = (dR c).length := O.2.2.2.1
  have ex := (O.2.2.2.2.2.2.2.2.1 r (by omega)).2
  have sh := S.2.2.2.1.1 r (by omega)
  have sl2 := slR_l ((dR c).getD r (-1, -1))
  refine c_159_139 (by omega) S.1.1 ?_
  rw [e72, Int.toNat_natCast, e190]
  refine ⟨by omega, by omega, fun L1 => c_159_154 (by omega) L1 ?_⟩
  rw [ji_wi, if_neg (by omega), e72, Int.toNat_natCast, ji_wi, if_neg (by omega), e191]
  refine ⟨by omega, by omega, fun L2 => c_159_169 (by omega) L2 (fun L3 => ?_)⟩
  have F3 : Fq (fun i k => i = 172 ∨ i = 173 ∨ (i = 141 ∧ k = 54)) g (wi (wi (wi g 173 (Int.toNat 0) (fN (dS c) (dR c) row)) 173 (Int.toNat 1) (sN (dS c) (dR c) row)) 141 54 0) := ((Fq.wi (by omega)).trans (Fq.wi (by omega))).trans (Fq.wi (by omega))
  have i0 : ji (wi (wi (wi g 173 (Int.toNat 0) (fN (dS c) (dR c) row)) 173 (Int.toNat 1) (sN (dS c) (dR c) row)) 141 54 0) 173 0 = fN (dS c) (dR c) row := by
    rw [ji_wi, if_neg (by omega), ji_wi, if_neg (by show ¬ (173 = 173 ∧ 0 = 1); omega), ji_wi, if_pos ⟨rfl, rfl⟩]
  have i1 : ji (wi (wi (wi g 173 (Int.toNat 0) (fN (dS c) (dR c) row)) 173 (Int.toNat 1) (sN (dS c) (dR c) row)) 141 54 0) 173 1 = sN (dS c) (dR c) row := by
    rw [ji_wi, if_neg (by omega), ji_wi, if_pos ⟨rfl, rfl⟩]
  have i2 : ji (wi (wi (wi g 173 (Int.toNat 0) (fN (dS c) (dR c) row)) 173 (Int.toNat 1) (sN (dS c) (dR c) row)) 141 54 0) 141 54 = ((0 : Nat) : Int) := by
    rw [ji_wi, if_pos ⟨rfl, rfl⟩]; rfl
  generalize wi (wi (wi g 173 (Int.toNat 0) (fN (dS c) (dR c) row)) 173 (Int.toNat 1) (sN (dS c) (dR c) row)) 141 54 0 = g3 at L3 F3 i0 i1 i2 ⊢
  have S3 : RkS p c A g3 := S.fq (F3.mono (fun a k z => by omega))
  have N3 : NuR g3 (slR ((dR c).getD r (-1, -1))).length (rnu c row) := fun s hs => by
    unfold rnu
    rcases (by omega : s = 0 ∨ s = 1) with e | e
    · subst e; rw [if_pos rfl]; exact i0
    · subst e; rw [if_neg (by decide)]; exact i1
  obtain ⟨_, _, ca, cb, cd, hA, q4, q5, q6, c1, c2⟩ := S3.2.1.2.1 r (by omega)
  have hA2 := S3.2.2.1
  have lt1 := cR_lt c1
  have lt2 := cR_lt c2
  obtain ⟨g4, hE4, C4, F4, K4, q54⟩ := m_151 (d := d) (b := 0) (by omega) sh.1 ex.1 (by omega) S3.1 c1 hI N3 i2 (by omega) (by omega)
  have S4 : RkS p c A g4 := S3.fq (F4.mono (fun a k z => by omega))
  have N4 : NuR g4 (slR ((dR c).getD r (-1, -1))).length (rnu c row) := fun s hs => (F4.i (by omega)).trans (N3 s hs)
  have c2' : cR g4 ((dL c).getD r zL).2.2 cb cd := cR_mono c2 (fun a k y1 y2 _ _ => F4.i (by omega))
  obtain ⟨g5, hE5, C5, F5, K5, r54⟩ := m_151 (d := d) (b := 1) (by omega) sh.2 ex.2 (by omega) S4.1 c2' hI N4 q54 (by omega) (by omega)
  have S5 : RkS p c A g5 := S4.fq (F5.mono (fun a k z => by omega))
  have q6' : ji g4 156 (3 * r + 2) = (cd : Int) := (F4.i (by omega)).trans q6
  have q5' : ji g4 156 (3 * r + 1) = (cb : Int) := (F4.i (by omega)).trans q5
  refine c_159_174 (by omega) L3 ?_
  rw [w32_i (x := 3 * (r : Int)) (by omega) (by omega), w32_i (x := 3 * (r : Int) + 1) (by omega) (by omega), show 3 * (r : Int) + 1 = ((3 * r + 1 : Nat) : Int) by omega, show 3 * (r : Int) = ((3 * r : Nat) : Int) by omega, Int.toNat_natCast, Int.toNat_natCast, q4, q5]
  refine ⟨by omega, by omega, by omega, by omega, g4, hE4, C4.1, c_159_196 (by omega) C4.1 ?_⟩
  rw [w32_i (x := 3 * (r : Int)) (by omega) (by omega), w32_i (x := 3 * (r : Int) + 1) (by omega) (by omega), w32_i (x := 3 * (r : Int) + 2) (by omega) (by omega), show 3 * (r : Int) + 1 = ((3 * r + 1 : Nat) : Int) by omega, show 3 * (r : Int) + 2 = ((3 * r + 2 : Nat) : Int) by omega, Int.toNat_natCast, Int.toNat_natCast, q5', q6']
  refine ⟨by omega, by omega, by omega, by omega, g5, hE5, C5.1, ?_⟩
  exact K g5 S5 ((F3.trans (F4.mono (fun a k z => by omega))).trans (F5.mono (fun a k z => by omega))) (fun j hj => by rw [F5.l (by omega)]; exact K4 j hj) K5
end RKR
