/-! THE REFERENCE: the columns that are kept -/
theorem ow_of {S O : List (Int × Int)} (hS : okS S) (hO : okO S O) {k x : Nat} (hk : k < O.length) (hx : (x : Int) < szO S (O.getD k (-1, -1)).1 * szO S (O.getD k (-1, -1)).2) : owO S O (stO S O k + (x : Int)) = (k : Int) ∧ fN S O (stO S O k + (x : Int)) = (if (O.getD k (-1, -1)).1 = -1 then -1 else fsO S (O.getD k (-1, -1)).1 + Int.tdiv (x : Int) (szO S (O.getD k (-1, -1)).2)) ∧ sN S O (stO S O k + (x : Int)) = (if (O.getD k (-1, -1)).2 = -1 then -1 else fsO S (O.getD k (-1, -1)).2 + Int.tmod (x : Int) (szO S (O.getD k (-1, -1)).2)) ∧ stO S O k + (x : Int) < tot S O ∧ 0 ≤ stO S O k ∧ 0 < szO S (O.getD k (-1, -1)).2 := by
  have t0 : 0 ≤ stO S O k := (tot_r hS _).1
  have t1 := stO_succ (S := S) hk
  have t2 := stO_mono (S := S) (O := O) hS (j := k + 1) (k := O.length) (by omega) (Nat.le_refl _)
  rw [stO_len] at t2
  have s1 := szO_r hS (O.getD k (-1, -1)).1
  have s2 := szO_r hS (O.getD k (-1, -1)).2
  have s2p : 0 < szO S (O.getD k (-1, -1)).2 := by
    by_cases z : szO S (O.getD k (-1, -1)).2 = 0
    · rw [z, Int.mul_zero] at hx; omega
    · omega
  have ho := hO.2 _ (getD_mem hk (-1, -1))
  have lt : stO S O k + (x : Int) < tot S O := by omega
  have no := ow_in (S := S) (O := O) (x := stO S O k + (x : Int)) ⟨by omega, lt⟩
  obtain ⟨_, _, r3, r4, r5, r6⟩ := owO_r no
  have ow : owO S O (stO S O k + (x : Int)) = (k : Int) := by
    by_cases z1 : owO S O (stO S O k + (x : Int)) < (k : Int)
    · have := stO_mono (S := S) (O := O) hS (j := (owO S O (stO S O k + (x : Int))).toNat + 1) (k := k) (by omega) (by omega)
      omega
    by_cases z2 : (k : Int) < owO S O (stO S O k + (x : Int))
    · have := stO_mono (S := S) (O := O) hS (j := k + 1) (k := (owO S O (stO S O k + (x : Int))).toNat) (by omega) (by omega)
      omega
    · omega
  have th : thS O ((k : Nat) : Int) = O.getD k (-1, -1) := by unfold thS; rw [Int.toNat_natCast]
  refine ⟨ow, ?_, ?_, lt, t0, s2p⟩
  · unfold fN
    rw [if_neg no, ow, th, Int.toNat_natCast, if_neg (by omega), show stO S O k + (x : Int) - stO S O k = (x : Int) by omega]
    unfold nuO
    by_cases z : (O.getD k (-1, -1)).1 = -1
    · rw [if_pos (by omega), if_pos z]
    · rw [if_neg (by omega), if_neg z]
  · unfold sN
    rw [if_neg no, ow, th, Int.toNat_natCast, if_neg (by omega), show stO S O k + (x : Int) - stO S O k = (x : Int) by omega]
    unfold nuO
    by_cases z : (O.getD k (-1, -1)).2 = -1
    · rw [if_pos (by omega), if_pos z]
    · rw [if_neg (by omega), if_neg z]
def KpC (h : AH) (c : Dc) (pt : Nat → Int) (m : Nat) : Prop := ∀ x : Nat, x < m → ji h 183 x = owO (dS c) (dX c) x ∧ ji h 184 x = fN (dS c) (dX c) x ∧ ji h 185 x = sN (dS c) (dX c) x ∧ ji h 186 x = ((dB c).getD (owO (dS c) (dX c) x).toNat (0, 0)).1 ∧ ji h 187 x = ((dB c).getD (owO (dS c) (dX c) x).toNat (0, 0)).2 ∧ ji h 188 x = pt x
abbrev ZKc (a _k : Nat) : Prop := 183 ≤ a ∧ a ≤ 188
section RKC
variable {p : Lpar} {d v x col : Nat} {h h' g g0 : AH} {c : Dc} {Q : Option AV → AH → Prop} {a b : Int} {v1 : Int} {pt : Nat → Int}
theorem td_r {x y : Int} (h0 : 0 ≤ x) (h1 : x ≤ 64) (hy : 0 < y) : 0 ≤ Int.tdiv x y ∧ Int.tdiv x y ≤ 64 ∧ 0 ≤ Int.tmod x y ∧ Int.tmod x y ≤ 64 := by
  rw [Int.tdiv_eq_ediv_of_nonneg h0, Int.tmod_eq_emod_of_nonneg h0]
  have d1 := Int.ediv_nonneg h0 (Int.le_of_lt hy)
  have d2 : x / y ≤ x := Int.ediv_le_self y h0
  have m1 := Int.emod_nonneg x (show y ≠ 0 by omega)
  have m2 : x % y ≤ x := by
    have e := Int.emod_add_mul_ediv x y
    have := Int.mul_nonneg (Int.le_of_lt hy) d1
    omega
  omega
theorem col_158 (hd : 9 ≤ d) (L : Ly p g) (B : RTb g c) (hS : okS (dS c)) (hv : v < 6) (hB : v < (dB c).length) (ha : a = -1 ∨ (0 ≤ a ∧ a < ((dS c).length : Int))) (hb : b = -1 ∨ (0 ≤ b ∧ b < ((dS c).length : Int))) (hx : x ≤ 64) (hz : 0 < szO (dS c) b) (hc : col < 40) (K : ∀ g', Ly p g' → Fq (fun r k => (183 ≤ r ∧ r ≤ 188) ∧ k = col) g g' → ji g' 183 col = (v : Int) → ji g' 184 col = (if a = -1 then -1 else fsO (dS c) a + Int.tdiv (x : Int) (szO (dS c) b)) → ji g' 185 col = (if b = -1 then -1 else fsO (dS c) b + Int.tmod (x : Int) (szO (dS c) b)) → ji g' 186 col = ((dB c).getD v (0, 0)).1 → ji g' 187 col = ((dB c).getD v (0, 0)).2 → ji g' 188 col = ((dB c).getD v (0, 0)).1 → WF d 158 180 [jP 141, jI v1, jI (v : Int), jI a, jI b, jI (x : Int), jI (col : Int)] [] g' Q) : WF d 158 67 [jP 141, jI v1, jI (v : Int), jI a, jI b, jI (x : Int), jI (col : Int)] [] g Q := by
  have l6 := hS.1
  have fa := fsO_r hS a
  have fb := fsO_r hS b
  have td := td_r (x := (x : Int)) (by omega) (by omega) hz
  have mb : ∀ g1 : AH, RTb g1 c → (if b = -1 then 1 else ji g1 145 b.toNat) = szO (dS c) b := fun g1 B1 => many_at B1 hb
  refine c_158_67 hd L ⟨by omega, by omega, fun L1 => ?_⟩
  rw [Int.toNat_natCast] at L1 ⊢
  have F1 : Fq (fun r k => (183 ≤ r ∧ r ≤ 188) ∧ k = col) g (wi g 183 col (v : Int)) := Fq.wi (by omega)
  have e1 : ji (wi g 183 col (v : Int)) 183 col = (v : Int) := by rw [ji_wi, if_pos ⟨rfl, rfl⟩]
  generalize wi g 183 col (v : Int) = g1 at L1 F1 e1 ⊢
  have B1 : RTb g1 c := B.cg (fun r k z => F1.i (by omega))
  have s2 : ∀ X : Int, X = (if a = -1 then -1 else fsO (dS c) a + Int.tdiv (x : Int) (szO (dS c) b)) → Ly p (wi g1 184 col X) → WF d 158 107 [jP 141, jI v1, jI (v : Int), jI a, jI b, jI (x : Int), jI (col : Int)] [] (wi g1 184 col X) Q := by
    intro X hX L2
    have F2 : Fq (fun r k => (183 ≤ r ∧ r ≤ 188) ∧ k = col) g (wi g1 184 col X) := F1.trans (Fq.wi (by omega))
    have e2 : ji (wi g1 184 col X) 184 col = X := by rw [ji_wi, if_pos ⟨rfl, rfl⟩]
    have e12 : ji (wi g1 184 col X) 183 col = (v : Int) := by rw [ji_wi, if_neg (by omega)]; exact e1
    generalize wi g1 184 col X = g2 at L2 F2 e2 e12 ⊢
    have B2 : RTb g2 c := B.cg (fun r k z => F2.i (by omega))
    have s3 : ∀ Y : Int, Y = (if b = -1 then -1 else fsO (dS c) b + Int.tmod (x : Int) (szO (dS c) b)) → Ly p (wi g2 185 col Y) → WF d 158 141 [jP 141, jI v1, jI (v : Int), jI a, jI b, jI (x : Int), jI (col : Int)] [] (wi g2 185 col Y) Q := by
      intro Y hY L3
      have F3 : Fq (fun r k => (183 ≤ r ∧ r ≤ 188) ∧ k = col) g (wi g2 185 col Y) := F2.trans (Fq.wi (by omega))
      have e3 : ji (wi g2 185 col Y) 185 col = Y := by rw [ji_wi, if_pos ⟨rfl, rfl⟩]
      have e13 : ji (wi g2 185 col Y) 183 col = (v : Int) ∧ ji (wi g2 185 col Y) 184 col = X := ⟨by rw [ji_wi, if_neg (by omega)]; exact e12, by rw [ji_wi, if_neg (by omega)]; exact e2⟩
      generalize wi g2 185 col Y = g3 at L3 F3 e3 e13 ⊢
      have B3 : RTb g3 c := B.cg (fun r k z => F3.i (by omega))
      have q3 := B3.2.2.2.2 v hB
      refine c_158_141 hd L3 ⟨by omega, by omega, by omega, by omega, fun L4 => ?_⟩
      rw [Int.toNat_natCast, Int.toNat_natCast, q3.1] at L4 ⊢
      have F4 : Fq (fun r k => (183 ≤ r ∧ r ≤ 188) ∧ k = col) g (wi g3 186 col ((dB c).getD v (0, 0)).1) := F3.trans (Fq.wi (by omega))
      have e4 : ji (wi g3 186 col ((dB c).getD v (0, 0)).1) 183 col = (v : Int) ∧ ji (wi g3 186 col ((dB c).getD v (0, 0)).1) 184 col = X ∧ ji (wi g3 186 col ((dB c).getD v (0, 0)).1) 185 col = Y ∧ ji (wi g3 186 col ((dB c).getD v (0, 0)).1) 186 col = ((dB c).getD v (0, 0)).1 := ⟨by rw [ji_wi, if_neg (by omega)]; exact e13.1, by rw [ji_wi, if_neg (by omega)]; exact e13.2, by rw [ji_wi, if_neg (by omega)]; exact e3, by rw [ji_wi, if_pos ⟨rfl, rfl⟩]⟩
      generalize wi g3 186 col ((dB c).getD v (0, 0)).1 = g4 at L4 F4 e4 ⊢
      have B4 : RTb g4 c := B.cg (fun r k z => F4.i (by omega))
      have q4 := B4.2.2.2.2 v hB
      refine c_158_154 hd L4 ⟨by omega, by omega, by omega, by omega, fun L5 => ?_⟩
      rw [Int.toNat_natCast, Int.toNat_natCast, q4.2] at L5 ⊢
      refine c_158_167 hd L5 ⟨by omega, by omega, by omega, by omega, fun L6 => ?_⟩
      rw [Int.toNat_natCast, Int.toNat_natCast, ji_wi, if_neg (by omega), q4.1] at L6 ⊢
      refine K _ L6 ((F4.trans (Fq.wi (by omega))).trans (Fq.wi (by omega))) ?_ ?_ ?_ ?_ ?_ ?_
      · rw [ji_wi, if_neg (by omega), ji_wi, if_neg (by omega)]; exact e4.1
      · rw [ji_wi, if_neg (by omega), ji_wi, if_neg (by omega), e4.2.1]; exact hX
      · rw [ji_wi, if_neg (by omega), ji_wi, if_neg (by omega), e4.2.2.1]; exact hY
      · rw [ji_wi, if_neg (by omega), ji_wi, if_neg (by omega)]; exact e4.2.2.2
      · rw [ji_wi, if_neg (by omega), ji_wi, if_pos ⟨rfl, rfl⟩]
      · rw [ji_wi, if_pos ⟨rfl, rfl⟩]
    refine c_158_107 hd L2 ⟨fun z => ⟨by omega, by omega, ?_⟩, fun z => ?_⟩
    · rw [Int.toNat_natCast]; exact s3 (-1) (by rw [if_pos z])
    · rw [mb g2 B2, (set_at B2 (s := b) (by omega) (by omega)).1, w32_i (x := Int.tmod (x : Int) (szO (dS c) b)) (by omega) (by omega), w32_i (x := fsO (dS c) b + Int.tmod (x : Int) (szO (dS c) b)) (by omega) (by omega), Int.toNat_natCast]
      exact ⟨by omega, by omega, by omega, by omega, by omega, by omega, s3 _ (by rw [if_neg z])⟩
  refine c_158_75 hd L1 ⟨fun z => ⟨by omega, by omega, ?_⟩, fun z => ?_⟩
  · rw [Int.toNat_natCast]; exact s2 (-1) (by rw [if_pos z])
  · rw [mb g1 B1, (set_at B1 (s := a) (by omega) (by omega)).1, w32_i (x := Int.tdiv (x : Int) (szO (dS c) b)) (by omega) (by omega), w32_i (x := fsO (dS c) a + Int.tdiv (x : Int) (szO (dS c) b)) (by omega) (by omega), Int.toNat_natCast]
    exact ⟨by omega, by omega, by omega, by omega, by omega, by omega, s2 _ (by rw [if_neg z])⟩
/-- the columns of one VAR -/
theorem l_158b (hd : 9 ≤ d) (O : okD c) (t40 : tot (dS c) (dX c) ≤ 40) (hv : v < (dX c).length) : ∀ (s x : Nat) (g : AH) (z6 : AV), szO (dS c) ((dX c).getD v (-1, -1)).1 * szO (dS c) ((dX c).getD v (-1, -1)).2 = ((x + s : Nat) : Int) → Ly p g → RTb g c → ji g 174 v = stO (dS c) (dX c) v → KpC g c (lowP c) ((stO (dS c) (dX c) v).toNat + x) → Fq ZKc g0 g → (∀ g' y5 y6, Ly p g' → Fq ZKc g0 g' → KpC g' c (lowP c) (stO (dS c) (dX c) (v + 1)).toNat → WF d 158 7 [jP 141, jI v1, jI ((v + 1 : Nat) : Int), jI ((dX c).getD v (-1, -1)).1, jI ((dX c).getD v (-1, -1)).2, jI y5, y6] [] g' Q) → WF d 158 39 [jP 141, jI v1, jI (v : Int), jI ((dX c).getD v (-1, -1)).1, jI ((dX c).getD v (-1, -1)).2, jI (x : Int), z6] [] g Q := by
  have hS : okS (dS c) := O.1.2.1
  have hO : okO (dS c) (dX c) := O.1.2.2.2.2.1
  have lX : (dX c).length ≤ 6 := O.1.2.2.2.2.2.1
  have l6 := hS.1
  have lB : (dB c).length = (dX c).length := O.2.2.1
  have ho := hO.2 _ (getD_mem hv (-1, -1))
  have sz := sz2_r hS ((dX c).getD v (-1, -1)).1 ((dX c).getD v (-1, -1)).2
  have t0 : 0 ≤ stO (dS c) (dX c) v := (tot_r hS _).1
  have t1 := stO_succ (S := dS c) hv
  intro s
  induction s with
  | zero =>
    intro x g z6 hx L B e C F K
    refine c_158_39 hd L ?_
    rw [many_at B (by omega), many_at B (by omega), w32_i (x := szO (dS c) ((dX c).getD v (-1, -1)).1 * szO (dS c) ((dX c).getD v (-1, -1)).2) (by omega) (by omega), w32_i (x := (v : Int) + 1) (by omega) (by omega)]
    refine ⟨by omega, by omega, fun _ => K g _ z6 L F ?_, fun z => by omega⟩
    rw [show (stO (dS c) (dX c) (v + 1)).toNat = (stO (dS c) (dX c) v).toNat + x by omega]
    exact C
  | succ s ih =>
    intro x g z6 hx L B e C F K
    obtain ⟨o1, o2, o3, o4, o5, o6⟩ := ow_of hS hO hv (x := x) (by omega)
    refine c_158_39 hd L ?_
    rw [many_at B (by omega), many_at B (by omega), w32_i (x := szO (dS c) ((dX c).getD v (-1, -1)).1 * szO (dS c) ((dX c).getD v (-1, -1)).2) (by omega) (by omega), w32_i (x := (v : Int) + 1) (by omega) (by omega), Int.toNat_natCast, e, w32_i (x := stO (dS c) (dX c) v + (x : Int)) (by omega) (by omega)]
    refine ⟨by omega, by omega, fun z => by omega, fun _ => ⟨by omega, by omega, ?_⟩⟩
    rw [show stO (dS c) (dX c) v + (x : Int) = (((stO (dS c) (dX c) v).toNat + x : Nat) : Int) by omega] at o1 o2 o3 ⊢
    generalize hcol : (stO (dS c) (dX c) v).toNat + x = col at o1 o2 o3 C ⊢
    refine col_158 hd L B hS (by omega) (by omega) (by omega) (by omega) (by omega) o6 (by omega) (fun g' L' F' f1 f2 f3 f4 f5 f6 => c_158_180 hd L' ?_)
    rw [w32_i (x := (x : Int) + 1) (by omega) (by omega)]
    refine ih (x + 1) g' _ (by omega) L' (B.cg (fun r k z => F'.i (by omega))) ((F'.i (by omega)).trans e) ?_ (F.trans (F'.mono (fun r k z => z.1))) K
    intro y hy
    by_cases ey : y = col
    · subst ey
      rw [f1, f2, f3, f4, f5, f6, o1, o2, o3, Int.toNat_natCast]
      refine ⟨rfl, rfl, rfl, rfl, rfl, ?_⟩
      unfold lowP
      rw [o1, Int.toNat_natCast]
    · rw [F'.i (by omega), F'.i (by omega), F'.i (by omega), F'.i (by omega), F'.i (by omega), F'.i (by omega)]
      exact C y (by omega)
theorem l_158a (hd : 9 ≤ d) (O : okD c) (t40 : tot (dS c) (dX c) ≤ 40) : ∀ (s v : Nat) (g : AH) (z3 z4 z5 z6 : AV), (dX c).length = v + s → Ly p g → RTb g c → ji g 141 15 = ((dX c).length : Int) → (∀ k, k < (dX c).length → ji g 174 k = stO (dS c) (dX c) k) → KpC g c (lowP c) (stO (dS c) (dX c) v).toNat → Fq ZKc g0 g → (∀ g', Ly p g' → Fq ZKc g0 g' → KpC g' c (lowP c) (tot (dS c) (dX c)).toNat → Q none g') → WF d 158 7 [jP 141, jI v1, jI (v : Int), z3, z4, z5, z6] [] g Q := by
  have lX : (dX c).length ≤ 6 := O.1.2.2.2.2.2.1
  have hS : okS (dS c) := O.1.2.1
  intro s
  induction s with
  | zero =>
    intro v g z3 z4 z5 z6 hv L B e A C F K
    refine c_158_7 hd L ?_
    rw [e]
    refine ⟨fun _ => K g L F ?_, fun z => by omega⟩
    rw [← stO_len, show (dX c).length = v by omega]
    exact C
  | succ s ih =>
    intro v g z3 z4 z5 z6 hv L B e A C F K
    have q := B.2.2.2.1 v (by omega)
    refine c_158_7 hd L ?_
    rw [e, w32_i (x := 2 * (v : Int)) (by omega) (by omega), show 2 * (v : Int) = ((2 * v : Nat) : Int) by omega, Int.toNat_natCast, q.1]
    refine ⟨fun z => by omega, fun _ => ⟨by omega, by omega, c_158_24 hd L ?_⟩⟩
    rw [w32_i (x := 2 * (v : Int)) (by omega) (by omega), w32_i (x := 2 * (v : Int) + 1) (by omega) (by omega), show 2 * (v : Int) + 1 = ((2 * v + 1 : Nat) : Int) by omega, Int.toNat_natCast, q.2]
    refine ⟨by omega, by omega, c_158_36 hd L ?_⟩
    have sz := sz2_r hS ((dX c).getD v (-1, -1)).1 ((dX c).getD v (-1, -1)).2
    refine l_158b hd O t40 (by omega) (szO (dS c) ((dX c).getD v (-1, -1)).1 * szO (dS c) ((dX c).getD v (-1, -1)).2).toNat 0 g z6 (by omega) L B (A v (by omega)) C F (fun g' y5 y6 L' F' C' => ?_)
    -- the frame from g to g' is not at hand: all that is read lies outside of it
    have i' : ∀ r k, ¬ (183 ≤ r ∧ r ≤ 188) → ji g' r k = ji g r k := fun r k z => (F'.i z).trans (F.i z).symm
    exact ih (v + 1) g' _ _ _ _ (by omega) L' (B.cg (fun r k z => i' r k (by omega))) ((i' _ _ (by omega)).trans e) (fun k hk => (i' _ _ (by omega)).trans (A k hk)) C' F' K
theorem m_158 (hd : 10 ≤ d) (L : Ly p h) (B : RTb h c) (O : okD c) (t40 : tot (dS c) (dX c) ≤ 40) (e : ji h 141 15 = ((dX c).length : Int)) (A : ∀ k, k < (dX c).length → ji h 174 k = stO (dS c) (dX c) k) : ∃ h', jE d 158 [jP 141, jI v1] h none h' ∧ Ly p h' ∧ Fq (fun a k => ZKc a k ∨ (a = 141 ∧ k = 65)) h h' ∧ ji h' 141 65 = v1 ∧ KpC h' c (lowP c) (tot (dS c) (dX c)).toNat := by
  suffices hh : ∃ w h', jE d 158 [jP 141, jI v1] h w h' ∧ w = none ∧ Ly p h' ∧ Fq (fun a k => ZKc a k ∨ (a = 141 ∧ k = 65)) h h' ∧ ji h' 141 65 = v1 ∧ KpC h' c (lowP c) (tot (dS c) (dX c)).toNat by
    obtain ⟨w, h', hE, rfl, q⟩ := hh
    exact ⟨h', hE, q⟩
  obtain ⟨d, rfl⟩ : ∃ d', d = d' + 1 := ⟨d - 1, by omega⟩
  refine jE_of (as := [jP 141, jI v1]) (Nat.le_of_ble_eq_true rfl) (c_158_0 (by omega) L (fun L1 => c_158_5 (by omega) L1 ?_))
  have F1 : Fq (fun a k => a = 141 ∧ k = 65) h (wi h 141 65 v1) := Fq.wi ⟨rfl, rfl⟩
  have e65 : ji (wi h 141 65 v1) 141 65 = v1 := by rw [ji_wi, if_pos ⟨rfl, rfl⟩]
  generalize wi h 141 65 v1 = g at L1 F1 e65 ⊢
  refine l_158a (g0 := g) (by omega) O t40 (dX c).length 0 g _ _ _ _ (by omega) L1 (B.cg (fun r k z => F1.i (by omega))) ((F1.i (by omega)).trans e) (fun k hk => (F1.i (by omega)).trans (A k hk)) (fun x hx => absurd hx (Nat.not_lt_zero x)) Fq.refl (fun g' L' F' C' => ⟨rfl, L', ?_, (F'.i (by omega)).trans e65, C'⟩)
  exact (F1.mono (fun a k z => Or.inr z)).trans (F'.mono (fun a k z => Or.inl z))
end RKC
