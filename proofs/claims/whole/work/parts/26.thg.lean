-- needs: 20.num 21.lay 22.spec 23.va 24.leaf 25.tbls
/-! THINGS -/
def thS (O : List (Int × Int)) (k : Int) : Int × Int := O.getD k.toNat (-1, -1)
def spO (S O : List (Int × Int)) (k i j : Int) : Int := if k < 0 ∨ (O.length : Int) ≤ k then -1 else if ofO S (thS O k).1 i = -1 ∨ ofO S (thS O k).2 j = -1 then -1 else stO S O k.toNat + ofO S (thS O k).1 i * szO S (thS O k).2 + ofO S (thS O k).2 j
def owF (S O : List (Int × Int)) (c : Int) : Nat → Nat
  | 0 => 0
  | k + 1 => if stO S O (k + 1) ≤ c then k + 1 else owF S O c k
def owO (S O : List (Int × Int)) (c : Int) : Int := if c < 0 ∨ tot S O ≤ c then -1 else (owF S O c (O.length - 1) : Int)
def fN (S O : List (Int × Int)) (c : Int) : Int := if owO S O c = -1 then -1 else if szO S (thS O (owO S O c)).2 ≤ 0 then -1 else nuO S (thS O (owO S O c)).1 (Int.tdiv (c - stO S O (owO S O c).toNat) (szO S (thS O (owO S O c)).2))
def sN (S O : List (Int × Int)) (c : Int) : Int := if owO S O c = -1 then -1 else if szO S (thS O (owO S O c)).2 ≤ 0 then -1 else nuO S (thS O (owO S O c)).2 (Int.tmod (c - stO S O (owO S O c).toNat) (szO S (thS O (owO S O c)).2))
theorem owF_le (S O : List (Int × Int)) (c : Int) : ∀ k, owF S O c k ≤ k
  | 0 => Nat.le_refl _
  | k + 1 => by
    have := owF_le S O c k
    unfold owF
    split <;> omega
theorem owF_st {S O : List (Int × Int)} {c : Int} (h0 : 0 ≤ c) : ∀ k, stO S O (owF S O c k) ≤ c
  | 0 => h0
  | k + 1 => by
    have := owF_st (S := S) (O := O) h0 k
    unfold owF
    split
    · assumption
    · exact this
theorem owF_nx {S O : List (Int × Int)} {c : Int} : ∀ k, owF S O c k < k → c < stO S O (owF S O c k + 1)
  | 0, h => absurd h (Nat.not_lt_zero _)
  | k + 1, h => by
    have := owF_nx (S := S) (O := O) (c := c) k
    have l := owF_le S O c k
    unfold owF at h ⊢
    split at h
    · omega
    · rename_i q
      rw [if_neg q]
      by_cases e : owF S O c k = k
      · rw [e]; omega
      · exact this (by omega)
theorem owO_r {S O : List (Int × Int)} {c : Int} (h : ¬ owO S O c = -1) : 0 ≤ c ∧ c < tot S O ∧ 0 ≤ owO S O c ∧ owO S O c < (O.length : Int) ∧ stO S O (owO S O c).toNat ≤ c ∧ c < stO S O ((owO S O c).toNat + 1) := by
  unfold owO at h ⊢
  by_cases q : c < 0 ∨ tot S O ≤ c
  · rw [if_pos q] at h; omega
  · rw [if_neg q, Int.toNat_natCast]
    have l := owF_le S O c (O.length - 1)
    have hO : 0 < O.length := by
      cases O with
      | nil => simp [tot] at q; omega
      | cons a r => exact Nat.succ_pos _
    refine ⟨by omega, by omega, by omega, by omega, owF_st (by omega) _, ?_⟩
    by_cases e : owF S O c (O.length - 1) = O.length - 1
    · rw [e, show O.length - 1 + 1 = O.length by omega, stO_len]; omega
    · exact owF_nx _ (by omega)
section THG
variable {p : Lpar} {d : Nat} {h : AH} {D t N : Nat} {G : NmL} {S O : List (Int × Int)}
theorem ofO_r (hS : okS S) (s v : Int) : -1 ≤ ofO S s v ∧ ofO S s v ≤ 7 ∧ (¬ ofO S s v = -1 → 0 ≤ ofO S s v ∧ ofO S s v < szO S s) := by
  have := szO_r hS s
  unfold ofO
  split
  · rw [szO_no (by assumption)]; omega
  · split <;> omega
theorem ThR.at (hR : ThR h t S O) {k : Int} (h0 : 0 ≤ k) (h1 : k < (O.length : Int)) : ji h (t + 1) k.toNat = (thS O k).1 ∧ ji h (t + 2) k.toNat = (thS O k).2 ∧ ji h (t + 3) k.toNat = stO S O k.toNat := hR.2.2 k.toNat (by omega)
theorem m_60 (hd : 2 ≤ d) (L : Ly p h) (hD : isD D) (hT : isTh D t N) (hs : StR h D S) (hS : okS S) (hR : ThR h t S O) (hO : okO S O) (hN : O.length ≤ N) {k i j : Int} (hi : r32 i) (hj : r32 j) : jE d 60 [jP t, jI k, jI i, jI j] h (some (jI (spO S O k i j))) h := by
  obtain ⟨d, rfl⟩ := Nat.exists_eq_add_of_le' hd
  refine jE_eq (d := d + 1) (Nat.le_of_ble_eq_true rfl) (c_60_0 (Nat.zero_le _) L hD hT ?_)
  unfold spO
  rw [hR.1]
  refine ⟨fun q => ⟨by rw [if_pos (Or.inl q)], rfl⟩, fun q => ⟨fun q2 => ⟨by omega, by omega, _, _, m_55 (by omega) L hD hs hS hi, L, by omega, by omega, _, _, m_55 (by omega) L hD hs hS hj, L, ?_⟩, fun q2 => ⟨by rw [if_pos (by omega)], rfl⟩⟩⟩
  obtain ⟨e1, e2, e3⟩ := hR.at (k := k) (by omega) q2
  rw [e1, e2, e3]
  refine ⟨fun c => ⟨by rw [if_neg (by omega), if_pos (Or.inl c)], rfl⟩, fun c => ⟨fun c2 => ⟨by rw [if_neg (by omega), if_pos (Or.inr c2)], rfl⟩, fun c2 => ⟨by omega, by omega, by omega, by omega, _, _, m_53 (by omega) L hD hs hS, L, ?_, rfl⟩⟩⟩
  rw [if_neg (by omega), if_neg (by omega)]
  have a1 := (ofO_r hS (thS O k).1 i).2.2 c
  have a2 := (ofO_r hS (thS O k).2 j).2.2 c2
  have a3 := ofO_r hS (thS O k).1 i
  have a4 := ofO_r hS (thS O k).2 j
  have a5 := szO_r hS (thS O k).2
  have a6 := stO_r (O := O) hS (k := k.toNat) (by omega)
  have a7 := tot_r hS O
  have a8 := hO.1
  have a9 : ofO S (thS O k).1 i * szO S (thS O k).2 ≤ 7 * 8 := Int.mul_le_mul (by omega) (by omega) (by omega) (by omega)
  have a10 : 0 ≤ ofO S (thS O k).1 i * szO S (thS O k).2 := Int.mul_nonneg (by omega) (by omega)
  rw [w32_i (x := ofO S (thS O k).1 i * szO S (thS O k).2) (by omega) (by omega), w32_i (x := stO S O k.toNat + ofO S (thS O k).1 i * szO S (thS O k).2) (by omega) (by omega), w32_i (by omega) (by omega)]
theorem m_61 (hd : 1 ≤ d) (L : Ly p h) (hD : isD D) (hT : isTh D t N) (hS : okS S) (hR : ThR h t S O) (hO : okO S O) (hN : O.length ≤ N) {c : Int} : jE d 61 [jP t, jI c] h (some (jI (owO S O c))) h := by
  obtain ⟨d, rfl⟩ := Nat.exists_eq_add_of_le' hd
  have hl := hO.1
  refine jE_eq (Nat.le_of_ble_eq_true rfl) (c_61_0 (Nat.zero_le _) L hD hT ?_)
  unfold owO
  rw [hR.1, hR.2.1]
  refine ⟨fun q => ⟨by rw [if_pos (Or.inl q)], rfl⟩, fun q => ⟨fun q2 => ?_, fun q2 => ⟨by rw [if_pos (by omega)], rfl⟩⟩⟩
  rw [if_neg (by omega)]
  have hO : 0 < O.length := by
    cases O with
    | nil => simp [tot] at q2; omega
    | cons a r => exact Nat.succ_pos _
  have key : ∀ k : Nat, k < O.length → WF d 61 21 [jP t, jI c, jI (k : Int)] [] h (fun w h' => w = some (jI (owF S O c k : Int)) ∧ h' = h) := by
    intro k
    induction k with
    | zero => intro _; exact c_61_21 (Nat.zero_le _) L hD hT ⟨fun _ => ⟨rfl, rfl⟩, fun q => by omega⟩
    | succ k ih =>
      intro hk
      obtain ⟨-, -, e3⟩ := hR.2.2 (k + 1) hk
      refine c_61_21 (Nat.zero_le _) L hD hT ⟨fun q => by omega, fun q => ⟨by omega, by omega, ?_, ?_⟩⟩
      · rw [Int.toNat_natCast, e3]
        intro z
        refine ⟨?_, rfl⟩
        show _ = some (jI ((if stO S O (k + 1) ≤ c then k + 1 else owF S O c k : Nat) : Int))
        rw [if_pos z]
      · rw [Int.toNat_natCast, e3]
        intro z
        rw [w32_i (by omega) (by omega), show ((k + 1 : Nat) : Int) + -1 = (k : Int) by omega]
        show WF d 61 21 _ [] h (fun w h' => w = some (jI ((if stO S O (k + 1) ≤ c then k + 1 else owF S O c k : Nat) : Int)) ∧ h' = h)
        rw [if_neg z]
        exact ih (by omega)
  rw [w32_i (by omega) (by omega), show (O.length : Int) - 1 = ((O.length - 1 : Nat) : Int) by omega]
  exact key (O.length - 1) (by omega)
theorem m_62 (hd : 2 ≤ d) (L : Ly p h) (hD : isD D) (hT : isTh D t N) (hs : StR h D S) (hS : okS S) (hR : ThR h t S O) (hO : okO S O) (hN : O.length ≤ N) {c : Int} : jE d 62 [jP t, jI c] h (some (jI (fN S O c))) h := by
  obtain ⟨d, rfl⟩ := Nat.exists_eq_add_of_le' hd
  refine jE_eq (d := d + 1) (Nat.le_of_ble_eq_true rfl) (c_62_0 (Nat.zero_le _) L hD hT ⟨_, _, m_61 (by omega) L hD hT hS hR hO hN, L, ?_⟩)
  unfold fN
  refine ⟨fun q => ⟨by rw [if_pos q], rfl⟩, fun q => ?_⟩
  obtain ⟨r1, r2, r3, r4, r5, r6⟩ := owO_r q
  obtain ⟨e1, e2, e3⟩ := hR.at (k := owO S O c) (by omega) r4
  rw [e2, if_neg q]
  have a5 := szO_r hS (thS O (owO S O c)).2
  have a6 := stO_r (O := O) hS (k := (owO S O c).toNat) (by omega)
  have a7 := tot_r hS O
  have a8 := hO.1
  refine ⟨by omega, by omega, _, _, m_53 (by omega) L hD hs hS, L, fun z => ?_, fun z => ⟨by rw [if_pos (by omega)], rfl⟩⟩
  rw [e1, e3, if_neg (by omega), w32_i (x := c - stO S O (owO S O c).toNat) (by omega) (by omega)]
  have a9 : 0 ≤ Int.tdiv (c - stO S O (owO S O c).toNat) (szO S (thS O (owO S O c)).2) := Int.tdiv_nonneg (by omega) (by omega)
  have a10 : Int.tdiv (c - stO S O (owO S O c).toNat) (szO S (thS O (owO S O c)).2) ≤ c - stO S O (owO S O c).toNat := by
    rw [Int.tdiv_eq_ediv_of_nonneg (by omega)]
    exact Int.ediv_le_self _ (by omega)
  rw [w32_i (by omega) (by omega)]
  exact ⟨by omega, by omega, by omega, by omega, by omega, _, _, m_54 (by omega) L hD hs hS a9 (by omega), L, rfl, rfl⟩
theorem m_63 (hd : 2 ≤ d) (L : Ly p h) (hD : isD D) (hT : isTh D t N) (hs : StR h D S) (hS : okS S) (hR : ThR h t S O) (hO : okO S O) (hN : O.length ≤ N) {c : Int} : jE d 63 [jP t, jI c] h (some (jI (sN S O c))) h := by
  obtain ⟨d, rfl⟩ := Nat.exists_eq_add_of_le' hd
  refine jE_eq (d := d + 1) (Nat.le_of_ble_eq_true rfl) (c_63_0 (Nat.zero_le _) L hD hT ⟨_, _, m_61 (by omega) L hD hT hS hR hO hN, L, ?_⟩)
  unfold sN
  refine ⟨fun q => ⟨by rw [if_pos q], rfl⟩, fun q => ?_⟩
  obtain ⟨r1, r2, r3, r4, r5, r6⟩ := owO_r q
  obtain ⟨e1, e2, e3⟩ := hR.at (k := owO S O c) (by omega) r4
  rw [e2, if_neg q]
  have a5 := szO_r hS (thS O (owO S O c)).2
  have a6 := stO_r (O := O) hS (k := (owO S O c).toNat) (by omega)
  have a7 := tot_r hS O
  have a8 := hO.1
  refine ⟨by omega, by omega, _, _, m_53 (by omega) L hD hs hS, L, fun z => ?_, fun z => ⟨by rw [if_pos (by omega)], rfl⟩⟩
  rw [e2, e3, if_neg (by omega), w32_i (x := c - stO S O (owO S O c).toNat) (by omega) (by omega)]
  have a9 : 0 ≤ Int.tmod (c - stO S O (owO S O c).toNat) (szO S (thS O (owO S O c)).2) := Int.tmod_nonneg _ (by omega)
  have a10 : Int.tmod (c - stO S O (owO S O c).toNat) (szO S (thS O (owO S O c)).2) < szO S (thS O (owO S O c)).2 := Int.tmod_lt_of_pos _ z
  rw [w32_i (by omega) (by omega)]
  exact ⟨by omega, by omega, by omega, by omega, by omega, _, _, m_54 (by omega) L hD hs hS a9 (by omega), L, rfl, rfl⟩
theorem m_9 (hd : 1 ≤ d) (L : Ly p h) (hD : isD D) {V : List Int} (h1 : ji h D 6 = (V.length : Int)) (h2 : V.length ≤ 400) (h3 : ∀ k, k < V.length → ji h (D + 8) k = V.getD k 0) {k : Int} : jE d 9 [jP D, jI k] h (some (jI (if k < 0 then 0 else V.getD k.toNat 0))) h := by
  obtain ⟨d, rfl⟩ := Nat.exists_eq_add_of_le' hd
  refine jE_eq (Nat.le_of_ble_eq_true rfl) (c_9_0 (Nat.zero_le _) L hD ?_)
  rw [h1]
  refine ⟨fun q => ⟨by rw [if_pos q], rfl⟩, fun q => ⟨fun q2 => ⟨by omega, by omega, by rw [if_neg q, h3 _ (by omega)], rfl⟩, fun q2 => ⟨?_, rfl⟩⟩⟩
  rw [if_neg q, List.getD_eq_getElem?_getD, List.getElem?_eq_none (by omega)]; rfl
theorem m_10 (hd : 1 ≤ d) (L : Ly p h) (hD : isD D) : jE d 10 [jP D] h (some (jI (if 40 < ji h (D + 18) 5 ∨ 40 < ji h (D + 22) 5 ∨ 20000 < jl h D 14 then 1 else 0))) h := by
  obtain ⟨d, rfl⟩ := Nat.exists_eq_add_of_le' hd
  refine jE_eq (Nat.le_of_ble_eq_true rfl) (c_10_0 (Nat.zero_le _) L hD ⟨fun q => ⟨by rw [if_pos (by omega)], rfl⟩, fun q => ⟨fun q2 => ⟨by rw [if_pos (by omega)], rfl⟩, fun q2 => ⟨fun q3 => ⟨?_, rfl⟩, fun q3 => ⟨?_, rfl⟩⟩⟩⟩)
  · have : ¬ 0 < jcmp (jl h D 14) 20000 := by omega
    rw [jcmp_gt] at this
    rw [if_neg (by omega)]
  · have : 0 < jcmp (jl h D 14) 20000 := by omega
    rw [jcmp_gt] at this
    rw [if_pos (by omega)]
end THG
