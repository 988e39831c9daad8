-- needs: 20.num 21.lay 22.spec 23.va 24.leaf
/-! NAMES, SETS, THINGS of the class -/
abbrev zN : List Int × Int × Int := ([], -1, -1)
def NmR (h : AH) (D : Nat) (G : NmL) : Prop := ji h (D + 1) 3 = (G.length : Int) ∧ ∀ k, k < G.length → ji h (D + 2) k = c256 (G.getD k zN).1 ∧ ji h (D + 3) k = (G.getD k zN).2.1 ∧ ji h (D + 4) k = (G.getD k zN).2.2
/-- names are right and differ -/
def okG (G : NmL) : Prop := G.length ≤ 46 ∧ (∀ e ∈ G, okN e.1 ∧ 0 ≤ e.2.1 ∧ e.2.1 ≤ 4 ∧ 0 ≤ e.2.2 ∧ e.2.2 < 46) ∧ (G.map Prod.fst).Nodup
def StR (h : AH) (D : Nat) (S : List (Int × Int)) : Prop := ji h (D + 5) 2 = (S.length : Int) ∧ ∀ k, k < S.length → ji h (D + 6) k = (S.getD k (0, 0)).1 ∧ ji h (D + 7) k = (S.getD k (0, 0)).2
def okS (S : List (Int × Int)) : Prop := S.length ≤ 6 ∧ ∀ e ∈ S, 0 ≤ e.1 ∧ e.1 ≤ 9999 ∧ 0 ≤ e.2 ∧ e.2 ≤ 8
def tot (S : List (Int × Int)) : List (Int × Int) → Int
  | [] => 0
  | o :: r => szO S o.1 * szO S o.2 + tot S r
/-- the start of thing k -/
def stO (S O : List (Int × Int)) (k : Nat) : Int := tot S (O.take k)
def ThR (h : AH) (t : Nat) (S O : List (Int × Int)) : Prop := ji h t 4 = (O.length : Int) ∧ ji h t 5 = tot S O ∧ ∀ k, k < O.length → ji h (t + 1) k = (O.getD k (-1, -1)).1 ∧ ji h (t + 2) k = (O.getD k (-1, -1)).2 ∧ ji h (t + 3) k = stO S O k
def okO (S O : List (Int × Int)) : Prop := O.length ≤ 10 ∧ ∀ o ∈ O, (o.1 = -1 ∧ o.2 = -1) ∨ (0 ≤ o.1 ∧ o.1 < (S.length : Int) ∧ (o.2 = -1 ∨ (0 ≤ o.2 ∧ o.2 < (S.length : Int))))
theorem getD_mem {α : Type} {l : List α} {k : Nat} (h : k < l.length) (z : α) : l.getD k z ∈ l := by
  rw [List.getD_eq_getElem?_getD, List.getElem?_eq_getElem h]; exact List.getElem_mem h
theorem szO_r {S : List (Int × Int)} (h : okS S) (s : Int) : 0 ≤ szO S s ∧ szO S s ≤ 8 := by
  unfold szO
  split
  · omega
  · have := h.2 _ (getD_mem (l := S) (k := s.toNat) (by omega) (0, 0)); omega
theorem fsO_r {S : List (Int × Int)} (h : okS S) (s : Int) : 0 ≤ fsO S s ∧ fsO S s ≤ 9999 := by
  unfold fsO
  by_cases hs : s.toNat < S.length
  · have := h.2 _ (getD_mem (l := S) (k := s.toNat) hs (0, 0)); omega
  · rw [List.getD_eq_getElem?_getD, List.getElem?_eq_none (by omega)]; show 0 ≤ (0 : Int) ∧ (0 : Int) ≤ 9999; omega
theorem sz2_r {S : List (Int × Int)} (h : okS S) (a b : Int) : 0 ≤ szO S a * szO S b ∧ szO S a * szO S b ≤ 64 := by
  have h1 := szO_r h a
  have h2 := szO_r h b
  constructor
  · exact Int.mul_nonneg h1.1 h2.1
  · have : szO S a * szO S b ≤ 8 * 8 := Int.mul_le_mul h1.2 h2.2 h2.1 (by omega)
    omega
theorem tot_r {S : List (Int × Int)} (h : okS S) : ∀ O, 0 ≤ tot S O ∧ tot S O ≤ 64 * (O.length : Int)
  | [] => ⟨Int.le_refl _, Int.le_refl _⟩
  | o :: r => by
    have h1 := tot_r h r
    have h2 := sz2_r h o.1 o.2
    show 0 ≤ szO S o.1 * szO S o.2 + tot S r ∧ szO S o.1 * szO S o.2 + tot S r ≤ 64 * ((r.length + 1 : Nat) : Int)
    omega
theorem tot_snoc (S O : List (Int × Int)) (o : Int × Int) : tot S (O ++ [o]) = tot S O + szO S o.1 * szO S o.2 := by
  induction O with
  | nil => show szO S o.1 * szO S o.2 + 0 = 0 + _; omega
  | cons a r ih => show szO S a.1 * szO S a.2 + tot S (r ++ [o]) = szO S a.1 * szO S a.2 + tot S r + _; rw [ih]; omega
theorem stO_succ {S O : List (Int × Int)} {k : Nat} (hk : k < O.length) : stO S O (k + 1) = stO S O k + szO S (O.getD k (-1, -1)).1 * szO S (O.getD k (-1, -1)).2 := by
  unfold stO
  have : O.take (k + 1) = O.take k ++ [O.getD k (-1, -1)] := by
    rw [List.take_add_one, List.getElem?_eq_getElem hk, List.getD_eq_getElem?_getD, List.getElem?_eq_getElem hk]; rfl
  rw [this, tot_snoc]
theorem stO_len (S O : List (Int × Int)) : stO S O O.length = tot S O := by unfold stO; rw [List.take_length]
theorem stO_mono {S O : List (Int × Int)} (h : okS S) {j k : Nat} (hjk : j ≤ k) (hk : k ≤ O.length) : stO S O j ≤ stO S O k := by
  induction k with
  | zero => rw [show j = 0 by omega]; exact Int.le_refl _
  | succ k ih =>
    by_cases e : j = k + 1
    · rw [e]; exact Int.le_refl _
    · have := ih (by omega) (by omega)
      rw [stO_succ (by omega)]
      have := (sz2_r h (O.getD k (-1, -1)).1 (O.getD k (-1, -1)).2).1
      omega
theorem stO_0 (S O : List (Int × Int)) : stO S O 0 = 0 := rfl
theorem stO_r {S O : List (Int × Int)} (h : okS S) {k : Nat} (hk : k ≤ O.length) : 0 ≤ stO S O k ∧ stO S O k ≤ tot S O := by
  have h1 := stO_mono (S := S) (O := O) h (Nat.zero_le k) hk
  have h2 := stO_mono (S := S) (O := O) h hk (Nat.le_refl _)
  rw [stO_0] at h1
  rw [stO_len] at h2
  exact ⟨h1, h2⟩
/-- the first entry of that code -/
def lkCd : NmL → Int → Int × Int
  | [], _ => (-1, -1)
  | e :: r, v => if c256 e.1 = v then e.2 else lkCd r v
def fdC : NmL → Int → Int → Int
  | [], _, _ => -1
  | e :: r, s, v => if c256 e.1 = v ∧ e.2.1 = s then e.2.2 else fdC r s v
def nmC : NmL → Int → Int → Int
  | [], _, _ => 0
  | e :: r, s, n => if e.2.1 = s ∧ e.2.2 = n then c256 e.1 else nmC r s n
section TBL
variable {p : Lpar} {d : Nat} {h : AH} {D t N : Nat} {G : NmL} {S O : List (Int × Int)}
theorem m_25 (hd : 1 ≤ d) (L : Ly p h) (hD : isD D) (hR : NmR h D G) (hG : G.length ≤ 46) {v : Int} : jE d 25 [jP (D + 1), jI v] h (some (jI (lkCd G v).1)) h := by
  obtain ⟨d, rfl⟩ := Nat.exists_eq_add_of_le' hd
  obtain ⟨r1, r2⟩ := hR
  refine jE_eq (Nat.le_of_ble_eq_true rfl) (c_25_0 (Nat.zero_le _) L hD ?_)
  have key : ∀ (j k : Nat), j + k = G.length → WF d 25 2 [jP (D + 1), jI v, jI (k : Int)] [] h (fun w h' => w = some (jI (lkCd (G.drop k) v).1) ∧ h' = h) := by
    intro j
    induction j with
    | zero => intro k hk; exact c_25_2 (Nat.zero_le _) L hD ⟨fun _ => ⟨by rw [List.drop_eq_nil_of_le (by omega)]; rfl, rfl⟩, fun q => by omega⟩
    | succ j ih =>
      intro k hk
      obtain ⟨e1, e2, -⟩ := r2 k (by omega)
      have nx := ih (k + 1) (by omega)
      refine c_25_2 (Nat.zero_le _) L hD ⟨fun q => by omega, fun q => ⟨by omega, by omega, ?_, ?_⟩⟩
      · rw [Int.toNat_natCast, e1]
        intro c
        refine ⟨by omega, by omega, ?_, rfl⟩
        rw [drop_getD (by omega) zN, e2]
        show _ = some (jI (if c256 (G.getD k zN).1 = v then (G.getD k zN).2 else _).1)
        rw [if_pos c]
      · rw [Int.toNat_natCast, e1]
        intro c
        rw [w32_i (by omega) (by omega), drop_getD (by omega) zN]
        show WF d 25 2 _ [] h (fun w h' => w = some (jI (if c256 (G.getD k zN).1 = v then (G.getD k zN).2 else lkCd (G.drop (k + 1)) v).1) ∧ h' = h)
        rw [if_neg c]
        exact nx
  exact key G.length 0 rfl
theorem m_26 (hd : 1 ≤ d) (L : Ly p h) (hD : isD D) (hR : NmR h D G) (hG : G.length ≤ 46) {s v : Int} : jE d 26 [jP (D + 1), jI s, jI v] h (some (jI (fdC G s v))) h := by
  obtain ⟨d, rfl⟩ := Nat.exists_eq_add_of_le' hd
  obtain ⟨r1, r2⟩ := hR
  refine jE_eq (Nat.le_of_ble_eq_true rfl) (c_26_0 (Nat.zero_le _) L hD ?_)
  have key : ∀ (j k : Nat), j + k = G.length → WF d 26 2 [jP (D + 1), jI s, jI v, jI (k : Int)] [] h (fun w h' => w = some (jI (fdC (G.drop k) s v)) ∧ h' = h) := by
    intro j
    induction j with
    | zero => intro k hk; exact c_26_2 (Nat.zero_le _) L hD ⟨fun _ => ⟨by rw [List.drop_eq_nil_of_le (by omega)]; rfl, rfl⟩, fun q => by omega⟩
    | succ j ih =>
      intro k hk
      obtain ⟨e1, e2, e3⟩ := r2 k (by omega)
      have nx := ih (k + 1) (by omega)
      have st : fdC (G.drop k) s v = if c256 (G.getD k zN).1 = v ∧ (G.getD k zN).2.1 = s then (G.getD k zN).2.2 else fdC (G.drop (k + 1)) s v := by rw [drop_getD (by omega) zN]; rfl
      rw [st]
      refine c_26_2 (Nat.zero_le _) L hD ⟨fun q => by omega, fun q => ⟨by omega, by omega, ?_, ?_⟩⟩
      · rw [Int.toNat_natCast, e1, e2, e3]
        intro c
        refine ⟨by omega, by omega, fun c2 => ⟨by omega, by omega, by rw [if_pos ⟨c, c2⟩], rfl⟩, fun c2 => ?_⟩
        rw [w32_i (by omega) (by omega), if_neg (fun q => c2 q.2)]
        exact nx
      · rw [Int.toNat_natCast, e1]
        intro c
        rw [w32_i (by omega) (by omega), if_neg (fun q => c q.1)]
        exact nx
  exact key G.length 0 rfl
theorem m_27 (hd : 1 ≤ d) (L : Ly p h) (hD : isD D) (hR : NmR h D G) (hG : G.length ≤ 46) {s v : Int} : jE d 27 [jP (D + 1), jI s, jI v] h (some (jI (nmC G s v))) h := by
  obtain ⟨d, rfl⟩ := Nat.exists_eq_add_of_le' hd
  obtain ⟨r1, r2⟩ := hR
  refine jE_eq (Nat.le_of_ble_eq_true rfl) (c_27_0 (Nat.zero_le _) L hD ?_)
  have key : ∀ (j k : Nat), j + k = G.length → WF d 27 2 [jP (D + 1), jI s, jI v, jI (k : Int)] [] h (fun w h' => w = some (jI (nmC (G.drop k) s v)) ∧ h' = h) := by
    intro j
    induction j with
    | zero => intro k hk; exact c_27_2 (Nat.zero_le _) L hD ⟨fun _ => ⟨by rw [List.drop_eq_nil_of_le (by omega)]; rfl, rfl⟩, fun q => by omega⟩
    | succ j ih =>
      intro k hk
      obtain ⟨e1, e2, e3⟩ := r2 k (by omega)
      have nx := ih (k + 1) (by omega)
      have st : nmC (G.drop k) s v = if (G.getD k zN).2.1 = s ∧ (G.getD k zN).2.2 = v then c256 (G.getD k zN).1 else nmC (G.drop (k + 1)) s v := by rw [drop_getD (by omega) zN]; rfl
      rw [st]
      refine c_27_2 (Nat.zero_le _) L hD ⟨fun q => by omega, fun q => ⟨by omega, by omega, ?_, ?_⟩⟩
      · rw [Int.toNat_natCast, e1, e2, e3]
        intro c
        refine ⟨by omega, by omega, fun c2 => ⟨by omega, by omega, by rw [if_pos ⟨c, c2⟩], rfl⟩, fun c2 => ?_⟩
        rw [w32_i (by omega) (by omega), if_neg (fun q => c2 q.2)]
        exact nx
      · rw [Int.toNat_natCast, e2]
        intro c
        rw [w32_i (by omega) (by omega), if_neg (fun q => c q.1)]
        exact nx
  exact key G.length 0 rfl
theorem StR.sz (hR : StR h D S) {s : Int} (h0 : 0 ≤ s) (h1 : s < (S.length : Int)) : ji h (D + 7) s.toNat = szO S s ∧ ji h (D + 6) s.toNat = fsO S s := by
  obtain ⟨e1, e2⟩ := hR.2 s.toNat (by omega)
  rw [e1, e2]
  unfold szO fsO
  rw [if_neg (by omega)]
  exact ⟨rfl, rfl⟩
theorem szO_no {s : Int} (h0 : s < 0 ∨ (S.length : Int) ≤ s) : szO S s = 1 := by unfold szO; rw [if_pos h0]
theorem m_53 (hd : 1 ≤ d) (L : Ly p h) (hD : isD D) (hR : StR h D S) (hS : okS S) {s : Int} : jE d 53 [jP (D + 5), jI s] h (some (jI (szO S s))) h := by
  obtain ⟨d, rfl⟩ := Nat.exists_eq_add_of_le' hd
  have hl := hS.1
  refine jE_eq (Nat.le_of_ble_eq_true rfl) (c_53_0 (Nat.zero_le _) L hD ?_)
  rw [hR.1]
  exact ⟨fun q => ⟨by rw [szO_no (Or.inl q)], rfl⟩, fun q => ⟨fun q2 => ⟨by omega, by omega, by rw [(hR.sz (by omega) q2).1], rfl⟩, fun q2 => ⟨by rw [szO_no (by omega)], rfl⟩⟩⟩
theorem m_54 (hd : 1 ≤ d) (L : Ly p h) (hD : isD D) (hR : StR h D S) (hS : okS S) {s k : Int} (h0 : 0 ≤ k) (h1 : k ≤ 1000) : jE d 54 [jP (D + 5), jI s, jI k] h (some (jI (nuO S s k))) h := by
  obtain ⟨d, rfl⟩ := Nat.exists_eq_add_of_le' hd
  have hl := hS.1
  have hf := fsO_r hS s
  refine jE_eq (Nat.le_of_ble_eq_true rfl) (c_54_0 (Nat.zero_le _) L hD ?_)
  unfold nuO
  rw [hR.1]
  refine ⟨fun q => ⟨by rw [if_pos (Or.inl q)], rfl⟩, fun q => ⟨fun q2 => ⟨by omega, by omega, ?_, rfl⟩, fun q2 => ⟨by rw [if_pos (by omega)], rfl⟩⟩⟩
  rw [(hR.sz (by omega) q2).2, if_neg (by omega), w32_i (by omega) (by omega)]
theorem m_55 (hd : 1 ≤ d) (L : Ly p h) (hD : isD D) (hR : StR h D S) (hS : okS S) {s v : Int} (h0 : r32 v) : jE d 55 [jP (D + 5), jI s, jI v] h (some (jI (ofO S s v))) h := by
  obtain ⟨d, rfl⟩ := Nat.exists_eq_add_of_le' hd
  have hl := hS.1
  have hf := fsO_r hS s
  unfold r32 at h0
  refine jE_eq (Nat.le_of_ble_eq_true rfl) (c_55_0 (Nat.zero_le _) L hD ?_)
  unfold ofO
  rw [hR.1]
  refine ⟨fun q => ⟨by rw [if_pos (Or.inl q)], rfl⟩, fun q => ⟨fun q2 => ⟨by omega, by omega, ?_, ?_⟩, fun q2 => ⟨by rw [if_pos (by omega)], rfl⟩⟩⟩
  · rw [(hR.sz (by omega) q2).2]
    exact fun q3 => ⟨by rw [if_neg (by omega), if_pos (Or.inl q3)], rfl⟩
  · rw [(hR.sz (by omega) q2).2, (hR.sz (by omega) q2).1]
    intro q3
    rw [w32_i (by omega) (by omega)]
    exact ⟨by omega, by omega, by omega, by omega, fun q4 => ⟨by omega, by omega, by rw [if_neg (by omega), if_neg (by omega)], rfl⟩, fun q4 => ⟨by rw [if_neg (by omega), if_pos (by omega)], rfl⟩⟩
theorem m_56 (hd : 1 ≤ d) (L : Ly p h) (hD : isD D) (hR : StR h D S) (hS : okS S) {a b : Int} : jE d 56 [jP (D + 5), jI a, jI b] h (some (jI (if wiO S a b = true then 1 else 0))) h := by
  obtain ⟨d, rfl⟩ := Nat.exists_eq_add_of_le' hd
  have hl := hS.1
  have ha := fsO_r hS a
  have hb := fsO_r hS b
  have ha2 := szO_r hS a
  have hb2 := szO_r hS b
  refine jE_eq (Nat.le_of_ble_eq_true rfl) (c_56_0 (Nat.zero_le _) L hD ?_)
  have hw : wiO S a b = true ↔ (0 ≤ a ∧ a < (S.length : Int) ∧ 0 ≤ b ∧ b < (S.length : Int) ∧ (szO S a = 0 ∨ (fsO S b ≤ fsO S a ∧ fsO S a + szO S a ≤ fsO S b + szO S b))) := by unfold wiO; exact decide_eq_true_iff
  rw [hR.1]
  refine ⟨fun q => ⟨by rw [if_neg (fun z => by have := hw.mp z; omega)], rfl⟩, fun q => ⟨fun q2 => ⟨by rw [if_neg (fun z => by have := hw.mp z; omega)], rfl⟩, fun q2 => ⟨fun q3 => ⟨by rw [if_neg (fun z => by have := hw.mp z; omega)], rfl⟩, fun q3 => ⟨fun q4 => ?_, fun q4 => ⟨by rw [if_neg (fun z => by have := hw.mp z; omega)], rfl⟩⟩⟩⟩⟩
  rw [(hR.sz (by omega) (by omega)).1, (hR.sz (by omega) (by omega)).2, (hR.sz (s := b) (by omega) (by omega)).1, (hR.sz (s := b) (by omega) (by omega)).2, w32_i (by omega) (by omega), w32_i (by omega) (by omega)]
  exact ⟨by omega, by omega, fun q5 => ⟨by rw [if_pos (hw.mpr (by omega))], rfl⟩, fun q5 => ⟨by omega, by omega, by omega, by omega, fun q6 => ⟨by rw [if_neg (fun z => by have := hw.mp z; omega)], rfl⟩, fun q6 => ⟨by omega, by omega, by omega, by omega, by omega, by omega, by omega, by omega, fun q7 => ⟨by rw [if_neg (fun z => by have := hw.mp z; omega)], rfl⟩, fun q7 => ⟨by rw [if_pos (hw.mpr (by omega))], rfl⟩⟩⟩⟩
end TBL
