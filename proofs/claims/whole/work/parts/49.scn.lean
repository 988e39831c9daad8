/-! THE CLASS TAKES A TEXT TO TOKENS -/
theorem jpack {v b : Int} (hb : 0 ≤ b) (hb2 : b ≤ 255) : jor (jshl v 8) b = w32 (v * 256 + b) := by
  have hand : (BitVec.ofInt 32 v <<< 8) &&& BitVec.ofNat 32 b.toNat = 0#32 := by
    apply BitVec.eq_of_getLsbD_eq
    intro i hi
    rw [BitVec.getLsbD_and, BitVec.getLsbD_shiftLeft, BitVec.getLsbD_ofNat, BitVec.getLsbD_zero]
    by_cases c : i < 8
    · simp [c]
    · have : Nat.testBit b.toNat i = false := Nat.testBit_lt_two_pow (Nat.lt_of_lt_of_le (show b.toNat < 2 ^ 8 by omega) (Nat.pow_le_pow_right (by decide) (by omega)))
      rw [this]; simp
  have hbi : BitVec.ofInt 32 b = BitVec.ofNat 32 b.toNat := by
    rw [← BitVec.ofInt_natCast, Int.toNat_of_nonneg hb]
  have hsh : BitVec.ofInt 32 v <<< 8 = BitVec.ofInt 32 (v * 256) := by
    rw [BitVec.shiftLeft_eq_mul_twoPow, BitVec.ofInt_mul]; rfl
  have key : (BitVec.ofInt 32 v <<< 8) ||| BitVec.ofInt 32 b = BitVec.ofInt 32 (v * 256 + b) := by
    rw [hbi, ← BitVec.add_eq_or_of_and_eq_zero _ _ hand, ← hbi, hsh, BitVec.ofInt_add]
  unfold jor jshl j2
  rw [Int32.ofInt_toInt]
  show (((Int32.ofInt v <<< (Int32.ofInt 8 &&& 31)) ||| Int32.ofInt b).toBitVec).toInt = _
  rw [Int32.toBitVec_or, Int32.toBitVec_shiftLeft, Int32.toBitVec_ofInt, Int32.toBitVec_ofInt]
  rw [show (Int32.ofInt 8 &&& 31).toBitVec.smod 32 = 8#32 by decide]
  rw [show BitVec.ofInt 32 v <<< 8#32 = BitVec.ofInt 32 v <<< 8 from rfl, key, BitVec.toInt_ofInt, w32_bm]
def TxC (T : Txt) (h : AH) : Prop := ji h 33 1 = (T.1 : Int) ∧ ∀ k, k < T.1 → jand (ji h 34 k) 255 = T.2 k
def stK (T : Txt) (h : AH) (j : Nat) : Prop := ji h 38 j = ck (tkK T j) ∧ ji h 39 j = (tkP T j : Int) ∧ ji h 40 j = tkW T j
abbrev Z3740 (a : Nat) : Prop := 37 ≤ a ∧ a ≤ 40
def ScA (p : Lpar) (T : Txt) (e : Nat) (h0 h : AH) (n : Nat) : Prop := Ly p h ∧ TxC T h ∧ ji h 37 3 = (n : Int) ∧ ji h 37 4 = 0 ∧ Fe Z3740 h0 h ∧ ∀ j, j < n → j ≤ e → stK T h j
def ScI (p : Lpar) (T : Txt) (e : Nat) (h0 h : AH) (k n : Nat) : Prop := ScA p T e h0 h n ∧ n ≤ k ∧ k ≤ T.1 ∧ (n ≤ e → lex T k = tk T n)
theorem wI {l : List Int} (hl : okN l) : ∀ (W : List (List Int × Int)), (∀ e ∈ W, okN e.1 ∧ ck e.2 = c256 e.1) → ((∃ e ∈ W, c256 e.1 = c256 l) → ck (wordIn l W) = c256 l) ∧ ((∀ e ∈ W, ¬ c256 e.1 = c256 l) → wordIn l W = 1)
  | [], _ => ⟨fun ⟨e, he, _⟩ => absurd he (by simp), fun _ => rfl⟩
  | w :: r, h => by
    obtain ⟨h1, h2⟩ := wI hl r (fun e he => h e (List.mem_cons_of_mem _ he))
    have hw := h w (by simp)
    show (_ → ck (if l = w.1 then w.2 else wordIn l r) = _) ∧ (_ → (if l = w.1 then w.2 else wordIn l r) = 1)
    refine ⟨fun ⟨e, he, q⟩ => ?_, fun q => ?_⟩
    · by_cases c : l = w.1
      · rw [if_pos c, hw.2, c]
      · rw [if_neg c]
        rcases List.mem_cons.mp he with rfl | he
        · exact absurd (c256_inj hw.1 hl q).symm c
        · exact h1 ⟨e, he, q⟩
    · rw [if_neg (fun c => q w (by simp) (by rw [c]))]
      exact h2 (fun e he => q e (List.mem_cons_of_mem _ he))
theorem wdT_ok : ∀ e ∈ wdT, okN e.1 ∧ ck e.2 = c256 e.1 := by
  intro e he
  have h1 : ∀ e ∈ wdT, 1 ≤ e.1.length ∧ e.1.length ≤ 4 ∧ (e.1.all (fun c => decide (97 ≤ c) && decide (c ≤ 122))) = true ∧ ck e.2 = c256 e.1 := by decide +kernel
  obtain ⟨q1, q2, q3, q4⟩ := h1 e he
  refine ⟨⟨q1, q2, fun c hc => ?_⟩, q4⟩
  have := List.all_eq_true.mp q3 c hc
  simp only [Bool.and_eq_true, decide_eq_true_eq] at this
  exact this
theorem wdL_of : ∀ j, j < 10 → ∃ e ∈ wdT, c256 e.1 = wdL.getD j 0 := by decide +kernel
theorem wdL_to : ∀ e ∈ wdT, ∃ j, j < 10 ∧ wdL.getD j 0 = c256 e.1 := by decide +kernel
theorem ck_word {l : List Int} (hl : okN l) : ((∃ j, j < 10 ∧ wdL.getD j 0 = c256 l) → ck (wordK l) = c256 l) ∧ ((∀ j, j < 10 → ¬ wdL.getD j 0 = c256 l) → ck (wordK l) = 3) := by
  obtain ⟨h1, h2⟩ := wI hl wdT wdT_ok
  refine ⟨fun ⟨j, hj, q⟩ => h1 ?_, fun q => ?_⟩
  · obtain ⟨e, he, z⟩ := wdL_of j hj
    exact ⟨e, he, z.trans q⟩
  · show ck (wordIn l wdT) = 3
    rw [h2 (fun e he z => by
      obtain ⟨j, hj, y⟩ := wdL_to e he
      exact q j hj (y.trans z))]
    rfl
section SCN
variable {p : Lpar} {d : Nat} {h h' h0 h1 : AH} {T : Txt} {e k n : Nat}
theorem Ly.t3 (L : Ly p h) : jt h 3 = 40 := by rw [(L.old 3 (by omega)).1]; rfl
theorem Ly.n3 (L : Ly p h) : jn h 3 = 10 := by rw [(L.old 3 (by omega)).2.1]; rfl
theorem Ly.i3 (L : Ly p h) {j : Nat} : ji h 3 j = wdL.getD j 0 := by rw [((L.old 3 (by omega)).2.2 j).1]; rfl
theorem t_1 (hd : 1 ≤ d) (L : Ly p h) (hT : okT T) (X : TxC T h) (k : Nat) : jE d 1 [jP 33, jI (k : Int)] h (some (jI (tAt T k))) h := by
  have h1 := hT.1
  have q := m_1 (d := d) (h := h) (a := 33) (i := (k : Int)) hd L.t33 (by rw [L.r33_0]; exact L.t34) (by rw [L.r33_0, L.n34, X.1]; omega)
  rw [L.r33_0, X.1, Int.toNat_natCast] at q
  unfold tAt
  by_cases c : k < T.1
  · rw [if_neg (by omega), X.2 k c] at q
    rw [if_pos c]; exact q
  · rw [if_pos (by omega)] at q
    rw [if_neg c]; exact q
theorem tAt_y (h : k < T.1) : tAt T k = T.2 k := by unfold tAt; rw [if_pos h]
theorem tAt_r (hT : okT T) (k : Nat) : -1 ≤ tAt T k ∧ tAt T k ≤ 255 := by
  unfold tAt
  split
  · rename_i c; have := hT.2 k c; omega
  · omega
theorem sc_add (hd : 1 ≤ d) (I : ScA p T e h0 h n) (hn : n < 401) {kk q v : Int} (hs : n ≤ e → kk = ck (tkK T n) ∧ q = (tkP T n : Int) ∧ v = tkW T n) : ∃ h', jE d 69 [jP 37, jI kk, jI q, jI v] h none h' ∧ Ly p h' ∧ ScA p T e h0 h' (n + 1) := by
  obtain ⟨L, X, e3, e4, F, S⟩ := I
  have q0 := m_69 (d := d) (k := kk) (q := q) (v := v) hd L (by omega) (by omega)
  rw [e3, Int.toNat_natCast] at q0
  have L2 : Ly p (wi (wi (wi (wi h 38 n kk) 39 n q) 40 n v) 37 3 ((n : Int) + 1)) := (((L.wi (by decide)).wi (by decide)).wi (by decide)).wi (by decide)
  refine ⟨_, q0, L2, L2, ⟨?_, fun k hk => ?_⟩, ?_, ?_, F.trans ((((Fe.wi (by omega)).trans (Fe.wi (by omega))).trans (Fe.wi (by omega))).trans (Fe.wi (by omega))), fun j hj he => ?_⟩
  · simp only [ji_wi]; rw [if_neg (by omega), if_neg (by omega), if_neg (by omega), if_neg (by omega)]; exact X.1
  · simp only [ji_wi]; rw [if_neg (by omega), if_neg (by omega), if_neg (by omega), if_neg (by omega)]; exact X.2 k hk
  · rw [ji_wi, if_pos ⟨rfl, rfl⟩]; omega
  · simp only [ji_wi]; rw [if_neg (by omega), if_neg (by omega), if_neg (by omega), if_neg (by omega)]; exact e4
  · unfold stK
    simp only [ji_wi]
    by_cases c : j = n
    · subst c
      rw [if_neg (by omega), if_neg (by omega), if_neg (by omega), if_pos ⟨trivial, rfl⟩, if_neg (by omega), if_neg (by omega), if_pos ⟨trivial, rfl⟩, if_neg (by omega), if_pos ⟨trivial, rfl⟩]
      exact hs he
    · rw [if_neg (by omega), if_neg (by omega), if_neg (by omega), if_neg (by omega), if_neg (by omega), if_neg (by omega), if_neg (by omega), if_neg (by omega), if_neg (by omega), if_neg (by omega), if_neg (by omega), if_neg (by omega)]
      exact S j (by omega) he
theorem w32_c (x : Int) (b : Int) : w32 (w32 x * 256 + b) = w32 (x * 256 + b) := by unfold w32; omega
theorem w32_d (x : Int) (b : Int) : w32 (w32 (w32 (w32 x * 10) + b) - 48) = w32 (10 * x + b - 48) := by unfold w32; omega
theorem isLt_i {c : Int} : isLt c = true ↔ (97 ≤ c ∧ c ≤ 122) := by unfold isLt; exact decide_eq_true_iff
theorem isDg_i {c : Int} : isDg c = true ↔ (48 ≤ c ∧ c ≤ 57) := by unfold isDg; exact decide_eq_true_iff
theorem m_66 (hd : 10 ≤ d) (hT : okT T) (I : ScI p T e h0 h k n) (hk : k < T.1) (hl : isLt (T.2 k) = true) : ∃ h', jE d 66 [jP 37, jP 33, jI (k : Int)] h (some (jI ((spn isLt T k : Int) - k))) h' ∧ Ly p h' ∧ ScI p T e h0 h' (spn isLt T k) (n + 1) := by
  obtain ⟨d, rfl⟩ : ∃ d', d = d' + 1 := ⟨d - 1, by omega⟩
  obtain ⟨A, i2, i3, i4⟩ := I
  have L := A.1
  have h4 := hT.1
  have s1 := spn_lt hk hl
  have s2 := spn_le isLt T (k := k) (by omega)
  have eT : n ≤ e → tk T n = lexL T k := fun z => by rw [← i4 z, lex_nb (lt_nb hl), lex0_L hk hl]
  -- the end
  have fin : ∀ (m : Nat) (v5 : Int), m ≤ 10 → ((v5 = w32 (c256 (slc T k (spn isLt T k))) ∧ ∃ i, i < 10 - m ∧ wdL.getD i 0 = w32 (c256 (slc T k (spn isLt T k)))) ∨ (v5 = 3 ∧ ∀ i, i < 10 - m → ¬ wdL.getD i 0 = w32 (c256 (slc T k (spn isLt T k))))) → WF d 66 50 [jP 37, jP 33, jI (k : Int), jI (w32 (c256 (slc T k (spn isLt T k)))), jI (spn isLt T k : Int), jI v5, jI ((10 - m : Nat) : Int)] [] h (fun w h' => w = some (jI ((spn isLt T k : Int) - k)) ∧ Ly p h' ∧ ScI p T e h0 h' (spn isLt T k) (n + 1)) := by
    intro m
    induction m with
    | zero =>
      intro v5 _ hv
      have go : ∀ kk, (n ≤ e → kk = ck (tkK T n)) → ∃ h1, jE d 69 [jP 37, jI kk, jI (k : Int), jI (w32 (c256 (slc T k (spn isLt T k))))] h none h1 ∧ Ly p h1 ∧ (some (jI (w32 ((spn isLt T k : Int) - (k : Int)))) = some (jI ((spn isLt T k : Int) - k)) ∧ Ly p h1 ∧ ScI p T e h0 h1 (spn isLt T k) (n + 1)) := fun kk hkk => by
        obtain ⟨h1, hE, L1, S1⟩ := sc_add (d := d) (by omega) A (by omega) (kk := kk) (q := (k : Int)) (v := w32 (c256 (slc T k (spn isLt T k)))) (fun z => by
          have e1 := eT z
          have e2 : tkP T n = k := by unfold tkP; rw [e1]; rfl
          refine ⟨hkk z, by rw [e2], ?_⟩
          unfold tkW
          rw [e2, if_pos ⟨hl, hk⟩]
          unfold tkN
          rw [e1]; rfl)
        refine ⟨h1, hE, L1, by rw [w32_i (by omega) (by omega)], L1, S1, by omega, s2, fun z => ?_⟩
        show _ = lex T (tk T n).2.2.2.2
        rw [eT (by omega)]; rfl
      refine c_66_50 (by omega) L ⟨by rw [L.t3]; decide, by rw [L.t3]; decide, fun _ => ?_, fun z => by rw [L.n3] at z; omega⟩
      rw [w32_i (show -2147483648 ≤ (spn isLt T k : Int) - (k : Int) by omega) (by omega)] at go ⊢
      refine ⟨fun c => go v5 (fun z => ?_), fun c => go 2 (fun z => ?_)⟩
      · have eK : tkK T n = wordK (slc T k (spn isLt T k)) := by
          unfold tkK; rw [eT z]
          show (if 4 < spn isLt T k - k then (4 : Int) else _) = _
          rw [if_neg (by omega)]
        have hN := slcL (T := T) (q := k) (by omega) s1
        have hb := okN_c256 hN
        have hw := ck_word hN
        rw [w32_i (x := c256 (slc T k (spn isLt T k))) (by omega) (by omega)] at hv
        rw [eK]
        rcases hv with ⟨v1, v2⟩ | ⟨v1, v2⟩
        · rw [v1, hw.1 v2]
        · rw [v1, hw.2 v2]
      · have eK : tkK T n = 4 := by
          unfold tkK; rw [eT z]
          show (if 4 < spn isLt T k - k then (4 : Int) else _) = _
          rw [if_pos (by omega)]
        rw [eK]; rfl
    | succ m ih =>
      intro v5 hm hv
      refine c_66_50 (by omega) L ⟨by rw [L.t3]; decide, by rw [L.t3]; decide, fun z => by rw [L.n3] at z; omega, fun z => ⟨⟨Or.inr L.t3, by omega, by rw [L.n3]; omega⟩, ?_⟩⟩
      rw [L.i3, Int.toNat_natCast, w32_i (x := ((10 - (m + 1) : Nat) : Int) + 1) (by omega) (by omega), show (((10 - (m + 1) : Nat) : Int) + 1) = ((10 - m : Nat) : Int) by omega]
      refine ⟨fun c => ih _ (by omega) (Or.inl ⟨rfl, 10 - (m + 1), by omega, c⟩), fun c => ih _ (by omega) ?_⟩
      rcases hv with ⟨v1, i, v2, v3⟩ | ⟨v1, v2⟩
      · exact Or.inl ⟨v1, i, by omega, v3⟩
      · exact Or.inr ⟨v1, fun i hi => by
          by_cases q : i = 10 - (m + 1)
          · rw [q]; exact c
          · exact v2 i (by omega)⟩
  have key : ∀ (j m : Nat), T.1 - m = j → k ≤ m → m ≤ T.1 → spn isLt T m = spn isLt T k → ∀ z5 z6, WF d 66 5 [jP 37, jP 33, jI (k : Int), jI (w32 (c256 (slc T k m))), jI (m : Int), z5, z6] [] h (fun w h' => w = some (jI ((spn isLt T k : Int) - k)) ∧ Ly p h' ∧ ScI p T e h0 h' (spn isLt T k) (n + 1)) := by
    intro j
    induction j with
    | zero =>
      intro m hm h1 h2 h3 z5 z6
      have : spn isLt T k = m := by rw [← h3]; exact spn_end (by omega)
      refine c_66_5 (by omega) L ⟨fun _ => ?_, fun z => by rw [A.2.1.1] at z; omega⟩
      rw [← this]
      exact fin 10 3 (by omega) (Or.inr ⟨rfl, fun i hi => by omega⟩)
    | succ j ih =>
      intro m hm h1 h2 h3 z5 z6
      have hm2 : m < T.1 := by omega
      refine c_66_5 (by omega) L ⟨fun z => by rw [A.2.1.1] at z; omega, fun _ => ⟨_, h, t_1 (by omega) L hT A.2.1 m, L, ?_⟩⟩
      rw [tAt_y hm2]
      refine ⟨fun c => ⟨_, h, t_1 (by omega) L hT A.2.1 m, L, ?_⟩, fun c => ?_⟩
      · rw [tAt_y hm2, jpack (by omega) (by omega), w32_c, ← c256_snoc, ← slc_snoc T h1, w32_i (x := (m : Int) + 1) (by omega) (by omega)]
        exact ih (m + 1) (by omega) (by omega) (by omega) (by rw [← h3]; exact (spn_yes hm2 (isLt_i.mpr c)).symm) _ _
      · have : spn isLt T k = m := by rw [← h3]; exact spn_no (fun z => c (isLt_i.mp z))
        rw [← this]
        exact fin 10 3 (by omega) (Or.inr ⟨rfl, fun i hi => by omega⟩)
  have k0 := key (T.1 - k) k rfl (Nat.le_refl _) (by omega) rfl jU jU
  rw [slc_nil] at k0
  obtain ⟨v, h', hE, rfl, r⟩ := jE_of (d := d) (y := 66) (h := h) (as := [jP 37, jP 33, jI (k : Int)]) (Nat.le_of_ble_eq_true rfl) (c_66_0 (by omega) L k0)
  exact ⟨h', hE, r⟩
theorem m_67 (hd : 10 ≤ d) (hT : okT T) (I : ScI p T e h0 h k n) (hk : k < T.1) (hl0 : ¬ isLt (T.2 k) = true) (hl : isDg (T.2 k) = true) : ∃ h', jE d 67 [jP 37, jP 33, jI (k : Int)] h (some (jI ((spn isDg T k : Int) - k))) h' ∧ Ly p h' ∧ ScI p T e h0 h' (spn isDg T k) (n + 1) := by
  obtain ⟨d, rfl⟩ : ∃ d', d = d' + 1 := ⟨d - 1, by omega⟩
  obtain ⟨A, i2, i3, i4⟩ := I
  have L := A.1
  have h4 := hT.1
  have s1 := spn_lt hk hl
  have s2 := spn_le isDg T (k := k) (by omega)
  have eT : n ≤ e → tk T n = lexD T k := fun z => by rw [← i4 z, lex_nb (dg_nb hl), lex0_D hk hl0 hl]
  have go : ∀ kk, (n ≤ e → kk = ck (tkK T n)) → ∃ h1, jE d 69 [jP 37, jI kk, jI (k : Int), jI (w32 (c10 (slc T k (spn isDg T k))))] h none h1 ∧ Ly p h1 ∧ (some (jI (w32 ((spn isDg T k : Int) - (k : Int)))) = some (jI ((spn isDg T k : Int) - k)) ∧ Ly p h1 ∧ ScI p T e h0 h1 (spn isDg T k) (n + 1)) := fun kk hkk => by
    obtain ⟨h1, hE, L1, S1⟩ := sc_add (d := d) (by omega) A (by omega) (kk := kk) (q := (k : Int)) (v := w32 (c10 (slc T k (spn isDg T k)))) (fun z => by
      have e1 := eT z
      have e2 : tkP T n = k := by unfold tkP; rw [e1]; rfl
      refine ⟨hkk z, by rw [e2], ?_⟩
      unfold tkW
      rw [e2, if_neg (fun y => hl0 y.1), if_pos ⟨hk, hl⟩]
      unfold tkV
      rw [e1]; rfl)
    refine ⟨h1, hE, L1, by rw [w32_i (by omega) (by omega)], L1, S1, by omega, s2, fun z => ?_⟩
    show _ = lex T (tk T n).2.2.2.2
    rw [eT (by omega)]; rfl
  have fin : ((w32 ((spn isDg T k : Int) - (k : Int))) ≤ 4 → ∃ h1, jE d 69 [jP 37, jI 4, jI (k : Int), jI (w32 (c10 (slc T k (spn isDg T k))))] h none h1 ∧ Ly p h1 ∧ (some (jI (w32 ((spn isDg T k : Int) - (k : Int)))) = some (jI ((spn isDg T k : Int) - k)) ∧ Ly p h1 ∧ ScI p T e h0 h1 (spn isDg T k) (n + 1))) ∧ (¬ ((w32 ((spn isDg T k : Int) - (k : Int))) ≤ 4) → ∃ h1, jE d 69 [jP 37, jI 2, jI (k : Int), jI (w32 (c10 (slc T k (spn isDg T k))))] h none h1 ∧ Ly p h1 ∧ (some (jI (w32 ((spn isDg T k : Int) - (k : Int)))) = some (jI ((spn isDg T k : Int) - k)) ∧ Ly p h1 ∧ ScI p T e h0 h1 (spn isDg T k) (n + 1))) := by
    have ew : w32 ((spn isDg T k : Int) - (k : Int)) = (spn isDg T k : Int) - (k : Int) := w32_i (by omega) (by omega)
    refine ⟨fun c => go 4 (fun z => ?_), fun c => go 2 (fun z => ?_)⟩
    · rw [ew] at c
      have eK : tkK T n = 2 := by
        unfold tkK; rw [eT z]
        show (if 4 < spn isDg T k - k then (4 : Int) else 2) = _
        rw [if_neg (by omega)]
      rw [eK]; rfl
    · rw [ew] at c
      have eK : tkK T n = 4 := by
        unfold tkK; rw [eT z]
        show (if 4 < spn isDg T k - k then (4 : Int) else 2) = _
        rw [if_pos (by omega)]
      rw [eK]; rfl
  have key : ∀ (j m : Nat), T.1 - m = j → k ≤ m → m ≤ T.1 → spn isDg T m = spn isDg T k → WF d 67 5 [jP 37, jP 33, jI (k : Int), jI (w32 (c10 (slc T k m))), jI (m : Int)] [] h (fun w h' => w = some (jI ((spn isDg T k : Int) - k)) ∧ Ly p h' ∧ ScI p T e h0 h' (spn isDg T k) (n + 1)) := by
    intro j
    induction j with
    | zero =>
      intro m hm h1 h2 h3
      have : spn isDg T k = m := by rw [← h3]; exact spn_end (by omega)
      refine c_67_5 (by omega) L ⟨fun _ => ?_, fun z => by rw [A.2.1.1] at z; omega⟩
      rw [← this]
      exact fin
    | succ j ih =>
      intro m hm h1 h2 h3
      have hm2 : m < T.1 := by omega
      refine c_67_5 (by omega) L ⟨fun z => by rw [A.2.1.1] at z; omega, fun _ => ⟨_, h, t_1 (by omega) L hT A.2.1 m, L, ?_⟩⟩
      rw [tAt_y hm2]
      refine ⟨fun c => ⟨_, h, t_1 (by omega) L hT A.2.1 m, L, ?_⟩, fun c => ?_⟩
      · rw [tAt_y hm2, w32_d, ← c10_snoc, ← slc_snoc T h1, w32_i (x := (m : Int) + 1) (by omega) (by omega)]
        exact ih (m + 1) (by omega) (by omega) (by omega) (by rw [← h3]; exact (spn_yes hm2 (isDg_i.mpr c)).symm)
      · have : spn isDg T k = m := by rw [← h3]; exact spn_no (fun z => c (isDg_i.mp z))
        rw [← this]
        exact fin
  have k0 := key (T.1 - k) k rfl (Nat.le_refl _) (by omega) rfl
  rw [slc_nil] at k0
  obtain ⟨v, h', hE, rfl, r⟩ := jE_of (d := d) (y := 67) (h := h) (as := [jP 37, jP 33, jI (k : Int)]) (Nat.le_of_ble_eq_true rfl) (c_67_0 (by omega) L k0)
  exact ⟨h', hE, r⟩
theorem ck_sg {b : Int} (h : isSg b = true) : b = ck (100 + b) := by
  unfold isSg at h
  have h := of_decide_eq_true h
  rcases h with rfl | rfl | rfl | rfl | rfl | rfl | rfl | rfl | rfl | rfl | rfl <;> rfl
theorem m_68 (hd : 10 ≤ d) (hT : okT T) (he : stopAt T e) (I : ScI p T e h0 h k n) (hk : k < T.1) (hb : ¬ isBl (T.2 k) = true) (hl : ¬ isLt (T.2 k) = true) (hg : ¬ isDg (T.2 k) = true) : ∃ x h', jE d 68 [jP 37, jP 33, jI (k : Int)] h (some (jI (x : Int))) h' ∧ Ly p h' ∧ (x = (1 : Int) ∨ x = 2) ∧ ScI p T e h0 h' (k + x.toNat) (n + 1) := by
  obtain ⟨d, rfl⟩ : ∃ d', d = d' + 1 := ⟨d - 1, by omega⟩
  obtain ⟨A, i2, i3, i4⟩ := I
  have L := A.1
  have h4 := hT.1
  have hbk := hT.2 k hk
  have eT : n ≤ e → tk T n = lexS T k := fun z => by rw [← i4 z, lex_nb hb, lex0_S hk hl hg]
  have go : ∀ (kk : Int) (w : Nat), (w = 1 ∨ w = 2) → k + w ≤ T.1 → (n ≤ e → kk = ck (tkK T n) ∧ (tk T n).2.1 = k ∧ ((n + 1 ≤ e) → (tk T n).2.2.2.2 = k + w)) → ∃ h1, jE d 69 [jP 37, jI kk, jI (k : Int), jI 0] h none h1 ∧ Ly p h1 ∧ (∃ x : Int, some (jI (w : Int)) = some (jI x) ∧ Ly p h1 ∧ (x = (1 : Int) ∨ x = 2) ∧ ScI p T e h0 h1 (k + x.toNat) (n + 1)) := fun kk w hw hkw hkk => by
    obtain ⟨h1, hE, L1, S1⟩ := sc_add (d := d) (by omega) A (by omega) (kk := kk) (q := (k : Int)) (v := 0) (fun z => by
      obtain ⟨g1, g2, g3⟩ := hkk z
      have e2 : tkP T n = k := g2
      refine ⟨g1, by rw [e2], ?_⟩
      unfold tkW
      rw [e2, if_neg (fun y => hl y.1), if_neg (fun y => hg y.2)])
    refine ⟨h1, hE, L1, (w : Int), rfl, L1, by omega, S1, by omega, by omega, fun z => ?_⟩
    show _ = lex T (tk T n).2.2.2.2
    rw [(hkk (by omega)).2.2 z, Int.toNat_natCast]
  -- a byte that is no sign of two
  have one : (n ≤ e → tk T n = (if isSg (T.2 k) = true then 100 + T.2 k else 4, k, 0, [], k + 1) ∨ ((tk T n).1 = 4 ∧ (tk T n).2.1 = k ∧ ¬ isSg (T.2 k) = true)) → jt h 4 = 60 ∧ ∃ x104 h101, jE d 191 [jP 4, jI (ji2c (T.2 k))] h (some (jI x104)) h101 ∧ Ly p h101 ∧ (0 ≤ x104 → ∃ h105, jE d 69 [jP 37, jI (T.2 k), jI (k : Int), jI 0] h101 none h105 ∧ Ly p h105 ∧ (∃ x : Int, some (jI 1) = some (jI x) ∧ Ly p h105 ∧ (x = (1 : Int) ∨ x = 2) ∧ ScI p T e h0 h105 (k + x.toNat) (n + 1))) ∧ (¬ (0 ≤ x104) → ∃ h108, jE d 69 [jP 37, jI 2, jI (k : Int), jI 0] h101 none h108 ∧ Ly p h108 ∧ (∃ x : Int, some (jI 1) = some (jI x) ∧ Ly p h108 ∧ (x = (1 : Int) ∨ x = 2) ∧ ScI p T e h0 h108 (k + x.toNat) (n + 1))) := fun hk1 => by
    obtain ⟨x, hE, hx⟩ := m_191s (d := d) (b := T.2 k) (by omega) L hbk.1 hbk.2
    refine ⟨L.sT (i := 0) (by decide), x, h, hE, L, fun c => go (T.2 k) 1 (Or.inl rfl) (by omega) (fun z => ?_), fun c => go 2 1 (Or.inl rfl) (by omega) (fun z => ?_)⟩
    · have hs := hx.mp c
      rcases hk1 z with q | q
      · rw [if_pos hs] at q
        refine ⟨?_, by rw [q], fun _ => by rw [q]⟩
        unfold tkK; rw [q]; exact ck_sg hs
      · exact absurd hs q.2.2
    · have hs : ¬ isSg (T.2 k) = true := fun y => c (hx.mpr y)
      have k4 : (tk T n).1 = 4 ∧ (tk T n).2.1 = k := by
        rcases hk1 z with q | q
        · rw [if_neg hs] at q
          rw [q]; exact ⟨rfl, rfl⟩
        · exact ⟨q.1, q.2.1⟩
      refine ⟨?_, k4.2, fun z2 => absurd (Or.inr k4.1) (he.2 n (by omega))⟩
      unfold tkK; rw [k4.1]; rfl
  have sg3 : ∀ {c : Int}, (c = 60 ∨ c = 62 ∨ c = 46) → ¬ isSg c = true := fun hc z => by
    unfold isSg at z
    have := of_decide_eq_true z
    omega
  have hq : jE (d + 1) 68 [jP 37, jP 33, jI (k : Int)] h = jE (d + 1) 68 [jP 37, jP 33, jI (k : Int)] h := rfl
  obtain ⟨v, h', hE, x, rfl, r⟩ := jE_of (d := d) (y := 68) (h := h) (as := [jP 37, jP 33, jI (k : Int)]) (P := fun w h' => ∃ x : Int, w = some (jI x) ∧ Ly p h' ∧ (x = (1 : Int) ∨ x = 2) ∧ ScI p T e h0 h' (k + x.toNat) (n + 1)) (Nat.le_of_ble_eq_true rfl) (c_68_0 (by omega) L ⟨_, h, t_1 (by omega) L hT A.2.1 k, L, _, h, by rw [w32_i (by omega) (by omega)]; exact t_1 (by omega) L hT A.2.1 (k + 1), L, by
    rw [tAt_y hk]
    have two : ∀ {kk x : Int} {s : Int}, tAt T (k + 1) = x → 0 ≤ x → (n ≤ e → tk T n = (s, k, 0, [], k + 2)) → kk = ck s → ∃ h1, jE d 69 [jP 37, jI kk, jI (k : Int), jI 0] h none h1 ∧ Ly p h1 ∧ (∃ x : Int, some (jI 2) = some (jI x) ∧ Ly p h1 ∧ (x = (1 : Int) ∨ x = 2) ∧ ScI p T e h0 h1 (k + x.toNat) (n + 1)) := fun {kk x s} hx hx0 hs hks => by
      refine go kk 2 (Or.inr rfl) ?_ (fun z => ?_)
      · unfold tAt at hx
        split at hx
        · omega
        · omega
      · have q := hs z
        refine ⟨?_, by rw [q], fun _ => by rw [q]⟩
        unfold tkK; rw [q]; exact hks
    refine ⟨fun c1 => ⟨fun c2 => two (s := 20) c2 (by decide) (fun z => ?_) rfl, fun c2 => ⟨fun c3 => by omega, fun _ => ⟨fun c4 => by omega, fun _ => one (fun z => Or.inr ?_)⟩⟩⟩, fun c1 => ⟨fun c3 => ⟨fun c2 => two (s := 21) c2 (by decide) (fun z => ?_) rfl, fun c2 => ⟨fun c4 => by omega, fun _ => one (fun z => Or.inr ?_)⟩⟩, fun c3 => ⟨fun c4 => ⟨fun c2 => two (s := 22) c2 (by decide) (fun z => ?_) rfl, fun c2 => one (fun z => Or.inr ?_)⟩, fun c4 => one (fun z => Or.inl ?_)⟩⟩⟩
    · rw [eT z]; unfold lexS; rw [if_pos c1, if_pos c2]
    · rw [eT z]; unfold lexS; rw [if_pos c1, if_neg c2]; exact ⟨rfl, rfl, sg3 (by omega)⟩
    · rw [eT z]; unfold lexS; rw [if_neg c1, if_pos c3, if_pos c2]
    · rw [eT z]; unfold lexS; rw [if_neg c1, if_pos c3, if_neg c2]; exact ⟨rfl, rfl, sg3 (by omega)⟩
    · rw [eT z]; unfold lexS; rw [if_neg c1, if_neg c3, if_pos c4, if_pos c2]
    · rw [eT z]; unfold lexS; rw [if_neg c1, if_neg c3, if_pos c4, if_neg c2]; exact ⟨rfl, rfl, sg3 (by omega)⟩
    · rw [eT z]; unfold lexS; rw [if_neg c1, if_neg c3, if_neg c4]⟩)
  exact ⟨x, h', hE, r⟩
theorem m_65 (hd : 11 ≤ d) (L : Ly p h) (hT : okT T) (X : TxC T h) (he : stopAt T e) (he4 : e ≤ 400) : ∃ h', jE d 65 [jP 37, jP 33] h none h' ∧ Ly p h' ∧ TxC T h' ∧ Fe Z3740 h h' ∧ TokR T e 0 h' := by
  obtain ⟨d, rfl⟩ : ∃ d', d = d' + 1 := ⟨d - 1, by omega⟩
  have h4 := hT.1
  have key : ∀ (j k n : Nat) (g : AH) (z2 z4 : AV), T.1 - k < j → ScI p T e h g k n → WF d 65 17 [jP 37, jP 33, z2, jI (k : Int), z4] [] g (fun w h' => w = none ∧ Ly p h' ∧ TxC T h' ∧ Fe Z3740 h h' ∧ TokR T e 0 h') := by
    intro j
    induction j with
    | zero => intro k n g z2 z4 hj; omega
    | succ j ih =>
      intro k n g z2 z4 hj I
      have I0 := I
      obtain ⟨A, i2, i3, i4⟩ := I
      have Lg := A.1
      refine c_65_17 (by omega) Lg ⟨fun c => ?_, fun c => ?_⟩
      · rw [A.2.1.1] at c ⊢
        have ek : k = T.1 := by omega
        have eT : n ≤ e → tk T n = (3, T.1, 0, [], T.1) := fun z => by
          rw [← i4 z]
          unfold lex
          rw [spn_end (by omega), lex0_E (by omega), ek]
        obtain ⟨h1, hE, L1, S1⟩ := sc_add (d := d) (by omega) A (by omega) (kk := 1) (q := (T.1 : Int)) (v := 0) (fun z => by
          have e1 := eT z
          have e2 : tkP T n = T.1 := by unfold tkP; rw [e1]
          refine ⟨by unfold tkK; rw [e1]; rfl, by rw [e2], ?_⟩
          unfold tkW
          rw [e2, if_neg (fun y => by omega), if_neg (fun y => by omega)])
        have ne : e < n + 1 := by
          by_cases q : e < n
          · omega
          · have e1 := eT (by omega)
            by_cases y : n = e
            · omega
            · exact absurd (Or.inl (by unfold tkK; rw [e1])) (he.2 n (by omega))
        refine ⟨h1, hE, L1, rfl, L1, S1.2.1, S1.2.2.2.2.1, tkOK_all hT he, he, he4, Nat.zero_le _, S1.2.2.2.1, by rw [S1.2.2.1]; omega, by rw [S1.2.2.1]; omega, fun j hj => S1.2.2.2.2.2 j (by omega) hj⟩
      · rw [A.2.1.1] at c
        have hk : k < T.1 := by omega
        refine ⟨_, g, t_1 (by omega) Lg hT A.2.1 k, Lg, ?_⟩
        rw [tAt_y hk]
        refine ⟨fun c1 => ?_, fun c1 => ⟨fun c2 => ?_, fun c2 => ?_⟩⟩
        · have hl := isLt_i.mpr c1
          obtain ⟨h1, hE, L1, S1⟩ := m_66 (d := d) (by omega) hT I0 hk hl
          have s1 := spn_lt hk hl
          have s2 := spn_le isLt T (k := k) (by omega)
          refine ⟨_, h1, hE, L1, ?_⟩
          rw [show (if 1 < (spn isLt T k : Int) - (k : Int) then (spn isLt T k : Int) - (k : Int) else 1) = (spn isLt T k : Int) - (k : Int) by split <;> omega, w32_i (by omega) (by omega), show (k : Int) + ((spn isLt T k : Int) - (k : Int)) = (spn isLt T k : Int) by omega]
          exact ih _ _ h1 _ _ (by omega) S1
        · have hl0 : ¬ isLt (T.2 k) = true := fun z => c1 (isLt_i.mp z)
          have hl := isDg_i.mpr c2
          obtain ⟨h1, hE, L1, S1⟩ := m_67 (d := d) (by omega) hT I0 hk hl0 hl
          have s1 := spn_lt hk hl
          have s2 := spn_le isDg T (k := k) (by omega)
          refine ⟨_, h1, hE, L1, ?_⟩
          rw [show (if 1 < (spn isDg T k : Int) - (k : Int) then (spn isDg T k : Int) - (k : Int) else 1) = (spn isDg T k : Int) - (k : Int) by split <;> omega, w32_i (by omega) (by omega), show (k : Int) + ((spn isDg T k : Int) - (k : Int)) = (spn isDg T k : Int) by omega]
          exact ih _ _ h1 _ _ (by omega) S1
        · have hl0 : ¬ isLt (T.2 k) = true := fun z => c1 (isLt_i.mp z)
          have hg : ¬ isDg (T.2 k) = true := fun z => c2 (isDg_i.mp z)
          have bl : isBl (T.2 k) = true → WF d 65 17 [jP 37, jP 33, jI 1, jI (w32 ((k : Int) + (if (1 : Int) < 1 then 1 else 1))), jI (T.2 k)] [] g (fun w h' => w = none ∧ Ly p h' ∧ TxC T h' ∧ Fe Z3740 h h' ∧ TokR T e 0 h') := fun hb => by
            rw [if_neg (by decide), w32_i (by omega) (by omega)]
            exact ih (k + 1) n g _ _ (by omega) ⟨A, by omega, by omega, fun z => by rw [← i4 z]; exact (lex_bl hk hb).symm⟩
          refine ⟨fun c3 => bl (by unfold isBl; exact decide_eq_true (Or.inl c3)), fun c3 => ⟨fun c4 => bl (by unfold isBl; exact decide_eq_true (Or.inr c4)), fun c4 => ?_⟩⟩
          obtain ⟨x, h1, hE, L1, hx, S1⟩ := m_68 (d := d) (by omega) hT he I0 hk (fun z => by unfold isBl at z; have := of_decide_eq_true z; omega) hl0 hg
          refine ⟨x, h1, hE, L1, ?_⟩
          rw [show (if 1 < x then x else 1) = x by split <;> omega, w32_i (by omega) (by omega), show (k : Int) + x = ((k + x.toNat : Nat) : Int) by omega]
          exact ih _ _ h1 _ _ (by omega) S1
  have L1 : Ly p (wi (wi (wi h 37 3 0) 37 4 0) 37 5 0) := ((L.wi (by decide)).wi (by decide)).wi (by decide)
  have S1 : ScI p T e h (wi (wi (wi h 37 3 0) 37 4 0) 37 5 0) 0 0 := by
    refine ⟨⟨L1, ⟨?_, fun k hk => ?_⟩, ?_, ?_, ((Fe.wi (by omega)).trans (Fe.wi (by omega))).trans (Fe.wi (by omega)), fun j hj => by omega⟩, Nat.le_refl _, Nat.zero_le _, fun _ => rfl⟩
    · simp only [ji_wi]; rw [if_neg (by omega), if_neg (by omega), if_neg (by omega)]; exact X.1
    · simp only [ji_wi]; rw [if_neg (by omega), if_neg (by omega), if_neg (by omega)]; exact X.2 k hk
    · simp only [ji_wi]; rw [if_neg (by omega), if_neg (by omega), if_pos ⟨trivial, trivial⟩]; rfl
    · simp only [ji_wi]; rw [if_neg (by omega), if_pos ⟨trivial, trivial⟩]
  obtain ⟨v, h', hE, rfl, r⟩ := jE_of (d := d) (y := 65) (h := h) (as := [jP 37, jP 33]) (Nat.le_of_ble_eq_true rfl) (c_65_0 (by omega) L (fun _ => key (T.1 + 1) 0 0 _ _ _ (by omega) S1))
  exact ⟨h', hE, r⟩
end SCN
