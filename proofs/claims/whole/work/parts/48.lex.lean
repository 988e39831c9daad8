/-! WHAT IS KNOWN OF TOKENS -/
section LEX
variable {T : Txt}
theorem n32 : ¬ (3 : Int) = 2 := by decide
theorem n31 : ¬ (3 : Int) = 1 := by decide
theorem n42 : ¬ (4 : Int) = 2 := by decide
theorem n41 : ¬ (4 : Int) = 1 := by decide
theorem n21 : ¬ (2 : Int) = 1 := by decide
def pos (T : Txt) : Nat → Nat
  | 0 => 0
  | j + 1 => tkE T j
theorem tk_pos (T : Txt) (j : Nat) : tk T j = lex T (pos T j) := by cases j <;> rfl
theorem c10_r : ∀ (l : List Int), (∀ c ∈ l, 48 ≤ c ∧ c ≤ 57) → l.length ≤ 4 → 0 ≤ c10 l ∧ c10 l ≤ 9999
  | [], _, _ => by simp only [c10, List.foldl]; omega
  | [a], h, _ => by have := h a (by simp); simp only [c10, List.foldl]; omega
  | [a, b], h, _ => by have := h a (by simp); have := h b (by simp); simp only [c10, List.foldl]; omega
  | [a, b, c], h, _ => by have := h a (by simp); have := h b (by simp); have := h c (by simp); simp only [c10, List.foldl]; omega
  | [a, b, c, d], h, _ => by have := h a (by simp); have := h b (by simp); have := h c (by simp); have := h d (by simp); simp only [c10, List.foldl]; omega
  | a :: b :: c :: d :: e :: r, _, h => absurd h (by simp only [List.length_cons]; omega)
theorem wordIn_r (l : List Int) : ∀ (W : List (List Int × Int)), (∀ e ∈ W, 10 ≤ e.2 ∧ e.2 ≤ 19) → wordIn l W = 1 ∨ (10 ≤ wordIn l W ∧ wordIn l W ≤ 19)
  | [], _ => Or.inl rfl
  | e :: r, h => by
    show (if l = e.1 then e.2 else wordIn l r) = 1 ∨ (10 ≤ (if l = e.1 then e.2 else wordIn l r) ∧ (if l = e.1 then e.2 else wordIn l r) ≤ 19)
    split
    · exact Or.inr (h e (by simp))
    · exact wordIn_r l r (fun e he => h e (List.mem_cons_of_mem _ he))
theorem wordK_r (l : List Int) : wordK l = 1 ∨ (10 ≤ wordK l ∧ wordK l ≤ 19) := wordIn_r l wdT (by decide)
theorem okK_w {k : Int} (h : k = 1 ∨ (10 ≤ k ∧ k ≤ 19)) : okK k := by
  have : k = 1 ∨ k = 10 ∨ k = 11 ∨ k = 12 ∨ k = 13 ∨ k = 14 ∨ k = 15 ∨ k = 16 ∨ k = 17 ∨ k = 18 ∨ k = 19 := by omega
  rcases this with rfl | rfl | rfl | rfl | rfl | rfl | rfl | rfl | rfl | rfl | rfl <;> exact ck_kc _ rfl
theorem okK_s {c : Int} (h : isSg c = true) : okK (100 + c) := by
  unfold isSg at h
  have h := of_decide_eq_true h
  rcases h with rfl | rfl | rfl | rfl | rfl | rfl | rfl | rfl | rfl | rfl | rfl <;> exact ck_kc _ rfl
/-- the token at q, case by case -/
theorem lex0_L {q : Nat} (hq : q < T.1) (hl : isLt (T.2 q) = true) : lex0 T q = lexL T q := by unfold lex0; rw [if_neg (by omega), if_pos hl]
theorem lex0_D {q : Nat} (hq : q < T.1) (hl : ¬ isLt (T.2 q) = true) (hd : isDg (T.2 q) = true) : lex0 T q = lexD T q := by unfold lex0; rw [if_neg (by omega), if_neg hl, if_pos hd]
theorem lex0_S {q : Nat} (hq : q < T.1) (hl : ¬ isLt (T.2 q) = true) (hd : ¬ isDg (T.2 q) = true) : lex0 T q = lexS T q := by unfold lex0; rw [if_neg (by omega), if_neg hl, if_neg hd]
theorem lex0_E {q : Nat} (hq : T.1 ≤ q) : lex0 T q = (3, q, 0, [], q) := by unfold lex0; rw [if_pos hq]
theorem lex_nb {k : Nat} (hb : ¬ isBl (T.2 k) = true) : lex T k = lex0 T k := by unfold lex; rw [spn_no hb]
theorem lex_bl {k : Nat} (hk : k < T.1) (hb : isBl (T.2 k) = true) : lex T k = lex T (k + 1) := by unfold lex; rw [spn_yes hk hb]
theorem lt_nb {c : Int} (h : isLt c = true) : ¬ isBl c = true := by
  unfold isLt at h; unfold isBl
  have h := of_decide_eq_true h
  exact fun z => by have := of_decide_eq_true z; omega
theorem dg_nb {c : Int} (h : isDg c = true) : ¬ isBl c = true := by
  unfold isDg at h; unfold isBl
  have h := of_decide_eq_true h
  exact fun z => by have := of_decide_eq_true z; omega
theorem spn_lt {f : Int → Bool} {q : Nat} (hq : q < T.1) (hf : f (T.2 q) = true) : q < spn f T q := by
  rw [spn_yes hq hf]; have := spn_ge f T (q + 1); omega
theorem slcL {q : Nat} (hs : spn isLt T q - q ≤ 4) (hq : q < spn isLt T q) : okN (slc T q (spn isLt T q)) := by
  refine ⟨by rw [slc_len]; omega, by rw [slc_len]; exact hs, fun c hc => ?_⟩
  obtain ⟨i, h1, h2, rfl⟩ := slc_mem hc
  have := spn_all h1 h2
  unfold isLt at this
  exact of_decide_eq_true this
theorem slcD {q : Nat} : ∀ c ∈ slc T q (spn isDg T q), 48 ≤ c ∧ c ≤ 57 := fun c hc => by
  obtain ⟨i, h1, h2, rfl⟩ := slc_mem hc
  have := spn_all h1 h2
  unfold isDg at this
  exact of_decide_eq_true this
/-- what is known of any token -/
theorem lex0_k (T : Txt) (q : Nat) : okK (lex0 T q).1 ∧ ((lex0 T q).1 = 2 → q < T.1 ∧ ¬ isLt (T.2 q) = true ∧ isDg (T.2 q) = true ∧ 0 ≤ (lex0 T q).2.2.1 ∧ (lex0 T q).2.2.1 ≤ 9999) ∧ ((lex0 T q).1 = 1 → q < T.1 ∧ isLt (T.2 q) = true ∧ okN (lex0 T q).2.2.2.1) ∧ (lex0 T q).2.1 = q ∧ (q ≤ T.1 → ¬ ((lex0 T q).1 = 3 ∨ (lex0 T q).1 = 4) → q < (lex0 T q).2.2.2.2 ∧ (lex0 T q).2.2.2.2 ≤ T.1) := by
  by_cases hq : T.1 ≤ q
  · rw [lex0_E hq]
    exact ⟨ck_kc _ rfl, fun z => absurd z n32, fun z => absurd z n31, rfl, fun _ z => absurd (Or.inl rfl) z⟩
  have hq : q < T.1 := by omega
  by_cases hl : isLt (T.2 q) = true
  · rw [lex0_L hq hl]
    unfold lexL
    have s1 := spn_lt hq hl
    have s2 := spn_le isLt T (k := q) (by omega)
    by_cases h4 : 4 < spn isLt T q - q
    · rw [if_pos h4]
      exact ⟨ck_kc _ rfl, fun z => absurd z n42, fun z => absurd z n41, rfl, fun _ z => absurd (Or.inr rfl) z⟩
    · rw [if_neg h4]
      have hw := wordK_r (slc T q (spn isLt T q))
      refine ⟨okK_w hw, fun z => ?_, fun _ => ⟨hq, hl, slcL (by omega) s1⟩, rfl, fun _ _ => ⟨s1, s2⟩⟩
      have z : wordK (slc T q (spn isLt T q)) = 2 := z
      omega
  by_cases hd : isDg (T.2 q) = true
  · rw [lex0_D hq hl hd]
    unfold lexD
    have s1 := spn_lt hq hd
    have s2 := spn_le isDg T (k := q) (by omega)
    by_cases h4 : 4 < spn isDg T q - q
    · rw [if_pos h4]
      exact ⟨ck_kc _ rfl, fun z => absurd z n42, fun z => absurd z n41, rfl, fun _ z => absurd (Or.inr rfl) z⟩
    · rw [if_neg h4]
      have hb := c10_r _ (slcD (T := T) (q := q)) (by rw [slc_len]; omega)
      exact ⟨ck_kc _ rfl, fun _ => ⟨hq, hl, hd, hb.1, hb.2⟩, fun z => absurd z n21, rfl, fun _ _ => ⟨s1, s2⟩⟩
  rw [lex0_S hq hl hd]
  unfold lexS
  have two : ∀ {a : Int} {x : Int}, okK a → ¬ (a = 1 ∨ a = 2 ∨ a = 3 ∨ a = 4) → 0 ≤ x → okK (if tAt T (q + 1) = x then a else 4) ∧ ((if tAt T (q + 1) = x then a else 4) = 2 → q < T.1 ∧ ¬ isLt (T.2 q) = true ∧ isDg (T.2 q) = true ∧ 0 ≤ (0 : Int) ∧ (0 : Int) ≤ 9999) ∧ ((if tAt T (q + 1) = x then a else 4) = 1 → q < T.1 ∧ isLt (T.2 q) = true ∧ okN []) ∧ q = q ∧ (q ≤ T.1 → ¬ ((if tAt T (q + 1) = x then a else 4) = 3 ∨ (if tAt T (q + 1) = x then a else 4) = 4) → q < q + 2 ∧ q + 2 ≤ T.1) := by
    intro a x ha hn hx
    split
    · rename_i e
      refine ⟨ha, fun z => by omega, fun z => by omega, rfl, fun _ _ => ⟨by omega, ?_⟩⟩
      unfold tAt at e
      split at e
      · omega
      · omega
    · exact ⟨ck_kc _ rfl, fun z => absurd z n42, fun z => absurd z n41, rfl, fun _ z => absurd (Or.inr rfl) z⟩
  split
  · exact two (ck_kc _ rfl) (by decide) (by decide)
  split
  · exact two (ck_kc _ rfl) (by decide) (by decide)
  split
  · exact two (ck_kc _ rfl) (by decide) (by decide)
  · by_cases hs : isSg (T.2 q) = true
    · rw [if_pos hs]
      have h9 := hs
      unfold isSg at h9
      have h9 := of_decide_eq_true h9
      refine ⟨okK_s hs, fun z => ?_, fun z => ?_, rfl, fun _ _ => ⟨by show q < q + 1; omega, by show q + 1 ≤ T.1; omega⟩⟩
      · have z : 100 + T.2 q = 2 := z
        omega
      · have z : 100 + T.2 q = 1 := z
        omega
    · rw [if_neg hs]
      exact ⟨ck_kc _ rfl, fun z => absurd z n42, fun z => absurd z n41, rfl, fun _ z => absurd (Or.inr rfl) z⟩
theorem lex_k (T : Txt) (k : Nat) : okK (lex T k).1 ∧ (lex T k).2.1 = spn isBl T k ∧ ((lex T k).1 = 2 → 0 ≤ (lex T k).2.2.1 ∧ (lex T k).2.2.1 ≤ 9999) ∧ ((lex T k).1 = 1 → okN (lex T k).2.2.2.1) ∧ (k ≤ T.1 → ¬ ((lex T k).1 = 3 ∨ (lex T k).1 = 4) → k < (lex T k).2.2.2.2 ∧ (lex T k).2.2.2.2 ≤ T.1) := by
  have h := lex0_k T (spn isBl T k)
  refine ⟨h.1, h.2.2.2.1, fun z => ⟨(h.2.1 z).2.2.2.1, (h.2.1 z).2.2.2.2⟩, fun z => (h.2.2.1 z).2.2, fun z1 z2 => ?_⟩
  have q1 := h.2.2.2.2 (spn_le isBl T z1) z2
  have q2 := spn_ge isBl T k
  exact ⟨Nat.lt_of_le_of_lt q2 q1.1, q1.2⟩
theorem tkG_all (T : Txt) : tkG T := fun j => by
  have h := lex_k T (pos T j)
  rw [← tk_pos] at h
  exact ⟨h.2.2.1, h.2.2.2.1⟩
theorem pos_le (T : Txt) : ∀ (j : Nat), (∀ i, i < j → ¬ (tkK T i = 3 ∨ tkK T i = 4)) → j ≤ pos T j ∧ pos T j ≤ T.1
  | 0, _ => ⟨Nat.le_refl _, Nat.zero_le _⟩
  | j + 1, h => by
    have h1 := pos_le T j (fun i hi => h i (by omega))
    have h2 := (lex_k T (pos T j)).2.2.2.2 h1.2
    rw [← tk_pos] at h2
    have h3 := h2 (h j (by omega))
    show j + 1 ≤ tkE T j ∧ tkE T j ≤ T.1
    have h3 : pos T j < tkE T j ∧ tkE T j ≤ T.1 := h3
    omega
/-- there is a first END or BAD -/
theorem stop_ex (T : Txt) : ∃ e, stopAt T e ∧ e ≤ T.1 := by
  have key : ∀ (n j : Nat), (∀ i, i < j → ¬ (tkK T i = 3 ∨ tkK T i = 4)) → T.1 - j < n → ∃ e, stopAt T e := by
    intro n
    induction n with
    | zero => intro j _ h; omega
    | succ n ih =>
      intro j hj hn
      by_cases c : tkK T j = 3 ∨ tkK T j = 4
      · exact ⟨j, c, hj⟩
      · have h2 : ∀ i, i < j + 1 → ¬ (tkK T i = 3 ∨ tkK T i = 4) := fun i hi => by
          by_cases e : i = j
          · rw [e]; exact c
          · exact hj i (by omega)
        have := pos_le T (j + 1) h2
        exact ih (j + 1) h2 (by omega)
  obtain ⟨e, he⟩ := key (T.1 + 1) 0 (fun i hi => by omega) (by omega)
  exact ⟨e, he, by have := pos_le T e he.2; omega⟩
theorem tkOK_all (hT : okT T) {e : Nat} (he : stopAt T e) : tkOK T e := fun j hj => by
  have h := lex_k T (pos T j)
  have hp := pos_le T j (fun i hi => he.2 i (by omega))
  have hs := spn_le isBl T hp.2
  have h0 := lex0_k T (spn isBl T (pos T j))
  have e0 : lex0 T (spn isBl T (pos T j)) = tk T j := by rw [tk_pos]; rfl
  rw [e0] at h0
  rw [← tk_pos] at h
  have eP : tkP T j = spn isBl T (pos T j) := h.2.1
  have ht := hT.1
  refine ⟨h.1, by omega, fun z => ?_, fun z => ?_, ?_⟩
  · have q := h0.2.1 z
    have q1 : 0 ≤ tkV T j := q.2.2.2.1
    have q2 : tkV T j ≤ 9999 := q.2.2.2.2
    refine ⟨?_, q1, q2⟩
    unfold tkW
    rw [eP, if_neg (fun y => q.2.1 y.1), if_pos ⟨q.1, q.2.2.1⟩, w32_i (by omega) (by omega)]
  · have q := h0.2.2.1 z
    refine ⟨?_, q.2.2⟩
    have b := okN_c256 q.2.2
    unfold tkW
    rw [eP, if_pos ⟨q.2.1, q.1⟩]
    exact w32_i (by have : 97 ≤ c256 (tkN T j) := b.1; omega) (by have : c256 (tkN T j) ≤ 2063597567 := b.2; omega)
  · unfold tkW
    split
    · exact w32_r _
    · split
      · exact w32_r _
      · exact r32_0
end LEX
