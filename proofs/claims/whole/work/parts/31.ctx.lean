-- needs: 20.num 21.lay 22.spec 23.va 24.leaf 25.tbls 26.thg 27.tok 29.fr 30.tree 28.vb1 28.vb2 28.vb3
/-! NAMES AND THEIR CODES; what the reading of a sum stands on -/
theorem jxor_m1 {x : Int} (h : r32 x) : jxor x (-1) = -x - 1 := by
  unfold jxor j2
  have e : Int32.ofInt x ^^^ Int32.ofInt (-1) = ~~~ (Int32.ofInt x) := by
    apply Int32.toBitVec_inj.mp
    rw [Int32.toBitVec_xor, Int32.toBitVec_not]
    rw [show (Int32.ofInt (-1)).toBitVec = BitVec.allOnes 32 from rfl, BitVec.xor_allOnes]
  show (Int32.ofInt x ^^^ Int32.ofInt (-1)).toInt = _
  rw [e, Int32.toInt_not, I_to h]
  unfold r32 at h
  rw [Int.bmod_def]
  split <;> omega
theorem okN_c256 {l : List Int} (h : okN l) : 97 ≤ c256 l ∧ c256 l ≤ 2063597567 := by
  obtain ⟨h1, h2, h3⟩ := h
  match l, h1, h2, h3 with
  | [a], _, _, h3 => have := h3 a (by simp); show 97 ≤ 0 * 256 + a ∧ _; simp only [c256, List.foldl]; omega
  | [a, b], _, _, h3 => have := h3 a (by simp); have := h3 b (by simp); simp only [c256, List.foldl]; omega
  | [a, b, c], _, _, h3 => have := h3 a (by simp); have := h3 b (by simp); have := h3 c (by simp); simp only [c256, List.foldl]; omega
  | [a, b, c, d], _, _, h3 => have := h3 a (by simp); have := h3 b (by simp); have := h3 c (by simp); have := h3 d (by simp); simp only [c256, List.foldl]; omega
theorem c256_inj {l m : List Int} (hl : okN l) (hm : okN m) (e : c256 l = c256 m) : l = m := by
  obtain ⟨h1, h2, h3⟩ := hl
  obtain ⟨g1, g2, g3⟩ := hm
  match l, h1, h2, h3, m, g1, g2, g3 with
  | [a], _, _, h3, [w], _, _, g3 => have := h3 a (by simp); have := g3 w (by simp); simp only [c256, List.foldl] at e; rw [show a = w by omega]
  | [a], _, _, h3, [w, x], _, _, g3 => have := h3 a (by simp); have := g3 w (by simp); have := g3 x (by simp); simp only [c256, List.foldl] at e; omega
  | [a], _, _, h3, [w, x, y], _, _, g3 => have := h3 a (by simp); have := g3 w (by simp); have := g3 x (by simp); have := g3 y (by simp); simp only [c256, List.foldl] at e; omega
  | [a], _, _, h3, [w, x, y, z], _, _, g3 => have := h3 a (by simp); have := g3 w (by simp); have := g3 x (by simp); have := g3 y (by simp); have := g3 z (by simp); simp only [c256, List.foldl] at e; omega
  | [a, b], _, _, h3, [w], _, _, g3 => have := h3 a (by simp); have := h3 b (by simp); have := g3 w (by simp); simp only [c256, List.foldl] at e; omega
  | [a, b], _, _, h3, [w, x], _, _, g3 => have := h3 a (by simp); have := h3 b (by simp); have := g3 w (by simp); have := g3 x (by simp); simp only [c256, List.foldl] at e; rw [show a = w by omega, show b = x by omega]
  | [a, b], _, _, h3, [w, x, y], _, _, g3 => have := h3 a (by simp); have := h3 b (by simp); have := g3 w (by simp); have := g3 x (by simp); have := g3 y (by simp); simp only [c256, List.foldl] at e; omega
  | [a, b], _, _, h3, [w, x, y, z], _, _, g3 => have := h3 a (by simp); have := h3 b (by simp); have := g3 w (by simp); have := g3 x (by simp); have := g3 y (by simp); have := g3 z (by simp); simp only [c256, List.foldl] at e; omega
  | [a, b, c], _, _, h3, [w], _, _, g3 => have := h3 a (by simp); have := h3 b (by simp); have := h3 c (by simp); have := g3 w (by simp); simp only [c256, List.foldl] at e; omega
  | [a, b, c], _, _, h3, [w, x], _, _, g3 => have := h3 a (by simp); have := h3 b (by simp); have := h3 c (by simp); have := g3 w (by simp); have := g3 x (by simp); simp only [c256, List.foldl] at e; omega
  | [a, b, c], _, _, h3, [w, x, y], _, _, g3 => have := h3 a (by simp); have := h3 b (by simp); have := h3 c (by simp); have := g3 w (by simp); have := g3 x (by simp); have := g3 y (by simp); simp only [c256, List.foldl] at e; rw [show a = w by omega, show b = x by omega, show c = y by omega]
  | [a, b, c], _, _, h3, [w, x, y, z], _, _, g3 => have := h3 a (by simp); have := h3 b (by simp); have := h3 c (by simp); have := g3 w (by simp); have := g3 x (by simp); have := g3 y (by simp); have := g3 z (by simp); simp only [c256, List.foldl] at e; omega
  | [a, b, c, d], _, _, h3, [w], _, _, g3 => have := h3 a (by simp); have := h3 b (by simp); have := h3 c (by simp); have := h3 d (by simp); have := g3 w (by simp); simp only [c256, List.foldl] at e; omega
  | [a, b, c, d], _, _, h3, [w, x], _, _, g3 => have := h3 a (by simp); have := h3 b (by simp); have := h3 c (by simp); have := h3 d (by simp); have := g3 w (by simp); have := g3 x (by simp); simp only [c256, List.foldl] at e; omega
  | [a, b, c, d], _, _, h3, [w, x, y], _, _, g3 => have := h3 a (by simp); have := h3 b (by simp); have := h3 c (by simp); have := h3 d (by simp); have := g3 w (by simp); have := g3 x (by simp); have := g3 y (by simp); simp only [c256, List.foldl] at e; omega
  | [a, b, c, d], _, _, h3, [w, x, y, z], _, _, g3 => have := h3 a (by simp); have := h3 b (by simp); have := h3 c (by simp); have := h3 d (by simp); have := g3 w (by simp); have := g3 x (by simp); have := g3 y (by simp); have := g3 z (by simp); simp only [c256, List.foldl] at e; rw [show a = w by omega, show b = x by omega, show c = y by omega, show d = z by omega]
theorem lkCd_name {G : NmL} (hG : ∀ e ∈ G, okN e.1) {l : List Int} (hl : okN l) : lkCd G (c256 l) = lkNm G l := by
  induction G with
  | nil => rfl
  | cons e r ih =>
    show (if c256 e.1 = c256 l then e.2 else lkCd r (c256 l)) = (if e.1 = l then e.2 else lkNm r l)
    rw [ih (fun q hq => hG q (List.mem_cons_of_mem _ hq))]
    by_cases c : e.1 = l
    · rw [if_pos (by rw [c]), if_pos c]
    · rw [if_neg (fun q => c (c256_inj (hG e (List.mem_cons_self ..)) hl q)), if_neg c]
theorem lkCd_0 {G : NmL} (hG : ∀ e ∈ G, okN e.1) : lkCd G 0 = (-1, -1) := by
  induction G with
  | nil => rfl
  | cons e r ih =>
    show (if c256 e.1 = 0 then e.2 else lkCd r 0) = _
    have := okN_c256 (hG e (List.mem_cons_self ..))
    rw [if_neg (by omega), ih (fun q hq => hG q (List.mem_cons_of_mem _ hq))]
theorem fdC_not {G : NmL} {s v : Int} (h : ∀ e ∈ G, ¬ c256 e.1 = v) : fdC G s v = -1 := by
  induction G with
  | nil => rfl
  | cons e r ih =>
    show (if c256 e.1 = v ∧ e.2.1 = s then e.2.2 else fdC r s v) = -1
    rw [if_neg (fun q => h e (List.mem_cons_self ..) q.1), ih (fun q hq => h q (List.mem_cons_of_mem _ hq))]
theorem fdC_lk {G : NmL} (hG : ∀ e ∈ G, okN e.1) (hn : (G.map Prod.fst).Nodup) (s v : Int) (hs : 0 ≤ s) : fdC G s v = if (lkCd G v).1 = s then (lkCd G v).2 else -1 := by
  induction G with
  | nil => show (-1 : Int) = if (-1 : Int) = s then -1 else -1; split <;> rfl
  | cons e r ih =>
    have hn2 := List.nodup_cons.mp hn
    show (if c256 e.1 = v ∧ e.2.1 = s then e.2.2 else fdC r s v) = if (if c256 e.1 = v then e.2 else lkCd r v).1 = s then (if c256 e.1 = v then e.2 else lkCd r v).2 else -1
    by_cases c : c256 e.1 = v
    · rw [if_pos c]
      by_cases c2 : e.2.1 = s
      · rw [if_pos ⟨c, c2⟩, if_pos c2]
      · rw [if_neg (fun q => c2 q.2), if_neg c2]
        refine fdC_not (fun q hq e2 => hn2.1 ?_)
        have : q.1 = e.1 := c256_inj (hG q (List.mem_cons_of_mem _ hq)) (hG e (List.mem_cons_self ..)) (e2.trans c.symm)
        rw [← this]
        exact List.mem_map.mpr ⟨q, hq, rfl⟩
    · rw [if_neg c, if_neg (fun q => c q.1)]
      exact ih (fun q hq => hG q (List.mem_cons_of_mem _ hq)) hn2.2
theorem lkNm_mem {G : NmL} {l : List Int} (h : ¬ (lkNm G l).1 = -1) : (l, lkNm G l) ∈ G := by
  induction G with
  | nil => exact absurd rfl h
  | cons e r ih =>
    have st : lkNm (e :: r) l = if e.1 = l then e.2 else lkNm r l := rfl
    rw [st] at h ⊢
    by_cases c : e.1 = l
    · rw [if_pos c, ← c]; exact List.mem_cons_self ..
    · rw [if_neg c] at h ⊢; exact List.mem_cons_of_mem _ (ih h)
theorem lkNm_no {G : NmL} {l : List Int} (hG : ∀ e ∈ G, 0 ≤ e.2.1) (h : (lkNm G l).1 = -1) : ∀ e ∈ G, ¬ e.1 = l := by
  induction G with
  | nil => intro e he; exact absurd he (by simp)
  | cons e r ih =>
    have st : lkNm (e :: r) l = if e.1 = l then e.2 else lkNm r l := rfl
    rw [st] at h
    by_cases c : e.1 = l
    · rw [if_pos c] at h
      have := hG e (List.mem_cons_self ..)
      omega
    · rw [if_neg c] at h
      intro q hq
      rcases List.mem_cons.mp hq with rfl | hq
      · exact c
      · exact ih (fun q hq => hG q (List.mem_cons_of_mem _ hq)) h q hq
def SlR (h : AH) (sl : List Int) : Prop := ji h 93 6 = (sl.length : Int) ∧ ∀ k, k < sl.length → ji h 94 k = sl.getD k (-1)
def okX (C : Cx) (G : NmL) (sl : List Int) : Prop := okG G ∧ okS C.1 ∧ okO C.1 C.2.1 ∧ C.2.1.length ≤ 6 ∧ okO C.1 C.2.2 ∧ C.2.2.length ≤ 6 ∧ sl.length ≤ 18 ∧ (∀ s ∈ sl, 0 ≤ s ∧ s < (C.1.length : Int)) ∧ G.length ≤ 28 + sl.length ∧ ∀ e ∈ G, (e.2.1 = 0 → e.2.2 < (C.1.length : Int)) ∧ (e.2.1 = 1 → e.2.2 < (C.2.1.length : Int)) ∧ (e.2.1 = 2 → e.2.2 < (C.2.2.length : Int)) ∧ (e.2.1 = 4 → e.2.2 < (sl.length : Int))
def SmX (D : Nat) (C : Cx) (G : NmL) (sl : List Int) (h : AH) : Prop := NmR h D G ∧ StR h D C.1 ∧ ThR h (D + 14) C.1 C.2.1 ∧ ThR h (D + 18) C.1 C.2.2 ∧ SlR h sl
def Rs {α : Type} (r : Er α) (E : Nat → Prop) (Q : α → Prop) : Prop := match r with
  | .error q => E q
  | .ok a => Q a
theorem Rs_xb {α β : Type} (x : Er α) (f : α → Er β) (E : Nat → Prop) (Q : β → Prop) : Rs (xb x f) E Q = Rs x E (fun a => Rs (f a) E Q) := by cases x <;> rfl
theorem Rs_ok {α : Type} (a : α) (E : Nat → Prop) (Q : α → Prop) : Rs (Except.ok a) E Q = Q a := rfl
theorem Rs_er {α : Type} (q : Nat) (E : Nat → Prop) (Q : α → Prop) : Rs (Except.error q : Er α) E Q = E q := rfl
theorem take_y {T : Txt} {k : Int} {i : Nat} (h : tkK T i = k) : pTake T k i = .ok (i + 1) := by unfold pTake; rw [if_pos h]
theorem take_n {T : Txt} {k : Int} {i : Nat} (h : ¬ tkK T i = k) : pTake T k i = .error (tkP T i) := by unfold pTake; rw [if_neg h]
theorem Rs_mono {α : Type} {r : Er α} {E E' : Nat → Prop} {Q Q' : α → Prop} (h : Rs r E Q) (h1 : ∀ q, E q → E' q) (h2 : ∀ a, Q a → Q' a) : Rs r E' Q' := by
  cases r with
  | error q => exact h1 q h
  | ok a => exact h2 a h
section CTX
variable {p : Lpar} {d : Nat} {h h' : AH} {D : Nat} {C : Cx} {G : NmL} {sl : List Int} {T : Txt} {e i : Nat}
theorem SmX.cg (X : SmX D C G sl h) (hs : ∀ a k, ((D + 1 ≤ a ∧ a ≤ D + 7) ∨ (D + 14 ≤ a ∧ a ≤ D + 21) ∨ a = 94 ∨ (a = 93 ∧ k = 6)) → ji h' a k = ji h a k) : SmX D C G sl h' := by
  obtain ⟨x1, x2, x3, x4, x5, x6⟩ := X
  exact ⟨x1.cg (fun a k h1 h2 => hs a k (by omega)), x2.cg (fun a k h1 h2 => hs a k (by omega)), x3.cg (fun a k h1 h2 => hs a k (by omega)), x4.cg (fun a k h1 h2 => hs a k (by omega)), by rw [hs 93 6 (by omega)]; exact x5, fun k hk => by rw [hs 94 k (by omega)]; exact x6 k hk⟩
theorem SmX.tok (X : SmX D C G sl h) (hD : isD D) {k : Nat} {x : Int} : SmX D C G sl (wi h 37 k x) := X.cg (fun a k h1 => by unfold isD at hD; rw [ji_wi, if_neg (by omega)])
theorem nmT_lk (K : TokR T e i h) (hG : okG G) : lkCd G (nmT T i) = lkT G T i := by
  unfold nmT lkT
  by_cases c : tkK T i = 1
  · rw [if_pos c, if_pos c, (K.ok.2.2.2.1 c).1]
    exact lkCd_name (fun e he => (hG.2.1 e he).1) (K.ok.2.2.2.1 c).2
  · rw [if_neg c, if_neg c]
    exact lkCd_0 (fun e he => (hG.2.1 e he).1)
theorem nmT_fd (K : TokR T e i h) (hG : okG G) {s : Int} (hs : 0 ≤ s) : fdC G s (nmT T i) = if (lkT G T i).1 = s then (lkT G T i).2 else -1 := by
  rw [fdC_lk (fun e he => (hG.2.1 e he).1) hG.2.2 _ _ hs, nmT_lk K hG]
theorem lkT_mem (h : ¬ (lkT G T i).1 = -1) : tkK T i = 1 ∧ (tkN T i, lkT G T i) ∈ G := by
  unfold lkT at h ⊢
  by_cases c : tkK T i = 1
  · rw [if_pos c] at h ⊢; exact ⟨c, lkNm_mem h⟩
  · rw [if_neg c] at h; exact absurd rfl h
/-- what a NAME that stands for something gives -/
theorem okX.lk (O : okX C G sl) (h : ¬ (lkT G T i).1 = -1) : tkK T i = 1 ∧ 0 ≤ (lkT G T i).2 ∧ (lkT G T i).2 < 46 ∧ ((lkT G T i).1 = 0 → (lkT G T i).2 < (C.1.length : Int)) ∧ ((lkT G T i).1 = 1 → (lkT G T i).2 < (C.2.1.length : Int)) ∧ ((lkT G T i).1 = 2 → (lkT G T i).2 < (C.2.2.length : Int)) ∧ ((lkT G T i).1 = 4 → (lkT G T i).2 < (sl.length : Int)) ∧ 0 ≤ (lkT G T i).1 ∧ (lkT G T i).1 ≤ 4 := by
  obtain ⟨c, m⟩ := lkT_mem h
  obtain ⟨o1, o2, o3, o4⟩ := O.2.2.2.2.2.2.2.2.2 _ m
  obtain ⟨g1, g2, g3, g4, g5⟩ := O.1.2.1 _ m
  exact ⟨c, g4, g5, o1, o2, o3, o4, g2, g3⟩
def slO (sl : List Int) (s : Int) : Int := if s < 0 ∨ (sl.length : Int) ≤ s then -1 else sl.getD s.toNat (-1)
theorem m_44 (hd : 10 ≤ d) (L : Ly p h) (K : TokR T e i h) (hs : SlR h sl) (hl : sl.length ≤ 18) {s : Int} : jE d 44 [jP 93, jI s] h (some (jI (slO sl s))) h := by
  obtain ⟨d, rfl⟩ : ∃ d', d = d' + 1 := ⟨d - 1, by omega⟩
  refine jE_eq (Nat.le_of_ble_eq_true rfl) (c_44_0 (by omega) L K ?_)
  unfold slO
  rw [hs.1]
  exact ⟨fun q => ⟨by rw [if_pos (Or.inl q)], rfl⟩, fun q => ⟨fun q2 => ⟨by omega, by omega, by rw [if_neg (by omega), hs.2 _ (by omega)], rfl⟩, fun q2 => ⟨by rw [if_pos (by omega)], rfl⟩⟩⟩
end CTX
