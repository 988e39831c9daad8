/-! THE REFERENCE: letters of names -/
def it27 (v : Int) : Nat → Int
  | 0 => v
  | k + 1 => it27 v k / 27
theorem c27_s {l : List Int} (hl : okN0 l) : (0 ≤ c27 l ∧ c27 l ≤ 531440 ∧ l.length ≤ 4) ∧ it27 (c27 l) l.length = 0 ∧ ∀ k, k < l.length → 0 < it27 (c27 l) k ∧ 96 + it27 (c27 l) k % 27 = l.getD (l.length - 1 - k) 0 ∧ l.getD (l.length - 1 - k) 0 ≤ 122 := by
  rcases hl with rfl | ⟨h1, h2, h3⟩
  · exact ⟨⟨Int.le_refl _, by decide, by decide⟩, rfl, fun k hk => absurd hk (Nat.not_lt_zero k)⟩
  · match l, h1, h2, h3 with
    | [a], _, _, h3 =>
      have := h3 a (by simp)
      have e : c27 [a] = (a - 96) := by simp only [c27, List.foldl]; omega
      rw [e]
      refine ⟨⟨by omega, by omega, by show 1 ≤ 4; omega⟩, by show (a - 96) / 27 = 0; omega, fun k hk => ?_⟩
      have hk : k < 1 := hk
      have ek : k = 0 := by omega
      subst ek
      · show 0 < (a - 96) ∧ 96 + (a - 96) % 27 = a ∧ a ≤ 122; omega
    | [a, b], _, _, h3 =>
      have := h3 a (by simp); have := h3 b (by simp)
      have e : c27 [a, b] = (27 * (a - 96) + b - 96) := by simp only [c27, List.foldl]; omega
      rw [e]
      refine ⟨⟨by omega, by omega, by show 2 ≤ 4; omega⟩, by show (27 * (a - 96) + b - 96) / 27 / 27 = 0; omega, fun k hk => ?_⟩
      have hk : k < 2 := hk
      rcases (by omega : k = 0 ∨ k = 1) with rfl | rfl
      · show 0 < (27 * (a - 96) + b - 96) ∧ 96 + (27 * (a - 96) + b - 96) % 27 = b ∧ b ≤ 122; omega
      · show 0 < (27 * (a - 96) + b - 96) / 27 ∧ 96 + (27 * (a - 96) + b - 96) / 27 % 27 = a ∧ a ≤ 122; omega
    | [a, b, c], _, _, h3 =>
      have := h3 a (by simp); have := h3 b (by simp); have := h3 c (by simp)
      have e : c27 [a, b, c] = (27 * (27 * (a - 96) + b - 96) + c - 96) := by simp only [c27, List.foldl]; omega
      rw [e]
      refine ⟨⟨by omega, by omega, by show 3 ≤ 4; omega⟩, by show (27 * (27 * (a - 96) + b - 96) + c - 96) / 27 / 27 / 27 = 0; omega, fun k hk => ?_⟩
      have hk : k < 3 := hk
      rcases (by omega : k = 0 ∨ k = 1 ∨ k = 2) with rfl | rfl | rfl
      · show 0 < (27 * (27 * (a - 96) + b - 96) + c - 96) ∧ 96 + (27 * (27 * (a - 96) + b - 96) + c - 96) % 27 = c ∧ c ≤ 122; omega
      · show 0 < (27 * (27 * (a - 96) + b - 96) + c - 96) / 27 ∧ 96 + (27 * (27 * (a - 96) + b - 96) + c - 96) / 27 % 27 = b ∧ b ≤ 122; omega
      · show 0 < (27 * (27 * (a - 96) + b - 96) + c - 96) / 27 / 27 ∧ 96 + (27 * (27 * (a - 96) + b - 96) + c - 96) / 27 / 27 % 27 = a ∧ a ≤ 122; omega
    | [a, b, c, f], _, _, h3 =>
      have := h3 a (by simp); have := h3 b (by simp); have := h3 c (by simp); have := h3 f (by simp)
      have e : c27 [a, b, c, f] = (27 * (27 * (27 * (a - 96) + b - 96) + c - 96) + f - 96) := by simp only [c27, List.foldl]; omega
      rw [e]
      refine ⟨⟨by omega, by omega, by show 4 ≤ 4; omega⟩, by show (27 * (27 * (27 * (a - 96) + b - 96) + c - 96) + f - 96) / 27 / 27 / 27 / 27 = 0; omega, fun k hk => ?_⟩
      have hk : k < 4 := hk
      rcases (by omega : k = 0 ∨ k = 1 ∨ k = 2 ∨ k = 3) with rfl | rfl | rfl | rfl
      · show 0 < (27 * (27 * (27 * (a - 96) + b - 96) + c - 96) + f - 96) ∧ 96 + (27 * (27 * (27 * (a - 96) + b - 96) + c - 96) + f - 96) % 27 = f ∧ f ≤ 122; omega
      · show 0 < (27 * (27 * (27 * (a - 96) + b - 96) + c - 96) + f - 96) / 27 ∧ 96 + (27 * (27 * (27 * (a - 96) + b - 96) + c - 96) + f - 96) / 27 % 27 = c ∧ c ≤ 122; omega
      · show 0 < (27 * (27 * (27 * (a - 96) + b - 96) + c - 96) + f - 96) / 27 / 27 ∧ 96 + (27 * (27 * (27 * (a - 96) + b - 96) + c - 96) + f - 96) / 27 / 27 % 27 = b ∧ b ≤ 122; omega
      · show 0 < (27 * (27 * (27 * (a - 96) + b - 96) + c - 96) + f - 96) / 27 / 27 / 27 ∧ 96 + (27 * (27 * (27 * (a - 96) + b - 96) + c - 96) + f - 96) / 27 / 27 / 27 % 27 = a ∧ a ≤ 122; omega
theorem it27_r {l : List Int} (hl : okN0 l) (k : Nat) : 0 ≤ it27 (c27 l) k ∧ it27 (c27 l) k ≤ 531440 := by
  induction k with
  | zero => exact ⟨(c27_s hl).1.1, (c27_s hl).1.2.1⟩
  | succ k ih => show 0 ≤ it27 (c27 l) k / 27 ∧ it27 (c27 l) k / 27 ≤ 531440; omega
section RNN
variable {p : Lpar} {d : Nat} {h h' g : AH} {c : Dc} {T : Txt} {pt : Nat → Int} {l : List Int} {i s k : Int}
theorem m_160 (hd : 10 ≤ d) (L : Ly p h) (hl : okN0 l) : jE d 160 [jI (c27 l), jI i] h (some (jI (if 0 ≤ i ∧ i < (l.length : Int) then l.getD i.toNat 0 else -100001))) h := by
  obtain ⟨d, rfl⟩ : ∃ d', d = d' + 1 := ⟨d - 1, by omega⟩
  obtain ⟨⟨r0, r1, r2⟩, z0, A⟩ := c27_s hl
  have down : (0 ≤ i ∧ i < (l.length : Int)) → ∀ (s k : Nat), k = i.toNat + s → k < l.length → WF d 160 43 [jI (c27 l), jI i, jI (l.length : Int), jI (it27 (c27 l) (l.length - 1 - k)), jI (k : Int)] [] h (fun v h' => v = some (jI (if 0 ≤ i ∧ i < (l.length : Int) then l.getD i.toNat 0 else -100001)) ∧ h' = h) := by
    intro hi s
    induction s with
    | zero =>
      intro k hk hkl
      have q := A (l.length - 1 - k) (by omega)
      have q2 : 96 + it27 (c27 l) (l.length - 1 - k) % 27 = l.getD (l.length - 1 - (l.length - 1 - k)) 0 := q.2.1
      rw [show l.length - 1 - (l.length - 1 - k) = i.toNat by omega] at q2
      have r := it27_r hl (l.length - 1 - k)
      refine c_160_43 (by omega) L ⟨fun _ => ⟨?_, rfl⟩, fun z => by omega⟩
      rw [if_pos hi, Int.tmod_eq_emod_of_nonneg r.1, ← q2]
      clear q q2 A
      generalize it27 (c27 l) (l.length - 1 - k) = v at r ⊢
      rw [w32_i (x := v % 27) (by omega) (by omega), w32_i (by omega) (by omega)]
    | succ s ih =>
      intro k hk hkl
      have r := it27_r hl (l.length - 1 - k)
      have q := ih (k - 1) (by omega) (by omega)
      rw [show l.length - 1 - (k - 1) = (l.length - 1 - k) + 1 by omega, show ((k - 1 : Nat) : Int) = (k : Int) + -1 by omega] at q
      have q : WF d 160 43 [jI (c27 l), jI i, jI (l.length : Int), jI (it27 (c27 l) (l.length - 1 - k) / 27), jI ((k : Int) + -1)] [] h _ := q
      refine c_160_43 (by omega) L ⟨fun z => by omega, fun _ => ?_⟩
      rw [Int.tdiv_eq_ediv_of_nonneg r.1, w32_i (x := it27 (c27 l) (l.length - 1 - k) / 27) (by omega) (by omega), w32_i (x := (k : Int) + -1) (by omega) (by omega)]
      exact q
  have up : ∀ (s k : Nat) (z4 : AV), l.length = k + s → WF d 160 4 [jI (c27 l), jI i, jI (k : Int), jI (it27 (c27 l) k), z4] [] h (fun v h' => v = some (jI (if 0 ≤ i ∧ i < (l.length : Int) then l.getD i.toNat 0 else -100001)) ∧ h' = h) := by
    intro s
    induction s with
    | zero =>
      intro k z4 hk
      have hk : k = l.length := by omega
      subst hk
      rw [z0]
      refine c_160_4 (by omega) L ⟨fun _ => ?_, fun z => absurd (Int.le_refl 0) z⟩
      rw [w32_i (x := (l.length : Int) - 1) (by omega) (by omega)]
      refine ⟨fun z => ?_, fun z => ⟨by rw [if_neg (by omega)], rfl⟩⟩
      have q := down ⟨z.1, by omega⟩ (l.length - 1 - i.toNat) (l.length - 1) (by omega) (by omega)
      rw [Nat.sub_self, show ((l.length - 1 : Nat) : Int) = (l.length : Int) - 1 by omega] at q
      exact q
    | succ s ih =>
      intro k z4 hk
      have r := it27_r hl k
      have q := (A k (by omega)).1
      refine c_160_4 (by omega) L ⟨fun z => by omega, fun _ => ?_⟩
      rw [Int.tdiv_eq_ediv_of_nonneg r.1, w32_i (x := it27 (c27 l) k / 27) (by omega) (by omega), w32_i (x := (k : Int) + 1) (by omega) (by omega)]
      exact ih (k + 1) z4 (by omega)
  exact jE_eq (Nat.le_of_ble_eq_true rfl) (c_160_0 (by omega) L (up l.length 0 _ (by omega)))
theorem Rst.okF (S : Rst p T c pt h) (s k : Int) : okN0 (nmF (dN c) s k) := by
  rcases nmF_or (dN c) s k with y | ⟨e, y1, y2, y3, y4⟩
  · exact Or.inl y
  · rw [← y4]; exact Or.inr (S.2.2.1.1.1.1.2.1 e y1).1
theorem nmF_some {G : NmL} {s n : Int} : ∀ {G : NmL}, (∃ e ∈ G, e.2.1 = s ∧ e.2.2 = n) → ∃ e ∈ G, e.2.1 = s ∧ e.2.2 = n ∧ e.1 = nmF G s n := by
  intro G
  induction G with
  | nil => rintro ⟨e, he, _⟩; exact absurd he (by simp)
  | cons a r ih =>
    rintro ⟨e, he, h1, h2⟩
    by_cases z : a.2.1 = s ∧ a.2.2 = n
    · refine ⟨a, List.mem_cons_self .., z.1, z.2, ?_⟩
      show a.1 = if a.2.1 = s ∧ a.2.2 = n then a.1 else nmF r s n
      rw [if_pos z]
    · rcases List.mem_cons.mp he with rfl | he
      · exact absurd ⟨h1, h2⟩ z
      · obtain ⟨e', q1, q2, q3, q4⟩ := ih ⟨e, he, h1, h2⟩
        refine ⟨e', List.mem_cons_of_mem _ q1, q2, q3, ?_⟩
        show e'.1 = if a.2.1 = s ∧ a.2.2 = n then a.1 else nmF r s n
        rw [if_neg z]; exact q4
/-- the code of a kept name -/
theorem Rst.nm (S : Rst p T c pt h) (s0 : 0 ≤ s) (s3 : s ≤ 3) (k0 : 0 ≤ k) (k1 : k < (cnt c s.toNat : Int)) : ji h 176 (10 * s.toNat + k.toNat) = c27 (nmF (dN c) s k) := by
  have cv := S.2.2.1.1.2.2.2.2.2.2.2.2.2.2.2 k k0
  have ex : ∃ e ∈ dN c, e.2.1 = s ∧ e.2.2 = k := by
    rcases (by omega : s = 0 ∨ s = 1 ∨ s = 2 ∨ s = 3) with rfl | rfl | rfl | rfl
    · obtain ⟨e, e1, e2⟩ := cv.1 k1; exact ⟨e, e1, by rw [e2], by rw [e2]⟩
    · obtain ⟨e, e1, e2⟩ := cv.2.1 k1; exact ⟨e, e1, by rw [e2], by rw [e2]⟩
    · obtain ⟨e, e1, e2⟩ := cv.2.2.1 k1; exact ⟨e, e1, by rw [e2], by rw [e2]⟩
    · obtain ⟨e, e1, e2⟩ := cv.2.2.2 k1; exact ⟨e, e1, by rw [e2], by rw [e2]⟩
  obtain ⟨e, e1, e2, e3, e4⟩ := nmF_some (G := dN c) ex
  have q := S.2.2.2.1.2.1 e e1 (by omega)
  rw [e2, e3, e4] at q
  exact q
theorem Rst.nn (S : Rst p T c pt h) (s0 : 0 ≤ s) (s3 : s ≤ 3) (k1 : ¬ (0 ≤ k ∧ k < (cnt c s.toNat : Int))) : nmF (dN c) s k = [] := by
  rcases nmF_or (dN c) s k with y | ⟨e, y1, y2, y3, y4⟩
  · exact y
  · exfalso
    have O := S.2.2.1.1
    have g := O.1.1.2.1 e y1
    have x := O.1.2.2.2.2.2.2.2.2.2 e y1
    have x3 := (O.2.2.2.2.2.1 e y1).2
    apply k1
    refine ⟨by omega, ?_⟩
    rcases (by omega : s = 0 ∨ s = 1 ∨ s = 2 ∨ s = 3) with rfl | rfl | rfl | rfl
    · have := x.1 y2; rw [y3] at this; exact this
    · have := x.2.1 y2; rw [y3] at this; exact this
    · have := x.2.2.1 y2; rw [y3] at this; exact this
    · have := x3 y2; rw [y3] at this; exact this
theorem m_161 (hd : 11 ≤ d) (S : Rst p T c pt h) : jE d 161 [jP 141, jI s, jI k, jI i] h (some (jI (aName c s k i))) h := by
  obtain ⟨d, rfl⟩ : ∃ d', d = d' + 1 := ⟨d - 1, by omega⟩
  unfold aName
  refine jE_eq (Nat.le_of_ble_eq_true rfl) (c_161_0 (by omega) S.1 ⟨fun z => ?_, fun z => ⟨by rw [if_neg z], rfl⟩⟩)
  have n := S.2.2.2.1.1 s.toNat (by omega)
  have O := S.2.2.1.1
  have l6 : (dS c).length ≤ 6 := O.1.2.1.1
  have lT : (dT c).length ≤ 6 := O.1.2.2.2.1
  have lX : (dX c).length ≤ 6 := O.1.2.2.2.2.2.1
  have lR : (dR c).length ≤ 10 := O.2.1.1
  have c10 : cnt c s.toNat ≤ 10 := by
    unfold cnt
    split
    · omega
    split
    · omega
    split
    · omega
    split <;> omega
  rw [n, w32_i (x := (cnt c s.toNat : Int) - 1) (by omega) (by omega), if_pos z]
  refine ⟨z.1, by omega, fun y => ?_, fun y => ⟨?_, rfl⟩⟩
  · have q := S.nm z.1 z.2 y.1 (by omega)
    rw [w32_i (x := 10 * s) (by omega) (by omega), w32_i (x := 10 * s + k) (by omega) (by omega), show Int.toNat (10 * s + k) = 10 * s.toNat + k.toNat by omega, q]
    exact ⟨by omega, by omega, _, h, m_160 (by omega) S.1 (S.okF s k), S.1, rfl, rfl⟩
  · have q := S.nn z.1 z.2 (k := k) (by omega)
    rw [q, if_neg (by show ¬ (0 ≤ i ∧ i < ((0 : Nat) : Int)); omega)]
end RNN
