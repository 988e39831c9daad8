/-! NAMES: their letters; the class's name -/
def nmF : NmL → Int → Int → List Int
  | [], _, _ => []
  | e :: r, s, n => if e.2.1 = s ∧ e.2.2 = n then e.1 else nmF r s n
def aName (c : Dc) (s k i : Int) : Int := if 0 ≤ s ∧ s ≤ 3 then (if 0 ≤ i ∧ i < ((nmF (dN c) s k).length : Int) then (nmF (dN c) s k).getD i.toNat 0 else -100001) else -100001
def sh8 (v : Int) (k : Nat) : Int := if k = 0 then v else if k = 1 then v / 256 else if k = 2 then v / 65536 else v / 16777216
theorem nmC_F : ∀ (G : NmL) (s n : Int), nmC G s n = c256 (nmF G s n)
  | [], _, _ => rfl
  | e :: r, s, n => by
    show (if e.2.1 = s ∧ e.2.2 = n then c256 e.1 else nmC r s n) = c256 (if e.2.1 = s ∧ e.2.2 = n then e.1 else nmF r s n)
    by_cases z : e.2.1 = s ∧ e.2.2 = n
    · rw [if_pos z, if_pos z]
    · rw [if_neg z, if_neg z]; exact nmC_F r s n
theorem nmF_or : ∀ (G : NmL) (s n : Int), nmF G s n = [] ∨ ∃ e ∈ G, e.2.1 = s ∧ e.2.2 = n ∧ e.1 = nmF G s n
  | [], _, _ => Or.inl rfl
  | e :: r, s, n => by
    by_cases z : e.2.1 = s ∧ e.2.2 = n
    · refine Or.inr ⟨e, List.mem_cons_self .., z.1, z.2, ?_⟩
      show e.1 = if e.2.1 = s ∧ e.2.2 = n then e.1 else nmF r s n
      rw [if_pos z]
    · have q : nmF (e :: r) s n = nmF r s n := by
        show (if e.2.1 = s ∧ e.2.2 = n then e.1 else nmF r s n) = _
        rw [if_neg z]
      rw [q]
      rcases nmF_or r s n with y | ⟨e', y1, y2⟩
      · exact Or.inl y
      · exact Or.inr ⟨e', List.mem_cons_of_mem _ y1, y2⟩
theorem jush_n {v : Int} (h0 : 0 ≤ v) (h1 : v < 2147483648) {y : UInt32} {n : Nat} (e : y.toBitVec % 32 = BitVec.ofNat 32 n) (hn : n < 32) : (((Int32.ofInt v).toUInt32 >>> y).toInt32).toInt = ((v.toNat >>> n : Nat) : Int) := by
  show (((Int32.ofInt v).toUInt32 >>> y).toBitVec).toInt = _
  rw [UInt32.toBitVec_shiftRight, e]
  show ((BitVec.ofInt 32 v) >>> (BitVec.ofNat 32 n).toNat).toInt = _
  have e1 : (BitVec.ofInt 32 v).toNat = (v % 4294967296).toNat := by rw [BitVec.toNat_ofInt]; rfl
  have e2 : (v % 4294967296).toNat = v.toNat := by omega
  have e3 : v.toNat >>> n ≤ v.toNat := by rw [Nat.shiftRight_eq_div_pow]; exact Nat.div_le_self _ _
  rw [BitVec.toInt_eq_toNat_cond, BitVec.toNat_ushiftRight, BitVec.toNat_ofNat, Nat.mod_eq_of_lt (by omega), e1, e2, if_pos (by omega)]
theorem jush_8 {v : Int} (h0 : 0 ≤ v) (h1 : v < 2147483648) {k : Nat} (hk : k < 4) : jush v (8 * (k : Int)) = sh8 v k := by
  rcases (by omega : k = 0 ∨ k = 1 ∨ k = 2 ∨ k = 3) with rfl | rfl | rfl | rfl
  · show (((Int32.ofInt v).toUInt32 >>> ((Int32.ofInt 0).toUInt32 &&& Int32.toUInt32 31)).toInt32).toInt = v
    rw [jush_n h0 h1 (n := 0) (by decide) (by decide), Nat.shiftRight_eq_div_pow]
    show ((v.toNat / 1 : Nat) : Int) = v
    omega
  · show (((Int32.ofInt v).toUInt32 >>> ((Int32.ofInt 8).toUInt32 &&& Int32.toUInt32 31)).toInt32).toInt = v / 256
    rw [jush_n h0 h1 (n := 8) (by decide) (by decide), Nat.shiftRight_eq_div_pow]
    show ((v.toNat / 256 : Nat) : Int) = v / 256
    omega
  · show (((Int32.ofInt v).toUInt32 >>> ((Int32.ofInt 16).toUInt32 &&& Int32.toUInt32 31)).toInt32).toInt = v / 65536
    rw [jush_n h0 h1 (n := 16) (by decide) (by decide), Nat.shiftRight_eq_div_pow]
    show ((v.toNat / 65536 : Nat) : Int) = v / 65536
    omega
  · show (((Int32.ofInt v).toUInt32 >>> ((Int32.ofInt 24).toUInt32 &&& Int32.toUInt32 31)).toInt32).toInt = v / 16777216
    rw [jush_n h0 h1 (n := 24) (by decide) (by decide), Nat.shiftRight_eq_div_pow]
    show ((v.toNat / 16777216 : Nat) : Int) = v / 16777216
    omega
/-- a name's letters, or none -/
def okN0 (l : List Int) : Prop := l = [] ∨ okN l
theorem c256_r {l : List Int} (hl : okN0 l) : 0 ≤ c256 l ∧ c256 l < 2147483648 ∧ l.length ≤ 4 := by
  rcases hl with rfl | ⟨h1, h2, h3⟩
  · exact ⟨Int.le_refl _, by decide, by decide⟩
  · match l, h1, h2, h3 with
    | [a], _, _, h3 => have := h3 a (by simp); simp only [c256, List.foldl, List.length]; omega
    | [a, b], _, _, h3 => have := h3 a (by simp); have := h3 b (by simp); simp only [c256, List.foldl, List.length]; omega
    | [a, b, c], _, _, h3 => have := h3 a (by simp); have := h3 b (by simp); have := h3 c (by simp); simp only [c256, List.foldl, List.length]; omega
    | [a, b, c, d], _, _, h3 => have := h3 a (by simp); have := h3 b (by simp); have := h3 c (by simp); have := h3 d (by simp); simp only [c256, List.foldl, List.length]; omega
theorem c256_s {l : List Int} (hl : okN0 l) {k : Nat} (hk : k < 4) : (l.length ≤ k → sh8 (c256 l) k = 0) ∧ (k < l.length → ¬ sh8 (c256 l) k = 0 ∧ sh8 (c256 l) k % 256 = l.getD (l.length - 1 - k) 0 ∧ 97 ≤ l.getD (l.length - 1 - k) 0 ∧ l.getD (l.length - 1 - k) 0 ≤ 122) := by
  rcases hl with rfl | ⟨h1, h2, h3⟩
  · refine ⟨fun _ => ?_, fun z => absurd z (Nat.not_lt_zero _)⟩
    rcases (by omega : k = 0 ∨ k = 1 ∨ k = 2 ∨ k = 3) with rfl | rfl | rfl | rfl <;> rfl
  · match l, h1, h2, h3 with
    | [a], _, _, h3 =>
      have := h3 a (by simp)
      have e : c256 [a] = a := by simp only [c256, List.foldl]; omega
      rw [e]
      rcases (by omega : k = 0 ∨ k = 1 ∨ k = 2 ∨ k = 3) with rfl | rfl | rfl | rfl
      · exact ⟨fun z => absurd z (by simp), fun _ => by show ¬ a = 0 ∧ a % 256 = a ∧ 97 ≤ a ∧ a ≤ 122; omega⟩
      · exact ⟨fun _ => by show a / 256 = 0; omega, fun z => absurd z (by simp)⟩
      · exact ⟨fun _ => by show a / 65536 = 0; omega, fun z => absurd z (by simp)⟩
      · exact ⟨fun _ => by show a / 16777216 = 0; omega, fun z => absurd z (by simp)⟩
    | [a, b], _, _, h3 =>
      have := h3 a (by simp); have := h3 b (by simp)
      have e : c256 [a, b] = a * 256 + b := by simp only [c256, List.foldl]; omega
      rw [e]
      rcases (by omega : k = 0 ∨ k = 1 ∨ k = 2 ∨ k = 3) with rfl | rfl | rfl | rfl
      · exact ⟨fun z => absurd z (by simp), fun _ => by show ¬ a * 256 + b = 0 ∧ (a * 256 + b) % 256 = b ∧ 97 ≤ b ∧ b ≤ 122; omega⟩
      · exact ⟨fun z => absurd z (by simp), fun _ => by show ¬ (a * 256 + b) / 256 = 0 ∧ (a * 256 + b) / 256 % 256 = a ∧ 97 ≤ a ∧ a ≤ 122; omega⟩
      · exact ⟨fun _ => by show (a * 256 + b) / 65536 = 0; omega, fun z => absurd z (by simp)⟩
      · exact ⟨fun _ => by show (a * 256 + b) / 16777216 = 0; omega, fun z => absurd z (by simp)⟩
    | [a, b, c], _, _, h3 =>
      have := h3 a (by simp); have := h3 b (by simp); have := h3 c (by simp)
      have e : c256 [a, b, c] = (a * 256 + b) * 256 + c := by simp only [c256, List.foldl]; omega
      rw [e]
      rcases (by omega : k = 0 ∨ k = 1 ∨ k = 2 ∨ k = 3) with rfl | rfl | rfl | rfl
      · exact ⟨fun z => absurd z (by simp), fun _ => by show ¬ (a * 256 + b) * 256 + c = 0 ∧ ((a * 256 + b) * 256 + c) % 256 = c ∧ 97 ≤ c ∧ c ≤ 122; omega⟩
      · exact ⟨fun z => absurd z (by simp), fun _ => by show ¬ ((a * 256 + b) * 256 + c) / 256 = 0 ∧ ((a * 256 + b) * 256 + c) / 256 % 256 = b ∧ 97 ≤ b ∧ b ≤ 122; omega⟩
      · exact ⟨fun z => absurd z (by simp), fun _ => by show ¬ ((a * 256 + b) * 256 + c) / 65536 = 0 ∧ ((a * 256 + b) * 256 + c) / 65536 % 256 = a ∧ 97 ≤ a ∧ a ≤ 122; omega⟩
      · exact ⟨fun _ => by show ((a * 256 + b) * 256 + c) / 16777216 = 0; omega, fun z => absurd z (by simp)⟩
    | [a, b, c, d], _, _, h3 =>
      have := h3 a (by simp); have := h3 b (by simp); have := h3 c (by simp); have := h3 d (by simp)
      have e : c256 [a, b, c, d] = ((a * 256 + b) * 256 + c) * 256 + d := by simp only [c256, List.foldl]; omega
      rw [e]
      rcases (by omega : k = 0 ∨ k = 1 ∨ k = 2 ∨ k = 3) with rfl | rfl | rfl | rfl
      · exact ⟨fun z => absurd z (by simp), fun _ => by show ¬ ((a * 256 + b) * 256 + c) * 256 + d = 0 ∧ (((a * 256 + b) * 256 + c) * 256 + d) % 256 = d ∧ 97 ≤ d ∧ d ≤ 122; omega⟩
      · exact ⟨fun z => absurd z (by simp), fun _ => by show ¬ (((a * 256 + b) * 256 + c) * 256 + d) / 256 = 0 ∧ (((a * 256 + b) * 256 + c) * 256 + d) / 256 % 256 = c ∧ 97 ≤ c ∧ c ≤ 122; omega⟩
      · exact ⟨fun z => absurd z (by simp), fun _ => by show ¬ (((a * 256 + b) * 256 + c) * 256 + d) / 65536 = 0 ∧ (((a * 256 + b) * 256 + c) * 256 + d) / 65536 % 256 = b ∧ 97 ≤ b ∧ b ≤ 122; omega⟩
      · exact ⟨fun z => absurd z (by simp), fun _ => by show ¬ (((a * 256 + b) * 256 + c) * 256 + d) / 16777216 = 0 ∧ (((a * 256 + b) * 256 + c) * 256 + d) / 16777216 % 256 = a ∧ 97 ≤ a ∧ a ≤ 122; omega⟩
section CNM
variable {p : Lpar} {d D : Nat} {h h' g : AH} {c : Dc} {T : Txt} {pt : Nat → Int} {l : List Int} {i s k : Int}
theorem m_28 (hd : 10 ≤ d) (L : Ly p h) (hD : isD D) (hl : okN0 l) (hi : r32 i) : jE d 28 [jP (D + 1), jI (c256 l), jI i] h (some (jI (if 0 ≤ i ∧ i < (l.length : Int) then l.getD i.toNat 0 else -1))) h := by
  obtain ⟨d, rfl⟩ : ∃ d', d = d' + 1 := ⟨d - 1, by omega⟩
  obtain ⟨r0, r1, r2⟩ := c256_r hl
  unfold r32 at hi
  have A : (i < 0 → (some (jI (-1)) = some (jI (if 0 ≤ i ∧ i < (l.length : Int) then l.getD i.toNat 0 else -1)) ∧ h = h)) ∧ (¬ (i < 0) → (i < (l.length : Int) → (some (jI (jand (jush (c256 l) (w32 (8 * (w32 ((w32 ((l.length : Int) - 1)) - i))))) 255)) = some (jI (if 0 ≤ i ∧ i < (l.length : Int) then l.getD i.toNat 0 else -1)) ∧ h = h)) ∧ (¬ (i < (l.length : Int)) → (some (jI (-1)) = some (jI (if 0 ≤ i ∧ i < (l.length : Int) then l.getD i.toNat 0 else -1)) ∧ h = h))) := by
    refine ⟨fun z => ⟨by rw [if_neg (by omega)], rfl⟩, fun z => ⟨fun y => ⟨?_, rfl⟩, fun y => ⟨by rw [if_neg (by omega)], rfl⟩⟩⟩
    rw [if_pos ⟨by omega, y⟩, w32_i (x := (l.length : Int) - 1) (by omega) (by omega), w32_i (x := (l.length : Int) - 1 - i) (by omega) (by omega), show (l.length : Int) - 1 - i = ((l.length - 1 - i.toNat : Nat) : Int) by omega, w32_i (by omega) (by omega), jush_8 r0 r1 (by omega), jand255]
    have q := (c256_s hl (k := l.length - 1 - i.toNat) (by omega)).2 (by omega)
    rw [q.2.1, show l.length - 1 - (l.length - 1 - i.toNat) = i.toNat by omega]
  have key : ∀ (s k : Nat), l.length = k + s → WF d 28 2 [jP (D + 1), jI (c256 l), jI i, jI (k : Int)] [] h (fun v h' => v = some (jI (if 0 ≤ i ∧ i < (l.length : Int) then l.getD i.toNat 0 else -1)) ∧ h' = h) := by
    intro s
    induction s with
    | zero =>
      intro k hk
      have hk : l.length = k := by omega
      refine c_28_2 (by omega) L hD ?_
      rw [← hk]
      refine ⟨fun _ => A, fun z => ⟨fun _ => A, fun y => ?_⟩⟩
      rw [w32_i (x := 8 * (l.length : Int)) (by omega) (by omega), jush_8 r0 r1 (by omega)] at y
      exact absurd ((c256_s hl (k := l.length) (by omega)).1 (Nat.le_refl _)) y
    | succ s ih =>
      intro k hk
      refine c_28_2 (by omega) L hD ?_
      rw [w32_i (x := 8 * (k : Int)) (by omega) (by omega), jush_8 r0 r1 (by omega), w32_i (x := (k : Int) + 1) (by omega) (by omega)]
      exact ⟨fun z => by omega, fun z => ⟨fun y => absurd y ((c256_s hl (k := k) (by omega)).2 (by omega)).1, fun _ => ih (k + 1) (by omega)⟩⟩
  exact jE_eq (Nat.le_of_ble_eq_true rfl) (c_28_0 (by omega) L hD (key l.length 0 (by omega)))
theorem Cst.okF (S : Cst p T c pt h) (s k : Int) : okN0 (nmF (dN c) s k) := by
  rcases nmF_or (dN c) s k with y | ⟨e, y1, y2, y3, y4⟩
  · exact Or.inl y
  · rw [← y4]; exact Or.inr (S.2.2.2.2.2.2.1.1.1.1.2.1 e y1).1
theorem Cst.nameOf (S : Cst p T c pt h) (hd : 1 ≤ d) : jE d 27 [jP (pD p + 1), jI s, jI k] h (some (jI (c256 (nmF (dN c) s k)))) h := by
  have q := m_27 (d := d) (s := s) (v := k) hd S.1 S.1.iD S.2.2.2.1 S.2.2.2.2.2.2.1.1.1.1.1
  rw [nmC_F] at q
  exact q
theorem m_84 (hd : 11 ≤ d) (S : Cst p T c pt h) (hi : r32 i) : jE d 84 [jP 32, jI s, jI k, jI i] h (some (jI (aName c s k i))) h := by
  obtain ⟨d, rfl⟩ : ∃ d', d = d' + 1 := ⟨d - 1, by omega⟩
  have O := S.okF s k
  have E := m_28 (d := d) (i := i) (by omega) S.1 S.1.iD O hi
  unfold aName
  refine jE_eq (Nat.le_of_ble_eq_true rfl) (c_84_0 (by omega) S.1 ⟨fun z => ⟨by rw [if_neg (by omega)], rfl⟩, fun z => ⟨fun y => ⟨_, h, S.nameOf (by omega), S.1, _, h, E, S.1, fun u => ⟨?_, rfl⟩, fun u => ⟨?_, rfl⟩⟩, fun y => ⟨by rw [if_neg (by omega)], rfl⟩⟩⟩)
  · rw [if_pos ⟨by omega, y⟩]
    by_cases t : 0 ≤ i ∧ i < ((nmF (dN c) s k).length : Int)
    · rw [if_pos t] at u
      exfalso
      obtain ⟨_, _, l4⟩ := c256_r O
      have q := (c256_s O (k := (nmF (dN c) s k).length - 1 - i.toNat) (by omega)).2 (by omega)
      rw [show (nmF (dN c) s k).length - 1 - ((nmF (dN c) s k).length - 1 - i.toNat) = i.toNat by omega] at q
      omega
    · rw [if_neg t]
  · have ys : 0 ≤ s ∧ s ≤ 3 := ⟨by omega, y⟩
    rw [if_pos ys]
    by_cases t : 0 ≤ i ∧ i < ((nmF (dN c) s k).length : Int)
    · rw [if_pos t, if_pos t]
    · rw [if_neg t] at u; exact absurd rfl u
end CNM
