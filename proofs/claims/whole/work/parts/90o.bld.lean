/-! THE CONSTRUCTORS -/
/-- all writes of references, in their order -/
def refA : List (Nat × Nat × Nat) := [(33, 0, 34), (32, 0, 33), (35, 0, 36), (32, 1, 35), (37, 0, 38), (37, 1, 39), (37, 2, 40), (32, 2, 37), (42, 0, 43), (42, 1, 44), (42, 2, 45), (41, 0, 42), (46, 0, 47), (46, 1, 48), (41, 1, 46), (41, 5, 49), (41, 7, 50), (41, 8, 51), (41, 9, 52), (41, 10, 53), (41, 11, 54), (55, 0, 46), (55, 1, 56), (55, 2, 57), (55, 3, 58), (41, 2, 55), (59, 0, 46), (59, 1, 60), (59, 2, 61), (59, 3, 62), (41, 3, 59), (63, 0, 46), (63, 1, 64), (63, 2, 65), (63, 3, 66), (41, 4, 63), (32, 5, 41), (68, 0, 69), (68, 1, 70), (68, 2, 71), (67, 0, 68), (72, 0, 73), (72, 1, 74), (67, 1, 72), (67, 5, 75), (67, 7, 76), (67, 8, 77), (67, 9, 78), (67, 10, 79), (67, 11, 80), (81, 0, 72), (81, 1, 82), (81, 2, 83), (81, 3, 84), (67, 2, 81), (85, 0, 72), (85, 1, 86), (85, 2, 87), (85, 3, 88), (67, 3, 85), (89, 0, 72), (89, 1, 90), (89, 2, 91), (89, 3, 92), (67, 4, 89), (32, 6, 67), (93, 5, 94), (93, 0, 37), (93, 1, 67), (32, 3, 93), (95, 1, 96), (95, 2, 137), (95, 3, 138), (95, 5, 139), (95, 6, 140), (95, 0, 41), (95, 7, 138), (32, 4, 95), (141, 0, 142), (141, 8, 143), (141, 9, 144), (141, 10, 145), (141, 12, 146), (141, 13, 147), (141, 14, 148), (141, 16, 149), (141, 17, 150), (141, 18, 151), (141, 19, 152), (141, 21, 153), (141, 22, 154), (141, 23, 155), (141, 24, 156), (141, 25, 157), (141, 31, 158), (141, 32, 159), (141, 34, 160), (141, 35, 161), (141, 36, 162), (141, 37, 163), (141, 39, 164), (141, 40, 165), (141, 41, 166), (141, 42, 167), (141, 43, 168), (141, 44, 169), (141, 45, 170), (141, 46, 171), (141, 53, 172), (141, 55, 173), (141, 56, 174), (141, 57, 175), (141, 58, 176), (141, 59, 177), (141, 60, 178), (141, 61, 179), (141, 62, 180), (141, 63, 181), (141, 64, 182), (141, 66, 183), (141, 67, 184), (141, 68, 185), (141, 69, 186), (141, 70, 187), (141, 71, 188), (141, 73, 189), (141, 74, 190), (141, 75, 191), (141, 76, 192), (141, 77, 193), (141, 79, 194), (141, 82, 195), (141, 83, 196)]
abbrev z3 : Nat × Nat × Nat := (0, 0, 0)
def sT : Nat → Nat
  | 0 => 0
  | n + 1 => sT n + layN.getD n 0
set_option maxRecDepth 100000 in
theorem keyD : ∀ i, i < 133 → ∀ j, j < i → ¬ ((refA.getD j z3).1 = (refA.getD i z3).1 ∧ (refA.getD j z3).2.1 = (refA.getD i z3).2.1) := by decide +kernel
/-- n cells and m references are made -/
def Bd (L : Nat) (xs : Nat → Int) (n m : Nat) (h : AH) : Prop := jx h = 32 + n ∧ (∀ k, k < n → jt h (k + 32) = layT.getD k 0 ∧ jn h (k + 32) = layN.getD k 0) ∧ (∀ a k, 32 ≤ a → ji h a k = 0 ∧ jl h a k = 0) ∧ (∀ i, i < m → (refA.getD i z3).1 < 32 + n ∧ jr h (refA.getD i z3).1 (refA.getD i z3).2.1 = (refA.getD i z3).2.2) ∧ (∀ a k, 32 ≤ a → ¬ a = 96 → (∀ i, i < m → ¬ ((refA.getD i z3).1 = a ∧ (refA.getD i z3).2.1 = k)) → jr h a k = 0) ∧ (65 ≤ n → ∀ k, k < 40 → jr h 96 k = 97 + k) ∧ Old L xs h ∧ ju h = sT n
section BLD
variable {L n m d : Nat} {xs : Nat → Int} {h h1 : AH}
theorem Bd.x (B : Bd L xs n m h) : jx h = 32 + n := B.1
theorem Bd.t (B : Bd L xs n m h) (k : Nat) (hk : k < n) : jt h (k + 32) = layT.getD k 0 ∧ jn h (k + 32) = layN.getD k 0 := B.2.1 k hk
theorem Bd.r (B : Bd L xs n m h) (i : Nat) (hi : i < m) : jr h (refA.getD i z3).1 (refA.getD i z3).2.1 = (refA.getD i z3).2.2 := (B.2.2.2.1 i hi).2
theorem Bd.nw (B : Bd L xs n m h) {t s : Nat} (ht : t = layT.getD n 0) (hs : s = layN.getD n 0) (h6 : ¬ n = 64) : Bd L xs (n + 1) m (nw h t s) := by
  obtain ⟨b1, b2, b3, b4, b5, b6, b7, b8⟩ := B
  refine ⟨by rw [jx_nw, b1]; rfl, fun k hk => ?_, fun a k ha => ?_, fun i hi => ?_, fun a k ha h9 hn => ?_, fun h65 k hk => ?_, fun a ha => ?_, by rw [ju_nw, b8, hs]; rfl⟩
  · rw [jt_nw, jn_nw, b1]
    by_cases e : k = n
    · rw [if_pos (by omega), if_pos (by omega), e]; exact ⟨ht, hs⟩
    · rw [if_neg (by omega), if_neg (by omega)]; exact b2 k (by omega)
  · rw [ji_nw, jl_nw]
    split
    · exact ⟨rfl, rfl⟩
    · exact b3 a k ha
  · obtain ⟨q1, q2⟩ := b4 i hi
    exact ⟨by omega, by rw [jr_nw, if_neg (by omega)]; exact q2⟩
  · rw [jr_nw]
    split
    · rfl
    · exact b5 a k ha h9 hn
  · rw [jr_nw, if_neg (by omega)]; exact b6 (by omega) k hk
  · obtain ⟨q1, q2, q3⟩ := b7 a ha
    exact ⟨by rw [jt_nw, if_neg (by omega)]; exact q1, by rw [jn_nw, if_neg (by omega)]; exact q2, fun k => ⟨by rw [ji_nw, if_neg (by omega)]; exact (q3 k).1, by rw [jr_nw, if_neg (by omega)]; exact (q3 k).2⟩⟩
theorem Bd.wr (B : Bd L xs n m h) {a k b : Nat} (e1 : (refA.getD m z3).1 = a) (e2 : (refA.getD m z3).2.1 = k) (e3 : (refA.getD m z3).2.2 = b) (ha : a < 32 + n) (h32 : 32 ≤ a) (h96 : ¬ a = 96) (hm : m < 133) : Bd L xs n (m + 1) (wr h a k b) := by
  obtain ⟨b1, b2, b3, b4, b5, b6, b7, b8⟩ := B
  refine ⟨b1, b2, b3, fun i hi => ?_, fun a' k' ha' h9 hn => ?_, fun h65 k' hk => ?_, fun a' ha' => ?_, b8⟩
  · by_cases e : i = m
    · subst e
      rw [e1, e2, e3, jr_wr, if_pos ⟨rfl, rfl⟩]; exact ⟨ha, rfl⟩
    · obtain ⟨q1, q2⟩ := b4 i (by omega)
      refine ⟨q1, ?_⟩
      rw [jr_wr, if_neg (fun z => keyD m hm i (by omega) ⟨by rw [z.1, e1], by rw [z.2, e2]⟩)]; exact q2
  · rw [jr_wr, if_neg (fun z => hn m (by omega) ⟨by rw [e1, z.1], by rw [e2, z.2]⟩)]
    exact b5 a' k' ha' h9 (fun i hi => hn i (by omega))
  · rw [jr_wr, if_neg (by omega)]; exact b6 h65 k' hk
  · obtain ⟨q1, q2, q3⟩ := b7 a' ha'
    exact ⟨q1, q2, fun k' => ⟨(q3 k').1, by rw [jr_wr, if_neg (by omega)]; exact (q3 k').2⟩⟩
theorem Bd.mm (B : Bd L xs 64 m h) : Bd L xs 105 m (nm2 h (Int.toNat (40 : Int)) (Int.toNat (40 : Int))) := by
  rw [show Int.toNat (40 : Int) = 40 from rfl]
  obtain ⟨b1, b2, b3, b4, b5, b6, b7, b8⟩ := B
  have eq : ∀ b, ¬ (96 ≤ b ∧ b ≤ 136) → eqat h (nm2 h 40 40) b := fun b hb => nm2_eq (by omega)
  have x0 : jx (nm2 h 40 40) = jx h + 1 + 40 := rfl
  have t0 := nm2_t0 h 40 40
  have e96 : jx h = 96 := b1
  rw [e96] at t0
  refine ⟨by rw [x0, b1], fun k hk => ?_, fun a k ha => ?_, fun i hi => ?_, fun a k ha h9 hn => ?_, fun h65 k hk => ?_, fun a ha => ?_, ?_⟩
  · by_cases c1 : k < 64
    · have q := eq (k + 32) (by omega)
      rw [q.1, q.2.1]; exact b2 k c1
    by_cases c2 : k = 64
    · subst c2; exact t0
    · have q := nm2_t1 h 40 40 (b := k + 32) (by omega) (by omega)
      have r := layT_row (k - 65) (by omega)
      rw [show 65 + (k - 65) = k by omega] at r
      rw [q.1, q.2, r.1, r.2]; exact ⟨rfl, rfl⟩
  · by_cases c1 : 96 ≤ a ∧ a ≤ 136
    · exact nm2_z h 40 40 k (by omega)
    · have q := (eq a c1).2.2 k
      rw [q.1, q.2.1]; exact b3 a k ha
  · obtain ⟨q1, q2⟩ := b4 i hi
    have q := (eq (refA.getD i z3).1 (by omega)).2.2 (refA.getD i z3).2.1
    exact ⟨by omega, q.2.2.trans q2⟩
  · by_cases c1 : 96 ≤ a ∧ a ≤ 136
    · show (if a = jx h then (if k < 40 then jx h + 1 + k else 0) else if jx h < a ∧ a ≤ jx h + 40 then 0 else h.2.2.2.2.1 a k) = 0
      rw [if_neg (by omega), if_pos (by omega)]
    · exact ((eq a c1).2.2 k).2.2.trans (b5 a k ha h9 hn)
  · have q := nm2_r h 40 40 k hk
    rw [e96] at q
    exact q
  · obtain ⟨q1, q2, q3⟩ := b7 a ha
    have q := eq a (by omega)
    exact ⟨q.1.trans q1, q.2.1.trans q2, fun k => ⟨(q.2.2 k).1.trans (q3 k).1, (q.2.2 k).2.2.trans (q3 k).2⟩⟩
  · show ju h + 40 + 40 * 40 = sT 105
    rw [b8]; decide
end BLD
