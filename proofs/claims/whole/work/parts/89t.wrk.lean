/-! WORK: what the class counts, what the reference counts -/
section WRK
variable {S : List (Int × Int)} {c : Dc} {h : AH}
theorem wkc_nn (hS : okS S) : ∀ (x : Ex) (w : Int), 0 ≤ w → 0 ≤ wkc S x w := by
  intro x
  induction x with
  | leaf => intro w _; exact Int.le_refl _
  | inner t k u l r ihl ihr =>
    intro w hw
    unfold wkc
    split
    · exact hw
    split
    · have m := Int.mul_nonneg hw (sz2_r hS k.2.1 k.2.2).1
      have q := ihl (mnT (w * (szO S k.2.1 * szO S k.2.2))) (by unfold mnT; split <;> omega)
      omega
    · have := ihl w hw
      have := ihr w hw
      omega
theorem wk_or (hS : okS S) : ∀ (x : Ex) (w : Int), 0 ≤ w → wkc S x w = w * wke S x ∨ (20000 < wkc S x w ∧ 20000 < w * wke S x) := by
  intro x
  induction x with
  | leaf => intro w _; left; show (0 : Int) = w * 0; omega
  | inner t k u l r ihl ihr =>
    intro w hw
    unfold wkc wke
    by_cases c3 : t ≤ 3
    · rw [if_pos c3, if_pos c3]; left; omega
    rw [if_neg c3, if_neg c3]
    by_cases c4 : t = 4
    · rw [if_pos c4, if_pos c4]
      have z := sz2_r hS k.2.1 k.2.2
      generalize szO S k.2.1 * szO S k.2.2 = s at z ⊢
      have m := Int.mul_nonneg hw z.1
      have e1 : w * (1 + wke S l * s) = w + w * s * wke S l := by
        rw [Int.mul_add, Int.mul_one, Int.mul_comm (wke S l) s, Int.mul_assoc]
      rw [e1]
      have n1 := wke_nn hS l
      by_cases b : 1000000000 < w * s
      · have eM : mnT (w * s) = 1000000000 := by unfold mnT; rw [if_pos b]
        rw [eM]
        have q := ihl 1000000000 (by omega)
        by_cases z0 : wke S l = 0
        · rw [z0] at q ⊢
          left; omega
        · right
          have m2 : w * s * 1 ≤ w * s * wke S l := Int.mul_le_mul_of_nonneg_left (by omega) m
          have q2 : 20000 < wkc S l 1000000000 := by
            rcases q with q | q
            · omega
            · exact q.1
          omega
      · have eM : mnT (w * s) = w * s := by unfold mnT; rw [if_neg b]
        rw [eM]
        rcases ihl (w * s) m with q | q
        · left; rw [q]
        · right; omega
    · rw [if_neg c4, if_neg c4, Int.mul_add]
      have a1 := wkc_nn hS l w hw
      have a2 := wkc_nn hS r w hw
      have b1 := Int.mul_nonneg hw (wke_nn hS l)
      have b2 := Int.mul_nonneg hw (wke_nn hS r)
      rcases ihl w hw with q | q <;> rcases ihr w hw with q' | q'
      · left; omega
      · right; omega
      · right; omega
      · right; omega
/-- all the work of the rules -/
def rWe (S : List (Int × Int)) : List (Int × Int) → List (Int × Ex × Ex) → Int
  | o :: os, l :: ls => (wke S l.2.1 + wke S l.2.2) * (szO S o.1 * szO S o.2) + rWe S os ls
  | _, _ => 0
def dWe (c : Dc) : Int := rWe (dS c) (dR c) (dL c) + (if dG c = 0 then 0 else wke (dS c) (dE c))
theorem rWe_nn (hS : okS S) : ∀ (O : List (Int × Int)) (l : List (Int × Ex × Ex)), 0 ≤ rWe S O l ∧ 0 ≤ rWk S O l
  | [], _ => ⟨Int.le_refl _, Int.le_refl _⟩
  | _ :: _, [] => ⟨Int.le_refl _, Int.le_refl _⟩
  | o :: O, a :: l => by
    have q := rWe_nn hS O l
    have z := sz2_r hS o.1 o.2
    have n1 := wke_nn hS a.2.1
    have n2 := wke_nn hS a.2.2
    have m := Int.mul_nonneg (show 0 ≤ wke S a.2.1 + wke S a.2.2 by omega) z.1
    have k1 := wkc_nn hS a.2.1 _ z.1
    have k2 := wkc_nn hS a.2.2 _ z.1
    refine ⟨?_, ?_⟩
    · show 0 ≤ (wke S a.2.1 + wke S a.2.2) * (szO S o.1 * szO S o.2) + rWe S O l; omega
    · show 0 ≤ wkc S a.2.1 (szO S o.1 * szO S o.2) + wkc S a.2.2 (szO S o.1 * szO S o.2) + rWk S O l; omega
theorem rWk_or (hS : okS S) : ∀ (O : List (Int × Int)) (l : List (Int × Ex × Ex)), rWk S O l = rWe S O l ∨ (20000 < rWk S O l ∧ 20000 < rWe S O l)
  | [], _ => Or.inl rfl
  | _ :: _, [] => Or.inl rfl
  | o :: O, a :: l => by
    have q := rWk_or hS O l
    have nn := rWe_nn hS O l
    have z := sz2_r hS o.1 o.2
    have e1 : rWk S (o :: O) (a :: l) = wkc S a.2.1 (szO S o.1 * szO S o.2) + wkc S a.2.2 (szO S o.1 * szO S o.2) + rWk S O l := rfl
    have e2 : rWe S (o :: O) (a :: l) = (wke S a.2.1 + wke S a.2.2) * (szO S o.1 * szO S o.2) + rWe S O l := rfl
    rw [e1, e2]
    generalize szO S o.1 * szO S o.2 = s at z ⊢
    have k1 := wkc_nn hS a.2.1 s z.1
    have k2 := wkc_nn hS a.2.2 s z.1
    have m1 := Int.mul_nonneg z.1 (wke_nn hS a.2.1)
    have m2 := Int.mul_nonneg z.1 (wke_nn hS a.2.2)
    rw [Int.add_mul, Int.mul_comm (wke S a.2.1) s, Int.mul_comm (wke S a.2.2) s]
    rcases wk_or hS a.2.1 s z.1 with q1 | q1 <;> rcases wk_or hS a.2.2 s z.1 with q2 | q2 <;> rcases q with q | q
    · left; omega
    · right; omega
    · right; omega
    · right; omega
    · right; omega
    · right; omega
    · right; omega
    · right; omega
theorem dWk_or (hS : okS (dS c)) : dWk c = dWe c ∨ (20000 < dWk c ∧ 20000 < dWe c) := by
  unfold dWk dWe
  have nn := rWe_nn hS (dR c) (dL c)
  by_cases g : dG c = 0
  · rw [if_pos g, if_pos g]
    rcases rWk_or hS (dR c) (dL c) with q | q
    · left; omega
    · right; omega
  · rw [if_neg g, if_neg g]
    have k1 := wkc_nn hS (dE c) 1 (by decide)
    have k2 := wke_nn hS (dE c)
    have w := wk_or hS (dE c) 1 (by decide)
    rw [Int.one_mul] at w
    rcases rWk_or hS (dR c) (dL c) with q | q <;> rcases w with w | w
    · left; omega
    · right; omega
    · right; omega
    · right; omega
/-- the work of a sum by the length of its code: at most 64^n for each act -/
def pw6 (n : Nat) : Int := ((64 ^ n : Nat) : Int)
theorem pw6_1 (n : Nat) : 1 ≤ pw6 n := by
  unfold pw6
  have : 0 < 64 ^ n := Nat.pow_pos (by decide)
  omega
theorem pw6_s (n : Nat) : pw6 (n + 1) = pw6 n * 64 := by unfold pw6; rw [Nat.pow_succ]; omega
theorem wk_ac (hS : okS S) {C : Cx} : ∀ (x : Ex) (n md lo hi : Nat) (sl : List Int), C.1 = S → shp x md → exOK C x n sl → cR h x lo hi → 2 * wke S x ≤ pw6 n * ((hi : Int) - (lo : Int) + (if md = 0 then 1 else -1)) := by
  intro x
  induction x with
  | leaf =>
    intro n md lo hi sl _ hs _ hc
    have hs : md = 1 := hs
    have e := hc.1
    rw [if_neg (by omega), show (hi : Int) - (lo : Int) + -1 = 0 by omega, Int.mul_zero]
    show 2 * (0 : Int) ≤ 0
    omega
  | inner t k u l r ihl ihr =>
    intro n md lo hi sl hC hs hx hc
    have p1 := pw6_1 n
    have hlt := cR_lt hc
    have hm : ∀ a : Int, 0 ≤ a → pw6 n * a ≥ a := fun a ha => by
      have := Int.mul_le_mul_of_nonneg_right p1 ha
      omega
    unfold wke
    by_cases c3 : t ≤ 3
    · rw [if_pos c3]
      unfold shp at hs
      rw [if_pos c3] at hs
      rw [if_pos hs]
      have := hm ((hi : Int) - (lo : Int) + 1) (by omega)
      omega
    rw [if_neg c3]
    by_cases c4 : t = 4
    · subst c4
      have hs : md = 0 ∧ shp l 3 := hs
      rw [if_pos rfl, if_pos hs.1]
      have hx : 1 ≤ n ∧ k.1 = (sl.length : Int) ∧ sl.length ≤ 16 ∧ ((k.2.1 = -1 ∧ k.2.2 = -1 ∧ exOK C l (n - 1) sl) ∨ (0 ≤ k.2.1 ∧ k.2.1 < (C.1.length : Int) ∧ ((k.2.2 = -1 ∧ exOK C l (n - 1) (sl ++ [k.2.1])) ∨ (0 ≤ k.2.2 ∧ k.2.2 < (C.1.length : Int) ∧ exOK C l (n - 1) (sl ++ [k.2.1, k.2.2]))))) := hx
      obtain ⟨x1, _, _, x4⟩ := hx
      obtain ⟨n', rfl⟩ : ∃ n', n = n' + 1 := ⟨n - 1, by omega⟩
      have p2 := pw6_s n'
      have p3 := pw6_1 n'
      have hc : (k.2.1 = -1 ∧ cR h l lo hi) ∨ (¬ k.2.1 = -1 ∧ ∃ m, hi = m + 1 ∧ ji h 160 lo = 9 ∧ ji h 161 lo = k.1 ∧ ji h 162 lo = k.2.1 ∧ ji h 163 lo = k.2.2 ∧ cR h l (lo + 1) m ∧ ji h 160 m = 10 ∧ ji h 161 m = (lo : Int)) := hc
      have w0 := wke_nn hS l
      have z := sz2_r hS k.2.1 k.2.2
      rcases hc with ⟨y, hc⟩ | ⟨y, m, e, _, _, _, _, hc, _⟩
      · have y2 : exOK C l n' sl ∧ k.2.2 = -1 := by
          rcases x4 with q | ⟨q, _⟩
          · exact ⟨q.2.2, q.2.1⟩
          · omega
        have s1 : ∀ s : Int, s = -1 → szO S s = 1 := fun s hs => by unfold szO; rw [if_pos (by omega)]
        rw [s1 _ y, s1 _ y2.2]
        have q := ihl n' 3 lo hi sl hC hs.2 y2.1 hc
        rw [if_neg (by omega)] at q
        have g1 : pw6 n' * ((hi : Int) - (lo : Int) + -1) ≤ pw6 (n' + 1) * ((hi : Int) - (lo : Int) + -1) := Int.mul_le_mul_of_nonneg_right (by omega) (by omega)
        have g2 : pw6 (n' + 1) * ((hi : Int) - (lo : Int) + 1) = pw6 (n' + 1) * ((hi : Int) - (lo : Int) + -1) + 2 * pw6 (n' + 1) := by
          rw [show (hi : Int) - (lo : Int) + 1 = ((hi : Int) - (lo : Int) + -1) + 2 by omega, Int.mul_add]; omega
        omega
      · have y2 : ∃ sl', exOK C l n' sl' := by
          rcases x4 with q | ⟨_, _, q | q⟩
          · exact ⟨_, q.2.2⟩
          · exact ⟨_, q.2⟩
          · exact ⟨_, q.2.2⟩
        obtain ⟨sl', y2⟩ := y2
        have q := ihl n' 3 (lo + 1) m sl' hC hs.2 y2 hc
        rw [if_neg (by omega)] at q
        have lm := cR_lt hc
        have g0 : wke S l * (szO S k.2.1 * szO S k.2.2) ≤ wke S l * 64 := Int.mul_le_mul_of_nonneg_left z.2 w0
        have g3 : pw6 (n' + 1) * ((m : Int) - ((lo + 1 : Nat) : Int) + -1) = 64 * (pw6 n' * ((m : Int) - ((lo + 1 : Nat) : Int) + -1)) := by
          rw [p2, Int.mul_right_comm, Int.mul_comm]
        have g2 : pw6 (n' + 1) * ((hi : Int) - (lo : Int) + 1) = pw6 (n' + 1) * ((m : Int) - ((lo + 1 : Nat) : Int) + -1) + 4 * pw6 (n' + 1) := by
          rw [show (hi : Int) - (lo : Int) + 1 = ((m : Int) - ((lo + 1 : Nat) : Int) + -1) + 4 by omega, Int.mul_add]; omega
        omega
    rw [if_neg c4]
    by_cases c6 : t = 6
    · subst c6
      have hs : md = 3 ∧ l = .leaf ∧ r = .leaf := hs
      have hc : hi = lo + 1 ∧ ji h 160 lo = 0 := hc
      rw [hs.2.1, hs.2.2, if_neg (by omega), show (hi : Int) - (lo : Int) + -1 = 0 by omega, Int.mul_zero]
      show 2 * ((0 : Int) + 0) ≤ 0
      omega
    have hx2 : exOK C l n sl ∧ exOK C r n sl := by
      unfold exOK at hx
      rw [if_neg (by omega), if_neg (by omega), if_neg (by omega), if_neg (by omega), if_neg c4] at hx
      exact hx.2
    have hc2 : ∃ m e, hi = e + 1 ∧ cR h l lo m ∧ cR h r m e := by
      unfold cR at hc
      rw [if_neg (by omega), if_neg (by omega), if_neg (by omega), if_neg (by omega), if_neg c4] at hc
      by_cases c5 : t = 5
      · rw [if_pos c5] at hc
        obtain ⟨m, e, y1, y2, y3, _⟩ := hc
        exact ⟨m, e, y1, y2, y3⟩
      · rw [if_neg c5, if_neg c6] at hc
        obtain ⟨m, e, y1, y2, y3, _⟩ := hc
        exact ⟨m, e, y1, y2, y3⟩
    obtain ⟨m, e, y1, y2, y3⟩ := hc2
    have i1 := cR_lt y2
    have i2 := cR_lt y3
    have dist : ∀ a b f g : Int, a + b = f + g → pw6 n * a + pw6 n * b = pw6 n * f + pw6 n * g := fun a b f g q => by rw [← Int.mul_add, ← Int.mul_add, q]
    by_cases c5 : t = 5
    · subst c5
      have hs : md = 1 ∧ shp l 1 ∧ shp r 0 := hs
      have q1 := ihl n 1 lo m sl hC hs.2.1 hx2.1 y2
      have q2 := ihr n 0 m e sl hC hs.2.2 hx2.2 y3
      rw [if_neg (by omega)] at q1
      rw [if_pos rfl] at q2
      rw [if_neg (by omega)]
      have dd := dist ((m : Int) - (lo : Int) + -1) ((e : Int) - (m : Int) + 1) ((hi : Int) - (lo : Int) + -1) 0 (by omega)
      rw [Int.mul_zero] at dd
      omega
    · have hs : (t = 7 ∨ t = 8) ∧ md = 3 ∧ shp l 3 ∧ shp r 1 := by
        unfold shp at hs
        rw [if_neg (by omega), if_neg c4, if_neg c5, if_neg c6] at hs
        exact hs
      have q1 := ihl n 3 lo m sl hC hs.2.2.1 hx2.1 y2
      have q2 := ihr n 1 m e sl hC hs.2.2.2 hx2.2 y3
      rw [if_neg (by omega)] at q1 q2
      rw [if_neg (by omega)]
      have dd := dist ((m : Int) - (lo : Int) + -1) ((e : Int) - (m : Int) + -1) ((hi : Int) - (lo : Int) + -1) (-2) (by omega)
      omega
end WRK
