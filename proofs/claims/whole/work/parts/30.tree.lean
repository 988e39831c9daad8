-- needs: 20.num 21.lay 22.spec 23.va 24.leaf 25.tbls 26.thg 27.tok 29.fr
/-! SUMS AS TREES OF CELLS: mode 0 a factor at a, 1 the chain of the factors without vars from a, 2 the factor with vars, 3 the parts from a up to b. All cells lie in lo .. hi - 1. -/
def tR (h : AH) : Ex → Nat → Nat → Nat → Nat → Nat → Prop
  | .leaf, m, _, _, a, _ => (m = 1 ∨ m = 2) ∧ a = 0
  | .inner t k _ l r, m, lo, hi, a, b =>
    if t ≤ 3 then m = 0 ∧ lo ≤ a ∧ a < hi ∧ jt h a = 3 ∧ ji h a 0 = (t : Int) ∧ ji h a 1 = k.1 ∧ (2 ≤ t → ji h a 2 = k.2.1 ∧ ji h a 3 = k.2.2) ∧ ji h a 5 = (if t = 3 then 1 else 0)
    else if t = 4 then m = 0 ∧ lo ≤ a ∧ a < hi ∧ jt h a = 3 ∧ ji h a 0 = 4 ∧ ji h a 1 = k.1 ∧ ji h a 2 = k.2.1 ∧ ji h a 3 = k.2.2 ∧ ji h a 5 = (if hv l = true then 1 else 0) ∧ tR h l 3 (a + 1) hi (jr h a 4) 0
    else if t = 5 then (m = 1 ∧ ((hv r = true ∧ tR h l 1 lo hi a b) ∨ (hv r = false ∧ tR h r 0 lo hi a 0 ∧ tR h l 1 lo hi (jr h a 6) b))) ∨ (m = 2 ∧ ((hv r = true ∧ tR h r 0 lo hi a 0) ∨ (hv r = false ∧ tR h l 2 lo hi a b)))
    else if t = 6 then m = 3 ∧ a = b
    else m = 3 ∧ ∃ c, tR h l 3 lo c a c ∧ lo ≤ c ∧ c < hi ∧ jt h c = 6 ∧ ji h c 0 = (if t = 8 then 1 else 0) ∧ tR h r 1 (c + 1) hi (jr h c 1) 0 ∧ tR h r 2 (c + 1) hi (jr h c 2) 0 ∧ jr h c 3 = b
theorem tR_mono {h h' : AH} : ∀ {x : Ex} {m lo hi lo' hi' a b : Nat}, tR h x m lo hi a b → lo' ≤ lo → hi ≤ hi' → (∀ c, lo ≤ c → c < hi → jt h' c = jt h c ∧ (∀ k, ji h' c k = ji h c k) ∧ (∀ k, jr h' c k = jr h c k)) → tR h' x m lo' hi' a b := by
  intro x
  induction x with
  | leaf => intro m lo hi lo' hi' a b hx _ _ _; exact hx
  | inner t k u l r ihl ihr =>
    intro m lo hi lo' hi' a b hx h1 h2 hs
    unfold tR at hx ⊢
    by_cases c3 : t ≤ 3
    · rw [if_pos c3] at hx ⊢
      obtain ⟨q1, q2, q3, q4, q5, q6, q7, q8⟩ := hx
      obtain ⟨s1, s2, -⟩ := hs a q2 q3
      rw [s1, s2, s2, s2, s2, s2]
      exact ⟨q1, by omega, by omega, q4, q5, q6, q7, q8⟩
    rw [if_neg c3] at hx ⊢
    by_cases c4 : t = 4
    · rw [if_pos c4] at hx ⊢
      obtain ⟨q1, q2, q3, q4, q5, q6, q7, q8, q9, q10⟩ := hx
      obtain ⟨s1, s2, s3⟩ := hs a q2 q3
      rw [s1, s2, s2, s2, s2, s2, s3]
      exact ⟨q1, by omega, by omega, q4, q5, q6, q7, q8, q9, ihl q10 (Nat.le_refl _) h2 (fun c e1 e2 => hs c (by omega) e2)⟩
    rw [if_neg c4] at hx ⊢
    by_cases c5 : t = 5
    · rw [if_pos c5] at hx ⊢
      rcases hx with ⟨q0, ⟨q1, q2⟩ | ⟨q1, q2, q3⟩⟩ | ⟨q0, ⟨q1, q2⟩ | ⟨q1, q2⟩⟩
      · exact Or.inl ⟨q0, Or.inl ⟨q1, ihl q2 h1 h2 hs⟩⟩
      · refine Or.inl ⟨q0, Or.inr ⟨q1, ihr q2 h1 h2 hs, ?_⟩⟩
        have ha : lo ≤ a ∧ a < hi := by
          cases r with
          | leaf => exact absurd q2.1 (by omega)
          | inner t2 k2 u2 l2 r2 =>
            unfold tR at q2
            by_cases d3 : t2 ≤ 3
            · rw [if_pos d3] at q2; exact ⟨q2.2.1, q2.2.2.1⟩
            rw [if_neg d3] at q2
            by_cases d4 : t2 = 4
            · rw [if_pos d4] at q2; exact ⟨q2.2.1, q2.2.2.1⟩
            rw [if_neg d4] at q2
            by_cases d5 : t2 = 5
            · rw [if_pos d5] at q2; omega
            rw [if_neg d5] at q2
            by_cases d6 : t2 = 6
            · rw [if_pos d6] at q2; omega
            rw [if_neg d6] at q2
            have := q2.1
            omega
        rw [(hs a ha.1 ha.2).2.2]
        exact ihl q3 h1 h2 hs
      · exact Or.inr ⟨q0, Or.inl ⟨q1, ihr q2 h1 h2 hs⟩⟩
      · exact Or.inr ⟨q0, Or.inr ⟨q1, ihl q2 h1 h2 hs⟩⟩
    rw [if_neg c5] at hx ⊢
    by_cases c6 : t = 6
    · rw [if_pos c6] at hx ⊢; exact hx
    rw [if_neg c6] at hx ⊢
    obtain ⟨q0, c, q1, q2, q3, q4, q5, q6, q7, q8⟩ := hx
    obtain ⟨s1, s2, s3⟩ := hs c q2 q3
    refine ⟨q0, c, ihl q1 h1 (Nat.le_refl _) (fun z e1 e2 => hs z e1 (by omega)), by omega, by omega, ?_⟩
    rw [s1, s2, s3, s3, s3]
    exact ⟨q4, q5, ihr q6 (Nat.le_refl _) h2 (fun z e1 e2 => hs z (by omega) e2), ihr q7 (Nat.le_refl _) h2 (fun z e1 e2 => hs z (by omega) e2), q8⟩
/-- what is a factor -/
def isF : Ex → Prop
  | .leaf => False
  | .inner t _ _ _ _ => t ≤ 4
/-- a factor's own cell -/
theorem tR_cell {h : AH} {x : Ex} {lo hi a : Nat} (hx : tR h x 0 lo hi a 0) : lo ≤ a ∧ a < hi ∧ jt h a = 3 ∧ ji h a 5 = (if hv x = true then 1 else 0) ∧ isF x := by
  cases x with
  | leaf => exact absurd hx.1 (by omega)
  | inner t k u l r =>
    unfold tR at hx
    by_cases c3 : t ≤ 3
    · rw [if_pos c3] at hx
      obtain ⟨q1, q2, q3, q4, q5, q6, q7, q8⟩ := hx
      refine ⟨q2, q3, q4, ?_, by show t ≤ 4; omega⟩
      rw [q8]
      unfold hv
      by_cases e : t = 3
      · rw [if_pos e, if_pos e, if_pos rfl]
      · rw [if_neg e, if_neg e, if_pos (by omega : t ≤ 2)]; rfl
    rw [if_neg c3] at hx
    by_cases c4 : t = 4
    · rw [if_pos c4] at hx
      obtain ⟨q1, q2, q3, q4, q5, q6, q7, q8, q9, q10⟩ := hx
      refine ⟨q2, q3, q4, ?_, by show t ≤ 4; omega⟩
      rw [q9, hv, if_neg (by omega : ¬ t = 3), if_neg (by omega : ¬ t ≤ 2), if_pos c4]
    rw [if_neg c4] at hx
    by_cases c5 : t = 5
    · rw [if_pos c5] at hx; omega
    rw [if_neg c5] at hx
    by_cases c6 : t = 6
    · rw [if_pos c6] at hx; omega
    rw [if_neg c6] at hx
    have := hx.1
    omega
theorem tR_fac_next {h : AH} {x : Ex} {lo hi a n : Nat} (hx : tR h x 0 lo hi a 0) : tR (wr h a 6 n) x 0 lo hi a 0 := by
  cases x with
  | leaf => exact absurd hx.1 (by omega)
  | inner t k u l r =>
    unfold tR at hx ⊢
    by_cases c3 : t ≤ 3
    · rw [if_pos c3] at hx ⊢; exact hx
    rw [if_neg c3] at hx ⊢
    by_cases c4 : t = 4
    · rw [if_pos c4] at hx ⊢
      obtain ⟨q1, q2, q3, q4, q5, q6, q7, q8, q9, q10⟩ := hx
      refine ⟨q1, q2, q3, q4, q5, q6, q7, q8, q9, ?_⟩
      rw [jr_wr, if_neg (by omega)]
      refine tR_mono q10 (Nat.le_refl _) (Nat.le_refl _) (fun c e1 e2 => ⟨rfl, fun _ => rfl, fun k => ?_⟩)
      rw [jr_wr, if_neg (by omega)]
    rw [if_neg c4] at hx ⊢
    by_cases c5 : t = 5
    · rw [if_pos c5] at hx; omega
    rw [if_neg c5] at hx
    by_cases c6 : t = 6
    · rw [if_pos c6] at hx; omega
    rw [if_neg c6] at hx
    have := hx.1
    omega
theorem hv_mul (q f : Ex) : hv (xMul q f) = (hv q || hv f) := rfl
theorem hv_part (neg : Bool) (s q : Ex) : hv (xPart neg s q) = (hv s || hv q) := by cases neg <;> rfl
theorem hv_inn (s a b : Int) (x : Ex) : hv (xInn s a b x) = hv x := rfl
theorem tR_mul1n {h : AH} {q f : Ex} {lo hi a b : Nat} (hf : hv f = false) (h1 : tR h f 0 lo hi a 0) (h2 : tR h q 1 lo hi (jr h a 6) b) : tR h (xMul q f) 1 lo hi a b := Or.inl ⟨rfl, Or.inr ⟨hf, h1, h2⟩⟩
theorem tR_mul1y {h : AH} {q f : Ex} {lo hi a b : Nat} (hf : hv f = true) (h2 : tR h q 1 lo hi a b) : tR h (xMul q f) 1 lo hi a b := Or.inl ⟨rfl, Or.inl ⟨hf, h2⟩⟩
theorem tR_mul2y {h : AH} {q f : Ex} {lo hi a b : Nat} (hf : hv f = true) (h1 : tR h f 0 lo hi a 0) : tR h (xMul q f) 2 lo hi a b := Or.inr ⟨rfl, Or.inl ⟨hf, h1⟩⟩
theorem tR_mul2n {h : AH} {q f : Ex} {lo hi a b : Nat} (hf : hv f = false) (h1 : tR h q 2 lo hi a b) : tR h (xMul q f) 2 lo hi a b := Or.inr ⟨rfl, Or.inr ⟨hf, h1⟩⟩
theorem tR_part {h : AH} {neg : Bool} {s q : Ex} {lo hi a b c : Nat} (h1 : tR h s 3 lo c a c) (h2 : lo ≤ c) (h3 : c < hi) (h4 : jt h c = 6) (h5 : ji h c 0 = if neg = true then 1 else 0) (h6 : tR h q 1 (c + 1) hi (jr h c 1) 0) (h7 : tR h q 2 (c + 1) hi (jr h c 2) 0) (h8 : jr h c 3 = b) : tR h (xPart neg s q) 3 lo hi a b := by
  cases neg
  · exact ⟨rfl, c, h1, h2, h3, h4, h5, h6, h7, h8⟩
  · exact ⟨rfl, c, h1, h2, h3, h4, h5, h6, h7, h8⟩
/-- products: no vars, no holder -/
def isPr : Ex → Prop
  | .leaf => True
  | .inner t _ _ l r => t = 5 ∧ isPr l ∧ isF r
theorem tR_hold {h : AH} : ∀ {x : Ex} {lo hi a b : Nat}, tR h x 2 lo hi a b → 0 < lo → (hv x = false ↔ a = 0) ∧ (¬ a = 0 → lo ≤ a ∧ a < hi ∧ jt h a = 3) := by
  intro x
  induction x with
  | leaf => intro lo hi a b hx _; exact ⟨⟨fun _ => hx.2, fun _ => rfl⟩, fun q => absurd hx.2 q⟩
  | inner t k u l r ihl ihr =>
    intro lo hi a b hx hlo
    unfold tR at hx
    by_cases c3 : t ≤ 3
    · rw [if_pos c3] at hx; omega
    rw [if_neg c3] at hx
    by_cases c4 : t = 4
    · rw [if_pos c4] at hx; omega
    rw [if_neg c4] at hx
    by_cases c5 : t = 5
    · rw [if_pos c5] at hx
      have e : hv (.inner t k u l r) = (hv l || hv r) := by rw [hv, if_neg (by omega : ¬ t = 3), if_neg (by omega : ¬ t ≤ 2), if_neg c4, if_neg (by omega : ¬ t = 6)]
      rw [e]
      rcases hx with ⟨q0, -⟩ | ⟨q0, ⟨q1, q2⟩ | ⟨q1, q2⟩⟩
      · omega
      · obtain ⟨r1, r2, r3, -⟩ := tR_cell q2
        rw [q1]
        exact ⟨⟨fun q => by simp at q, fun q => by omega⟩, fun _ => ⟨r1, r2, r3⟩⟩
      · rw [q1, Bool.or_false]
        exact ihl q2 hlo
    rw [if_neg c5] at hx
    by_cases c6 : t = 6
    · rw [if_pos c6] at hx; omega
    rw [if_neg c6] at hx
    have := hx.1
    omega
section PRT
variable {p : Lpar} {d : Nat} {h : AH}
theorem m_29 (hd : 1 ≤ d) {a : Nat} {v : Int} (ha : NF ≤ a) (ht : jt h a = 6) (hv : v = 0 ∨ v = 1) : jE d 29 [jP a, jI v] h none (wi h a 0 v) := by
  obtain ⟨d, rfl⟩ := Nat.exists_eq_add_of_le' hd
  exact jE_eq (Nat.le_of_ble_eq_true rfl) (b_29_0 ⟨Nat.le_trans (by decide) ha, hv, ht, rfl, rfl⟩)
theorem m_11 (hd : 1 ≤ d) {a : Nat} {k w o q : Int} (ha : NF ≤ a) (ht : jt h a = 3) : jE d 11 [jP a, jI k, jI w, jI o, jI q] h none (wi (wi (wi (wi (wi h a 0 k) a 1 w) a 2 o) a 3 q) a 5 (if k = 3 then 1 else 0)) := by
  obtain ⟨d, rfl⟩ := Nat.exists_eq_add_of_le' hd
  refine jE_eq (Nat.le_of_ble_eq_true rfl) (b_11_0 ⟨Nat.le_trans (by decide) ha, ht, ht, ht, ht, fun c => ⟨Or.inl rfl, ht, rfl, ?_⟩, fun c => ⟨Or.inr rfl, ht, rfl, ?_⟩⟩)
  · rw [if_neg c]
  · rw [if_pos (Decidable.not_not.mp c)]
theorem m_30n (hd : 1 ≤ d) {a f : Nat} (ha : jt h a = 6) (hf : jt h f = 3) (c : ji h f 5 = 0) : jE d 30 [jP a, jP f] h none (wr (wr h f 6 (jr h a 1)) a 1 f) := by
  obtain ⟨d, rfl⟩ := Nat.exists_eq_add_of_le' hd
  exact jE_eq (Nat.le_of_ble_eq_true rfl) (b_30_0 ⟨hf, fun _ => ⟨ha, hf, ha, rfl, rfl⟩, fun q => absurd c q⟩)
theorem m_30y (hd : 1 ≤ d) {a f : Nat} (ha : jt h a = 6) (hf : jt h f = 3) (c : ¬ ji h f 5 = 0) : jE d 30 [jP a, jP f] h none (wr h a 2 f) := by
  obtain ⟨d, rfl⟩ := Nat.exists_eq_add_of_le' hd
  exact jE_eq (Nat.le_of_ble_eq_true rfl) (b_30_0 ⟨hf, fun q => absurd q c, fun _ => ⟨ha, rfl, rfl⟩⟩)
end PRT
