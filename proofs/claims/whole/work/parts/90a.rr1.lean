/-! THE REFERENCE: read, its totals -/
/-- the work of rule k, the rows of rule k -/
def wkK (c : Dc) (k : Nat) : Int := wke (dS c) ((dL c).getD k zL).2.1 + wke (dS c) ((dL c).getD k zL).2.2
def rwK (c : Dc) (k : Nat) : Int := szO (dS c) ((dR c).getD k (-1, -1)).1 * szO (dS c) ((dR c).getD k (-1, -1)).2
theorem sumN_sh (f : Nat → Int) : ∀ n, sumN (n + 1) f = f 0 + sumN n (fun k => f (k + 1))
  | 0 => by show (0 : Int) + f 0 = f 0 + 0; omega
  | n + 1 => by
    have q := sumN_sh f n
    show sumN (n + 1) f + f (n + 1) = f 0 + (sumN n (fun k => f (k + 1)) + f (n + 1))
    rw [q]; omega
theorem rWe_sum (S : List (Int × Int)) : ∀ (O : List (Int × Int)) (l : List (Int × Ex × Ex)), l.length = O.length → rWe S O l = sumN O.length (fun k => (wke S (l.getD k zL).2.1 + wke S (l.getD k zL).2.2) * (szO S (O.getD k (-1, -1)).1 * szO S (O.getD k (-1, -1)).2))
  | [], l, _ => by cases l <;> rfl
  | o :: O, [], h => by cases h
  | o :: O, a :: l, h => by
    have q := rWe_sum S O l (by have : l.length + 1 = O.length + 1 := h; omega)
    show (wke S a.2.1 + wke S a.2.2) * (szO S o.1 * szO S o.2) + rWe S O l = sumN (O.length + 1) _
    rw [sumN_sh, q]
    rfl
theorem stO_sum {c : Dc} : ∀ n, n ≤ (dR c).length → stO (dS c) (dR c) n = sumN n (rwK c)
  | 0, _ => rfl
  | n + 1, h => by
    rw [stO_succ (by omega), stO_sum n (by omega)]
    rfl
theorem sumN_le {W z : Nat → Int} {M : Int} : ∀ n, (∀ k, k < n → 0 ≤ W k ∧ W k ≤ M ∧ 0 ≤ z k) → 0 ≤ sumN n (fun k => W k * z k) ∧ sumN n (fun k => W k * z k) ≤ M * sumN n z ∧ 0 ≤ sumN n z
  | 0, _ => ⟨Int.le_refl _, by show (0 : Int) ≤ M * 0; omega, Int.le_refl _⟩
  | n + 1, h => by
    obtain ⟨q1, q2, q3⟩ := sumN_le n (fun k hk => h k (by omega))
    obtain ⟨w1, w2, w3⟩ := h n (by omega)
    have m1 := Int.mul_nonneg w1 w3
    have m2 : W n * z n ≤ M * z n := Int.mul_le_mul_of_nonneg_right w2 w3
    refine ⟨?_, ?_, ?_⟩
    · show 0 ≤ sumN n (fun k => W k * z k) + W n * z n; omega
    · show sumN n (fun k => W k * z k) + W n * z n ≤ M * (sumN n z + z n)
      rw [Int.mul_add]; omega
    · show 0 ≤ sumN n z + z n; omega
section RR1
variable {p : Lpar} {d A : Nat} {h h' g g0 : AH} {c : Dc} {Q : Option AV → AH → Prop} {v1 : Int}
theorem pw6_8 : pw6 8 = 281474976710656 := by decide
theorem wkK_b (O : okD c) (R : RRl h c A) (sh : shD c) (hA : A ≤ 1600) {k : Nat} (hk : k < (dL c).length) : 0 ≤ wkK c k ∧ wkK c k ≤ 224898506391814144 := by
  have hS : okS (dS c) := O.1.2.1
  obtain ⟨_, _, a, b, e, e1, _, _, _, c1, c2⟩ := R.2.1 k hk
  have ex := (O.2.2.2.2.2.2.2.2.1 k hk).2
  have s := sh.1 k hk
  have q1 := wk_ac (C := dC c) hS ((dL c).getD k zL).2.1 8 3 a b _ rfl s.1 ex.1 c1
  have q2 := wk_ac (C := dC c) hS ((dL c).getD k zL).2.2 8 3 b e _ rfl s.2 ex.2 c2
  have n1 := wke_nn hS ((dL c).getD k zL).2.1
  have n2 := wke_nn hS ((dL c).getD k zL).2.2
  have l1 := cR_lt c1
  have l2 := cR_lt c2
  rw [if_neg (by decide), pw6_8] at q1 q2
  unfold wkK
  omega
theorem wkG_b (O : okD c) (R : RRl h c A) (sh : shD c) (hA : A ≤ 1600) (hg : ¬ dG c = 0) : 0 ≤ wke (dS c) (dE c) ∧ wke (dS c) (dE c) ≤ 225039243880169472 := by
  have hS : okS (dS c) := O.1.2.1
  obtain ⟨_, a, b, e1, _, _, c1⟩ := R.2.2.2 hg
  have q1 := wk_ac (C := dC c) hS (dE c) 8 3 a b _ rfl (sh.2 hg) O.2.2.2.2.2.2.2.2.2.2.1 c1
  have n1 := wke_nn hS (dE c)
  have l1 := cR_lt c1
  rw [if_neg (by decide), pw6_8] at q1
  omega
/-- the exact work is a long -/
theorem dWe_b (O : okD c) (R : RRl h c A) (sh : shD c) (hA : A ≤ 1600) (t : tot (dS c) (dR c) ≤ 40) : w64 (dWe c) = dWe c := by
  have lL : (dL c).length = (dR c).length := O.2.2.2.1
  have hS : okS (dS c) := O.1.2.1
  have e1 : rWe (dS c) (dR c) (dL c) = sumN (dR c).length (fun k => wkK c k * rwK c k) := rWe_sum (dS c) (dR c) (dL c) lL
  have e2 : sumN (dR c).length (rwK c) = tot (dS c) (dR c) := by rw [← stO_sum _ (Nat.le_refl _), stO_len]
  obtain ⟨q1, q2, q3⟩ := sumN_le (W := wkK c) (z := rwK c) (M := 224898506391814144) (dR c).length (fun k hk => by
    have := wkK_b O R sh hA (k := k) (by omega)
    have z := sz2_r hS ((dR c).getD k (-1, -1)).1 ((dR c).getD k (-1, -1)).2
    exact ⟨this.1, this.2, z.1⟩)
  rw [e2] at q2 q3
  rw [← e1] at q1 q2
  have b : 0 ≤ dWe c ∧ dWe c ≤ 9223372036854775807 := by
    unfold dWe
    by_cases g : dG c = 0
    · rw [if_pos g]; omega
    · rw [if_neg g]
      have := wkG_b O R sh hA g
      omega
  exact w64_id (by unfold r64; omega)
/-- the starts of the VARS -/
theorem l_156a (hd : 9 ≤ d) (O : okD c) {z3 z4 z5 : AV} : ∀ (s v : Nat) (g : AH), (dX c).length = v + s → Ly p g → RTb g c → ji g 141 15 = ((dX c).length : Int) → (∀ k, k < v → ji g 174 k = stO (dS c) (dX c) k) → Fq (fun a _ => a = 174) g0 g → (∀ g', Ly p g' → Fq (fun a _ => a = 174) g0 g' → (∀ k, k < (dX c).length → ji g' 174 k = stO (dS c) (dX c) k) → WF d 156 82 [jP 141, jI (tot (dS c) (dX c)), jI 0, z3, z4, z5] [] g' Q) → WF d 156 29 [jP 141, jI (stO (dS c) (dX c) v), jI (v : Int), z3, z4, z5] [] g Q := by
  have lX : (dX c).length ≤ 6 := O.1.2.2.2.2.2.1
  have hS : okS (dS c) := O.1.2.1
  have l6 := hS.1
  intro s
  induction s with
  | zero =>
    intro v g hv L B e A F K
    have q := stO_len (dS c) (dX c)
    rw [show (dX c).length = v by omega] at q
    refine c_156_29 hd L ?_
    rw [e, q]
    exact ⟨fun _ => K g L F (fun k hk => A k (by omega)), fun z => by omega⟩
  | succ s ih =>
    intro v g hv L B e A F K
    have hv' : v < (dX c).length := by omega
    have t0 := tot_r hS ((dX c).take v)
    have t0 : 0 ≤ stO (dS c) (dX c) v ∧ stO (dS c) (dX c) v ≤ 640 := ⟨t0.1, by
      have := t0.2
      have l : (((dX c).take v).length : Int) ≤ 6 := by rw [List.length_take]; omega
      show tot (dS c) ((dX c).take v) ≤ 640
      omega⟩
    have t1 := stO_succ (S := dS c) hv'
    have sz := sz2_r hS ((dX c).getD v (-1, -1)).1 ((dX c).getD v (-1, -1)).2
    have ho := O.1.2.2.2.2.1.2 _ (getD_mem hv' (-1, -1))
    have ho : (((dX c).getD v (-1, -1)).1 = -1 ∧ ((dX c).getD v (-1, -1)).2 = -1) ∨ (0 ≤ ((dX c).getD v (-1, -1)).1 ∧ ((dX c).getD v (-1, -1)).1 < ((dS c).length : Int) ∧ (((dX c).getD v (-1, -1)).2 = -1 ∨ (0 ≤ ((dX c).getD v (-1, -1)).2 ∧ ((dX c).getD v (-1, -1)).2 < ((dS c).length : Int)))) := ho
    refine c_156_29 hd L ?_
    rw [e, Int.toNat_natCast]
    refine ⟨fun z => by omega, fun _ => ⟨by omega, by omega, fun L2 => ?_⟩⟩
    have F2 : Fq (fun a _ => a = 174) g (wi g 174 v (stO (dS c) (dX c) v)) := Fq.wi rfl
    have e2 : ∀ k, k < v + 1 → ji (wi g 174 v (stO (dS c) (dX c) v)) 174 k = stO (dS c) (dX c) k := fun k hk => by
      rw [ji_wi]
      by_cases z : k = v
      · rw [if_pos ⟨rfl, z⟩, z]
      · rw [if_neg (fun q => z q.2)]; exact A k (by omega)
    generalize wi g 174 v (stO (dS c) (dX c) v) = g2 at L2 F2 e2 ⊢
    have B2 : RTb g2 c := B.cg (fun a k z => F2.i (by omega))
    have q := B2.2.2.2.1 v hv'
    refine c_156_44 hd L2 ?_
    rw [w32_i (x := 2 * (v : Int)) (by omega) (by omega), w32_i (x := 2 * (v : Int) + 1) (by omega) (by omega), show 2 * (v : Int) + 1 = ((2 * v + 1 : Nat) : Int) by omega, show 2 * (v : Int) = ((2 * v : Nat) : Int) by omega, Int.toNat_natCast, Int.toNat_natCast, q.1, q.2, many_at B2 (by omega), many_at B2 (by omega), w32_i (x := szO (dS c) ((dX c).getD v (-1, -1)).1 * szO (dS c) ((dX c).getD v (-1, -1)).2) (by omega) (by omega), w32_i (x := stO (dS c) (dX c) v + szO (dS c) ((dX c).getD v (-1, -1)).1 * szO (dS c) ((dX c).getD v (-1, -1)).2) (by omega) (by omega), ← t1]
    refine ⟨by omega, by omega, by omega, by omega, by omega, by omega, c_156_74 hd L2 ?_⟩
    rw [w32_i (x := (v : Int) + 1) (by omega) (by omega)]
    exact ih (v + 1) g2 (by omega) L2 B2 ((F2.i (by omega)).trans e) e2 (F.trans F2) K
/-- rows and work of the RULES -/
theorem l_156b (hd : 10 ≤ d) (O : okD c) {gw : Int} (B : RTb g c) (L : Ly p g) (R : RRl g c A) (e20 : ji g 141 20 = ((dR c).length : Int)) (K : ∀ v5 : Int, (40 < v1 → Q (some (jI (-100004))) g) ∧ (¬ (40 < v1) → (40 < tot (dS c) (dR c) → Q (some (jI (-100004))) g) ∧ (¬ (40 < tot (dS c) (dR c)) → (jcmp (w64 (gw + rWe (dS c) (dR c) (dL c))) 20000 ≤ 0 → (Ly p (wl g 141 80 (w64 (gw + rWe (dS c) (dR c) (dL c)))) → WF d 156 171 [jP 141, jI v1, jI (tot (dS c) (dR c)), jL (w64 (gw + rWe (dS c) (dR c) (dL c))), jU, jI v5] [] (wl g 141 80 (w64 (gw + rWe (dS c) (dR c) (dL c)))) Q)) ∧ (¬ (jcmp (w64 (gw + rWe (dS c) (dR c) (dL c))) 20000 ≤ 0) → Q (some (jI (-100004))) g)))) : ∀ (s r : Nat), (dR c).length = r + s → WF d 156 101 [jP 141, jI v1, jI (stO (dS c) (dR c) r), jL (w64 (gw + sumN r (fun k => wkK c k * rwK c k))), jU, jI (r : Int)] [] g Q := by
  have lR : (dR c).length ≤ 10 := O.2.1.1
  have lL : (dL c).length = (dR c).length := O.2.2.2.1
  have hS : okS (dS c) := O.1.2.1
  intro s
  induction s with
  | zero =>
    intro r hr
    have q := stO_len (dS c) (dR c)
    rw [show (dR c).length = r by omega] at q
    have e1 : rWe (dS c) (dR c) (dL c) = sumN (dR c).length (fun k => wkK c k * rwK c k) := rWe_sum (dS c) (dR c) (dL c) lL
    rw [show (dR c).length = r by omega] at e1
    refine c_156_101 (by omega) L ?_
    rw [e20, q, ← e1]
    exact ⟨fun _ => K _, fun z => by omega⟩
  | succ s ih =>
    intro r hr
    have hr' : r < (dR c).length := by omega
    have t0 := tot_r hS ((dR c).take r)
    have t0 : 0 ≤ stO (dS c) (dR c) r ∧ stO (dS c) (dR c) r ≤ 640 := ⟨t0.1, by
      have := t0.2
      have l : (((dR c).take r).length : Int) ≤ 10 := by rw [List.length_take]; omega
      show tot (dS c) ((dR c).take r) ≤ 640
      omega⟩
    have t1 := stO_succ (S := dS c) hr'
    have sz := sz2_r hS ((dR c).getD r (-1, -1)).1 ((dR c).getD r (-1, -1)).2
    have w := (R.2.1 r (by omega)).2.1
    have E := m_155 (d := d) hd L B O R hr'
    refine c_156_101 (by omega) L ?_
    rw [e20]
    refine ⟨fun z => by omega, fun _ => ⟨_, g, E, L, c_156_119 (by omega) L ?_⟩⟩
    rw [Int.toNat_natCast, w]
    refine ⟨by omega, by omega, _, g, E, L, c_156_137 (by omega) L ?_⟩
    rw [w64_aa, w32_i (x := (r : Int) + 1) (by omega) (by omega), w32_i (x := stO (dS c) (dR c) r + szO (dS c) ((dR c).getD r (-1, -1)).1 * szO (dS c) ((dR c).getD r (-1, -1)).2) (by omega) (by omega), ← t1]
    have q := ih (r + 1) (by omega)
    have e : gw + sumN (r + 1) (fun k => wkK c k * rwK c k) = gw + sumN r (fun k => wkK c k * rwK c k) + (wke (dS c) ((dL c).getD r zL).2.1 + wke (dS c) ((dL c).getD r zL).2.2) * (szO (dS c) ((dR c).getD r (-1, -1)).1 * szO (dS c) ((dR c).getD r (-1, -1)).2) := by
      show gw + (sumN r (fun k => wkK c k * rwK c k) + wkK c r * rwK c r) = _
      unfold wkK rwK
      rw [← Int.add_assoc]
    rw [e] at q
    exact q
end RR1
