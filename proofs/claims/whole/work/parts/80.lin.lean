/-! WHAT A SUM IS WORTH: for each column its factor, at 40 what stands without vars -/
def plV (nu : Nat → Int) (q : Int) : Int := if 0 ≤ q then q else nu (-1 - q).toNat
def updN (nu : Nat → Int) (s set v : Int) (k : Nat) : Int := if ¬ set = -1 ∧ (k : Int) = s then v else nu k
def sumN : Nat → (Nat → Int) → Int
  | 0, _ => 0
  | n + 1, f => sumN n f + f n
def lin (c : Dc) : Ex → (Nat → Int) → Nat → Int
  | .leaf, _, j => if j = 40 then 1 else 0
  | .inner t k _ l r, nu, j =>
    if t = 0 then (if j = 40 then k.1 else 0)
    else if t = 1 then (if j = 40 then nu k.1.toNat else 0)
    else if t = 2 then (if j = 40 then (if spO (dS c) (dT c) k.1 (plV nu k.2.1) (plV nu k.2.2) < 0 then 0 else (dV c).getD (spO (dS c) (dT c) k.1 (plV nu k.2.1) (plV nu k.2.2)).toNat 0) else 0)
    else if t = 3 then (if j < 40 ∧ (j : Int) = spO (dS c) (dX c) k.1 (plV nu k.2.1) (plV nu k.2.2) then 1 else 0)
    else if t = 4 then sumN (szO (dS c) k.2.1).toNat (fun a => sumN (szO (dS c) k.2.2).toNat (fun b => lin c l (updN (updN nu k.1 k.2.1 (nuO (dS c) k.2.1 a)) (k.1 + 1) k.2.2 (nuO (dS c) k.2.2 b)) j))
    else if t = 5 then (if j = 40 then lin c l nu 40 * lin c r nu 40 else lin c l nu j * lin c r nu 40 + lin c r nu j * lin c l nu 40)
    else if t = 6 then 0
    else if t = 8 then lin c l nu j - lin c r nu j
    else lin c l nu j + lin c r nu j
theorem sumN_cg {f g : Nat → Int} : ∀ {n : Nat}, (∀ k, k < n → f k = g k) → sumN n f = sumN n g
  | 0, _ => rfl
  | n + 1, h => by show sumN n f + f n = sumN n g + g n; rw [sumN_cg (fun k hk => h k (by omega)), h n (by omega)]
theorem sumN_z {f : Nat → Int} : ∀ {n : Nat}, (∀ k, k < n → f k = 0) → sumN n f = 0
  | 0, _ => rfl
  | n + 1, h => by show sumN n f + f n = 0; rw [sumN_z (fun k hk => h k (by omega)), h n (by omega)]; rfl
theorem lin_nv {c : Dc} : ∀ {x : Ex} {nu : Nat → Int} {j : Nat}, hv x = false → j < 40 → lin c x nu j = 0 := by
  intro x
  induction x with
  | leaf => intro nu j _ hj; show (if j = 40 then (1 : Int) else 0) = 0; rw [if_neg (by omega)]
  | inner t k u l r ihl ihr =>
    intro nu j hx hj
    unfold hv at hx
    unfold lin
    by_cases c3 : t = 3
    · rw [if_pos c3] at hx; exact absurd hx (by decide)
    rw [if_neg c3] at hx
    split
    · rw [if_neg (by omega)]
    split
    · rw [if_neg (by omega)]
    split
    · rw [if_neg (by omega)]
    rw [if_neg (by omega)] at hx
    split
    · rename_i c4
      rw [if_pos c4] at hx
      exact sumN_z (fun a _ => sumN_z (fun b _ => ihl hx hj))
    rename_i c4
    rw [if_neg c4] at hx
    by_cases c6 : t = 6
    · rw [if_neg (by omega), if_pos c6]
    rw [if_neg c6] at hx
    have hx := Bool.or_eq_false_iff.mp hx
    split
    · rw [if_neg (by omega), ihl hx.1 hj, ihr hx.2 hj, Int.zero_mul, Int.zero_mul]; rfl
    split
    · rw [ihl hx.1 hj, ihr hx.2 hj]; rfl
    · rw [ihl hx.1 hj, ihr hx.2 hj]; rfl
theorem plV_ext {S : List (Int × Int)} {sl : List Int} {set q : Int} {nu nu' : Nat → Int} (h : plOK S sl set q) (e : ∀ s, s < sl.length → nu s = nu' s) : plV nu q = plV nu' q := by
  unfold plV
  rcases h with ⟨h1, _⟩ | ⟨h1, h2, _⟩
  · rw [if_pos h1, if_pos h1]
  · rw [if_neg (by omega), if_neg (by omega), e _ (by omega)]
theorem plV0 {nu : Nat → Int} : plV nu 0 = 0 := rfl
theorem ps_ext {S : List (Int × Int)} {sl : List Int} {o : Int × Int} {q r : Int} {nu nu' : Nat → Int} (h : psOK S sl o q r) (e : ∀ s, s < sl.length → nu s = nu' s) : plV nu q = plV nu' q ∧ plV nu r = plV nu' r := by
  unfold psOK at h
  split at h
  · rw [h.1, h.2]; exact ⟨rfl, rfl⟩
  · refine ⟨plV_ext h.1 e, ?_⟩
    have h2 := h.2
    split at h2
    · rw [h2]; rfl
    · exact plV_ext h2 e
theorem updN_ext {nu nu' : Nat → Int} {s set v : Int} {k : Nat} (h : ¬ (¬ set = -1 ∧ (k : Int) = s) → nu k = nu' k) : updN nu s set v k = updN nu' s set v k := by
  unfold updN
  by_cases z : ¬ set = -1 ∧ (k : Int) = s
  · rw [if_pos z, if_pos z]
  · rw [if_neg z, if_neg z]; exact h z
theorem lin_ext {c : Dc} : ∀ {x : Ex} {n : Nat} {sl : List Int} {nu nu' : Nat → Int} {j : Nat}, exOK (dC c) x n sl → (∀ s, s < sl.length → nu s = nu' s) → lin c x nu j = lin c x nu' j := by
  intro x
  induction x with
  | leaf => intro n sl nu nu' j _ _; rfl
  | inner t k u l r ihl ihr =>
    intro n sl nu nu' j hx e
    unfold exOK at hx
    unfold lin
    split
    · rfl
    rename_i c0; rw [if_neg c0] at hx
    split
    · rename_i c1; rw [if_pos c1] at hx
      rw [e _ (by omega)]
    rename_i c1; rw [if_neg c1] at hx
    split
    · rename_i c2; rw [if_pos c2] at hx
      have q := ps_ext hx.2.2 e
      rw [q.1, q.2]
    rename_i c2; rw [if_neg c2] at hx
    split
    · rename_i c3; rw [if_pos c3] at hx
      have q := ps_ext hx.2.2 e
      rw [q.1, q.2]
    rename_i c3; rw [if_neg c3] at hx
    split
    · rename_i c4; rw [if_pos c4] at hx
      obtain ⟨h1, h2, h3, h4⟩ := hx
      refine sumN_cg (fun a _ => sumN_cg (fun b _ => ?_))
      rcases h4 with ⟨y1, y2, y3⟩ | ⟨y1, y2, ⟨y3, y4⟩ | ⟨y3, y4, y5⟩⟩
      · exact ihl y3 (fun s hs => updN_ext (fun _ => updN_ext (fun _ => e s hs)))
      · refine ihl y4 (fun s hs => ?_)
        rw [List.length_append] at hs
        have hs : s < sl.length + 1 := hs
        exact updN_ext (fun _ => updN_ext (fun z => e s (by omega)))
      · refine ihl y5 (fun s hs => ?_)
        rw [List.length_append] at hs
        have hs : s < sl.length + 2 := hs
        exact updN_ext (fun _ => updN_ext (fun z => e s (by omega)))
    rename_i c4; rw [if_neg c4] at hx
    obtain ⟨_, h1, h2⟩ := hx
    have el : ∀ j, lin c l nu j = lin c l nu' j := fun j => ihl h1 e
    have er : ∀ j, lin c r nu j = lin c r nu' j := fun j => ihr h2 e
    rw [el j, er j, el 40, er 40]
/-- a PART: the product of its factors without vars, and the factor with vars -/
def prV (c : Dc) (nu : Nat → Int) : Ex → Int
  | .leaf => 1
  | .inner _ _ _ l r => if hv r = true then prV c nu l else prV c nu l * lin c r nu 40
/-- the worth of the holder of a PART -/
def hoV (c : Dc) (nu : Nat → Int) : Ex → Nat → Int
  | .leaf, j => if j = 40 then 1 else 0
  | .inner _ _ _ l r, j => if hv r = true then lin c r nu j else hoV c nu l j
/-- only products of factors -/
def isPt : Ex → Prop
  | .leaf => True
  | .inner t _ _ l _ => t = 5 ∧ isPt l
theorem part_lin {c : Dc} {n : Nat} {sl : List Int} {nu : Nat → Int} : ∀ {q : Ex}, isPt q → exOK (dC c) q n sl → ∀ j, j ≤ 40 → lin c q nu j = prV c nu q * hoV c nu q j := by
  intro q
  induction q with
  | leaf => intro _ _ j _; unfold lin prV hoV; rw [Int.one_mul]
  | inner t k u l r ihl ihr =>
    intro hp hx j hj
    obtain ⟨h5, hl⟩ := hp
    subst h5
    have hx : (5 = 5 → ¬ (hv l = true ∧ hv r = true)) ∧ exOK (dC c) l n sl ∧ exOK (dC c) r n sl := hx
    obtain ⟨x1, x2, x3⟩ := hx
    have x1 := x1 rfl
    have q := ihl hl x2
    have eL : lin c (.inner 5 k u l r) nu j = if j = 40 then lin c l nu 40 * lin c r nu 40 else lin c l nu j * lin c r nu 40 + lin c r nu j * lin c l nu 40 := rfl
    rw [eL]
    unfold prV hoV
    by_cases hr : hv r = true
    · have hl' : hv l = false := by
        cases z : hv l
        · rfl
        · exact absurd ⟨z, hr⟩ x1
      rw [if_pos hr, if_pos hr]
      have e40 : lin c l nu 40 = prV c nu l := by
        rw [q 40 (by omega)]
        have : ∀ {m : Ex}, isPt m → hv m = false → hoV c nu m 40 = 1 := by
          intro m
          induction m with
          | leaf => intro _ _; rfl
          | inner t' k' u' l' r' i1 i2 =>
            intro hp hm
            obtain ⟨z5, zl⟩ := hp
            subst z5
            have hm : (hv l' || hv r') = false := hm
            have hm := Bool.or_eq_false_iff.mp hm
            unfold hoV
            rw [if_neg (by rw [hm.2]; decide)]
            exact i1 zl hm.1
        rw [this hl hl', Int.mul_one]
      by_cases z : j = 40
      · rw [if_pos z, e40, z]
      · rw [if_neg z, lin_nv (j := j) hl' (by omega), e40, Int.zero_mul, Int.zero_add, Int.mul_comm]
    · have hr' : hv r = false := by
        cases z : hv r
        · rfl
        · exact absurd z hr
      rw [if_neg hr, if_neg hr]
      by_cases z : j = 40
      · rw [if_pos z, q 40 (by omega), z, Int.mul_right_comm]
      · rw [if_neg z, q j hj, lin_nv (j := j) hr' (by omega), Int.zero_mul, Int.add_zero, Int.mul_right_comm]
