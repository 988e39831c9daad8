/-! WHAT IS PRINTED -/
/-- the digits of n, at most f of them -/
def dgs : Nat → Nat → List Int
  | 0, _ => []
  | f + 1, n => if n < 10 then [48 + (n : Int)] else dgs f (n / 10) ++ [48 + ((n % 10 : Nat) : Int)]
def szL (v : Int) : List Int := dgs 20 v.natAbs
def ixL (a b : Int) : List Int := if a = -1 then [] else [91] ++ szL a ++ (if b = -1 then [] else [44] ++ szL b) ++ [93]
def sgL (first : Bool) (v : Int) : List Int := if first = true then (if v < 0 then [45] else []) else (if v < 0 then [32, 45, 32] else [32, 43, 32])
def fcL (v : Int) : List Int := if v = 1 ∨ v = -1 then [] else szL v ++ [42]
def tmL (c : Dc) (x : Nat) (first : Bool) (v : Int) : List Int := sgL first v ++ fcL v ++ nmF (dN c) 2 (owO (dS c) (dX c) x) ++ ixL (fN (dS c) (dX c) x) (sN (dS c) (dX c) x)
def tmsF (c : Dc) (row : Nat) : Nat → Nat → List Int → Bool → List Int × Bool
  | 0, _, W, f => (W, f)
  | n + 1, x, W, f => if w64 (rowL c row x) = 0 then tmsF c row n (x + 1) W f else tmsF c row n (x + 1) (W ++ tmL c x f (w64 (rowL c row x))) false
def relL (q : Int) : List Int := if q < 0 then [32, 60, 61, 32] else if q = 0 then [32, 61, 32] else [32, 62, 61, 32]
def hdL (c : Dc) (row : Nat) : List Int := nmF (dN c) 3 (owO (dS c) (dR c) row) ++ [58, 32]
def endL (v : Int) : List Int := (if v < 0 then [45] else []) ++ szL v ++ [59]
abbrev tmsW (c : Dc) (row : Nat) : List Int × Bool := tmsF c row (tot (dS c) (dX c)).toNat 0 (hdL c row) true
def zrL (f : Bool) : List Int := if f = true then [48] else []
def prL (c : Dc) (row : Nat) : List Int := (tmsW c row).1 ++ zrL (tmsW c row).2 ++ relL ((dL c).getD (owO (dS c) (dR c) row).toNat zL).1 ++ endL (w64 (-(rowL c row 40)))
def aPrint (c : Dc) (r : Int) : Int := if isR c r then ((prL c r.toNat).length : Int) else -100001
def wPrint (c : Dc) (r : Int) (W : List Int) : List Int := if isR c r then prL c r.toNat else W
/-- no number of a set passes 9999 -/
def okS2 (S : List (Int × Int)) : Prop := ∀ e ∈ S, e.1 + e.2 ≤ 10000
theorem dgs_len : ∀ (f n k : Nat), k ≤ f → 1 ≤ k → n < 10 ^ k → 1 ≤ (dgs f n).length ∧ (dgs f n).length ≤ k
  | 0, _, k, h1, h2, _ => by omega
  | f + 1, n, k, h1, h2, h3 => by
    show 1 ≤ (if n < 10 then [48 + (n : Int)] else dgs f (n / 10) ++ [48 + ((n % 10 : Nat) : Int)]).length ∧ (if n < 10 then [48 + (n : Int)] else dgs f (n / 10) ++ [48 + ((n % 10 : Nat) : Int)]).length ≤ k
    by_cases z : n < 10
    · rw [if_pos z]; exact ⟨Nat.le_refl _, h2⟩
    · rw [if_neg z, List.length_append]
      obtain ⟨j, rfl⟩ : ∃ j, k = j + 1 := ⟨k - 1, by omega⟩
      have j1 : 1 ≤ j := by
        by_cases e : j = 0
        · subst e; omega
        · omega
      rw [Nat.pow_succ] at h3
      have q := dgs_len f (n / 10) j (by omega) j1 (by omega)
      show 1 ≤ (dgs f (n / 10)).length + 1 ∧ (dgs f (n / 10)).length + 1 ≤ j + 1
      omega
theorem szL_4 {v : Int} (h0 : 0 ≤ v) (h1 : v ≤ 9999) : (szL v).length ≤ 4 := (dgs_len 20 v.natAbs 4 (by omega) (by omega) (by omega)).2
theorem szL_19 {v : Int} (h : r64 v) : (szL v).length ≤ 19 := by
  unfold r64 at h
  exact (dgs_len 20 v.natAbs 19 (by omega) (by omega) (by omega)).2
theorem dgs_b : ∀ (f n : Nat), ∀ x ∈ dgs f n, 48 ≤ x ∧ x ≤ 57
  | 0, _, x, h => absurd h (by simp [dgs])
  | f + 1, n, x, h => by
    unfold dgs at h
    by_cases z : n < 10
    · rw [if_pos z] at h
      have := List.mem_singleton.mp h
      omega
    · rw [if_neg z] at h
      rcases List.mem_append.mp h with h | h
      · exact dgs_b f _ x h
      · have := List.mem_singleton.mp h
        omega
section PRS
variable {c : Dc} {x row : Nat} {v : Int} {T : Txt}
/-- the numbers of a thing have at most four digits -/
theorem fs_4 (O : okD c) (H : okS2 (dS c)) {S : List (Int × Int)} (hO : okO (dS c) S) (x : Int) : (fN (dS c) S x = -1 ∨ (0 ≤ fN (dS c) S x ∧ fN (dS c) S x ≤ 9999)) ∧ (sN (dS c) S x = -1 ∨ (0 ≤ sN (dS c) S x ∧ sN (dS c) S x ≤ 9999)) := by
  have hS : okS (dS c) := O.1.2.1
  by_cases z : owO (dS c) S x = -1
  · refine ⟨Or.inl ?_, Or.inl ?_⟩
    · unfold fN; rw [if_pos z]
    · unfold sN; rw [if_pos z]
  obtain ⟨r1, r2, r3, r4, r5, r6⟩ := owO_r z
  obtain ⟨k, hk⟩ : ∃ k : Nat, owO (dS c) S x = (k : Int) := ⟨(owO (dS c) S x).toNat, by omega⟩
  obtain ⟨y, hy⟩ : ∃ y : Nat, x - stO (dS c) S k = (y : Int) := ⟨(x - stO (dS c) S k).toNat, by rw [hk, Int.toNat_natCast] at r5; omega⟩
  have kl : k < S.length := by omega
  have t1 := stO_succ (S := dS c) kl
  rw [hk, Int.toNat_natCast] at r6
  obtain ⟨o1, o2, o3, o4, o5, o6⟩ := ow_of hS hO kl (x := y) (by omega)
  rw [show stO (dS c) S k + (y : Int) = x by omega] at o2 o3
  have ho := hO.2 _ (getD_mem kl (-1, -1))
  have b : ∀ s : Int, 0 ≤ s → s < ((dS c).length : Int) → fsO (dS c) s + szO (dS c) s ≤ 10000 ∧ 0 ≤ fsO (dS c) s := fun s h0 h1 => by
    have q := H _ (getD_mem (l := dS c) (k := s.toNat) (by omega) (0, 0))
    have q2 := hS.2 _ (getD_mem (l := dS c) (k := s.toNat) (by omega) (0, 0))
    rw [szO_in h0 h1]
    unfold fsO
    exact ⟨q, q2.1⟩
  generalize S.getD k (-1, -1) = o at *
  refine ⟨?_, ?_⟩
  · rw [o2]
    by_cases e : o.1 = -1
    · rw [if_pos e]; exact Or.inl rfl
    · rw [if_neg e]
      have q := b o.1 (by omega) (by omega)
      have d1 : 0 ≤ Int.tdiv (y : Int) (szO (dS c) o.2) ∧ Int.tdiv (y : Int) (szO (dS c) o.2) < szO (dS c) o.1 := by
        rw [Int.tdiv_eq_ediv_of_nonneg (by omega)]
        exact ⟨Int.ediv_nonneg (by omega) (by omega), Int.ediv_lt_of_lt_mul o6 (by omega)⟩
      right; omega
  · rw [o3]
    by_cases e : o.2 = -1
    · rw [if_pos e]; exact Or.inl rfl
    · rw [if_neg e]
      have q := b o.2 (by omega) (by omega)
      have d1 : 0 ≤ Int.tmod (y : Int) (szO (dS c) o.2) ∧ Int.tmod (y : Int) (szO (dS c) o.2) < szO (dS c) o.2 := by
        rw [Int.tmod_eq_emod_of_nonneg (by omega)]
        exact ⟨Int.emod_nonneg _ (by omega), Int.emod_lt_of_pos _ o6⟩
      right; omega
theorem ixL_len {a b : Int} (ha : a = -1 ∨ (0 ≤ a ∧ a ≤ 9999)) (hb : b = -1 ∨ (0 ≤ b ∧ b ≤ 9999)) : (ixL a b).length ≤ 11 := by
  unfold ixL
  by_cases z : a = -1
  · rw [if_pos z]; exact Nat.zero_le _
  rw [if_neg z]
  have l1 := szL_4 (v := a) (by omega) (by omega)
  by_cases y : b = -1
  · rw [if_pos y, List.length_append, List.length_append, List.length_append]
    show 1 + (szL a).length + 0 + 1 ≤ 11
    omega
  · have l2 := szL_4 (v := b) (by omega) (by omega)
    rw [if_neg y, List.length_append, List.length_append, List.length_append, List.length_append]
    show 1 + (szL a).length + (1 + (szL b).length) + 1 ≤ 11
    omega
theorem nm_4 (O : okD c) (s k : Int) : (nmF (dN c) s k).length ≤ 4 := by
  rcases nmF_or (dN c) s k with y | ⟨e, y1, y2, y3, y4⟩
  · rw [y]; exact Nat.zero_le _
  · rw [← y4]; exact (O.1.1.2.1 e y1).1.2.1
theorem tmL_len (O : okD c) (H : okS2 (dS c)) (hv : r64 v) (f : Bool) : (tmL c x f v).length ≤ (if f = true then 36 else 38) := by
  have hX : okO (dS c) (dX c) := O.1.2.2.2.2.1
  have q := fs_4 O H hX (x : Int)
  have l1 := ixL_len q.1 q.2
  have l2 := nm_4 O 2 (owO (dS c) (dX c) x)
  have l3 : (fcL v).length ≤ 20 := by
    unfold fcL
    split
    · exact Nat.zero_le _
    · rw [List.length_append]
      have := szL_19 hv
      show _ + 1 ≤ 20
      omega
  unfold tmL
  rw [List.length_append, List.length_append, List.length_append]
  cases f with
  | true =>
    have l4 : (sgL true v).length ≤ 1 := by
      unfold sgL
      rw [if_pos rfl]
      split
      · exact Nat.le_refl _
      · exact Nat.zero_le _
    rw [if_pos rfl]; omega
  | false =>
    have l4 : (sgL false v).length ≤ 3 := by
      unfold sgL
      rw [if_neg (by decide)]
      split <;> exact Nat.le_refl _
    rw [if_neg (by decide)]; omega
theorem tms_len (O : okD c) (H : okS2 (dS c)) : ∀ (n x : Nat) (W : List Int) (f : Bool), W.length ≤ (tmsF c row n x W f).1.length ∧ (tmsF c row n x W f).1.length + (zrL (tmsF c row n x W f).2).length ≤ W.length + (if f = true ∧ n = 0 then 1 else 38 * n)
  | 0, x, W, f => by
    refine ⟨Nat.le_refl _, ?_⟩
    show W.length + (zrL f).length ≤ W.length + (if f = true ∧ 0 = 0 then 1 else 38 * 0)
    cases f
    · rw [if_neg (by decide)]; exact Nat.le_refl _
    · rw [if_pos ⟨rfl, rfl⟩]; exact Nat.le_refl _
  | n + 1, x, W, f => by
    unfold tmsF
    by_cases z : w64 (rowL c row x) = 0
    · rw [if_pos z]
      have q := tms_len O H n (x + 1) W f
      refine ⟨q.1, ?_⟩
      rw [if_neg (by omega)]
      by_cases e : f = true ∧ n = 0
      · rw [if_pos e] at q; omega
      · rw [if_neg e] at q; omega
    · rw [if_neg z]
      have q := tms_len O H n (x + 1) (W ++ tmL c x f (w64 (rowL c row x))) false
      rw [if_neg (fun e => absurd e.1 (by decide)), List.length_append] at q
      have l := tmL_len (x := x) O H (w64_r (rowL c row x)) f
      rw [if_neg (by omega)]
      cases f
      · rw [if_neg (by decide)] at l; omega
      · rw [if_pos rfl] at l; omega
/-- all that is printed has room -/
theorem pr_room (O : okD c) (H : okS2 (dS c)) (t : tot (dS c) (dX c) ≤ 40) : (prL c row).length ≤ 1551 ∧ (tmsW c row).1.length + (zrL (tmsW c row).2).length ≤ 1526 ∧ (hdL c row).length ≤ (tmsW c row).1.length := by
  have q := tms_len (row := row) O H (tot (dS c) (dX c)).toNat 0 (hdL c row) true
  have l1 : (hdL c row).length ≤ 6 := by
    unfold hdL
    rw [List.length_append]
    have := nm_4 O 3 (owO (dS c) (dR c) row)
    show _ + 2 ≤ 6
    omega
  have l2 : (relL ((dL c).getD (owO (dS c) (dR c) row).toNat zL).1).length ≤ 4 := by
    unfold relL
    split
    · exact Nat.le_refl _
    split
    · show 3 ≤ 4; omega
    · exact Nat.le_refl _
  have l3 : (endL (w64 (-(rowL c row 40)))).length ≤ 21 := by
    unfold endL
    rw [List.length_append, List.length_append]
    have := szL_19 (w64_r (-(rowL c row 40)))
    split
    · show 1 + _ + 1 ≤ 21; omega
    · show 0 + _ + 1 ≤ 21; omega
  have b : (tmsW c row).1.length + (zrL (tmsW c row).2).length ≤ 1526 := by
    have q2 := q.2
    show (tmsF c row (tot (dS c) (dX c)).toNat 0 (hdL c row) true).1.length + (zrL (tmsF c row (tot (dS c) (dX c)).toNat 0 (hdL c row) true).2).length ≤ 1526
    split at q2
    · omega
    · omega
  refine ⟨?_, b, q.1⟩
  unfold prL
  rw [List.length_append, List.length_append, List.length_append]
  omega
theorem okS2_decl (g : tkG T) {i : Nat} (H : okS2 (dS c)) {r : Dc × Nat} (h : pDecl T c i = .ok r) : okS2 (dS r.1) := by
  unfold pDecl at h
  split at h
  · unfold pSet at h
    obtain ⟨q, _, h⟩ := xb_ok h
    obtain ⟨q2, _, h⟩ := xb_ok h
    obtain ⟨q3, _, h⟩ := xb_ok h
    obtain ⟨q4, _, h⟩ := xb_ok h
    split at h
    · rename_i z
      obtain ⟨q5, _, h⟩ := xb_ok h
      cases h
      intro e he
      have he : e ∈ dS c ++ [(tkV T q2, tkV T q4 - tkV T q2 + 1)] := he
      rcases List.mem_append.mp he with he | he
      · exact H e he
      · have := List.mem_singleton.mp he
        subst this
        have := (g q4).1 z.1
        show tkV T q2 + (tkV T q4 - tkV T q2 + 1) ≤ 10000
        omega
    · cases h
  split at h
  · unfold pTab at h
    obtain ⟨q, _, h⟩ := xb_ok h
    obtain ⟨q2, _, h⟩ := xb_ok h
    obtain ⟨q3, _, h⟩ := xb_ok h
    obtain ⟨q4, _, h⟩ := xb_ok h
    obtain ⟨q5, _, h⟩ := xb_ok h
    cases h; exact H
  split at h
  · unfold pVar at h
    obtain ⟨q, _, h⟩ := xb_ok h
    obtain ⟨q2, _, h⟩ := xb_ok h
    obtain ⟨q3, _, h⟩ := xb_ok h
    obtain ⟨q4, _, h⟩ := xb_ok h
    obtain ⟨q5, _, h⟩ := xb_ok h
    obtain ⟨q6, _, h⟩ := xb_ok h
    split at h
    · cases h
    · obtain ⟨q7, _, h⟩ := xb_ok h
      cases h; exact H
  split at h
  · unfold pRule at h
    obtain ⟨q, _, h⟩ := xb_ok h
    obtain ⟨q2, _, h⟩ := xb_ok h
    obtain ⟨q3, _, h⟩ := xb_ok h
    obtain ⟨q4, _, h⟩ := xb_ok h
    obtain ⟨q5, _, h⟩ := xb_ok h
    obtain ⟨q6, _, h⟩ := xb_ok h
    obtain ⟨q7, _, h⟩ := xb_ok h
    cases h; exact H
  split at h
  · unfold pGoal at h
    split at h
    · cases h
    split at h
    · obtain ⟨q, _, h⟩ := xb_ok h
      obtain ⟨q2, _, h⟩ := xb_ok h
      cases h; exact H
    · cases h
  · cases h
theorem okS2_text (g : tkG T) : ∀ (n : Nat) (c : Dc) (i : Nat) {r : Dc}, okS2 (dS c) → pText T n c i = .ok r → okS2 (dS r) := by
  intro n
  induction n with
  | zero => intro c i r _ h; cases h
  | succ n ih =>
    intro c i r H h
    have eT : pText T (n + 1) c i = if tkK T i = 3 then .ok c else xb (pDecl T c i) fun q => pText T n q.1 q.2 := rfl
    rw [eT] at h
    split at h
    · cases h; exact H
    · obtain ⟨q, hq, h⟩ := xb_ok h
      exact ih q.1 q.2 (okS2_decl g H hq) h
theorem okS2_0 : okS2 (dS D0) := fun e he => absurd (show e ∈ ([] : List (Int × Int)) from he) (by simp)
end PRS
