/-! THE REFERENCE: a sum over indices -/
abbrev nuL (c : Dc) (k : Int × Int × Int) (nu : Nat → Int) (a b : Nat) : Nat → Int := updN (updN nu k.1 k.2.1 (nuO (dS c) k.2.1 a)) (k.1 + 1) k.2.2 (nuO (dS c) k.2.2 b)
def GoX (p : Lpar) (c : Dc) (d : Nat) (v1 v2 : Int) (Q : Option AV → AH → Prop) (x : Ex) : Prop := ∀ (n md b lo hi : Nat) (sl : List Int) (nu : Nat → Int) (h : AH), shp x md → exOK (dC c) x n sl → sl.length ≤ 18 → GoC p c h → cR h x lo hi → InS (dS c) sl nu → NuR h sl.length nu → ji h 141 54 = (b : Int) → b + 3 * n + 1 + (md + 1) / 2 ≤ 40 → (hi : Int) ≤ v2 → hi ≤ 2000 → (∀ h', GoC p c h' → Fq (ZGo b sl.length) h h' → StK h' b (lin c x nu) → ji h' 141 54 = ((b + 1 : Nat) : Int) → Gw d v1 v2 Q hi h') → Gw d v1 v2 Q lo h
/-- a sum over indices stands from lo to m -/
def LpF (h : AH) (l : Ex) (lo m k1 : Nat) (s1 s2 : Int) : Prop := cR h l (lo + 1) m ∧ ji h 160 m = 10 ∧ ji h 161 m = (lo : Int) ∧ ji h 161 lo = (k1 : Int) ∧ ji h 162 lo = s1 ∧ ji h 163 lo = s2
/-- the sets of the indices, those of the sum with them -/
def Sl2 (c : Dc) (l : Ex) (n : Nat) (sl : List Int) (s1 s2 : Int) (sl' : List Int) : Prop := 1 ≤ n ∧ sl.length ≤ 16 ∧ 0 ≤ s1 ∧ s1 < ((dS c).length : Int) ∧ exOK (dC c) l (n - 1) sl' ∧ ((s2 = -1 ∧ sl' = sl ++ [s1]) ∨ (0 ≤ s2 ∧ s2 < ((dS c).length : Int) ∧ sl' = sl ++ [s1, s2]))
theorem getD_app3 {α : Type} (l m : List α) (z : α) {k : Nat} (h : l.length ≤ k) : (l ++ m).getD k z = m.getD (k - l.length) z := by
  rw [List.getD_eq_getElem?_getD, List.getD_eq_getElem?_getD, List.getElem?_append, if_neg (by omega)]
section RGL
variable {p : Lpar} {d : Nat} {h h' h0 g : AH} {c : Dc} {a b b2 b' m lo n k1 : Nat} {v1 v2 s1 s2 : Int} {Q : Option AV → AH → Prop} {sl sl' : List Int} {nu : Nat → Int} {l : Ex} {k : Int × Int × Int} {F : Nat → Nat → Int}
theorem LpF.fq (H : LpF h l lo m k1 s1 s2) (f : Fq (ZGo b b') h h') : LpF h' l lo m k1 s1 s2 := ⟨cR_mono H.1 (fun a k y1 y2 _ _ => f.i (by omega)), (f.i (by omega)).trans H.2.1, (f.i (by omega)).trans H.2.2.1, (f.i (by omega)).trans H.2.2.2.1, (f.i (by omega)).trans H.2.2.2.2.1, (f.i (by omega)).trans H.2.2.2.2.2⟩
theorem nuL_0 (hk : k.1 = (sl.length : Int)) {s : Nat} (hs : s < sl.length) : nuL c k nu a b2 s = nu s := by
  unfold nuL updN
  rw [if_neg (by omega), if_neg (by omega)]
theorem nuL_1 (hk : k.1 = (sl.length : Int)) (h1 : 0 ≤ k.2.1) (h2 : k.2.1 < ((dS c).length : Int)) : nuL c k nu a b2 sl.length = fsO (dS c) k.2.1 + (a : Int) := by
  unfold nuL updN
  rw [if_neg (by omega), if_pos ⟨by omega, hk.symm⟩]
  unfold nuO; rw [if_neg (by omega)]
theorem nuL_2 (hk : k.1 = (sl.length : Int)) (h1 : 0 ≤ k.2.2) (h2 : k.2.2 < ((dS c).length : Int)) : nuL c k nu a b2 (sl.length + 1) = fsO (dS c) k.2.2 + (b2 : Int) := by
  unfold nuL updN
  rw [if_pos ⟨by omega, by omega⟩]
  unfold nuO; rw [if_neg (by omega)]
theorem Sl2.len (H : Sl2 c l n sl s1 s2 sl') : (s2 = -1 ∧ sl'.length = sl.length + 1) ∨ (0 ≤ s2 ∧ sl'.length = sl.length + 2) := by
  rcases H.2.2.2.2.2 with ⟨y1, y2⟩ | ⟨y1, _, y2⟩
  · left; rw [y2, List.length_append]; exact ⟨y1, rfl⟩
  · right; rw [y2, List.length_append]; exact ⟨y1, rfl⟩
theorem Sl2.at0 (H : Sl2 c l n sl s1 s2 sl') {s : Nat} (hs : s < sl.length) : sl'.getD s (-1) = sl.getD s (-1) := by
  rcases H.2.2.2.2.2 with ⟨y1, y2⟩ | ⟨y1, _, y2⟩ <;> rw [y2, getD_app2 _ _ _ hs]
theorem Sl2.at1 (H : Sl2 c l n sl s1 s2 sl') : sl'.getD sl.length (-1) = s1 := by
  rcases H.2.2.2.2.2 with ⟨y1, y2⟩ | ⟨y1, _, y2⟩ <;> rw [y2, getD_app3 _ _ _ (Nat.le_refl _), Nat.sub_self] <;> rfl
theorem Sl2.at2 (H : Sl2 c l n sl s1 s2 sl') (h2 : 0 ≤ s2) : sl'.getD (sl.length + 1) (-1) = s2 := by
  rcases H.2.2.2.2.2 with ⟨y1, y2⟩ | ⟨y1, _, y2⟩
  · omega
  · rw [y2, getD_app3 _ _ _ (by omega), show sl.length + 1 - sl.length = 1 by omega]; rfl
theorem in_lp (H : Sl2 c l n sl k.2.1 k.2.2 sl') (hk : k.1 = (sl.length : Int)) (I : InS (dS c) sl nu) (ha : (a : Int) < szO (dS c) k.2.1) (hb : (b2 : Int) < szO (dS c) k.2.2) : InS (dS c) sl' (nuL c k nu a b2) := by
  intro s hs
  have hl := H.len
  by_cases c0 : s < sl.length
  · rw [H.at0 c0, nuL_0 hk c0]; exact I s c0
  by_cases c1 : s = sl.length
  · subst c1
    rw [H.at1, nuL_1 hk H.2.2.1 H.2.2.2.1]
    exact ⟨H.2.2.1, H.2.2.2.1, by omega, by omega⟩
  · have h2 : 0 ≤ k.2.2 ∧ k.2.2 < ((dS c).length : Int) := by
      rcases H.2.2.2.2.2 with ⟨y1, y2⟩ | ⟨y1, y3, y2⟩
      · omega
      · exact ⟨y1, y3⟩
    have e : s = sl.length + 1 := by omega
    subst e
    rw [H.at2 h2.1, nuL_2 hk h2.1 h2.2]
    exact ⟨h2.1, h2.2, by omega, by omega⟩
theorem nu_lp (H : Sl2 c l n sl k.2.1 k.2.2 sl') (hk : k.1 = (sl.length : Int)) (N : NuR h sl.length nu) (P : PosL c sl.length k.2.1 k.2.2 a b2 h) : NuR h sl'.length (nuL c k nu a b2) := by
  intro s hs
  have hl := H.len
  by_cases c0 : s < sl.length
  · rw [nuL_0 hk c0]; exact N s c0
  by_cases c1 : s = sl.length
  · subst c1
    rw [nuL_1 hk H.2.2.1 H.2.2.2.1]; exact P.1
  · have h2 : 0 ≤ k.2.2 ∧ k.2.2 < ((dS c).length : Int) := by
      rcases H.2.2.2.2.2 with ⟨y1, y2⟩ | ⟨y1, y3, y2⟩
      · omega
      · exact ⟨y1, y3⟩
    have e : s = sl.length + 1 := by omega
    subst e
    rw [nuL_2 hk h2.1 h2.2]; exact P.2 (by omega)
/-- the sum up to the indices a, b -/
def sumP (n2 : Nat) (G : Nat → Nat → Nat → Int) (a b j : Nat) : Int := sumN a (fun x => sumN n2 (fun y => G x y j)) + sumN b (fun y => G a y j)
theorem sumP_b (n2 : Nat) (G : Nat → Nat → Nat → Int) (a b j : Nat) : sumP n2 G a b j + G a b j = sumP n2 G a (b + 1) j := by
  unfold sumP; rw [Int.add_assoc]; rfl
theorem sumP_a {n2 : Nat} (G : Nat → Nat → Nat → Int) (a j : Nat) : sumP n2 G a n2 j = sumP n2 G (a + 1) 0 j := by
  unfold sumP; show _ = sumN a _ + sumN n2 _ + 0; rw [Int.add_zero]
theorem sumP_e {n2 : Nat} (G : Nat → Nat → Nat → Int) (a j : Nat) : sumP n2 G a 0 j = sumN a (fun x => sumN n2 (fun y => G x y j)) := by
  unfold sumP; show _ + 0 = _; rw [Int.add_zero]
end RGL
