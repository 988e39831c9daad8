-- needs: 20.num 21.lay 22.spec 23.va 24.leaf 25.tbls 26.thg 27.tok 29.fr 30.tree 28.vb1 28.vb2 28.vb3 31.ctx 32.rd1 33.rd2 34.lvl
/-! WHAT IS READ IS IN RANGE -/
def plOK (S : List (Int × Int)) (sl : List Int) (set v : Int) : Prop := (0 ≤ v ∧ v ≤ 9999 ∧ ¬ ofO S set v = -1) ∨ (v < 0 ∧ -1 - v < (sl.length : Int) ∧ wiO S (sl.getD (-1 - v).toNat (-1)) set = true)
def psOK (S : List (Int × Int)) (sl : List Int) (o : Int × Int) (q r : Int) : Prop := if o.1 = -1 then q = 0 ∧ r = 0 else plOK S sl o.1 q ∧ (if o.2 = -1 then r = 0 else plOK S sl o.2 r)
def exOK (C : Cx) : Ex → Nat → List Int → Prop
  | .leaf, _, _ => True
  | .inner t k _ l r, n, sl => if t = 0 then 0 ≤ k.1 ∧ k.1 ≤ 9999 else if t = 1 then 0 ≤ k.1 ∧ k.1 < (sl.length : Int) else if t = 2 then 0 ≤ k.1 ∧ k.1 < (C.2.1.length : Int) ∧ psOK C.1 sl (thS C.2.1 k.1) k.2.1 k.2.2 else if t = 3 then 0 ≤ k.1 ∧ k.1 < (C.2.2.length : Int) ∧ psOK C.1 sl (thS C.2.2 k.1) k.2.1 k.2.2 else if t = 4 then 1 ≤ n ∧ k.1 = (sl.length : Int) ∧ sl.length ≤ 16 ∧ ((k.2.1 = -1 ∧ k.2.2 = -1 ∧ exOK C l (n - 1) sl) ∨ (0 ≤ k.2.1 ∧ k.2.1 < (C.1.length : Int) ∧ ((k.2.2 = -1 ∧ exOK C l (n - 1) (sl ++ [k.2.1])) ∨ (0 ≤ k.2.2 ∧ k.2.2 < (C.1.length : Int) ∧ exOK C l (n - 1) (sl ++ [k.2.1, k.2.2]))))) else (t = 5 → ¬ (hv l = true ∧ hv r = true)) ∧ exOK C l n sl ∧ exOK C r n sl
/-- what is known of the tokens -/
def tkG (T : Txt) : Prop := ∀ j, (tkK T j = 2 → 0 ≤ tkV T j ∧ tkV T j ≤ 9999) ∧ (tkK T j = 1 → okN (tkN T j))
section EOK
variable {C : Cx} {G : NmL} {sl : List Int} {T : Txt} {i : Nat} {S s : List (Int × Int)}
theorem getD_app2 {α : Type} (l m : List α) (z : α) {k : Nat} (h : k < l.length) : (l ++ m).getD k z = l.getD k z := by
  rw [List.getD_eq_getElem?_getD, List.getD_eq_getElem?_getD, List.getElem?_append, if_pos h]
theorem szO_app {a : Int} (h : a < (S.length : Int)) : szO (S ++ s) a = szO S a := by
  unfold szO
  rw [List.length_append]
  by_cases c : a < 0
  · rw [if_pos (Or.inl c), if_pos (Or.inl c)]
  · rw [if_neg (by omega), if_neg (by omega), getD_app2 _ _ _ (by omega)]
theorem fsO_app {a : Int} (h0 : 0 ≤ a) (h : a < (S.length : Int)) : fsO (S ++ s) a = fsO S a := by
  unfold fsO
  rw [getD_app2 _ _ _ (by omega)]
theorem ofO_app {a v : Int} (h : a < (S.length : Int)) : ofO (S ++ s) a v = ofO S a v := by
  unfold ofO
  rw [List.length_append, szO_app h]
  by_cases c : a < 0
  · rw [if_pos (Or.inl c), if_pos (Or.inl c)]
  · have e1 : ¬ (a < 0 ∨ ((S.length + s.length : Nat) : Int) ≤ a) := by omega
    have e2 : ¬ (a < 0 ∨ (S.length : Int) ≤ a) := by omega
    rw [if_neg e1, if_neg e2, fsO_app (by omega) h]
theorem wiO_app {a b : Int} (h : wiO S a b = true) : wiO (S ++ s) a b = true := by
  unfold wiO at h ⊢
  have h := of_decide_eq_true h
  refine decide_eq_true ?_
  rw [List.length_append, szO_app h.2.1, szO_app h.2.2.2.1, fsO_app h.1 h.2.1, fsO_app h.2.2.1 h.2.2.2.1]
  omega
theorem tot_app : ∀ {O : List (Int × Int)}, (∀ o ∈ O, o.1 < (S.length : Int) ∧ o.2 < (S.length : Int)) → tot (S ++ s) O = tot S O
  | [], _ => rfl
  | o :: O, h => by
    have h1 := h o (List.mem_cons_self ..)
    show szO (S ++ s) o.1 * szO (S ++ s) o.2 + tot (S ++ s) O = szO S o.1 * szO S o.2 + tot S O
    rw [szO_app h1.1, szO_app h1.2, tot_app (fun q hq => h q (List.mem_cons_of_mem _ hq))]
theorem okO_lt {O : List (Int × Int)} (h : okO S O) : ∀ o ∈ O, o.1 < (S.length : Int) ∧ o.2 < (S.length : Int) := fun o ho => by have := h.2 o ho; omega
theorem stO_app {O : List (Int × Int)} (h : okO S O) {k : Nat} : stO (S ++ s) O k = stO S O k := tot_app (fun o ho => okO_lt h o (List.mem_of_mem_take ho))
theorem okO_app {O : List (Int × Int)} (h : okO S O) : okO (S ++ s) O := ⟨h.1, fun o ho => by have := h.2 o ho; rw [List.length_append]; omega⟩
theorem plOK_app {set v : Int} (h1 : set < (S.length : Int)) (h : plOK S sl set v) : plOK (S ++ s) sl set v := by
  rcases h with ⟨a, b, c⟩ | ⟨a, b, c⟩
  · exact Or.inl ⟨a, b, by rw [ofO_app h1]; exact c⟩
  · exact Or.inr ⟨a, b, wiO_app c⟩
theorem psOK_app {o : Int × Int} {q r : Int} (h1 : o.1 < (S.length : Int) ∧ o.2 < (S.length : Int)) (h : psOK S sl o q r) : psOK (S ++ s) sl o q r := by
  unfold psOK at h ⊢
  split
  · rename_i c; rw [if_pos c] at h; exact h
  · rename_i c
    rw [if_neg c] at h
    refine ⟨plOK_app h1.1 h.1, ?_⟩
    split
    · rename_i c2; rw [if_pos c2] at h; exact h.2
    · rename_i c2; rw [if_neg c2] at h; exact plOK_app h1.2 h.2
theorem thS_mem {O : List (Int × Int)} {k : Int} (h0 : 0 ≤ k) (h : k < (O.length : Int)) : thS O k ∈ O := getD_mem (by omega) _
theorem thS_app {O o : List (Int × Int)} {k : Int} (h0 : 0 ≤ k) (h : k < (O.length : Int)) : thS (O ++ o) k = thS O k := by unfold thS; rw [getD_app2 _ _ _ (by omega)]
theorem exOK_app (h1 : okO C.1 C.2.1) (h2 : okO C.1 C.2.2) (s t u : List (Int × Int)) : ∀ (x : Ex) (n : Nat) (sl : List Int), exOK C x n sl → exOK (C.1 ++ s, C.2.1 ++ t, C.2.2 ++ u) x n sl := by
  intro x
  induction x with
  | leaf => intro n sl h; exact h
  | inner tt k v l r ihl ihr =>
    intro n sl h
    unfold exOK at h ⊢
    split
    · rename_i c; rw [if_pos c] at h; exact h
    rename_i c; rw [if_neg c] at h
    split
    · rename_i c; rw [if_pos c] at h; exact h
    rename_i c; rw [if_neg c] at h
    split
    · rename_i c; rw [if_pos c] at h
      refine ⟨h.1, by rw [List.length_append]; have := h.2.1; omega, ?_⟩
      rw [thS_app h.1 h.2.1]
      exact psOK_app (okO_lt h1 _ (thS_mem h.1 h.2.1)) h.2.2
    rename_i c; rw [if_neg c] at h
    split
    · rename_i c; rw [if_pos c] at h
      refine ⟨h.1, by rw [List.length_append]; have := h.2.1; omega, ?_⟩
      rw [thS_app h.1 h.2.1]
      exact psOK_app (okO_lt h2 _ (thS_mem h.1 h.2.1)) h.2.2
    rename_i c; rw [if_neg c] at h
    split
    · rename_i c; rw [if_pos c] at h
      rw [List.length_append]
      obtain ⟨a, b, b2, h⟩ := h
      refine ⟨a, b, b2, ?_⟩
      rcases h with ⟨a1, a2, a3⟩ | ⟨a1, a2, h⟩
      · exact Or.inl ⟨a1, a2, ihl _ _ a3⟩
      · refine Or.inr ⟨a1, by omega, ?_⟩
        rcases h with ⟨b1, b2⟩ | ⟨b1, b2, b3⟩
        · exact Or.inl ⟨b1, ihl _ _ b2⟩
        · exact Or.inr ⟨b1, by omega, ihl _ _ b3⟩
    · rename_i c; rw [if_neg c] at h
      exact ⟨h.1, ihl _ _ h.2.1, ihr _ _ h.2.2⟩
theorem wkc_app : ∀ (x : Ex) (n : Nat) (sl : List Int) (w : Int), exOK C x n sl → wkc (C.1 ++ s) x w = wkc C.1 x w := by
  intro x
  induction x with
  | leaf => intro n sl w h; rfl
  | inner tt k v l r ihl ihr =>
    intro n sl w h
    unfold wkc
    unfold exOK at h
    split
    · rfl
    rename_i c
    rw [if_neg (by omega), if_neg (by omega), if_neg (by omega), if_neg (by omega)] at h
    split
    · rename_i c; rw [if_pos c] at h
      obtain ⟨a, b, b2, h⟩ := h
      have key : k.2.1 < (C.1.length : Int) ∧ k.2.2 < (C.1.length : Int) := by
        rcases h with ⟨a1, a2, a3⟩ | ⟨a1, a2, h⟩
        · omega
        · rcases h with ⟨b1, b2⟩ | ⟨b1, b2, b3⟩ <;> omega
      rw [szO_app key.1, szO_app key.2]
      rcases h with ⟨a1, a2, a3⟩ | ⟨a1, a2, h⟩
      · rw [ihl _ _ _ a3]
      · rcases h with ⟨b1, b2⟩ | ⟨b1, b2, b3⟩
        · rw [ihl _ _ _ b2]
        · rw [ihl _ _ _ b3]
    · rename_i c; rw [if_neg c] at h
      rw [ihl _ _ _ h.2.1, ihr _ _ _ h.2.2]
theorem xb_ok {α β : Type} {x : Er α} {f : α → Er β} {b : β} (h : xb x f = .ok b) : ∃ a, x = .ok a ∧ f a = .ok b := by
  cases x with
  | error e => exact absurd h (by intro z; cases z)
  | ok a => exact ⟨a, rfl, h⟩
theorem take_ok {k : Int} {j : Nat} (h : pTake T k i = .ok j) : tkK T i = k ∧ j = i + 1 := by
  unfold pTake at h
  split at h
  · rename_i c; cases h; exact ⟨c, rfl⟩
  · cases h
theorem pPlace_ok (g : tkG T) (O : okX C G sl) {set : Int} {r : Int × Nat} (h : pPlace T C G sl set i = .ok r) : plOK C.1 sl set r.1 ∧ r.2 = i + 1 := by
  unfold pPlace at h
  split at h
  · rename_i c
    split at h
    · cases h
    · rename_i c2; cases h; exact ⟨Or.inl ⟨((g i).1 c).1, ((g i).1 c).2, c2⟩, rfl⟩
  · split at h
    · rename_i c; cases h
      have := O.lk (T := T) (i := i) (by omega)
      refine ⟨Or.inr ⟨by show -1 - _ < 0; omega, by show -1 - (-1 - _) < _; omega, ?_⟩, rfl⟩
      show wiO C.1 (sl.getD (-1 - (-1 - (lkT G T i).2)).toNat (-1)) set = true
      rw [show -1 - (-1 - (lkT G T i).2) = (lkT G T i).2 by omega]
      exact c.2
    · cases h
theorem pPlaces_ok (g : tkG T) (O : okX C G sl) {o : Int × Int} {r : Int × Int × Nat} (h : pPlaces T C G sl o i = .ok r) : psOK C.1 sl o r.1 r.2.1 ∧ i ≤ r.2.2 := by
  unfold pPlaces at h
  unfold psOK
  split at h
  · rename_i c; cases h; rw [if_pos c]; exact ⟨⟨rfl, rfl⟩, Nat.le_refl _⟩
  · rename_i c
    rw [if_neg c]
    obtain ⟨j, h1, h⟩ := xb_ok h
    obtain ⟨q, h2, h⟩ := xb_ok h
    have z1 := take_ok h1
    have z2 := pPlace_ok g O h2
    split at h
    · rename_i c2
      obtain ⟨j2, h3, h⟩ := xb_ok h
      have z3 := take_ok h3
      cases h
      rw [if_pos c2]
      exact ⟨⟨z2.1, rfl⟩, by show i ≤ j2; omega⟩
    · rename_i c2
      obtain ⟨j2, h3, h⟩ := xb_ok h
      obtain ⟨r2, h4, h⟩ := xb_ok h
      obtain ⟨j3, h5, h⟩ := xb_ok h
      have z3 := take_ok h3
      have z4 := pPlace_ok g O h4
      have z5 := take_ok h5
      cases h
      rw [if_neg c2]
      exact ⟨⟨z2.1, z4.1⟩, by show i ≤ j3; omega⟩
theorem pNamed_ok (g : tkG T) (O : okX C G sl) {n : Nat} {r : Ex × Nat} (h : pNamed T C G sl i = .ok r) : exOK C r.1 n sl ∧ i < r.2 := by
  unfold pNamed at h
  split at h
  · rename_i c
    have lk := O.lk (T := T) (i := i) (by omega)
    cases h
    exact ⟨⟨lk.2.1, lk.2.2.2.2.2.2.1 c⟩, Nat.lt_succ_self _⟩
  · split at h
    · rename_i c
      have lk := O.lk (T := T) (i := i) (by omega)
      obtain ⟨q, h1, h⟩ := xb_ok h
      cases h
      have z := pPlaces_ok g O h1
      exact ⟨⟨lk.2.1, lk.2.2.2.2.1 c, z.1⟩, z.2⟩
    · split at h
      · rename_i c
        have lk := O.lk (T := T) (i := i) (by omega)
        obtain ⟨q, h1, h⟩ := xb_ok h
        cases h
        have z := pPlaces_ok g O h1
        exact ⟨⟨lk.2.1, lk.2.2.2.2.2.1 c, z.1⟩, z.2⟩
      · cases h
theorem pInd1_ok (g : tkG T) (O : okX C G sl) (hl : sl.length < 18) {r : NmL × List Int × Nat} (h : pInd1 T G sl i = .ok r) : okX C r.1 r.2.1 ∧ ixP G sl r 1 ∧ i + 2 < r.2.2 := by
  unfold pInd1 at h
  split at h
  · rename_i c
    obtain ⟨j, h1, h⟩ := xb_ok h
    have z1 := take_ok h1
    split at h
    · rename_i c2
      have lk := O.lk (T := T) (i := j) (by omega)
      cases h
      exact ⟨O.ix hl ((g i).2 c.1) c.2 lk.2.1 (lk.2.2.2.1 c2), ⟨_, _, rfl, rfl, rfl, Nat.le_refl _, Nat.le_refl _⟩, by show i + 2 < j + 1; omega⟩
    · cases h
  · cases h
theorem pInd_ok (g : tkG T) (O : okX C G sl) (hl : sl.length ≤ 16) {r : NmL × List Int × Nat} (h : pInd T G sl i = .ok r) : okX C r.1 r.2.1 ∧ ixP G sl r 2 ∧ i + 2 < r.2.2 := by
  unfold pInd at h
  obtain ⟨q, h1, h⟩ := xb_ok h
  have z1 := pInd1_ok g O (by omega) h1
  split at h
  · have hq : q.2.1.length < 18 := by
      obtain ⟨g, s, a1, a2, a3, a4, a5⟩ := z1.2.1
      rw [a2, List.length_append]; omega
    have z2 := pInd1_ok g z1.1 hq h
    exact ⟨z2.1, z1.2.1.trans z2.2.1, by omega⟩
  · cases h
    exact ⟨z1.1, z1.2.1.two, z1.2.2⟩
theorem facR_ok (g : tkG T) {n : Nat} (IH : ∀ m, n = m + 1 → ∀ (G : NmL) (sl : List Int) (i : Nat) (r : Ex × Nat), okX C G sl → sl.length + 2 * m ≤ 18 → pSum T C m G sl i = .ok r → exOK C r.1 m sl ∧ i < r.2) (O : okX C G sl) (hl : sl.length + 2 * n ≤ 18) {r : Ex × Nat} (h : facR T C n G sl i = .ok r) : exOK C r.1 n sl ∧ i < r.2 := by
  have hw : ∃ deep rec, facR T C n G sl i = facW T C deep rec G sl i ∧ (deep = true → ∃ m, n = m + 1 ∧ rec = pSum T C m) := by
    cases n with
    | zero => exact ⟨false, fun _ _ _ => .error 0, rfl, fun z => absurd z (by decide)⟩
    | succ n => exact ⟨true, pSum T C n, rfl, fun _ => ⟨n, rfl, rfl⟩⟩
  obtain ⟨deep, rec, hw, hr⟩ := hw
  rw [hw] at h
  unfold facW at h
  split at h
  · rename_i c; cases h
    exact ⟨(g i).1 c, Nat.lt_succ_self _⟩
  split at h
  · exact pNamed_ok g O h
  split at h
  · rename_i c
    obtain ⟨m, rfl, rfl⟩ := hr c.1
    obtain ⟨q, h1, h⟩ := xb_ok h
    obtain ⟨j, h2, h⟩ := xb_ok h
    have z1 := IH m rfl _ _ _ _ O (by omega) h1
    have z2 := take_ok h2
    cases h
    exact ⟨⟨by omega, rfl, by omega, Or.inl ⟨rfl, rfl, z1.1⟩⟩, by show i < j; omega⟩
  split at h
  · rename_i c
    obtain ⟨m, rfl, rfl⟩ := hr c.1
    obtain ⟨j1, h1, h⟩ := xb_ok h
    obtain ⟨q, h2, h⟩ := xb_ok h
    obtain ⟨j3, h3, h⟩ := xb_ok h
    obtain ⟨x, h4, h⟩ := xb_ok h
    obtain ⟨j5, h5, h⟩ := xb_ok h
    have z1 := take_ok h1
    have z2 := pInd_ok g O (by omega) h2
    have z3 := take_ok h3
    obtain ⟨rG, rs, rk⟩ := q
    obtain ⟨O2, ⟨gg, s, q1, q2, q3, q4, q5⟩, z2⟩ := z2
    have q1 : rG = G ++ gg := q1
    have q2 : rs = sl ++ s := q2
    subst q1 q2
    have O2 : okX C (G ++ gg) (sl ++ s) := O2
    have z4 := IH m rfl _ _ _ _ O2 (by rw [List.length_append]; omega) h4
    have z5 := take_ok h5
    have z2 : j1 + 2 < rk := z2
    have z3 : tkK T rk = 158 ∧ j3 = rk + 1 := z3
    cases h
    refine ⟨⟨by omega, rfl, by omega, Or.inr ?_⟩, by show i < j5; omega⟩
    show 0 ≤ (sl ++ s).getD sl.length (-1) ∧ (sl ++ s).getD sl.length (-1) < (C.1.length : Int) ∧ ((((sl ++ s).getD (sl.length + 1) (-1)) = -1 ∧ exOK C x.1 m (sl ++ [(sl ++ s).getD sl.length (-1)])) ∨ (0 ≤ (sl ++ s).getD (sl.length + 1) (-1) ∧ (sl ++ s).getD (sl.length + 1) (-1) < (C.1.length : Int) ∧ exOK C x.1 m (sl ++ [(sl ++ s).getD sl.length (-1), (sl ++ s).getD (sl.length + 1) (-1)])))
    have hs := O2.2.2.2.2.2.2.2.1
    match s, q4, q5, hs, z4 with
    | [a], _, _, hs, z4 =>
      have e1 : (sl ++ [a]).getD sl.length (-1) = a := by rw [getD_snoc, if_neg (by omega), if_pos rfl]
      have e2 : (sl ++ [a]).getD (sl.length + 1) (-1) = -1 := by rw [getD_snoc, if_neg (by omega), if_neg (by omega)]
      rw [e1, e2]
      have := hs a (by simp)
      exact ⟨this.1, this.2, Or.inl ⟨rfl, z4.1⟩⟩
    | [a, b], _, _, hs, z4 =>
      have e0 : sl ++ [a, b] = (sl ++ [a]) ++ [b] := by simp
      have e1 : (sl ++ [a, b]).getD sl.length (-1) = a := by rw [e0, getD_snoc, if_pos (by rw [List.length_append]; show sl.length < sl.length + 1; omega), getD_snoc, if_neg (by omega), if_pos rfl]
      have e2 : (sl ++ [a, b]).getD (sl.length + 1) (-1) = b := by rw [e0, getD_snoc, if_neg (by rw [List.length_append]; show ¬ sl.length + 1 < sl.length + 1; omega), if_pos (by rw [List.length_append]; rfl)]
      rw [e1, e2]
      have h1 := hs a (by simp)
      have h2 := hs b (by simp)
      exact ⟨h1.1, h1.2, Or.inr ⟨h2.1, h2.2, z4.1⟩⟩
  · cases h
theorem exOK_part {neg : Bool} {x y : Ex} {n : Nat} (h1 : exOK C x n sl) (h2 : exOK C y n sl) : exOK C (xPart neg x y) n sl := by
  cases neg
  · exact ⟨fun z => absurd z (by decide), h1, h2⟩
  · exact ⟨fun z => absurd z (by decide), h1, h2⟩
theorem loopW_ok {fac : Nat → Er (Ex × Nat)} {n : Nat} (F : ∀ i r, fac i = .ok r → exOK C r.1 n sl ∧ i < r.2) : ∀ (m : Nat) (s : Ex) (neg : Bool) (q : Ex) (i : Nat) (r : Ex × Nat), exOK C s n sl → exOK C q n sl → loopW T fac m s neg q i = .ok r → exOK C r.1 n sl ∧ i < r.2 := by
  intro m
  induction m with
  | zero => intro s neg q i r _ _ h; cases h
  | succ m ih =>
    intro s neg q i r hs hq h
    obtain ⟨f, h1, h⟩ := xb_ok h
    have z := F _ _ h1
    split at h
    · cases h
    rename_i c
    have hm : exOK C (xMul q f.1) n sl := ⟨fun _ y => c ⟨y.2, y.1⟩, hq, z.1⟩
    split at h
    · have y := ih _ _ _ _ _ hs hm h; exact ⟨y.1, by omega⟩
    split at h
    · have y := ih _ _ _ _ _ (exOK_part hs hm) (show exOK C xOne n sl from trivial) h; exact ⟨y.1, by omega⟩
    split at h
    · have y := ih _ _ _ _ _ (exOK_part hs hm) (show exOK C xOne n sl from trivial) h; exact ⟨y.1, by omega⟩
    · cases h
      exact ⟨exOK_part hs hm, z.2⟩
theorem pSum_ok (g : tkG T) : ∀ (n : Nat) (G : NmL) (sl : List Int) (i : Nat) (r : Ex × Nat), okX C G sl → sl.length + 2 * n ≤ 18 → pSum T C n G sl i = .ok r → exOK C r.1 n sl ∧ i < r.2 := by
  intro n
  induction n with
  | zero =>
    intro G sl i r O hl h
    rw [pSum_eq] at h
    have F : ∀ i r, facR T C 0 G sl i = .ok r → exOK C r.1 0 sl ∧ i < r.2 := fun i r h => facR_ok g (fun m z => absurd z (by omega)) O hl h
    have hz : exOK C xZero 0 sl := ⟨fun z => absurd z (by decide), trivial, trivial⟩
    unfold sumW at h
    split at h
    · have z := loopW_ok F _ _ _ _ _ _ hz (show exOK C xOne 0 sl from trivial) h; exact ⟨z.1, by omega⟩
    · exact loopW_ok F _ _ _ _ _ _ hz (show exOK C xOne 0 sl from trivial) h
  | succ n ih =>
    intro G sl i r O hl h
    rw [pSum_eq] at h
    have F : ∀ i r, facR T C (n + 1) G sl i = .ok r → exOK C r.1 (n + 1) sl ∧ i < r.2 := fun i r h => facR_ok g (fun m z G sl i r O hl h => by cases z; exact ih G sl i r O hl h) O hl h
    have hz : exOK C xZero (n + 1) sl := ⟨fun z => absurd z (by decide), trivial, trivial⟩
    unfold sumW at h
    split at h
    · have z := loopW_ok F _ _ _ _ _ _ hz (show exOK C xOne (n + 1) sl from trivial) h; exact ⟨z.1, by omega⟩
    · exact loopW_ok F _ _ _ _ _ _ hz (show exOK C xOne (n + 1) sl from trivial) h
end EOK
