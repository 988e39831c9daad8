/-! THE REFERENCE: code of sums, what is declared -/
/-- the acts from lo up to hi are those of x -/
def cR (h : AH) : Ex → Nat → Nat → Prop
  | .leaf, lo, hi => hi = lo + 1 ∧ ji h 160 lo = 1
  | .inner t k _ l r, lo, hi =>
    if t = 0 then hi = lo + 1 ∧ ji h 160 lo = 2 ∧ ji h 161 lo = k.1
    else if t = 1 then hi = lo + 1 ∧ ji h 160 lo = 3 ∧ ji h 161 lo = k.1
    else if t = 2 then hi = lo + 1 ∧ ji h 160 lo = 4 ∧ ji h 161 lo = k.1 ∧ ji h 162 lo = k.2.1 ∧ ji h 163 lo = k.2.2
    else if t = 3 then hi = lo + 1 ∧ ji h 160 lo = 5 ∧ ji h 161 lo = k.1 ∧ ji h 162 lo = k.2.1 ∧ ji h 163 lo = k.2.2
    else if t = 4 then (k.2.1 = -1 ∧ cR h l lo hi) ∨ (¬ k.2.1 = -1 ∧ ∃ m, hi = m + 1 ∧ ji h 160 lo = 9 ∧ ji h 161 lo = k.1 ∧ ji h 162 lo = k.2.1 ∧ ji h 163 lo = k.2.2 ∧ cR h l (lo + 1) m ∧ ji h 160 m = 10 ∧ ji h 161 m = (lo : Int))
    else if t = 5 then ∃ m n, hi = n + 1 ∧ cR h l lo m ∧ cR h r m n ∧ ji h 160 n = 6
    else if t = 6 then hi = lo + 1 ∧ ji h 160 lo = 0
    else ∃ m n, hi = n + 1 ∧ cR h l lo m ∧ cR h r m n ∧ ji h 160 n = (if t = 7 then 7 else 8)
theorem cR_lt {h : AH} : ∀ {x : Ex} {lo hi : Nat}, cR h x lo hi → lo < hi := by
  intro x
  induction x with
  | leaf => intro lo hi hx; have := hx.1; omega
  | inner t k u l r ihl ihr =>
    intro lo hi hx
    unfold cR at hx
    split at hx
    · omega
    split at hx
    · omega
    split at hx
    · omega
    split at hx
    · omega
    split at hx
    · rcases hx with ⟨_, hx⟩ | ⟨_, m, h1, _, _, _, _, hx, _⟩
      · exact ihl hx
      · have := ihl hx; omega
    split at hx
    · obtain ⟨m, n, h1, h2, h3, _⟩ := hx; have := ihl h2; have := ihr h3; omega
    split at hx
    · omega
    · obtain ⟨m, n, h1, h2, h3, _⟩ := hx; have := ihl h2; have := ihr h3; omega
theorem cR_mono {h h' : AH} : ∀ {x : Ex} {lo hi : Nat}, cR h x lo hi → (∀ a k, 160 ≤ a → a ≤ 163 → lo ≤ k → k < hi → ji h' a k = ji h a k) → cR h' x lo hi := by
  intro x
  induction x with
  | leaf => intro lo hi hx hs; exact ⟨hx.1, by rw [hs _ _ (by omega) (by omega) (by omega) (by have := hx.1; omega)]; exact hx.2⟩
  | inner t k u l r ihl ihr =>
    intro lo hi hx hs
    have hlt := cR_lt hx
    unfold cR at hx ⊢
    split
    · rename_i c; rw [if_pos c] at hx; rw [hs 160 lo (by omega) (by omega) (by omega) hlt, hs 161 lo (by omega) (by omega) (by omega) hlt]; exact hx
    rename_i c0; rw [if_neg c0] at hx
    split
    · rename_i c; rw [if_pos c] at hx; rw [hs 160 lo (by omega) (by omega) (by omega) hlt, hs 161 lo (by omega) (by omega) (by omega) hlt]; exact hx
    rename_i c1; rw [if_neg c1] at hx
    split
    · rename_i c; rw [if_pos c] at hx; rw [hs 160 lo (by omega) (by omega) (by omega) hlt, hs 161 lo (by omega) (by omega) (by omega) hlt, hs 162 lo (by omega) (by omega) (by omega) hlt, hs 163 lo (by omega) (by omega) (by omega) hlt]; exact hx
    rename_i c2; rw [if_neg c2] at hx
    split
    · rename_i c; rw [if_pos c] at hx; rw [hs 160 lo (by omega) (by omega) (by omega) hlt, hs 161 lo (by omega) (by omega) (by omega) hlt, hs 162 lo (by omega) (by omega) (by omega) hlt, hs 163 lo (by omega) (by omega) (by omega) hlt]; exact hx
    rename_i c3; rw [if_neg c3] at hx
    split
    · rename_i c; rw [if_pos c] at hx
      rcases hx with ⟨z, hx⟩ | ⟨z, m, h1, h2, h3, h4, h5, hx, h6, h7⟩
      · exact Or.inl ⟨z, ihl hx hs⟩
      · have := cR_lt hx
        exact Or.inr ⟨z, m, h1, by rw [hs 160 lo (by omega) (by omega) (by omega) hlt]; exact h2, by rw [hs 161 lo (by omega) (by omega) (by omega) hlt]; exact h3, by rw [hs 162 lo (by omega) (by omega) (by omega) hlt]; exact h4, by rw [hs 163 lo (by omega) (by omega) (by omega) hlt]; exact h5, ihl hx (fun a k z1 z2 z3 z4 => hs a k z1 z2 (by omega) (by omega)), by rw [hs 160 m (by omega) (by omega) (by omega) (by omega)]; exact h6, by rw [hs 161 m (by omega) (by omega) (by omega) (by omega)]; exact h7⟩
    rename_i c4; rw [if_neg c4] at hx
    split
    · rename_i c; rw [if_pos c] at hx
      obtain ⟨m, n, h1, h2, h3, h4⟩ := hx
      have := cR_lt h2
      have := cR_lt h3
      exact ⟨m, n, h1, ihl h2 (fun a k z1 z2 z3 z4 => hs a k z1 z2 (by omega) (by omega)), ihr h3 (fun a k z1 z2 z3 z4 => hs a k z1 z2 (by omega) (by omega)), by rw [hs 160 n (by omega) (by omega) (by omega) (by omega)]; exact h4⟩
    rename_i c5; rw [if_neg c5] at hx
    split
    · rename_i c; rw [if_pos c] at hx; rw [hs 160 lo (by omega) (by omega) (by omega) hlt]; exact hx
    rename_i c6; rw [if_neg c6] at hx
    obtain ⟨m, n, h1, h2, h3, h4⟩ := hx
    have := cR_lt h2
    have := cR_lt h3
    exact ⟨m, n, h1, ihl h2 (fun a k z1 z2 z3 z4 => hs a k z1 z2 (by omega) (by omega)), ihr h3 (fun a k z1 z2 z3 z4 => hs a k z1 z2 (by omega) (by omega)), by rw [hs 160 n (by omega) (by omega) (by omega) (by omega)]; exact h4⟩
/-- the WORK of a sum -/
def wke (S : List (Int × Int)) : Ex → Int
  | .leaf => 0
  | .inner t k _ l r => if t ≤ 3 then 1 else if t = 4 then 1 + wke S l * (szO S k.2.1 * szO S k.2.2) else wke S l + wke S r
theorem wke_mul (S : List (Int × Int)) (q f : Ex) : wke S (xMul q f) = wke S q + wke S f := rfl
theorem wke_part (S : List (Int × Int)) (neg : Bool) (s q : Ex) : wke S (xPart neg s q) = wke S s + wke S q := by cases neg <;> rfl
def cnt (c : Dc) (s : Nat) : Nat := if s = 0 then (dS c).length else if s = 1 then (dT c).length else if s = 2 then (dX c).length else if s = 3 then (dR c).length else 0
/-- tables without names -/
def RTb (h : AH) (c : Dc) : Prop := (∀ k, k < (dS c).length → ji h 144 k = ((dS c).getD k (0, 0)).1 ∧ ji h 145 k = ((dS c).getD k (0, 0)).2) ∧ (∀ k, k < (dT c).length → ji h 147 (2 * k) = ((dT c).getD k (-1, -1)).1 ∧ ji h 147 (2 * k + 1) = ((dT c).getD k (-1, -1)).2) ∧ (∀ k j : Nat, k < (dT c).length → (j : Int) < szO (dS c) ((dT c).getD k (-1, -1)).1 * szO (dS c) ((dT c).getD k (-1, -1)).2 → ji h 148 (64 * k + j) = (dV c).getD ((stO (dS c) (dT c) k).toNat + j) 0) ∧ (∀ k, k < (dX c).length → ji h 150 (2 * k) = ((dX c).getD k (-1, -1)).1 ∧ ji h 150 (2 * k + 1) = ((dX c).getD k (-1, -1)).2) ∧ (∀ k, k < (dB c).length → ji h 151 k = ((dB c).getD k (0, 0)).1 ∧ ji h 152 k = ((dB c).getD k (0, 0)).2)
/-- rules and goal -/
def RRl (h : AH) (c : Dc) (A : Nat) : Prop := (∀ k, k < (dR c).length → ji h 154 (2 * k) = ((dR c).getD k (-1, -1)).1 ∧ ji h 154 (2 * k + 1) = ((dR c).getD k (-1, -1)).2) ∧ (∀ k, k < (dL c).length → ji h 155 k = ((dL c).getD k zL).1 ∧ jl h 157 k = wke (dS c) ((dL c).getD k zL).2.1 + wke (dS c) ((dL c).getD k zL).2.2 ∧ ∃ a b d : Nat, d ≤ A ∧ ji h 156 (3 * k) = (a : Int) ∧ ji h 156 (3 * k + 1) = (b : Int) ∧ ji h 156 (3 * k + 2) = (d : Int) ∧ cR h ((dL c).getD k zL).2.1 a b ∧ cR h ((dL c).getD k zL).2.2 b d) ∧ ji h 141 26 = dG c ∧ (¬ dG c = 0 → jl h 141 29 = wke (dS c) (dE c) ∧ ∃ a b : Nat, b ≤ A ∧ ji h 141 27 = (a : Int) ∧ ji h 141 28 = (b : Int) ∧ cR h (dE c) a b)
def RDc (h : AH) (c : Dc) (i : Nat) : Prop := NmM h (dN c) (cnt c) ∧ RTb h c ∧ ∃ A : Nat, ji h 141 33 = (A : Int) ∧ A ≤ 4 * i ∧ RRl h c A
abbrev ZP (a k : Nat) : Prop := (a = 141 ∧ 2 ≤ k ∧ k ≤ 52) ∨ (143 ≤ a ∧ a ≤ 171)
def RdP (p : Lpar) (T : Txt) (e : Nat) (h : AH) (R : Er (Dc × Nat)) (h' : AH) : Prop := Ly p h' ∧ Fq ZP h h' ∧ Rs R (fun q => ji h' 141 6 = (q : Int)) (fun r => RtR T e r.2 h' ∧ RDc h' r.1 r.2)
section RDC
variable {p : Lpar} {d : Nat} {h h' h0 h1 g : AH} {T : Txt} {e i k A : Nat} {c : Dc}
theorem RTb.cg (B : RTb h c) (hs : ∀ a k, (a = 144 ∨ a = 145 ∨ a = 147 ∨ a = 148 ∨ a = 150 ∨ a = 151 ∨ a = 152) → ji h' a k = ji h a k) : RTb h' c := by
  obtain ⟨b1, b2, b3, b4, b5⟩ := B
  exact ⟨fun k hk => ⟨(hs _ _ (by omega)).trans (b1 k hk).1, (hs _ _ (by omega)).trans (b1 k hk).2⟩, fun k hk => ⟨(hs _ _ (by omega)).trans (b2 k hk).1, (hs _ _ (by omega)).trans (b2 k hk).2⟩, fun k j hk hj => (hs _ _ (by omega)).trans (b3 k j hk hj), fun k hk => ⟨(hs _ _ (by omega)).trans (b4 k hk).1, (hs _ _ (by omega)).trans (b4 k hk).2⟩, fun k hk => ⟨(hs _ _ (by omega)).trans (b5 k hk).1, (hs _ _ (by omega)).trans (b5 k hk).2⟩⟩
theorem RRl.cg (B : RRl h c A) {A' : Nat} (hA : A ≤ A') (hs : ∀ a k, (a = 154 ∨ a = 155 ∨ a = 156 ∨ (a = 141 ∧ (k = 26 ∨ k = 27 ∨ k = 28)) ∨ (160 ≤ a ∧ a ≤ 163 ∧ k < A)) → ji h' a k = ji h a k) (hl : ∀ a k, (a = 157 ∨ (a = 141 ∧ k = 29)) → jl h' a k = jl h a k) : RRl h' c A' := by
  obtain ⟨b1, b2, b3, b4⟩ := B
  refine ⟨fun k hk => ⟨(hs _ _ (by omega)).trans (b1 k hk).1, (hs _ _ (by omega)).trans (b1 k hk).2⟩, fun k hk => ?_, (hs _ _ (by omega)).trans b3, fun z => ?_⟩
  · obtain ⟨q1, q2, a, b, d, q3, q4, q5, q6, q7, q8⟩ := b2 k hk
    have := cR_lt q7
    have := cR_lt q8
    exact ⟨(hs _ _ (by omega)).trans q1, (hl _ _ (by omega)).trans q2, a, b, d, by omega, (hs _ _ (by omega)).trans q4, (hs _ _ (by omega)).trans q5, (hs _ _ (by omega)).trans q6, cR_mono q7 (fun x y z1 z2 z3 z4 => hs x y (by omega)), cR_mono q8 (fun x y z1 z2 z3 z4 => hs x y (by omega))⟩
  · obtain ⟨q1, a, b, q2, q3, q4, q5⟩ := b4 z
    exact ⟨(hl _ _ (by omega)).trans q1, a, b, by omega, (hs _ _ (by omega)).trans q3, (hs _ _ (by omega)).trans q4, cR_mono q5 (fun x y z1 z2 z3 z4 => hs x y (by omega))⟩
theorem xb_pure {α β : Type} (a : α) (f : α → Er β) : xb (.ok a) f = f a := rfl
theorem xb_err {α β : Type} (q : Nat) (f : α → Er β) : xb (.error q) f = .error q := rfl
variable {α : Type} {r : Er α} {f : α → Nat} {V : α → Prop}
theorem RV.rs (S : RV T e r f V h) : RS T e (xb r fun a => .ok (f a)) h := by
  cases r with
  | error q => exact S
  | ok a => exact S.2
theorem u_120 (hd : 16 ≤ d) (R : RT p T e h) (S : RV T e r f V h) {k : Int} (hk : ¬ (k = 3 ∨ k = 4)) : ∃ v h', jE d 120 [jP 141, jI k] h (some (jI v)) h' ∧ Ly p h' ∧ Fq ZF h h' ∧ Rs (xb r fun a => xb (pTake T k (f a)) fun j => .ok (a, j)) (fun q => v = 0 ∧ ji h' 141 6 = (q : Int)) (fun b => v = 1 ∧ (V b.1 ∧ tkK T (f b.1) = k ∧ (k = 2 → ji h 141 5 = tkV T (f b.1))) ∧ RtR T e b.2 h') := by
  obtain ⟨v, h', hE, L1, F1, q⟩ := t_120 (d := d) hd R S.rs hk
  refine ⟨v, h', hE, L1, F1, ?_⟩
  cases r with
  | error x => exact q
  | ok a =>
    have q : Rs (pTake T k (f a)) _ _ := q
    show Rs (xb (pTake T k (f a)) fun j => .ok (a, j)) _ _
    by_cases c : tkK T (f a) = k
    · rw [take_y c] at q ⊢
      exact ⟨q.1, ⟨S.1, c, fun z => S.2.2.2.2.2.2.1 (c.trans z)⟩, q.2⟩
    · rw [take_n c] at q ⊢; exact q
theorem u_121 (hd : 17 ≤ d) (R : RT p T e h) (S : RV T e r f V h) {c k : Int} (hk : w32 (100 + c) = k) (hk2 : ¬ (k = 3 ∨ k = 4)) : ∃ v h', jE d 121 [jP 141, jI c] h (some (jI v)) h' ∧ Ly p h' ∧ Fq ZF h h' ∧ Rs (xb r fun a => xb (pTake T k (f a)) fun j => .ok (a, j)) (fun q => v = 0 ∧ ji h' 141 6 = (q : Int)) (fun b => v = 1 ∧ V b.1 ∧ RtR T e b.2 h') := by
  obtain ⟨v, h', hE, L1, F1, q⟩ := t_121 (d := d) hd R S.rs hk hk2
  refine ⟨v, h', hE, L1, F1, ?_⟩
  cases r with
  | error x => exact q
  | ok a =>
    have q : Rs (pTake T k (f a)) _ _ := q
    show Rs (xb (pTake T k (f a)) fun j => .ok (a, j)) _ _
    by_cases c : tkK T (f a) = k
    · rw [take_y c] at q ⊢
      exact ⟨q.1, S.1, q.2⟩
    · rw [take_n c] at q ⊢; exact q
theorem rsv {β : Type} {r : Er β} {v : Int} {E : Nat → Prop} {W : β → Prop} (q : Rs r (fun q => v = 0 ∧ E q) (fun b => v = 1 ∧ W b)) : Rs r E W := by
  cases r with
  | error x => exact q.2
  | ok a => exact q.2
/-- a fault may come: cond, then fails(first) -/
theorem RV.fails {P : α → Prop} [DecidablePred P] (S : RV T e r f V h) (hc : ∀ a, r = .ok a → P a) : RV T e (xb r fun a => if P a then .error (tkP T (f a)) else .ok a) f V (wi h 141 6 (if ji h 141 6 = -1 then ji h 141 3 else ji h 141 6)) := by
  cases r with
  | error q =>
    have S : ji h 141 6 = (q : Int) := S
    show ji _ 141 6 = (q : Int)
    rw [ji_wi, if_pos ⟨rfl, rfl⟩, if_neg (by omega)]; exact S
  | ok a =>
    show Rs (if P a then _ else _) _ _
    rw [if_pos (hc a rfl)]
    show ji _ 141 6 = (tkP T (f a) : Int)
    rw [ji_wi, if_pos ⟨rfl, rfl⟩, if_pos S.2.2.2.2.2.2.2]; exact S.2.2.2.1
theorem RV.stays {P : α → Prop} [DecidablePred P] (S : RV T e r f V h) (hc : ∀ a, r = .ok a → ¬ P a) : RV T e (xb r fun a => if P a then .error (tkP T (f a)) else .ok a) f V h := by
  cases r with
  | error q => exact S
  | ok a =>
    show Rs (if P a then _ else _) _ _
    rw [if_neg (hc a rfl)]; exact S
theorem RV.fF (S : RV T e r f V h) (F : Fq ZF h h') (h6 : ji h' 141 6 = ji h 141 6) (hk : ∀ k, 2 ≤ k → k ≤ 5 → ji h' 141 k = ji h 141 k) : RV T e r f V h' := by
  cases r with
  | error q => exact h6.trans S
  | ok a =>
    obtain ⟨v, r1, r2, r3, r4, r5, r6, r7⟩ := S
    exact ⟨v, r1, (hk 2 (by omega) (by omega)).trans r2, (hk 3 (by omega) (by omega)).trans r3, (hk 4 (by omega) (by omega)).trans r4, fun y => (hk 5 (by omega) (by omega)).trans (r5 y), fun y => (hk 5 (by omega) (by omega)).trans (r6 y), h6.trans r7⟩
theorem RDc.fF (D : RDc h c i) (F : Fq ZF h h') : RDc h' c i := by
  obtain ⟨d1, d2, A, d3, d4, d5⟩ := D
  exact ⟨d1.fF F, d2.cg (fun a k z => F.i (by omega)), A, (F.i (by omega)).trans d3, d4, d5.cg (Nat.le_refl _) (fun a k z => F.i (by omega)) (fun a k z => F.l (by omega))⟩
theorem pName_eq {G : NmL} {n m : Nat} (h : n ≤ m) : pName T G n m i = xb (if n = m then .error (tkP T (i + 1)) else .ok (i + 1)) (pNew T G) := by
  unfold pName
  by_cases c : n = m
  · rw [if_pos c, if_neg (by omega)]; rfl
  · rw [if_neg c]
    show _ = pNew T G (i + 1)
    unfold pNew
    by_cases c2 : tkK T (i + 1) = 1 ∧ (lkNm G (tkN T (i + 1))).1 = -1
    · rw [if_pos c2, if_pos ⟨c2.1, by omega, c2.2⟩]
    · rw [if_neg c2, if_neg (fun z => c2 ⟨z.1, z.2.2⟩)]
/-- the names with one more -/
theorem NmM.add {n n' : Nat → Nat} {G : NmL} (M : NmM h G n) {l : List Int} (hl : okN l) (hf : (lkNm G l).1 = -1) {s : Nat} (h1 : s ≤ 4) (h2 : n' s = n s + 1) (h3 : ∀ t, ¬ t = s → n' t = n t) (hb : n' 0 ≤ 6 ∧ n' 1 ≤ 6 ∧ n' 2 ≤ 6 ∧ n' 3 ≤ 10 ∧ n' 4 ≤ 18) (hc : CtM h' n') (hs : ∀ a k, (a = 143 ∨ a = 146 ∨ a = 149 ∨ a = 153 ∨ a = 158) → ¬ (a = nmA s ∧ k = n s) → ji h' a k = ji h a k) (hx : ji h' (nmA s) (n s) = c27 l) : NmM h' (G ++ [(l, (s : Int), ((n s : Nat) : Int))]) n' := by
  obtain ⟨_, M2, m0, m1, m2, m3⟩ := M
  have ar : ∀ t : Int, nmA t = 143 ∨ nmA t = 146 ∨ nmA t = 149 ∨ nmA t = 153 ∨ nmA t = 158 := fun t => by
    unfold nmA
    split; · omega
    split; · omega
    split; · omega
    split <;> omega
  have inj : ∀ t : Int, 0 ≤ t → t ≤ 4 → nmA t = nmA (s : Int) → t = (s : Int) := fun t t0 t1 z => by
    have a1 : t = 0 ∨ t = 1 ∨ t = 2 ∨ t = 3 ∨ t = 4 := by omega
    have a2 : s = 0 ∨ s = 1 ∨ s = 2 ∨ s = 3 ∨ s = 4 := by omega
    rcases a1 with rfl | rfl | rfl | rfl | rfl <;> rcases a2 with rfl | rfl | rfl | rfl | rfl <;> first | rfl | exact absurd z (by decide)
  refine ⟨hc, fun e he => ?_, hb, fun e he => ?_, fun t ht k hk => ?_, ?_⟩
  · rcases List.mem_append.mp he with he | he
    · have q := m1 e he
      rw [hs _ _ (ar _) (fun z => by
        have z1 := inj _ q.2.1 q.2.2.1 z.1
        have z2 := q.2.2.2.2
        rw [z1, Int.toNat_natCast] at z2
        have := z.2
        omega)]
      exact M2 e he
    · rw [List.mem_singleton.mp he]
      show ji h' (nmA (s : Int)) ((n s : Nat) : Int).toNat = c27 l
      rw [Int.toNat_natCast]; exact hx
  · rcases List.mem_append.mp he with he | he
    · obtain ⟨q1, q2, q3, q4, q5⟩ := m1 e he
      refine ⟨q1, q2, q3, q4, ?_⟩
      by_cases z : e.2.1.toNat = s
      · rw [z] at q5 ⊢; omega
      · rw [h3 _ z]; exact q5
    · rw [List.mem_singleton.mp he]
      exact ⟨hl, by show 0 ≤ (s : Int); omega, by show (s : Int) ≤ 4; omega, by show 0 ≤ ((n s : Nat) : Int); omega, by show ((n s : Nat) : Int) < (n' (s : Int).toNat : Int); rw [Int.toNat_natCast, h2]; omega⟩
  · by_cases z : t = s ∧ k = n s
    · exact ⟨_, List.mem_append.mpr (Or.inr (List.mem_singleton.mpr rfl)), by rw [z.1, z.2]⟩
    · obtain ⟨e, he, q⟩ := m2 t ht k (by
        by_cases y : t = s
        · rw [y] at hk z ⊢; omega
        · rw [h3 _ y] at hk; exact hk)
      exact ⟨e, List.mem_append.mpr (Or.inl he), q⟩
  · rw [List.map_append]
    refine List.nodup_append.mpr ⟨m3, by simp, fun a ha b hb => ?_⟩
    obtain ⟨q, hq, rfl⟩ := List.mem_map.mp ha
    have hb := List.mem_singleton.mp hb
    rw [hb]
    exact lkNm_no (fun e he => (m1 e he).2.1) hf q hq
end RDC
