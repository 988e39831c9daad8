/-! THE REFERENCE: sums, what stands -/
def emH (h : AH) (A : Nat) (o a b c : Int) : AH := wi (wi (wi (wi (wi h 160 A o) 161 A a) 162 A b) 163 A c) 141 33 ((A : Int) + 1)
def bI (b : Bool) : Int := if b = true then 1 else 0
theorem bI_r (b : Bool) : bI b = 0 ∨ bI b = 1 := by cases b; exact Or.inl rfl; exact Or.inr rfl
theorem bI_0 (b : Bool) : bI b = 0 ↔ b = false := by cases b <;> decide
section RSM
variable {p : Lpar} {d : Nat} {h h' h0 h1 g : AH} {T : Txt} {e i k A dp lo : Nat} {c : Dc} {G : NmL} {n : Nat → Nat} {sl : List Int} {o a b f : Int}
theorem emH_i {x y : Nat} (z1 : ¬ (160 ≤ x ∧ x ≤ 163 ∧ y = A)) (z2 : ¬ (x = 141 ∧ y = 33)) : ji (emH h A o a b f) x y = ji h x y := by
  unfold emH; rw [ji_wi, if_neg z2, ji_wi, if_neg (by omega), ji_wi, if_neg (by omega), ji_wi, if_neg (by omega), ji_wi, if_neg (by omega)]
theorem emH_33 : ji (emH h A o a b f) 141 33 = (A : Int) + 1 := by unfold emH; rw [ji_wi, if_pos ⟨rfl, rfl⟩]
theorem emH_3 : ji (emH h A o a b f) 163 A = f := by unfold emH; rw [ji_wi, if_neg (by omega), ji_wi, if_pos ⟨rfl, rfl⟩]
theorem emH_2 : ji (emH h A o a b f) 162 A = b := by unfold emH; rw [ji_wi, if_neg (by omega), ji_wi, if_neg (by omega), ji_wi, if_pos ⟨rfl, rfl⟩]
theorem emH_1 : ji (emH h A o a b f) 161 A = a := by unfold emH; rw [ji_wi, if_neg (by omega), ji_wi, if_neg (by omega), ji_wi, if_neg (by omega), ji_wi, if_pos ⟨rfl, rfl⟩]
theorem emH_0 : ji (emH h A o a b f) 160 A = o := by unfold emH; rw [ji_wi, if_neg (by omega), ji_wi, if_neg (by omega), ji_wi, if_neg (by omega), ji_wi, if_neg (by omega), ji_wi, if_pos ⟨rfl, rfl⟩]
theorem emH_l {x y : Nat} : jl (emH h A o a b f) x y = jl h x y := by unfold emH; rw [jl_wi, jl_wi, jl_wi, jl_wi, jl_wi]
abbrev ZE (A : Nat) (a k : Nat) : Prop := (160 ≤ a ∧ a ≤ 163 ∧ k = A) ∨ (a = 141 ∧ k = 33)
theorem emH_F : Fq (ZE A) h (emH h A o a b f) := by
  unfold emH
  exact ((((Fq.wi (by omega)).trans (Fq.wi (by omega))).trans (Fq.wi (by omega))).trans (Fq.wi (by omega))).trans (Fq.wi (by omega))
/-- what a sum, at depth dp, with m indices around, from act lo on, may change -/
abbrev ZV (dp m lo : Nat) (a k : Nat) : Prop := (a = 141 ∧ ((2 ≤ k ∧ k ≤ 6) ∨ k = 30 ∨ k = 33 ∨ k = 38 ∨ (47 ≤ k ∧ k ≤ 52))) ∨ ((a = 158 ∨ a = 159) ∧ m ≤ k) ∨ (160 ≤ a ∧ a ≤ 163 ∧ lo ≤ k) ∨ (164 ≤ a ∧ a ≤ 171 ∧ dp ≤ k)
def SmC (p : Lpar) (T : Txt) (e : Nat) (c : Dc) (G : NmL) (n : Nat → Nat) (sl : List Int) (dp : Nat) (h : AH) : Prop := RT p T e h ∧ SxM h G n sl ∧ RTb h c ∧ ji h 141 38 = (dp : Int)
theorem RT.fV {m : Nat} (R : RT p T e h) (f : Fq (ZV dp m lo) h h') : RT p T e h' := R.fq f (fun a k z => by omega) (by omega) (fun k => by omega)
theorem RTb.fV {m : Nat} (R : RTb h c) (f : Fq (ZV dp m lo) h h') : RTb h' c := R.cg (fun a k z => f.i (by omega))
theorem Fq.vP {m : Nat} (f : Fq (ZV dp m lo) h h') : Fq ZP h h' := f.mono (fun a k z => by omega)
/-- a frame that leaves tokens, names and depth -/
theorem SmC.fq {Z : Nat → Nat → Prop} (S : SmC p T e c G n sl dp h) (f : Fq Z h h') (z0 : ∀ a k, Z a k → 141 ≤ a) (z1 : ∀ k, (k = 1 ∨ k = 7 ∨ k = 11 ∨ k = 15 ∨ k = 20 ∨ k = 30 ∨ k = 38) → ¬ Z 141 k) (z2 : ∀ a k, (a = 142 ∨ (143 ≤ a ∧ a ≤ 153) ∨ a = 158 ∨ a = 159) → ¬ Z a k) : SmC p T e c G n sl dp h' := by
  obtain ⟨s1, s2, s3, s4⟩ := S
  exact ⟨s1.fq f (fun a k z => by have := z0 a k z; omega) (z1 1 (by omega)) (fun k => z2 142 k (by omega)), s2.fq f (fun k z => z1 k (by omega)) (fun a k z => z2 a k (by omega)), s3.cg (fun a k z => f.i (z2 a k (by omega))), (f.i (z1 38 (by omega))).trans s4⟩
def LvB (p : Lpar) (T : Txt) (e : Nat) (c : Dc) (G : NmL) (n : Nat → Nat) (sl : List Int) (dp lo i A : Nat) (h : AH) (s : Ex) (neg : Bool) (q : Ex) : Prop := SmC p T e c G n sl dp h ∧ RtR T e i h ∧ ji h 141 33 = (A : Int) ∧ A + 2 ≤ 4 * i ∧ (∃ m, cR h s lo m ∧ cR h q m A) ∧ ji h 141 47 = (if neg = true then -1 else 1) ∧ ji h 141 48 = bI (hv q) ∧ ji h 141 49 = bI (hv s) ∧ jl h 141 52 = w64 (wke (dS c) s + wke (dS c) q)
/-- behind a factor that began at token i0 -/
def LvD (p : Lpar) (T : Txt) (e : Nat) (c : Dc) (G : NmL) (n : Nat → Nat) (sl : List Int) (dp lo i0 i A : Nat) (h : AH) (s : Ex) (neg : Bool) (q f : Ex) : Prop := SmC p T e c G n sl dp h ∧ RtR T e i h ∧ ji h 141 33 = (A : Int) ∧ A + 5 ≤ 4 * i ∧ (∃ m m2, cR h s lo m ∧ cR h q m m2 ∧ cR h f m2 A) ∧ ji h 141 47 = (if neg = true then -1 else 1) ∧ ji h 141 48 = bI (hv q) ∧ ji h 141 49 = bI (hv s) ∧ jl h 141 52 = w64 (wke (dS c) s + wke (dS c) q + wke (dS c) f) ∧ ji h 141 51 = bI (hv f) ∧ ji h 141 50 = (tkP T i0 : Int)
theorem w64_a (x y : Int) : w64 (w64 x + y) = w64 (x + y) := by unfold w64; omega
theorem e4i (R : RT p T e h) (K : RtR T e i h) : i ≤ 400 := Nat.le_trans K.1 R.2.2.2.1
/-- beginPart -/
theorem m_138 (hd : 1 ≤ d) (L : Ly p h) (hA : ji h 141 33 = (A : Int)) (hb : A < 2000) : jE d 138 [jP 141] h none (wi (emH h A 1 0 0 0) 141 48 0) := by
  obtain ⟨d, rfl⟩ := Nat.exists_eq_add_of_le' hd
  sorry
end RSM
