/-! ONE STEP: switches, fields, arrays, new cells -/
theorem kC_get {ci : Nat} (h : ci < 12) : vwCl[ci]? = some (kC ci) := by
  rcases (show ci = 0 ∨ ci = 1 ∨ ci = 2 ∨ ci = 3 ∨ ci = 4 ∨ ci = 5 ∨ ci = 6 ∨ ci = 7 ∨ ci = 8 ∨ ci = 9 ∨ ci = 10 ∨ ci = 11 by omega) with rfl | rfl | rfl | rfl | rfl | rfl | rfl | rfl | rfl | rfl | rfl | rfl <;> rfl
theorem lay_good (C : String) (T : u_T) (k : Nat) : goodWord (u_lay C T k) = true := by
  unfold u_lay
  split <;> rfl
theorem kC_in0 {ci : Nat} (h : ci < 12) : ∀ w ∈ u_ws (kC ci).1 (kC ci).2.1 (kC ci).2.2, w ∈ lw_tbl := by
  rcases (show ci = 0 ∨ ci = 1 ∨ ci = 2 ∨ ci = 3 ∨ ci = 4 ∨ ci = 5 ∨ ci = 6 ∨ ci = 7 ∨ ci = 8 ∨ ci = 9 ∨ ci = 10 ∨ ci = 11 by omega) with rfl | rfl | rfl | rfl | rfl | rfl | rfl | rfl | rfl | rfl | rfl | rfl
  · exact inX0
  · exact inX1
  · exact inX2
  · exact inX3
  · exact inX4
  · exact inX5
  · exact inX6
  · exact inX7
  · exact inX8
  · exact inX9
  · exact inX10
  · exact inX11
theorem kC_in {ci : Nat} (h : ci < 12) : ∀ w ∈ u_ws (kC ci).1 (kC ci).2.1 (kC ci).2.2, w ∈ gw := fun w hw => gw_of (kC_in0 h w hw) (by
  obtain ⟨k, -, rfl⟩ := List.mem_map.mp hw
  exact lay_good _ _ k)
theorem kC_ty {ci : Nat} (h : ci < 12) : ∀ k, k < (kC ci).2.2 → parseFieldDescriptor ((kC ci).2.1 k).2.2.1 = some (kTy ci k) := by
  rcases (show ci = 0 ∨ ci = 1 ∨ ci = 2 ∨ ci = 3 ∨ ci = 4 ∨ ci = 5 ∨ ci = 6 ∨ ci = 7 ∨ ci = 8 ∨ ci = 9 ∨ ci = 10 ∨ ci = 11 by omega) with rfl | rfl | rfl | rfl | rfl | rfl | rfl | rfl | rfl | rfl | rfl | rfl
  · exact tyX0_ok
  · exact tyX1_ok
  · exact tyX2_ok
  · exact tyX3_ok
  · exact tyX4_ok
  · exact tyX5_ok
  · exact tyX6_ok
  · exact tyX7_ok
  · exact tyX8_ok
  · exact tyX9_ok
  · exact tyX10_ok
  · exact tyX11_ok
theorem kC_nm {ci : Nat} (h : ci < 12) : ∀ a, a < (kC ci).2.2 → ∀ b, b < (kC ci).2.2 → a ≠ b → ((kC ci).2.1 a).2.1 ≠ ((kC ci).2.1 b).2.1 := by
  rcases (show ci = 0 ∨ ci = 1 ∨ ci = 2 ∨ ci = 3 ∨ ci = 4 ∨ ci = 5 ∨ ci = 6 ∨ ci = 7 ∨ ci = 8 ∨ ci = 9 ∨ ci = 10 ∨ ci = 11 by omega) with rfl | rfl | rfl | rfl | rfl | rfl | rfl | rfl | rfl | rfl | rfl | rfl
  · exact nmX0
  · exact nmX1
  · exact nmX2
  · exact nmX3
  · exact nmX4
  · exact nmX5
  · exact nmX6
  · exact nmX7
  · exact nmX8
  · exact nmX9
  · exact nmX10
  · exact nmX11
theorem tg_lt {ci : Nat} (h : ci < 12) : tg ci = ci + 1 := by
  unfold tg
  rw [if_neg (by omega)]
/-! reads behind a write -/
theorem u2_s {α : Type} (f : Nat → Nat → α) (a k : Nat) (x : α) : u2 f a k x a k = x := by simp [u2]
theorem u2_n {α : Type} (f : Nat → Nat → α) {a k b j : Nat} (x : α) (h : ¬ (b = a ∧ j = k)) : u2 f a k x b j = f b j := by unfold u2; rw [if_neg h]
theorem ji_wi (h : AH) (a k : Nat) (x : Int) (b j : Nat) : ji (wi h a k x) b j = if b = a ∧ j = k then x else ji h b j := rfl
theorem jl_wi (h : AH) (a k : Nat) (x : Int) (b j : Nat) : jl (wi h a k x) b j = jl h b j := rfl
theorem jr_wi (h : AH) (a k : Nat) (x : Int) (b j : Nat) : jr (wi h a k x) b j = jr h b j := rfl
theorem jt_wi (h : AH) (a k : Nat) (x : Int) (b : Nat) : jt (wi h a k x) b = jt h b := rfl
theorem jn_wi (h : AH) (a k : Nat) (x : Int) (b : Nat) : jn (wi h a k x) b = jn h b := rfl
theorem jx_wi (h : AH) (a k : Nat) (x : Int) : jx (wi h a k x) = jx h := rfl
theorem ju_wi (h : AH) (a k : Nat) (x : Int) : ju (wi h a k x) = ju h := rfl
theorem ji_wl (h : AH) (a k : Nat) (x : Int) (b j : Nat) : ji (wl h a k x) b j = ji h b j := rfl
theorem jl_wl (h : AH) (a k : Nat) (x : Int) (b j : Nat) : jl (wl h a k x) b j = if b = a ∧ j = k then x else jl h b j := rfl
theorem jr_wl (h : AH) (a k : Nat) (x : Int) (b j : Nat) : jr (wl h a k x) b j = jr h b j := rfl
theorem jt_wl (h : AH) (a k : Nat) (x : Int) (b : Nat) : jt (wl h a k x) b = jt h b := rfl
theorem jn_wl (h : AH) (a k : Nat) (x : Int) (b : Nat) : jn (wl h a k x) b = jn h b := rfl
theorem jx_wl (h : AH) (a k : Nat) (x : Int) : jx (wl h a k x) = jx h := rfl
theorem ju_wl (h : AH) (a k : Nat) (x : Int) : ju (wl h a k x) = ju h := rfl
theorem ji_wr (h : AH) (a k : Nat) (x : Nat) (b j : Nat) : ji (wr h a k x) b j = ji h b j := rfl
theorem jl_wr (h : AH) (a k : Nat) (x : Nat) (b j : Nat) : jl (wr h a k x) b j = jl h b j := rfl
theorem jr_wr (h : AH) (a k : Nat) (x : Nat) (b j : Nat) : jr (wr h a k x) b j = if b = a ∧ j = k then x else jr h b j := rfl
theorem jt_wr (h : AH) (a k : Nat) (x : Nat) (b : Nat) : jt (wr h a k x) b = jt h b := rfl
theorem jn_wr (h : AH) (a k : Nat) (x : Nat) (b : Nat) : jn (wr h a k x) b = jn h b := rfl
theorem jx_wr (h : AH) (a k : Nat) (x : Nat) : jx (wr h a k x) = jx h := rfl
theorem ju_wr (h : AH) (a k : Nat) (x : Nat) : ju (wr h a k x) = ju h := rfl
theorem jt_nw (h : AH) (t n b : Nat) : jt (nw h t n) b = if b = jx h then t else jt h b := rfl
theorem jn_nw (h : AH) (t n b : Nat) : jn (nw h t n) b = if b = jx h then n else jn h b := rfl
theorem ji_nw (h : AH) (t n b j : Nat) : ji (nw h t n) b j = if b = jx h then 0 else ji h b j := rfl
theorem jl_nw (h : AH) (t n b j : Nat) : jl (nw h t n) b j = if b = jx h then 0 else jl h b j := rfl
theorem jr_nw (h : AH) (t n b j : Nat) : jr (nw h t n) b j = if b = jx h then 0 else jr h b j := rfl
theorem jx_nw (h : AH) (t n : Nat) : jx (nw h t n) = jx h + 1 := rfl
theorem ju_nw (h : AH) (t n : Nat) : ju (nw h t n) = ju h + n := rfl
/-- h' is h but for one slot of a -/
def one (h h' : AH) (a k : Nat) : Prop := (∀ b, jt h' b = jt h b ∧ jn h' b = jn h b) ∧ jx h' = jx h ∧ ju h' = ju h ∧ (∀ b j, ¬ (b = a ∧ j = k) → ji h' b j = ji h b j ∧ jl h' b j = jl h b j ∧ jr h' b j = jr h b j) ∧ ∀ j, r32 (ji h' a j) ∧ r64 (jl h' a j)
theorem one.eq {h h' : AH} {a k : Nat} (o : one h h' a k) {b : Nat} (hb : ¬ b = a) : eqat h h' b := ⟨(o.1 b).1, (o.1 b).2, fun j => o.2.2.2.1 b j (fun q => hb q.1)⟩
theorem one.fl {h h' : AH} {a k : Nat} (o : one h h' a k) (ty : FieldType) {j : Nat} (hj : ¬ j = k) : jfl ty h' a j = jfl ty h a j := by
  obtain ⟨e1, e2, e3⟩ := o.2.2.2.1 a j (fun q => hj q.2)
  cases ty <;> simp [jfl, e1, e2, e3]
theorem one_wi {D : jD} {U : State} {H : Heap} {h : AH} (hM : jM D U H h) (a k : Nat) {x : Int} (hx : r32 x) : one h (wi h a k x) a k :=
  ⟨fun _ => ⟨rfl, rfl⟩, rfl, rfl, fun b j hb => ⟨by rw [ji_wi, if_neg hb], rfl, rfl⟩, fun j => ⟨by rw [ji_wi]; split; exact hx; exact (hM.2.2.2.1 a j).1, (hM.2.2.2.1 a j).2⟩⟩
theorem one_wl {D : jD} {U : State} {H : Heap} {h : AH} (hM : jM D U H h) (a k : Nat) {x : Int} (hx : r64 x) : one h (wl h a k x) a k :=
  ⟨fun _ => ⟨rfl, rfl⟩, rfl, rfl, fun b j hb => ⟨rfl, by rw [jl_wl, if_neg hb], rfl⟩, fun j => ⟨(hM.2.2.2.1 a j).1, by rw [jl_wl]; split; exact hx; exact (hM.2.2.2.1 a j).2⟩⟩
theorem one_wr {D : jD} {U : State} {H : Heap} {h : AH} (hM : jM D U H h) (a k : Nat) (x : Nat) : one h (wr h a k x) a k :=
  ⟨fun _ => ⟨rfl, rfl⟩, rfl, rfl, fun b j hb => ⟨rfl, rfl, by rw [jr_wr, if_neg hb]⟩, fun j => hM.2.2.2.1 a j⟩
/-- a field is written -/
theorem jM.putf {D : jD} {U : State} {H H' : Heap} {h h' : AH} {a k ci : Nat} {cell : Cell} {v : Value} (hM : jM D U H h) (hci : ci < 12) (ht : jt h a = ci + 1) (hk : k < (kC ci).2.2) (hap : ∀ x y, x < (kC ci).2.2 → y < (kC ci).2.2 → x ≠ y → D.2.2.2.1 ci x ≠ D.2.2.2.1 ci y) (o : one h h' a k) (hv : v = jV D (jfl (kTy ci k) h' a k))
    (hc : H[jA D a]? = some cell) (e1 : H'[jA D a]? = some (cell.setSlot (D.2.2.2.1 ci k) v)) (e2 : H'.size = H.size) (e3 : ∀ q, q ≠ jA D a → H'[q]? = H[q]?) : jM D U H' h' := by
  have ha : ¬ jt h a = 0 := by omega
  obtain ⟨n1, n2⟩ := hM.new ha (by omega)
  refine hM.upd (fun b => b = a) (fun b hb => o.eq hb) (fun b hb => ?_) (by rw [e2, o.2.1]; exact hM.2.1.1) (Nat.le_of_eq o.2.1.symm) (fun q _ hq => e3 q (hq a rfl))
  subst hb
  refine ⟨n1, ?_, by rw [(o.1 b).1]; omega, by rw [o.2.1]; exact n2, o.2.2.2.2⟩
  have e0 : jt h' b = ci + 1 := by rw [(o.1 b).1]; exact ht
  have e0' : jt h' b - 1 = ci := by omega
  refine ⟨fun _ => ?_, fun t => by omega, fun t => by omega⟩
  obtain ⟨cell2, a1, a2, a3, a4, a5⟩ := (hM.1 b ha).1 (by omega)
  cases hc.symm.trans a1
  have e9 : jt h b - 1 = ci := by omega
  rw [e9] at a2 a5
  rw [e0']
  refine ⟨_, e1, a2, a3, hci, fun j hj => ?_⟩
  rw [t_set a5 hap hk v j hj]
  unfold updV
  split
  · rename_i e
    subst e
    rw [hv]
  · rename_i e
    rw [o.fl _ e]
/-- an element is written -/
theorem jM.puta {D : jD} {U : State} {H H' : Heap} {h h' : AH} {a k n : Nat} {cell : Cell} {v : Value} (hM : jM D U H h) (hn : n < 20) (ht : jt h a = 20 + n) (hk : k < jn h a) (o : one h h' a k) (hv : v = jV D (jfl (aTy n) h' a k))
    (hc : H[jA D a]? = some cell) (e1 : H'[jA D a]? = some (cell.setSlot k v)) (e2 : H'.size = H.size) (e3 : ∀ q, q ≠ jA D a → H'[q]? = H[q]?) : jM D U H' h' := by
  have ha : ¬ jt h a = 0 := by omega
  obtain ⟨n1, n2⟩ := hM.new ha (by omega)
  refine hM.upd (fun b => b = a) (fun b hb => o.eq hb) (fun b hb => ?_) (by rw [e2, o.2.1]; exact hM.2.1.1) (Nat.le_of_eq o.2.1.symm) (fun q _ hq => e3 q (hq a rfl))
  subst hb
  refine ⟨n1, ?_, by rw [(o.1 b).1]; omega, by rw [o.2.1]; exact n2, o.2.2.2.2⟩
  have e0 : jt h' b = 20 + n := by rw [(o.1 b).1]; exact ht
  have e9 : jt h b % 20 = n := by omega
  have e9' : jt h' b % 20 = n := by omega
  refine ⟨fun t => by omega, fun _ _ => ?_, fun t => by omega⟩
  obtain ⟨cell2, a1, a2, a3, a4, a5, a6, a7⟩ := (hM.1 b ha).2.1 (by omega) (by omega)
  cases hc.symm.trans a1
  rw [e9] at a2 a6
  rw [e9', (o.1 b).2]
  refine ⟨_, e1, a2, a3, by rw [k2_slotsz]; exact a4, a5, fun j hj => ?_, fun t => a7 (by omega)⟩
  by_cases e : j = k
  · subst e
    rw [← hv]
    show (cell.slots.setIfInBounds j v)[j]? = _
    rw [Array.getElem?_setIfInBounds_self_of_lt (Nat.lt_of_lt_of_le hj a4.1)]
  · rw [o.fl _ e, slot_ne cell v (fun q => e q.symm)]
    exact a6 j hj
/-- a new cell -/
theorem jM.cell {D : jD} {U : State} {H H' : Heap} {h : AH} {t n : Nat} (hM : jM D U H h) (ht : t < 40) (hc : jC D U H' (nw h t n) (jx h)) (z : H'.size = H.size + 1) (o : ∀ q, q < H.size → H'[q]? = H[q]?) : jM D U H' (nw h t n) := by
  have hx := hM.2.1.2
  refine hM.upd (fun b => b = jx h) (fun b hb => ⟨by rw [jt_nw, if_neg hb], by rw [jn_nw, if_neg hb], fun k => ⟨by rw [ji_nw, if_neg hb], by rw [jl_nw, if_neg hb], by rw [jr_nw, if_neg hb]⟩⟩) (fun b hb => ?_) (by rw [z, hM.2.1.1, jx_nw]; omega) (by rw [jx_nw]; omega) (fun q hq _ => o q hq)
  subst hb
  refine ⟨hx, hc, by rw [jt_nw, if_pos rfl]; exact ht, by rw [jx_nw]; omega, fun k => ⟨?_, ?_⟩⟩
  · rw [ji_nw, if_pos rfl]; unfold r32; omega
  · rw [jl_nw, if_pos rfl]; unfold r64; omega
theorem jM.next {D : jD} {U : State} {H : Heap} {h : AH} (hM : jM D U H h) : jA D (jx h) = H.size := by rw [jA_new hM.2.1.2, hM.2.1.1]
theorem jfl_0 (h : AH) (t n k : Nat) {ty : FieldType} (hf : ty ≠ .float) (hd : ty ≠ .double) (D : jD) : jV D (jfl ty (nw h t n) (jx h) k) = defaultValue ty := by
  cases ty <;> first
    | exact absurd rfl hf
    | exact absurd rfl hd
    | (simp only [jfl, ji_nw, jl_nw, jr_nw, if_pos, jV, defaultValue]; rfl)
theorem kC_nf {ci : Nat} (h : ci < 12) : ∀ k, k < (kC ci).2.2 → kTy ci k ≠ .float ∧ kTy ci k ≠ .double := by
  rcases (show ci = 0 ∨ ci = 1 ∨ ci = 2 ∨ ci = 3 ∨ ci = 4 ∨ ci = 5 ∨ ci = 6 ∨ ci = 7 ∨ ci = 8 ∨ ci = 9 ∨ ci = 10 ∨ ci = 11 by omega) with rfl | rfl | rfl | rfl | rfl | rfl | rfl | rfl | rfl | rfl | rfl | rfl <;> decide +kernel
