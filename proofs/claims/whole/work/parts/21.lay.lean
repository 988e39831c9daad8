-- needs: 20.num
/-! THE FIXED CELLS -/
abbrev NF : Nat := 197
def layT : List Nat := [11, 1, 22, 1, 22, 10, 20, 20, 20, 2, 5, 20, 20, 20, 8, 20, 20, 20, 20, 20, 20, 25, 25, 9, 20, 20, 20, 9, 20, 20, 20, 9, 20, 20, 20, 2, 5, 20, 20, 20, 8, 20, 20, 20, 20, 20, 20, 25, 25, 9, 20, 20, 20, 9, 20, 20, 20, 9, 20, 20, 20, 7, 20, 4, 26, 21, 21, 21, 21, 21, 21, 21, 21, 21, 21, 21, 21, 21, 21, 21, 21, 21, 21, 21, 21, 21, 21, 21, 21, 21, 21, 21, 21, 21, 21, 21, 21, 21, 21, 21, 21, 21, 21, 21, 21, 21, 21, 20, 20, 12, 20, 20, 20, 20, 20, 20, 20, 20, 20, 20, 20, 20, 20, 20, 20, 21, 20, 20, 20, 20, 20, 20, 23, 20, 23, 23, 20, 21, 20, 20, 21, 20, 20, 20, 20, 20, 20, 20, 20, 20, 20, 20, 20, 20, 20, 20, 20, 20, 20, 20, 20, 21, 21, 20, 20]
def layN : List Nat := [7, 2, 400, 2, 1551, 6, 401, 401, 401, 15, 4, 46, 46, 46, 3, 6, 6, 400, 6, 6, 10, 10, 10, 6, 6, 6, 6, 6, 6, 6, 6, 6, 10, 10, 10, 15, 4, 46, 46, 46, 3, 6, 6, 400, 6, 6, 10, 10, 10, 6, 6, 6, 6, 6, 6, 6, 6, 6, 10, 10, 10, 8, 18, 9, 40, 40, 40, 40, 40, 40, 40, 40, 40, 40, 40, 40, 40, 40, 40, 40, 40, 40, 40, 40, 40, 40, 40, 40, 40, 40, 40, 40, 40, 40, 40, 40, 40, 40, 40, 40, 40, 40, 40, 40, 40, 40, 40, 40, 18, 84, 400, 6, 6, 6, 6, 12, 384, 6, 12, 6, 6, 10, 20, 10, 30, 10, 20, 20, 2000, 2000, 2000, 2000, 9, 9, 9, 9, 9, 9, 9, 9, 1640, 20, 7, 4, 40, 6, 6, 12, 384, 12, 7, 40, 40, 40, 40, 40, 40, 40, 40, 40, 40, 1640, 41, 2400, 20]
def refL : List (Nat × Nat × Nat) := [(32, 0, 33), (32, 1, 35), (32, 2, 37), (32, 3, 93), (32, 4, 95), (33, 0, 34), (35, 0, 36), (37, 0, 38), (37, 1, 39), (37, 2, 40), (41, 0, 42), (41, 1, 46), (41, 2, 55), (41, 3, 59), (41, 4, 63), (41, 5, 49), (41, 7, 50), (41, 8, 51), (41, 9, 52), (41, 10, 53), (41, 11, 54), (42, 0, 43), (42, 1, 44), (42, 2, 45), (46, 0, 47), (46, 1, 48), (55, 0, 46), (55, 1, 56), (55, 2, 57), (55, 3, 58), (59, 0, 46), (59, 1, 60), (59, 2, 61), (59, 3, 62), (63, 0, 46), (63, 1, 64), (63, 2, 65), (63, 3, 66), (67, 0, 68), (67, 1, 72), (67, 2, 81), (67, 3, 85), (67, 4, 89), (67, 5, 75), (67, 7, 76), (67, 8, 77), (67, 9, 78), (67, 10, 79), (67, 11, 80), (68, 0, 69), (68, 1, 70), (68, 2, 71), (72, 0, 73), (72, 1, 74), (81, 0, 72), (81, 1, 82), (81, 2, 83), (81, 3, 84), (85, 0, 72), (85, 1, 86), (85, 2, 87), (85, 3, 88), (89, 0, 72), (89, 1, 90), (89, 2, 91), (89, 3, 92), (93, 0, 37), (93, 5, 94), (95, 1, 96), (95, 2, 137), (95, 3, 138), (95, 5, 139), (95, 6, 140), (141, 0, 142), (141, 8, 143), (141, 9, 144), (141, 10, 145), (141, 12, 146), (141, 13, 147), (141, 14, 148), (141, 16, 149), (141, 17, 150), (141, 18, 151), (141, 19, 152), (141, 21, 153), (141, 22, 154), (141, 23, 155), (141, 24, 156), (141, 25, 157), (141, 31, 158), (141, 32, 159), (141, 34, 160), (141, 35, 161), (141, 36, 162), (141, 37, 163), (141, 39, 164), (141, 40, 165), (141, 41, 166), (141, 42, 167), (141, 43, 168), (141, 44, 169), (141, 45, 170), (141, 46, 171), (141, 53, 172), (141, 55, 173), (141, 56, 174), (141, 57, 175), (141, 58, 176), (141, 59, 177), (141, 60, 178), (141, 61, 179), (141, 62, 180), (141, 63, 181), (141, 64, 182), (141, 66, 183), (141, 67, 184), (141, 68, 185), (141, 69, 186), (141, 70, 187), (141, 71, 188), (141, 73, 189), (141, 74, 190), (141, 75, 191), (141, 76, 192), (141, 77, 193), (141, 79, 194), (141, 82, 195), (141, 83, 196)]
def isD (D : Nat) : Prop := D = 41 ∨ D = 67
/-- reader.to, model.of, declared, spare, the script's length, the script -/
abbrev Lpar : Type := Nat × Nat × Nat × Nat × Nat × (Nat → Int)
abbrev pT (p : Lpar) : Nat := p.1
abbrev pM (p : Lpar) : Nat := p.2.1
abbrev pD (p : Lpar) : Nat := p.2.2.1
abbrev pS (p : Lpar) : Nat := p.2.2.2.1
abbrev pL (p : Lpar) : Nat := p.2.2.2.2.1
abbrev pX (p : Lpar) : Nat → Int := p.2.2.2.2.2
/-- old cells -/
def Old (n : Nat) (xs : Nat → Int) (h : AH) : Prop := ∀ a, a < 32 → jt h a = jt (hI n xs) a ∧ jn h a = jn (hI n xs) a ∧ ∀ k, ji h a k = ji (hI n xs) a k ∧ jr h a k = jr (hI n xs) a k
def Ly (p : Lpar) (h : AH) : Prop := (∀ k, k < 165 → jt h (k + 32) = layT.getD k 0 ∧ jn h (k + 32) = layN.getD k 0) ∧ (∀ e ∈ refL, jr h e.1 e.2.1 = e.2.2) ∧ (∀ k, k < 40 → jr h 96 k = 97 + k) ∧ NF ≤ jx h ∧ (isD (pT p) ∧ isD (pM p) ∧ isD (pD p) ∧ isD (pS p)) ∧ (jr h 93 1 = pT p ∧ jr h 95 0 = pM p ∧ jr h 32 5 = pD p ∧ jr h 32 6 = pS p) ∧ Old (pL p) (pX p) h
def mutR (a k : Nat) : Prop := NF ≤ a ∨ (a = 53 ∨ a = 54 ∨ a = 79 ∨ a = 80) ∨ (a = 41 ∧ k = 13) ∨ (a = 67 ∧ k = 13) ∨ (a = 95 ∧ k = 7)
theorem refL_ok : ∀ e ∈ refL, 32 ≤ e.1 ∧ e.1 < NF ∧ ¬ (e.1 = 53 ∨ e.1 = 54 ∨ e.1 = 79 ∨ e.1 = 80) ∧ ¬ (e.1 = 41 ∧ e.2.1 = 13) ∧ ¬ (e.1 = 67 ∧ e.2.1 = 13) ∧ ¬ (e.1 = 95 ∧ e.2.1 = 7) := by decide +kernel
section LYS
variable {p : Lpar} {h h' : AH}
/-- a heap that keeps tags, lengths, the constant references and the old cells -/
theorem Ly.keep (L : Ly p h) (ht : ∀ a, a < NF → jt h' a = jt h a ∧ jn h' a = jn h a) (hr : ∀ a k, a < NF → ¬ mutR a k → jr h' a k = jr h a k) (hi : ∀ a k, a < 32 → ji h' a k = ji h a k) (hx : jx h ≤ jx h') : Ly p h' := by
  obtain ⟨l1, l2, l3, l4, l5, ⟨l6, l7, l8, l9⟩, l10⟩ := L
  have n : ∀ a k : Nat, a < NF → ¬ (a = 53 ∨ a = 54 ∨ a = 79 ∨ a = 80) → ¬ (a = 41 ∧ k = 13) → ¬ (a = 67 ∧ k = 13) → ¬ (a = 95 ∧ k = 7) → ¬ mutR a k := by
    intro a k h1 h2 h3 h4 h5 h6
    unfold mutR at h6
    omega
  refine ⟨fun k hk => ?_, fun e he => ?_, fun k hk => ?_, by omega, l5, ⟨?_, ?_, ?_, ?_⟩, fun a ha => ?_⟩
  · obtain ⟨q1, q2⟩ := ht (k + 32) (by show _ < 197; omega)
    rw [q1, q2]; exact l1 k hk
  · obtain ⟨q1, q2, q3, q4, q5, q6⟩ := refL_ok e he
    rw [hr _ _ q2 (n _ _ q2 q3 q4 q5 q6)]; exact l2 e he
  · rw [hr 96 k (by decide) (n _ _ (by decide) (by omega) (by omega) (by omega) (by omega))]; exact l3 k hk
  · rw [hr 93 1 (by decide) (n _ _ (by decide) (by omega) (by omega) (by omega) (by omega))]; exact l6
  · rw [hr 95 0 (by decide) (n _ _ (by decide) (by omega) (by omega) (by omega) (by omega))]; exact l7
  · rw [hr 32 5 (by decide) (n _ _ (by decide) (by omega) (by omega) (by omega) (by omega))]; exact l8
  · rw [hr 32 6 (by decide) (n _ _ (by decide) (by omega) (by omega) (by omega) (by omega))]; exact l9
  · obtain ⟨q1, q2⟩ := ht a (by show _ < 197; omega)
    obtain ⟨q3, q4, q5⟩ := l10 a ha
    refine ⟨q1.trans q3, q2.trans q4, fun k => ⟨(hi a k ha).trans (q5 k).1, ?_⟩⟩
    rw [hr a k (by show _ < 197; omega) (n _ _ (by show _ < 197; omega) (by omega) (by omega) (by omega) (by omega))]
    exact (q5 k).2
theorem Ly.wi (L : Ly p h) {a k : Nat} {x : Int} (ha : 32 ≤ a) : Ly p (wi h a k x) := L.keep (fun _ _ => ⟨rfl, rfl⟩) (fun _ _ _ _ => rfl) (fun b j hb => by rw [ji_wi, if_neg (by omega)]) (Nat.le_refl _)
theorem Ly.wl (L : Ly p h) {a k : Nat} {x : Int} : Ly p (wl h a k x) := L.keep (fun _ _ => ⟨rfl, rfl⟩) (fun _ _ _ _ => rfl) (fun b j hb => rfl) (Nat.le_refl _)
theorem Ly.wr (L : Ly p h) {a k b : Nat} (hm : mutR a k) : Ly p (wr h a k b) := L.keep (fun _ _ => ⟨rfl, rfl⟩) (fun c j _ hn => by
    rw [jr_wr, if_neg]
    rintro ⟨rfl, rfl⟩
    exact hn hm) (fun b j hb => rfl) (Nat.le_refl _)
theorem Ly.nx (L : Ly p h) : NF ≤ jx h := L.2.2.2.1
theorem Ly.nw (L : Ly p h) {t n : Nat} : Ly p (nw h t n) := by
  have hx := L.nx
  have h32 : 32 < NF := by decide
  exact L.keep (fun a ha => ⟨by rw [jt_nw, if_neg (by omega)], by rw [jn_nw, if_neg (by omega)]⟩) (fun a k ha _ => by rw [jr_nw, if_neg (by omega)]) (fun b j hb => by rw [ji_nw, if_neg (by omega)]) (by rw [jx_nw]; omega)
theorem Ly.iT (L : Ly p h) : isD (pT p) := L.2.2.2.2.1.1
theorem Ly.iM (L : Ly p h) : isD (pM p) := L.2.2.2.2.1.2.1
theorem Ly.iD (L : Ly p h) : isD (pD p) := L.2.2.2.2.1.2.2.1
theorem Ly.iS (L : Ly p h) : isD (pS p) := L.2.2.2.2.1.2.2.2
theorem Ly.r93_1 (L : Ly p h) : jr h 93 1 = pT p := L.2.2.2.2.2.1.1
theorem Ly.r95_0 (L : Ly p h) : jr h 95 0 = pM p := L.2.2.2.2.2.1.2.1
theorem Ly.r32_5 (L : Ly p h) : jr h 32 5 = pD p := L.2.2.2.2.2.1.2.2.1
theorem Ly.r32_6 (L : Ly p h) : jr h 32 6 = pS p := L.2.2.2.2.2.1.2.2.2
theorem Ly.row (L : Ly p h) {k : Nat} (hk : k < 40) : jr h 96 k = 97 + k := L.2.2.1 k hk
theorem Ly.tn (L : Ly p h) (k : Nat) (hk : k < 165) : jt h (k + 32) = layT.getD k 0 ∧ jn h (k + 32) = layN.getD k 0 := L.1 k hk
theorem Ly.rf (L : Ly p h) (i : Nat) (e : Nat × Nat × Nat) (he : refL[i]? = some e) : jr h e.1 e.2.1 = e.2.2 := L.2.1 e (List.mem_of_getElem? he)
theorem Ly.t32 (L : Ly p h) : jt h 32 = 11 := (L.tn 0 (by decide)).1
theorem Ly.t33 (L : Ly p h) : jt h 33 = 1 := (L.tn 1 (by decide)).1
theorem Ly.t34 (L : Ly p h) : jt h 34 = 22 := (L.tn 2 (by decide)).1
theorem Ly.n34 (L : Ly p h) : jn h 34 = 400 := (L.tn 2 (by decide)).2
theorem Ly.t35 (L : Ly p h) : jt h 35 = 1 := (L.tn 3 (by decide)).1
theorem Ly.t36 (L : Ly p h) : jt h 36 = 22 := (L.tn 4 (by decide)).1
theorem Ly.n36 (L : Ly p h) : jn h 36 = 1551 := (L.tn 4 (by decide)).2
theorem Ly.t37 (L : Ly p h) : jt h 37 = 10 := (L.tn 5 (by decide)).1
theorem Ly.t38 (L : Ly p h) : jt h 38 = 20 := (L.tn 6 (by decide)).1
theorem Ly.n38 (L : Ly p h) : jn h 38 = 401 := (L.tn 6 (by decide)).2
theorem Ly.t39 (L : Ly p h) : jt h 39 = 20 := (L.tn 7 (by decide)).1
theorem Ly.n39 (L : Ly p h) : jn h 39 = 401 := (L.tn 7 (by decide)).2
theorem Ly.t40 (L : Ly p h) : jt h 40 = 20 := (L.tn 8 (by decide)).1
theorem Ly.n40 (L : Ly p h) : jn h 40 = 401 := (L.tn 8 (by decide)).2
theorem Ly.t41 (L : Ly p h) : jt h 41 = 2 := (L.tn 9 (by decide)).1
theorem Ly.t42 (L : Ly p h) : jt h 42 = 5 := (L.tn 10 (by decide)).1
theorem Ly.t43 (L : Ly p h) : jt h 43 = 20 := (L.tn 11 (by decide)).1
theorem Ly.n43 (L : Ly p h) : jn h 43 = 46 := (L.tn 11 (by decide)).2
theorem Ly.t44 (L : Ly p h) : jt h 44 = 20 := (L.tn 12 (by decide)).1
theorem Ly.n44 (L : Ly p h) : jn h 44 = 46 := (L.tn 12 (by decide)).2
theorem Ly.t45 (L : Ly p h) : jt h 45 = 20 := (L.tn 13 (by decide)).1
theorem Ly.n45 (L : Ly p h) : jn h 45 = 46 := (L.tn 13 (by decide)).2
theorem Ly.t46 (L : Ly p h) : jt h 46 = 8 := (L.tn 14 (by decide)).1
theorem Ly.t47 (L : Ly p h) : jt h 47 = 20 := (L.tn 15 (by decide)).1
theorem Ly.n47 (L : Ly p h) : jn h 47 = 6 := (L.tn 15 (by decide)).2
theorem Ly.t48 (L : Ly p h) : jt h 48 = 20 := (L.tn 16 (by decide)).1
theorem Ly.n48 (L : Ly p h) : jn h 48 = 6 := (L.tn 16 (by decide)).2
theorem Ly.t49 (L : Ly p h) : jt h 49 = 20 := (L.tn 17 (by decide)).1
theorem Ly.n49 (L : Ly p h) : jn h 49 = 400 := (L.tn 17 (by decide)).2
theorem Ly.t50 (L : Ly p h) : jt h 50 = 20 := (L.tn 18 (by decide)).1
theorem Ly.n50 (L : Ly p h) : jn h 50 = 6 := (L.tn 18 (by decide)).2
theorem Ly.t51 (L : Ly p h) : jt h 51 = 20 := (L.tn 19 (by decide)).1
theorem Ly.n51 (L : Ly p h) : jn h 51 = 6 := (L.tn 19 (by decide)).2
theorem Ly.t52 (L : Ly p h) : jt h 52 = 20 := (L.tn 20 (by decide)).1
theorem Ly.n52 (L : Ly p h) : jn h 52 = 10 := (L.tn 20 (by decide)).2
theorem Ly.t53 (L : Ly p h) : jt h 53 = 25 := (L.tn 21 (by decide)).1
theorem Ly.n53 (L : Ly p h) : jn h 53 = 10 := (L.tn 21 (by decide)).2
theorem Ly.t54 (L : Ly p h) : jt h 54 = 25 := (L.tn 22 (by decide)).1
theorem Ly.n54 (L : Ly p h) : jn h 54 = 10 := (L.tn 22 (by decide)).2
theorem Ly.t55 (L : Ly p h) : jt h 55 = 9 := (L.tn 23 (by decide)).1
theorem Ly.t56 (L : Ly p h) : jt h 56 = 20 := (L.tn 24 (by decide)).1
theorem Ly.n56 (L : Ly p h) : jn h 56 = 6 := (L.tn 24 (by decide)).2
theorem Ly.t57 (L : Ly p h) : jt h 57 = 20 := (L.tn 25 (by decide)).1
theorem Ly.n57 (L : Ly p h) : jn h 57 = 6 := (L.tn 25 (by decide)).2
theorem Ly.t58 (L : Ly p h) : jt h 58 = 20 := (L.tn 26 (by decide)).1
theorem Ly.n58 (L : Ly p h) : jn h 58 = 6 := (L.tn 26 (by decide)).2
theorem Ly.t59 (L : Ly p h) : jt h 59 = 9 := (L.tn 27 (by decide)).1
theorem Ly.t60 (L : Ly p h) : jt h 60 = 20 := (L.tn 28 (by decide)).1
theorem Ly.n60 (L : Ly p h) : jn h 60 = 6 := (L.tn 28 (by decide)).2
theorem Ly.t61 (L : Ly p h) : jt h 61 = 20 := (L.tn 29 (by decide)).1
theorem Ly.n61 (L : Ly p h) : jn h 61 = 6 := (L.tn 29 (by decide)).2
theorem Ly.t62 (L : Ly p h) : jt h 62 = 20 := (L.tn 30 (by decide)).1
theorem Ly.n62 (L : Ly p h) : jn h 62 = 6 := (L.tn 30 (by decide)).2
theorem Ly.t63 (L : Ly p h) : jt h 63 = 9 := (L.tn 31 (by decide)).1
theorem Ly.t64 (L : Ly p h) : jt h 64 = 20 := (L.tn 32 (by decide)).1
theorem Ly.n64 (L : Ly p h) : jn h 64 = 10 := (L.tn 32 (by decide)).2
theorem Ly.t65 (L : Ly p h) : jt h 65 = 20 := (L.tn 33 (by decide)).1
theorem Ly.n65 (L : Ly p h) : jn h 65 = 10 := (L.tn 33 (by decide)).2
theorem Ly.t66 (L : Ly p h) : jt h 66 = 20 := (L.tn 34 (by decide)).1
theorem Ly.n66 (L : Ly p h) : jn h 66 = 10 := (L.tn 34 (by decide)).2
theorem Ly.t67 (L : Ly p h) : jt h 67 = 2 := (L.tn 35 (by decide)).1
theorem Ly.t68 (L : Ly p h) : jt h 68 = 5 := (L.tn 36 (by decide)).1
theorem Ly.t69 (L : Ly p h) : jt h 69 = 20 := (L.tn 37 (by decide)).1
theorem Ly.n69 (L : Ly p h) : jn h 69 = 46 := (L.tn 37 (by decide)).2
theorem Ly.t70 (L : Ly p h) : jt h 70 = 20 := (L.tn 38 (by decide)).1
theorem Ly.n70 (L : Ly p h) : jn h 70 = 46 := (L.tn 38 (by decide)).2
theorem Ly.t71 (L : Ly p h) : jt h 71 = 20 := (L.tn 39 (by decide)).1
theorem Ly.n71 (L : Ly p h) : jn h 71 = 46 := (L.tn 39 (by decide)).2
theorem Ly.t72 (L : Ly p h) : jt h 72 = 8 := (L.tn 40 (by decide)).1
theorem Ly.t73 (L : Ly p h) : jt h 73 = 20 := (L.tn 41 (by decide)).1
theorem Ly.n73 (L : Ly p h) : jn h 73 = 6 := (L.tn 41 (by decide)).2
theorem Ly.t74 (L : Ly p h) : jt h 74 = 20 := (L.tn 42 (by decide)).1
theorem Ly.n74 (L : Ly p h) : jn h 74 = 6 := (L.tn 42 (by decide)).2
theorem Ly.t75 (L : Ly p h) : jt h 75 = 20 := (L.tn 43 (by decide)).1
theorem Ly.n75 (L : Ly p h) : jn h 75 = 400 := (L.tn 43 (by decide)).2
theorem Ly.t76 (L : Ly p h) : jt h 76 = 20 := (L.tn 44 (by decide)).1
theorem Ly.n76 (L : Ly p h) : jn h 76 = 6 := (L.tn 44 (by decide)).2
theorem Ly.t77 (L : Ly p h) : jt h 77 = 20 := (L.tn 45 (by decide)).1
theorem Ly.n77 (L : Ly p h) : jn h 77 = 6 := (L.tn 45 (by decide)).2
theorem Ly.t78 (L : Ly p h) : jt h 78 = 20 := (L.tn 46 (by decide)).1
theorem Ly.n78 (L : Ly p h) : jn h 78 = 10 := (L.tn 46 (by decide)).2
theorem Ly.t79 (L : Ly p h) : jt h 79 = 25 := (L.tn 47 (by decide)).1
theorem Ly.n79 (L : Ly p h) : jn h 79 = 10 := (L.tn 47 (by decide)).2
theorem Ly.t80 (L : Ly p h) : jt h 80 = 25 := (L.tn 48 (by decide)).1
theorem Ly.n80 (L : Ly p h) : jn h 80 = 10 := (L.tn 48 (by decide)).2
theorem Ly.t81 (L : Ly p h) : jt h 81 = 9 := (L.tn 49 (by decide)).1
theorem Ly.t82 (L : Ly p h) : jt h 82 = 20 := (L.tn 50 (by decide)).1
theorem Ly.n82 (L : Ly p h) : jn h 82 = 6 := (L.tn 50 (by decide)).2
theorem Ly.t83 (L : Ly p h) : jt h 83 = 20 := (L.tn 51 (by decide)).1
theorem Ly.n83 (L : Ly p h) : jn h 83 = 6 := (L.tn 51 (by decide)).2
theorem Ly.t84 (L : Ly p h) : jt h 84 = 20 := (L.tn 52 (by decide)).1
theorem Ly.n84 (L : Ly p h) : jn h 84 = 6 := (L.tn 52 (by decide)).2
theorem Ly.t85 (L : Ly p h) : jt h 85 = 9 := (L.tn 53 (by decide)).1
theorem Ly.t86 (L : Ly p h) : jt h 86 = 20 := (L.tn 54 (by decide)).1
theorem Ly.n86 (L : Ly p h) : jn h 86 = 6 := (L.tn 54 (by decide)).2
theorem Ly.t87 (L : Ly p h) : jt h 87 = 20 := (L.tn 55 (by decide)).1
theorem Ly.n87 (L : Ly p h) : jn h 87 = 6 := (L.tn 55 (by decide)).2
theorem Ly.t88 (L : Ly p h) : jt h 88 = 20 := (L.tn 56 (by decide)).1
theorem Ly.n88 (L : Ly p h) : jn h 88 = 6 := (L.tn 56 (by decide)).2
theorem Ly.t89 (L : Ly p h) : jt h 89 = 9 := (L.tn 57 (by decide)).1
theorem Ly.t90 (L : Ly p h) : jt h 90 = 20 := (L.tn 58 (by decide)).1
theorem Ly.n90 (L : Ly p h) : jn h 90 = 10 := (L.tn 58 (by decide)).2
theorem Ly.t91 (L : Ly p h) : jt h 91 = 20 := (L.tn 59 (by decide)).1
theorem Ly.n91 (L : Ly p h) : jn h 91 = 10 := (L.tn 59 (by decide)).2
theorem Ly.t92 (L : Ly p h) : jt h 92 = 20 := (L.tn 60 (by decide)).1
theorem Ly.n92 (L : Ly p h) : jn h 92 = 10 := (L.tn 60 (by decide)).2
theorem Ly.t93 (L : Ly p h) : jt h 93 = 7 := (L.tn 61 (by decide)).1
theorem Ly.t94 (L : Ly p h) : jt h 94 = 20 := (L.tn 62 (by decide)).1
theorem Ly.n94 (L : Ly p h) : jn h 94 = 18 := (L.tn 62 (by decide)).2
theorem Ly.t95 (L : Ly p h) : jt h 95 = 4 := (L.tn 63 (by decide)).1
theorem Ly.t96 (L : Ly p h) : jt h 96 = 26 := (L.tn 64 (by decide)).1
theorem Ly.n96 (L : Ly p h) : jn h 96 = 40 := (L.tn 64 (by decide)).2
theorem Ly.t97 (L : Ly p h) : jt h 97 = 21 := (L.tn 65 (by decide)).1
theorem Ly.n97 (L : Ly p h) : jn h 97 = 40 := (L.tn 65 (by decide)).2
theorem Ly.t98 (L : Ly p h) : jt h 98 = 21 := (L.tn 66 (by decide)).1
theorem Ly.n98 (L : Ly p h) : jn h 98 = 40 := (L.tn 66 (by decide)).2
theorem Ly.t99 (L : Ly p h) : jt h 99 = 21 := (L.tn 67 (by decide)).1
theorem Ly.n99 (L : Ly p h) : jn h 99 = 40 := (L.tn 67 (by decide)).2
theorem Ly.t100 (L : Ly p h) : jt h 100 = 21 := (L.tn 68 (by decide)).1
theorem Ly.n100 (L : Ly p h) : jn h 100 = 40 := (L.tn 68 (by decide)).2
theorem Ly.t101 (L : Ly p h) : jt h 101 = 21 := (L.tn 69 (by decide)).1
theorem Ly.n101 (L : Ly p h) : jn h 101 = 40 := (L.tn 69 (by decide)).2
theorem Ly.t102 (L : Ly p h) : jt h 102 = 21 := (L.tn 70 (by decide)).1
theorem Ly.n102 (L : Ly p h) : jn h 102 = 40 := (L.tn 70 (by decide)).2
theorem Ly.t103 (L : Ly p h) : jt h 103 = 21 := (L.tn 71 (by decide)).1
theorem Ly.n103 (L : Ly p h) : jn h 103 = 40 := (L.tn 71 (by decide)).2
theorem Ly.t104 (L : Ly p h) : jt h 104 = 21 := (L.tn 72 (by decide)).1
theorem Ly.n104 (L : Ly p h) : jn h 104 = 40 := (L.tn 72 (by decide)).2
theorem Ly.t105 (L : Ly p h) : jt h 105 = 21 := (L.tn 73 (by decide)).1
theorem Ly.n105 (L : Ly p h) : jn h 105 = 40 := (L.tn 73 (by decide)).2
theorem Ly.t106 (L : Ly p h) : jt h 106 = 21 := (L.tn 74 (by decide)).1
theorem Ly.n106 (L : Ly p h) : jn h 106 = 40 := (L.tn 74 (by decide)).2
theorem Ly.t107 (L : Ly p h) : jt h 107 = 21 := (L.tn 75 (by decide)).1
theorem Ly.n107 (L : Ly p h) : jn h 107 = 40 := (L.tn 75 (by decide)).2
theorem Ly.t108 (L : Ly p h) : jt h 108 = 21 := (L.tn 76 (by decide)).1
theorem Ly.n108 (L : Ly p h) : jn h 108 = 40 := (L.tn 76 (by decide)).2
theorem Ly.t109 (L : Ly p h) : jt h 109 = 21 := (L.tn 77 (by decide)).1
theorem Ly.n109 (L : Ly p h) : jn h 109 = 40 := (L.tn 77 (by decide)).2
theorem Ly.t110 (L : Ly p h) : jt h 110 = 21 := (L.tn 78 (by decide)).1
theorem Ly.n110 (L : Ly p h) : jn h 110 = 40 := (L.tn 78 (by decide)).2
theorem Ly.t111 (L : Ly p h) : jt h 111 = 21 := (L.tn 79 (by decide)).1
theorem Ly.n111 (L : Ly p h) : jn h 111 = 40 := (L.tn 79 (by decide)).2
theorem Ly.t112 (L : Ly p h) : jt h 112 = 21 := (L.tn 80 (by decide)).1
theorem Ly.n112 (L : Ly p h) : jn h 112 = 40 := (L.tn 80 (by decide)).2
theorem Ly.t113 (L : Ly p h) : jt h 113 = 21 := (L.tn 81 (by decide)).1
theorem Ly.n113 (L : Ly p h) : jn h 113 = 40 := (L.tn 81 (by decide)).2
theorem Ly.t114 (L : Ly p h) : jt h 114 = 21 := (L.tn 82 (by decide)).1
theorem Ly.n114 (L : Ly p h) : jn h 114 = 40 := (L.tn 82 (by decide)).2
theorem Ly.t115 (L : Ly p h) : jt h 115 = 21 := (L.tn 83 (by decide)).1
theorem Ly.n115 (L : Ly p h) : jn h 115 = 40 := (L.tn 83 (by decide)).2
theorem Ly.t116 (L : Ly p h) : jt h 116 = 21 := (L.tn 84 (by decide)).1
theorem Ly.n116 (L : Ly p h) : jn h 116 = 40 := (L.tn 84 (by decide)).2
theorem Ly.t117 (L : Ly p h) : jt h 117 = 21 := (L.tn 85 (by decide)).1
theorem Ly.n117 (L : Ly p h) : jn h 117 = 40 := (L.tn 85 (by decide)).2
theorem Ly.t118 (L : Ly p h) : jt h 118 = 21 := (L.tn 86 (by decide)).1
theorem Ly.n118 (L : Ly p h) : jn h 118 = 40 := (L.tn 86 (by decide)).2
theorem Ly.t119 (L : Ly p h) : jt h 119 = 21 := (L.tn 87 (by decide)).1
theorem Ly.n119 (L : Ly p h) : jn h 119 = 40 := (L.tn 87 (by decide)).2
theorem Ly.t120 (L : Ly p h) : jt h 120 = 21 := (L.tn 88 (by decide)).1
theorem Ly.n120 (L : Ly p h) : jn h 120 = 40 := (L.tn 88 (by decide)).2
theorem Ly.t121 (L : Ly p h) : jt h 121 = 21 := (L.tn 89 (by decide)).1
theorem Ly.n121 (L : Ly p h) : jn h 121 = 40 := (L.tn 89 (by decide)).2
theorem Ly.t122 (L : Ly p h) : jt h 122 = 21 := (L.tn 90 (by decide)).1
theorem Ly.n122 (L : Ly p h) : jn h 122 = 40 := (L.tn 90 (by decide)).2
theorem Ly.t123 (L : Ly p h) : jt h 123 = 21 := (L.tn 91 (by decide)).1
theorem Ly.n123 (L : Ly p h) : jn h 123 = 40 := (L.tn 91 (by decide)).2
theorem Ly.t124 (L : Ly p h) : jt h 124 = 21 := (L.tn 92 (by decide)).1
theorem Ly.n124 (L : Ly p h) : jn h 124 = 40 := (L.tn 92 (by decide)).2
theorem Ly.t125 (L : Ly p h) : jt h 125 = 21 := (L.tn 93 (by decide)).1
theorem Ly.n125 (L : Ly p h) : jn h 125 = 40 := (L.tn 93 (by decide)).2
theorem Ly.t126 (L : Ly p h) : jt h 126 = 21 := (L.tn 94 (by decide)).1
theorem Ly.n126 (L : Ly p h) : jn h 126 = 40 := (L.tn 94 (by decide)).2
theorem Ly.t127 (L : Ly p h) : jt h 127 = 21 := (L.tn 95 (by decide)).1
theorem Ly.n127 (L : Ly p h) : jn h 127 = 40 := (L.tn 95 (by decide)).2
theorem Ly.t128 (L : Ly p h) : jt h 128 = 21 := (L.tn 96 (by decide)).1
theorem Ly.n128 (L : Ly p h) : jn h 128 = 40 := (L.tn 96 (by decide)).2
theorem Ly.t129 (L : Ly p h) : jt h 129 = 21 := (L.tn 97 (by decide)).1
theorem Ly.n129 (L : Ly p h) : jn h 129 = 40 := (L.tn 97 (by decide)).2
theorem Ly.t130 (L : Ly p h) : jt h 130 = 21 := (L.tn 98 (by decide)).1
theorem Ly.n130 (L : Ly p h) : jn h 130 = 40 := (L.tn 98 (by decide)).2
theorem Ly.t131 (L : Ly p h) : jt h 131 = 21 := (L.tn 99 (by decide)).1
theorem Ly.n131 (L : Ly p h) : jn h 131 = 40 := (L.tn 99 (by decide)).2
theorem Ly.t132 (L : Ly p h) : jt h 132 = 21 := (L.tn 100 (by decide)).1
theorem Ly.n132 (L : Ly p h) : jn h 132 = 40 := (L.tn 100 (by decide)).2
theorem Ly.t133 (L : Ly p h) : jt h 133 = 21 := (L.tn 101 (by decide)).1
theorem Ly.n133 (L : Ly p h) : jn h 133 = 40 := (L.tn 101 (by decide)).2
theorem Ly.t134 (L : Ly p h) : jt h 134 = 21 := (L.tn 102 (by decide)).1
theorem Ly.n134 (L : Ly p h) : jn h 134 = 40 := (L.tn 102 (by decide)).2
theorem Ly.t135 (L : Ly p h) : jt h 135 = 21 := (L.tn 103 (by decide)).1
theorem Ly.n135 (L : Ly p h) : jn h 135 = 40 := (L.tn 103 (by decide)).2
theorem Ly.t136 (L : Ly p h) : jt h 136 = 21 := (L.tn 104 (by decide)).1
theorem Ly.n136 (L : Ly p h) : jn h 136 = 40 := (L.tn 104 (by decide)).2
theorem Ly.t137 (L : Ly p h) : jt h 137 = 21 := (L.tn 105 (by decide)).1
theorem Ly.n137 (L : Ly p h) : jn h 137 = 40 := (L.tn 105 (by decide)).2
theorem Ly.t138 (L : Ly p h) : jt h 138 = 21 := (L.tn 106 (by decide)).1
theorem Ly.n138 (L : Ly p h) : jn h 138 = 40 := (L.tn 106 (by decide)).2
theorem Ly.t139 (L : Ly p h) : jt h 139 = 20 := (L.tn 107 (by decide)).1
theorem Ly.n139 (L : Ly p h) : jn h 139 = 40 := (L.tn 107 (by decide)).2
theorem Ly.t140 (L : Ly p h) : jt h 140 = 20 := (L.tn 108 (by decide)).1
theorem Ly.n140 (L : Ly p h) : jn h 140 = 18 := (L.tn 108 (by decide)).2
theorem Ly.t141 (L : Ly p h) : jt h 141 = 12 := (L.tn 109 (by decide)).1
theorem Ly.t142 (L : Ly p h) : jt h 142 = 20 := (L.tn 110 (by decide)).1
theorem Ly.n142 (L : Ly p h) : jn h 142 = 400 := (L.tn 110 (by decide)).2
theorem Ly.t143 (L : Ly p h) : jt h 143 = 20 := (L.tn 111 (by decide)).1
theorem Ly.n143 (L : Ly p h) : jn h 143 = 6 := (L.tn 111 (by decide)).2
theorem Ly.t144 (L : Ly p h) : jt h 144 = 20 := (L.tn 112 (by decide)).1
theorem Ly.n144 (L : Ly p h) : jn h 144 = 6 := (L.tn 112 (by decide)).2
theorem Ly.t145 (L : Ly p h) : jt h 145 = 20 := (L.tn 113 (by decide)).1
theorem Ly.n145 (L : Ly p h) : jn h 145 = 6 := (L.tn 113 (by decide)).2
theorem Ly.t146 (L : Ly p h) : jt h 146 = 20 := (L.tn 114 (by decide)).1
theorem Ly.n146 (L : Ly p h) : jn h 146 = 6 := (L.tn 114 (by decide)).2
theorem Ly.t147 (L : Ly p h) : jt h 147 = 20 := (L.tn 115 (by decide)).1
theorem Ly.n147 (L : Ly p h) : jn h 147 = 12 := (L.tn 115 (by decide)).2
theorem Ly.t148 (L : Ly p h) : jt h 148 = 20 := (L.tn 116 (by decide)).1
theorem Ly.n148 (L : Ly p h) : jn h 148 = 384 := (L.tn 116 (by decide)).2
theorem Ly.t149 (L : Ly p h) : jt h 149 = 20 := (L.tn 117 (by decide)).1
theorem Ly.n149 (L : Ly p h) : jn h 149 = 6 := (L.tn 117 (by decide)).2
theorem Ly.t150 (L : Ly p h) : jt h 150 = 20 := (L.tn 118 (by decide)).1
theorem Ly.n150 (L : Ly p h) : jn h 150 = 12 := (L.tn 118 (by decide)).2
theorem Ly.t151 (L : Ly p h) : jt h 151 = 20 := (L.tn 119 (by decide)).1
theorem Ly.n151 (L : Ly p h) : jn h 151 = 6 := (L.tn 119 (by decide)).2
theorem Ly.t152 (L : Ly p h) : jt h 152 = 20 := (L.tn 120 (by decide)).1
theorem Ly.n152 (L : Ly p h) : jn h 152 = 6 := (L.tn 120 (by decide)).2
theorem Ly.t153 (L : Ly p h) : jt h 153 = 20 := (L.tn 121 (by decide)).1
theorem Ly.n153 (L : Ly p h) : jn h 153 = 10 := (L.tn 121 (by decide)).2
theorem Ly.t154 (L : Ly p h) : jt h 154 = 20 := (L.tn 122 (by decide)).1
theorem Ly.n154 (L : Ly p h) : jn h 154 = 20 := (L.tn 122 (by decide)).2
theorem Ly.t155 (L : Ly p h) : jt h 155 = 20 := (L.tn 123 (by decide)).1
theorem Ly.n155 (L : Ly p h) : jn h 155 = 10 := (L.tn 123 (by decide)).2
theorem Ly.t156 (L : Ly p h) : jt h 156 = 20 := (L.tn 124 (by decide)).1
theorem Ly.n156 (L : Ly p h) : jn h 156 = 30 := (L.tn 124 (by decide)).2
theorem Ly.t157 (L : Ly p h) : jt h 157 = 21 := (L.tn 125 (by decide)).1
theorem Ly.n157 (L : Ly p h) : jn h 157 = 10 := (L.tn 125 (by decide)).2
theorem Ly.t158 (L : Ly p h) : jt h 158 = 20 := (L.tn 126 (by decide)).1
theorem Ly.n158 (L : Ly p h) : jn h 158 = 20 := (L.tn 126 (by decide)).2
theorem Ly.t159 (L : Ly p h) : jt h 159 = 20 := (L.tn 127 (by decide)).1
theorem Ly.n159 (L : Ly p h) : jn h 159 = 20 := (L.tn 127 (by decide)).2
theorem Ly.t160 (L : Ly p h) : jt h 160 = 20 := (L.tn 128 (by decide)).1
theorem Ly.n160 (L : Ly p h) : jn h 160 = 2000 := (L.tn 128 (by decide)).2
theorem Ly.t161 (L : Ly p h) : jt h 161 = 20 := (L.tn 129 (by decide)).1
theorem Ly.n161 (L : Ly p h) : jn h 161 = 2000 := (L.tn 129 (by decide)).2
theorem Ly.t162 (L : Ly p h) : jt h 162 = 20 := (L.tn 130 (by decide)).1
theorem Ly.n162 (L : Ly p h) : jn h 162 = 2000 := (L.tn 130 (by decide)).2
theorem Ly.t163 (L : Ly p h) : jt h 163 = 20 := (L.tn 131 (by decide)).1
theorem Ly.n163 (L : Ly p h) : jn h 163 = 2000 := (L.tn 131 (by decide)).2
theorem Ly.t164 (L : Ly p h) : jt h 164 = 23 := (L.tn 132 (by decide)).1
theorem Ly.n164 (L : Ly p h) : jn h 164 = 9 := (L.tn 132 (by decide)).2
theorem Ly.t165 (L : Ly p h) : jt h 165 = 20 := (L.tn 133 (by decide)).1
theorem Ly.n165 (L : Ly p h) : jn h 165 = 9 := (L.tn 133 (by decide)).2
theorem Ly.t166 (L : Ly p h) : jt h 166 = 23 := (L.tn 134 (by decide)).1
theorem Ly.n166 (L : Ly p h) : jn h 166 = 9 := (L.tn 134 (by decide)).2
theorem Ly.t167 (L : Ly p h) : jt h 167 = 23 := (L.tn 135 (by decide)).1
theorem Ly.n167 (L : Ly p h) : jn h 167 = 9 := (L.tn 135 (by decide)).2
theorem Ly.t168 (L : Ly p h) : jt h 168 = 20 := (L.tn 136 (by decide)).1
theorem Ly.n168 (L : Ly p h) : jn h 168 = 9 := (L.tn 136 (by decide)).2
theorem Ly.t169 (L : Ly p h) : jt h 169 = 21 := (L.tn 137 (by decide)).1
theorem Ly.n169 (L : Ly p h) : jn h 169 = 9 := (L.tn 137 (by decide)).2
theorem Ly.t170 (L : Ly p h) : jt h 170 = 20 := (L.tn 138 (by decide)).1
theorem Ly.n170 (L : Ly p h) : jn h 170 = 9 := (L.tn 138 (by decide)).2
theorem Ly.t171 (L : Ly p h) : jt h 171 = 20 := (L.tn 139 (by decide)).1
theorem Ly.n171 (L : Ly p h) : jn h 171 = 9 := (L.tn 139 (by decide)).2
theorem Ly.t172 (L : Ly p h) : jt h 172 = 21 := (L.tn 140 (by decide)).1
theorem Ly.n172 (L : Ly p h) : jn h 172 = 1640 := (L.tn 140 (by decide)).2
theorem Ly.t173 (L : Ly p h) : jt h 173 = 20 := (L.tn 141 (by decide)).1
theorem Ly.n173 (L : Ly p h) : jn h 173 = 20 := (L.tn 141 (by decide)).2
theorem Ly.t174 (L : Ly p h) : jt h 174 = 20 := (L.tn 142 (by decide)).1
theorem Ly.n174 (L : Ly p h) : jn h 174 = 7 := (L.tn 142 (by decide)).2
theorem Ly.t175 (L : Ly p h) : jt h 175 = 20 := (L.tn 143 (by decide)).1
theorem Ly.n175 (L : Ly p h) : jn h 175 = 4 := (L.tn 143 (by decide)).2
theorem Ly.t176 (L : Ly p h) : jt h 176 = 20 := (L.tn 144 (by decide)).1
theorem Ly.n176 (L : Ly p h) : jn h 176 = 40 := (L.tn 144 (by decide)).2
theorem Ly.t177 (L : Ly p h) : jt h 177 = 20 := (L.tn 145 (by decide)).1
theorem Ly.n177 (L : Ly p h) : jn h 177 = 6 := (L.tn 145 (by decide)).2
theorem Ly.t178 (L : Ly p h) : jt h 178 = 20 := (L.tn 146 (by decide)).1
theorem Ly.n178 (L : Ly p h) : jn h 178 = 6 := (L.tn 146 (by decide)).2
theorem Ly.t179 (L : Ly p h) : jt h 179 = 20 := (L.tn 147 (by decide)).1
theorem Ly.n179 (L : Ly p h) : jn h 179 = 12 := (L.tn 147 (by decide)).2
theorem Ly.t180 (L : Ly p h) : jt h 180 = 20 := (L.tn 148 (by decide)).1
theorem Ly.n180 (L : Ly p h) : jn h 180 = 384 := (L.tn 148 (by decide)).2
theorem Ly.t181 (L : Ly p h) : jt h 181 = 20 := (L.tn 149 (by decide)).1
theorem Ly.n181 (L : Ly p h) : jn h 181 = 12 := (L.tn 149 (by decide)).2
theorem Ly.t182 (L : Ly p h) : jt h 182 = 20 := (L.tn 150 (by decide)).1
theorem Ly.n182 (L : Ly p h) : jn h 182 = 7 := (L.tn 150 (by decide)).2
theorem Ly.t183 (L : Ly p h) : jt h 183 = 20 := (L.tn 151 (by decide)).1
theorem Ly.n183 (L : Ly p h) : jn h 183 = 40 := (L.tn 151 (by decide)).2
theorem Ly.t184 (L : Ly p h) : jt h 184 = 20 := (L.tn 152 (by decide)).1
theorem Ly.n184 (L : Ly p h) : jn h 184 = 40 := (L.tn 152 (by decide)).2
theorem Ly.t185 (L : Ly p h) : jt h 185 = 20 := (L.tn 153 (by decide)).1
theorem Ly.n185 (L : Ly p h) : jn h 185 = 40 := (L.tn 153 (by decide)).2
theorem Ly.t186 (L : Ly p h) : jt h 186 = 20 := (L.tn 154 (by decide)).1
theorem Ly.n186 (L : Ly p h) : jn h 186 = 40 := (L.tn 154 (by decide)).2
theorem Ly.t187 (L : Ly p h) : jt h 187 = 20 := (L.tn 155 (by decide)).1
theorem Ly.n187 (L : Ly p h) : jn h 187 = 40 := (L.tn 155 (by decide)).2
theorem Ly.t188 (L : Ly p h) : jt h 188 = 20 := (L.tn 156 (by decide)).1
theorem Ly.n188 (L : Ly p h) : jn h 188 = 40 := (L.tn 156 (by decide)).2
theorem Ly.t189 (L : Ly p h) : jt h 189 = 20 := (L.tn 157 (by decide)).1
theorem Ly.n189 (L : Ly p h) : jn h 189 = 40 := (L.tn 157 (by decide)).2
theorem Ly.t190 (L : Ly p h) : jt h 190 = 20 := (L.tn 158 (by decide)).1
theorem Ly.n190 (L : Ly p h) : jn h 190 = 40 := (L.tn 158 (by decide)).2
theorem Ly.t191 (L : Ly p h) : jt h 191 = 20 := (L.tn 159 (by decide)).1
theorem Ly.n191 (L : Ly p h) : jn h 191 = 40 := (L.tn 159 (by decide)).2
theorem Ly.t192 (L : Ly p h) : jt h 192 = 20 := (L.tn 160 (by decide)).1
theorem Ly.n192 (L : Ly p h) : jn h 192 = 40 := (L.tn 160 (by decide)).2
theorem Ly.t193 (L : Ly p h) : jt h 193 = 21 := (L.tn 161 (by decide)).1
theorem Ly.n193 (L : Ly p h) : jn h 193 = 1640 := (L.tn 161 (by decide)).2
theorem Ly.t194 (L : Ly p h) : jt h 194 = 21 := (L.tn 162 (by decide)).1
theorem Ly.n194 (L : Ly p h) : jn h 194 = 41 := (L.tn 162 (by decide)).2
theorem Ly.t195 (L : Ly p h) : jt h 195 = 20 := (L.tn 163 (by decide)).1
theorem Ly.n195 (L : Ly p h) : jn h 195 = 2400 := (L.tn 163 (by decide)).2
theorem Ly.t196 (L : Ly p h) : jt h 196 = 20 := (L.tn 164 (by decide)).1
theorem Ly.n196 (L : Ly p h) : jn h 196 = 20 := (L.tn 164 (by decide)).2
theorem Ly.r32_0 (L : Ly p h) : jr h 32 0 = 33 := L.rf 0 (32, 0, 33) rfl
theorem Ly.r32_1 (L : Ly p h) : jr h 32 1 = 35 := L.rf 1 (32, 1, 35) rfl
theorem Ly.r32_2 (L : Ly p h) : jr h 32 2 = 37 := L.rf 2 (32, 2, 37) rfl
theorem Ly.r32_3 (L : Ly p h) : jr h 32 3 = 93 := L.rf 3 (32, 3, 93) rfl
theorem Ly.r32_4 (L : Ly p h) : jr h 32 4 = 95 := L.rf 4 (32, 4, 95) rfl
theorem Ly.r33_0 (L : Ly p h) : jr h 33 0 = 34 := L.rf 5 (33, 0, 34) rfl
theorem Ly.r35_0 (L : Ly p h) : jr h 35 0 = 36 := L.rf 6 (35, 0, 36) rfl
theorem Ly.r37_0 (L : Ly p h) : jr h 37 0 = 38 := L.rf 7 (37, 0, 38) rfl
theorem Ly.r37_1 (L : Ly p h) : jr h 37 1 = 39 := L.rf 8 (37, 1, 39) rfl
theorem Ly.r37_2 (L : Ly p h) : jr h 37 2 = 40 := L.rf 9 (37, 2, 40) rfl
theorem Ly.r41_0 (L : Ly p h) : jr h 41 0 = 42 := L.rf 10 (41, 0, 42) rfl
theorem Ly.r41_1 (L : Ly p h) : jr h 41 1 = 46 := L.rf 11 (41, 1, 46) rfl
theorem Ly.r41_2 (L : Ly p h) : jr h 41 2 = 55 := L.rf 12 (41, 2, 55) rfl
theorem Ly.r41_3 (L : Ly p h) : jr h 41 3 = 59 := L.rf 13 (41, 3, 59) rfl
theorem Ly.r41_4 (L : Ly p h) : jr h 41 4 = 63 := L.rf 14 (41, 4, 63) rfl
theorem Ly.r41_5 (L : Ly p h) : jr h 41 5 = 49 := L.rf 15 (41, 5, 49) rfl
theorem Ly.r41_7 (L : Ly p h) : jr h 41 7 = 50 := L.rf 16 (41, 7, 50) rfl
theorem Ly.r41_8 (L : Ly p h) : jr h 41 8 = 51 := L.rf 17 (41, 8, 51) rfl
theorem Ly.r41_9 (L : Ly p h) : jr h 41 9 = 52 := L.rf 18 (41, 9, 52) rfl
theorem Ly.r41_10 (L : Ly p h) : jr h 41 10 = 53 := L.rf 19 (41, 10, 53) rfl
theorem Ly.r41_11 (L : Ly p h) : jr h 41 11 = 54 := L.rf 20 (41, 11, 54) rfl
theorem Ly.r42_0 (L : Ly p h) : jr h 42 0 = 43 := L.rf 21 (42, 0, 43) rfl
theorem Ly.r42_1 (L : Ly p h) : jr h 42 1 = 44 := L.rf 22 (42, 1, 44) rfl
theorem Ly.r42_2 (L : Ly p h) : jr h 42 2 = 45 := L.rf 23 (42, 2, 45) rfl
theorem Ly.r46_0 (L : Ly p h) : jr h 46 0 = 47 := L.rf 24 (46, 0, 47) rfl
theorem Ly.r46_1 (L : Ly p h) : jr h 46 1 = 48 := L.rf 25 (46, 1, 48) rfl
theorem Ly.r55_0 (L : Ly p h) : jr h 55 0 = 46 := L.rf 26 (55, 0, 46) rfl
theorem Ly.r55_1 (L : Ly p h) : jr h 55 1 = 56 := L.rf 27 (55, 1, 56) rfl
theorem Ly.r55_2 (L : Ly p h) : jr h 55 2 = 57 := L.rf 28 (55, 2, 57) rfl
theorem Ly.r55_3 (L : Ly p h) : jr h 55 3 = 58 := L.rf 29 (55, 3, 58) rfl
theorem Ly.r59_0 (L : Ly p h) : jr h 59 0 = 46 := L.rf 30 (59, 0, 46) rfl
theorem Ly.r59_1 (L : Ly p h) : jr h 59 1 = 60 := L.rf 31 (59, 1, 60) rfl
theorem Ly.r59_2 (L : Ly p h) : jr h 59 2 = 61 := L.rf 32 (59, 2, 61) rfl
theorem Ly.r59_3 (L : Ly p h) : jr h 59 3 = 62 := L.rf 33 (59, 3, 62) rfl
theorem Ly.r63_0 (L : Ly p h) : jr h 63 0 = 46 := L.rf 34 (63, 0, 46) rfl
theorem Ly.r63_1 (L : Ly p h) : jr h 63 1 = 64 := L.rf 35 (63, 1, 64) rfl
theorem Ly.r63_2 (L : Ly p h) : jr h 63 2 = 65 := L.rf 36 (63, 2, 65) rfl
theorem Ly.r63_3 (L : Ly p h) : jr h 63 3 = 66 := L.rf 37 (63, 3, 66) rfl
theorem Ly.r67_0 (L : Ly p h) : jr h 67 0 = 68 := L.rf 38 (67, 0, 68) rfl
theorem Ly.r67_1 (L : Ly p h) : jr h 67 1 = 72 := L.rf 39 (67, 1, 72) rfl
theorem Ly.r67_2 (L : Ly p h) : jr h 67 2 = 81 := L.rf 40 (67, 2, 81) rfl
theorem Ly.r67_3 (L : Ly p h) : jr h 67 3 = 85 := L.rf 41 (67, 3, 85) rfl
theorem Ly.r67_4 (L : Ly p h) : jr h 67 4 = 89 := L.rf 42 (67, 4, 89) rfl
theorem Ly.r67_5 (L : Ly p h) : jr h 67 5 = 75 := L.rf 43 (67, 5, 75) rfl
theorem Ly.r67_7 (L : Ly p h) : jr h 67 7 = 76 := L.rf 44 (67, 7, 76) rfl
theorem Ly.r67_8 (L : Ly p h) : jr h 67 8 = 77 := L.rf 45 (67, 8, 77) rfl
theorem Ly.r67_9 (L : Ly p h) : jr h 67 9 = 78 := L.rf 46 (67, 9, 78) rfl
theorem Ly.r67_10 (L : Ly p h) : jr h 67 10 = 79 := L.rf 47 (67, 10, 79) rfl
theorem Ly.r67_11 (L : Ly p h) : jr h 67 11 = 80 := L.rf 48 (67, 11, 80) rfl
theorem Ly.r68_0 (L : Ly p h) : jr h 68 0 = 69 := L.rf 49 (68, 0, 69) rfl
theorem Ly.r68_1 (L : Ly p h) : jr h 68 1 = 70 := L.rf 50 (68, 1, 70) rfl
theorem Ly.r68_2 (L : Ly p h) : jr h 68 2 = 71 := L.rf 51 (68, 2, 71) rfl
theorem Ly.r72_0 (L : Ly p h) : jr h 72 0 = 73 := L.rf 52 (72, 0, 73) rfl
theorem Ly.r72_1 (L : Ly p h) : jr h 72 1 = 74 := L.rf 53 (72, 1, 74) rfl
theorem Ly.r81_0 (L : Ly p h) : jr h 81 0 = 72 := L.rf 54 (81, 0, 72) rfl
theorem Ly.r81_1 (L : Ly p h) : jr h 81 1 = 82 := L.rf 55 (81, 1, 82) rfl
theorem Ly.r81_2 (L : Ly p h) : jr h 81 2 = 83 := L.rf 56 (81, 2, 83) rfl
theorem Ly.r81_3 (L : Ly p h) : jr h 81 3 = 84 := L.rf 57 (81, 3, 84) rfl
theorem Ly.r85_0 (L : Ly p h) : jr h 85 0 = 72 := L.rf 58 (85, 0, 72) rfl
theorem Ly.r85_1 (L : Ly p h) : jr h 85 1 = 86 := L.rf 59 (85, 1, 86) rfl
theorem Ly.r85_2 (L : Ly p h) : jr h 85 2 = 87 := L.rf 60 (85, 2, 87) rfl
theorem Ly.r85_3 (L : Ly p h) : jr h 85 3 = 88 := L.rf 61 (85, 3, 88) rfl
theorem Ly.r89_0 (L : Ly p h) : jr h 89 0 = 72 := L.rf 62 (89, 0, 72) rfl
theorem Ly.r89_1 (L : Ly p h) : jr h 89 1 = 90 := L.rf 63 (89, 1, 90) rfl
theorem Ly.r89_2 (L : Ly p h) : jr h 89 2 = 91 := L.rf 64 (89, 2, 91) rfl
theorem Ly.r89_3 (L : Ly p h) : jr h 89 3 = 92 := L.rf 65 (89, 3, 92) rfl
theorem Ly.r93_0 (L : Ly p h) : jr h 93 0 = 37 := L.rf 66 (93, 0, 37) rfl
theorem Ly.r93_5 (L : Ly p h) : jr h 93 5 = 94 := L.rf 67 (93, 5, 94) rfl
theorem Ly.r95_1 (L : Ly p h) : jr h 95 1 = 96 := L.rf 68 (95, 1, 96) rfl
theorem Ly.r95_2 (L : Ly p h) : jr h 95 2 = 137 := L.rf 69 (95, 2, 137) rfl
theorem Ly.r95_3 (L : Ly p h) : jr h 95 3 = 138 := L.rf 70 (95, 3, 138) rfl
theorem Ly.r95_5 (L : Ly p h) : jr h 95 5 = 139 := L.rf 71 (95, 5, 139) rfl
theorem Ly.r95_6 (L : Ly p h) : jr h 95 6 = 140 := L.rf 72 (95, 6, 140) rfl
theorem Ly.r141_0 (L : Ly p h) : jr h 141 0 = 142 := L.rf 73 (141, 0, 142) rfl
theorem Ly.r141_8 (L : Ly p h) : jr h 141 8 = 143 := L.rf 74 (141, 8, 143) rfl
theorem Ly.r141_9 (L : Ly p h) : jr h 141 9 = 144 := L.rf 75 (141, 9, 144) rfl
theorem Ly.r141_10 (L : Ly p h) : jr h 141 10 = 145 := L.rf 76 (141, 10, 145) rfl
theorem Ly.r141_12 (L : Ly p h) : jr h 141 12 = 146 := L.rf 77 (141, 12, 146) rfl
theorem Ly.r141_13 (L : Ly p h) : jr h 141 13 = 147 := L.rf 78 (141, 13, 147) rfl
theorem Ly.r141_14 (L : Ly p h) : jr h 141 14 = 148 := L.rf 79 (141, 14, 148) rfl
theorem Ly.r141_16 (L : Ly p h) : jr h 141 16 = 149 := L.rf 80 (141, 16, 149) rfl
theorem Ly.r141_17 (L : Ly p h) : jr h 141 17 = 150 := L.rf 81 (141, 17, 150) rfl
theorem Ly.r141_18 (L : Ly p h) : jr h 141 18 = 151 := L.rf 82 (141, 18, 151) rfl
theorem Ly.r141_19 (L : Ly p h) : jr h 141 19 = 152 := L.rf 83 (141, 19, 152) rfl
theorem Ly.r141_21 (L : Ly p h) : jr h 141 21 = 153 := L.rf 84 (141, 21, 153) rfl
theorem Ly.r141_22 (L : Ly p h) : jr h 141 22 = 154 := L.rf 85 (141, 22, 154) rfl
theorem Ly.r141_23 (L : Ly p h) : jr h 141 23 = 155 := L.rf 86 (141, 23, 155) rfl
theorem Ly.r141_24 (L : Ly p h) : jr h 141 24 = 156 := L.rf 87 (141, 24, 156) rfl
theorem Ly.r141_25 (L : Ly p h) : jr h 141 25 = 157 := L.rf 88 (141, 25, 157) rfl
theorem Ly.r141_31 (L : Ly p h) : jr h 141 31 = 158 := L.rf 89 (141, 31, 158) rfl
theorem Ly.r141_32 (L : Ly p h) : jr h 141 32 = 159 := L.rf 90 (141, 32, 159) rfl
theorem Ly.r141_34 (L : Ly p h) : jr h 141 34 = 160 := L.rf 91 (141, 34, 160) rfl
theorem Ly.r141_35 (L : Ly p h) : jr h 141 35 = 161 := L.rf 92 (141, 35, 161) rfl
theorem Ly.r141_36 (L : Ly p h) : jr h 141 36 = 162 := L.rf 93 (141, 36, 162) rfl
theorem Ly.r141_37 (L : Ly p h) : jr h 141 37 = 163 := L.rf 94 (141, 37, 163) rfl
theorem Ly.r141_39 (L : Ly p h) : jr h 141 39 = 164 := L.rf 95 (141, 39, 164) rfl
theorem Ly.r141_40 (L : Ly p h) : jr h 141 40 = 165 := L.rf 96 (141, 40, 165) rfl
theorem Ly.r141_41 (L : Ly p h) : jr h 141 41 = 166 := L.rf 97 (141, 41, 166) rfl
theorem Ly.r141_42 (L : Ly p h) : jr h 141 42 = 167 := L.rf 98 (141, 42, 167) rfl
theorem Ly.r141_43 (L : Ly p h) : jr h 141 43 = 168 := L.rf 99 (141, 43, 168) rfl
theorem Ly.r141_44 (L : Ly p h) : jr h 141 44 = 169 := L.rf 100 (141, 44, 169) rfl
theorem Ly.r141_45 (L : Ly p h) : jr h 141 45 = 170 := L.rf 101 (141, 45, 170) rfl
theorem Ly.r141_46 (L : Ly p h) : jr h 141 46 = 171 := L.rf 102 (141, 46, 171) rfl
theorem Ly.r141_53 (L : Ly p h) : jr h 141 53 = 172 := L.rf 103 (141, 53, 172) rfl
theorem Ly.r141_55 (L : Ly p h) : jr h 141 55 = 173 := L.rf 104 (141, 55, 173) rfl
theorem Ly.r141_56 (L : Ly p h) : jr h 141 56 = 174 := L.rf 105 (141, 56, 174) rfl
theorem Ly.r141_57 (L : Ly p h) : jr h 141 57 = 175 := L.rf 106 (141, 57, 175) rfl
theorem Ly.r141_58 (L : Ly p h) : jr h 141 58 = 176 := L.rf 107 (141, 58, 176) rfl
theorem Ly.r141_59 (L : Ly p h) : jr h 141 59 = 177 := L.rf 108 (141, 59, 177) rfl
theorem Ly.r141_60 (L : Ly p h) : jr h 141 60 = 178 := L.rf 109 (141, 60, 178) rfl
theorem Ly.r141_61 (L : Ly p h) : jr h 141 61 = 179 := L.rf 110 (141, 61, 179) rfl
theorem Ly.r141_62 (L : Ly p h) : jr h 141 62 = 180 := L.rf 111 (141, 62, 180) rfl
theorem Ly.r141_63 (L : Ly p h) : jr h 141 63 = 181 := L.rf 112 (141, 63, 181) rfl
theorem Ly.r141_64 (L : Ly p h) : jr h 141 64 = 182 := L.rf 113 (141, 64, 182) rfl
theorem Ly.r141_66 (L : Ly p h) : jr h 141 66 = 183 := L.rf 114 (141, 66, 183) rfl
theorem Ly.r141_67 (L : Ly p h) : jr h 141 67 = 184 := L.rf 115 (141, 67, 184) rfl
theorem Ly.r141_68 (L : Ly p h) : jr h 141 68 = 185 := L.rf 116 (141, 68, 185) rfl
theorem Ly.r141_69 (L : Ly p h) : jr h 141 69 = 186 := L.rf 117 (141, 69, 186) rfl
theorem Ly.r141_70 (L : Ly p h) : jr h 141 70 = 187 := L.rf 118 (141, 70, 187) rfl
theorem Ly.r141_71 (L : Ly p h) : jr h 141 71 = 188 := L.rf 119 (141, 71, 188) rfl
theorem Ly.r141_73 (L : Ly p h) : jr h 141 73 = 189 := L.rf 120 (141, 73, 189) rfl
theorem Ly.r141_74 (L : Ly p h) : jr h 141 74 = 190 := L.rf 121 (141, 74, 190) rfl
theorem Ly.r141_75 (L : Ly p h) : jr h 141 75 = 191 := L.rf 122 (141, 75, 191) rfl
theorem Ly.r141_76 (L : Ly p h) : jr h 141 76 = 192 := L.rf 123 (141, 76, 192) rfl
theorem Ly.r141_77 (L : Ly p h) : jr h 141 77 = 193 := L.rf 124 (141, 77, 193) rfl
theorem Ly.r141_79 (L : Ly p h) : jr h 141 79 = 194 := L.rf 125 (141, 79, 194) rfl
theorem Ly.r141_82 (L : Ly p h) : jr h 141 82 = 195 := L.rf 126 (141, 82, 195) rfl
theorem Ly.r141_83 (L : Ly p h) : jr h 141 83 = 196 := L.rf 127 (141, 83, 196) rfl
variable {D : Nat}
theorem Ly.dt0 (L : Ly p h) (hD : isD D) : jt h (D) = 2 := hD.elim (fun e => by subst e; exact L.t41) (fun e => by subst e; exact L.t67)
theorem Ly.dt1 (L : Ly p h) (hD : isD D) : jt h (D + 1) = 5 := hD.elim (fun e => by subst e; exact L.t42) (fun e => by subst e; exact L.t68)
theorem Ly.dt2 (L : Ly p h) (hD : isD D) : jt h (D + 2) = 20 := hD.elim (fun e => by subst e; exact L.t43) (fun e => by subst e; exact L.t69)
theorem Ly.dn2 (L : Ly p h) (hD : isD D) : jn h (D + 2) = 46 := hD.elim (fun e => by subst e; exact L.n43) (fun e => by subst e; exact L.n69)
theorem Ly.dt3 (L : Ly p h) (hD : isD D) : jt h (D + 3) = 20 := hD.elim (fun e => by subst e; exact L.t44) (fun e => by subst e; exact L.t70)
theorem Ly.dn3 (L : Ly p h) (hD : isD D) : jn h (D + 3) = 46 := hD.elim (fun e => by subst e; exact L.n44) (fun e => by subst e; exact L.n70)
theorem Ly.dt4 (L : Ly p h) (hD : isD D) : jt h (D + 4) = 20 := hD.elim (fun e => by subst e; exact L.t45) (fun e => by subst e; exact L.t71)
theorem Ly.dn4 (L : Ly p h) (hD : isD D) : jn h (D + 4) = 46 := hD.elim (fun e => by subst e; exact L.n45) (fun e => by subst e; exact L.n71)
theorem Ly.dt5 (L : Ly p h) (hD : isD D) : jt h (D + 5) = 8 := hD.elim (fun e => by subst e; exact L.t46) (fun e => by subst e; exact L.t72)
theorem Ly.dt6 (L : Ly p h) (hD : isD D) : jt h (D + 6) = 20 := hD.elim (fun e => by subst e; exact L.t47) (fun e => by subst e; exact L.t73)
theorem Ly.dn6 (L : Ly p h) (hD : isD D) : jn h (D + 6) = 6 := hD.elim (fun e => by subst e; exact L.n47) (fun e => by subst e; exact L.n73)
theorem Ly.dt7 (L : Ly p h) (hD : isD D) : jt h (D + 7) = 20 := hD.elim (fun e => by subst e; exact L.t48) (fun e => by subst e; exact L.t74)
theorem Ly.dn7 (L : Ly p h) (hD : isD D) : jn h (D + 7) = 6 := hD.elim (fun e => by subst e; exact L.n48) (fun e => by subst e; exact L.n74)
theorem Ly.dt8 (L : Ly p h) (hD : isD D) : jt h (D + 8) = 20 := hD.elim (fun e => by subst e; exact L.t49) (fun e => by subst e; exact L.t75)
theorem Ly.dn8 (L : Ly p h) (hD : isD D) : jn h (D + 8) = 400 := hD.elim (fun e => by subst e; exact L.n49) (fun e => by subst e; exact L.n75)
theorem Ly.dt9 (L : Ly p h) (hD : isD D) : jt h (D + 9) = 20 := hD.elim (fun e => by subst e; exact L.t50) (fun e => by subst e; exact L.t76)
theorem Ly.dn9 (L : Ly p h) (hD : isD D) : jn h (D + 9) = 6 := hD.elim (fun e => by subst e; exact L.n50) (fun e => by subst e; exact L.n76)
theorem Ly.dt10 (L : Ly p h) (hD : isD D) : jt h (D + 10) = 20 := hD.elim (fun e => by subst e; exact L.t51) (fun e => by subst e; exact L.t77)
theorem Ly.dn10 (L : Ly p h) (hD : isD D) : jn h (D + 10) = 6 := hD.elim (fun e => by subst e; exact L.n51) (fun e => by subst e; exact L.n77)
theorem Ly.dt11 (L : Ly p h) (hD : isD D) : jt h (D + 11) = 20 := hD.elim (fun e => by subst e; exact L.t52) (fun e => by subst e; exact L.t78)
theorem Ly.dn11 (L : Ly p h) (hD : isD D) : jn h (D + 11) = 10 := hD.elim (fun e => by subst e; exact L.n52) (fun e => by subst e; exact L.n78)
theorem Ly.dt12 (L : Ly p h) (hD : isD D) : jt h (D + 12) = 25 := hD.elim (fun e => by subst e; exact L.t53) (fun e => by subst e; exact L.t79)
theorem Ly.dn12 (L : Ly p h) (hD : isD D) : jn h (D + 12) = 10 := hD.elim (fun e => by subst e; exact L.n53) (fun e => by subst e; exact L.n79)
theorem Ly.dt13 (L : Ly p h) (hD : isD D) : jt h (D + 13) = 25 := hD.elim (fun e => by subst e; exact L.t54) (fun e => by subst e; exact L.t80)
theorem Ly.dn13 (L : Ly p h) (hD : isD D) : jn h (D + 13) = 10 := hD.elim (fun e => by subst e; exact L.n54) (fun e => by subst e; exact L.n80)
theorem Ly.dt14 (L : Ly p h) (hD : isD D) : jt h (D + 14) = 9 := hD.elim (fun e => by subst e; exact L.t55) (fun e => by subst e; exact L.t81)
theorem Ly.dt15 (L : Ly p h) (hD : isD D) : jt h (D + 15) = 20 := hD.elim (fun e => by subst e; exact L.t56) (fun e => by subst e; exact L.t82)
theorem Ly.dn15 (L : Ly p h) (hD : isD D) : jn h (D + 15) = 6 := hD.elim (fun e => by subst e; exact L.n56) (fun e => by subst e; exact L.n82)
theorem Ly.dt16 (L : Ly p h) (hD : isD D) : jt h (D + 16) = 20 := hD.elim (fun e => by subst e; exact L.t57) (fun e => by subst e; exact L.t83)
theorem Ly.dn16 (L : Ly p h) (hD : isD D) : jn h (D + 16) = 6 := hD.elim (fun e => by subst e; exact L.n57) (fun e => by subst e; exact L.n83)
theorem Ly.dt17 (L : Ly p h) (hD : isD D) : jt h (D + 17) = 20 := hD.elim (fun e => by subst e; exact L.t58) (fun e => by subst e; exact L.t84)
theorem Ly.dn17 (L : Ly p h) (hD : isD D) : jn h (D + 17) = 6 := hD.elim (fun e => by subst e; exact L.n58) (fun e => by subst e; exact L.n84)
theorem Ly.dt18 (L : Ly p h) (hD : isD D) : jt h (D + 18) = 9 := hD.elim (fun e => by subst e; exact L.t59) (fun e => by subst e; exact L.t85)
theorem Ly.dt19 (L : Ly p h) (hD : isD D) : jt h (D + 19) = 20 := hD.elim (fun e => by subst e; exact L.t60) (fun e => by subst e; exact L.t86)
theorem Ly.dn19 (L : Ly p h) (hD : isD D) : jn h (D + 19) = 6 := hD.elim (fun e => by subst e; exact L.n60) (fun e => by subst e; exact L.n86)
theorem Ly.dt20 (L : Ly p h) (hD : isD D) : jt h (D + 20) = 20 := hD.elim (fun e => by subst e; exact L.t61) (fun e => by subst e; exact L.t87)
theorem Ly.dn20 (L : Ly p h) (hD : isD D) : jn h (D + 20) = 6 := hD.elim (fun e => by subst e; exact L.n61) (fun e => by subst e; exact L.n87)
theorem Ly.dt21 (L : Ly p h) (hD : isD D) : jt h (D + 21) = 20 := hD.elim (fun e => by subst e; exact L.t62) (fun e => by subst e; exact L.t88)
theorem Ly.dn21 (L : Ly p h) (hD : isD D) : jn h (D + 21) = 6 := hD.elim (fun e => by subst e; exact L.n62) (fun e => by subst e; exact L.n88)
theorem Ly.dt22 (L : Ly p h) (hD : isD D) : jt h (D + 22) = 9 := hD.elim (fun e => by subst e; exact L.t63) (fun e => by subst e; exact L.t89)
theorem Ly.dt23 (L : Ly p h) (hD : isD D) : jt h (D + 23) = 20 := hD.elim (fun e => by subst e; exact L.t64) (fun e => by subst e; exact L.t90)
theorem Ly.dn23 (L : Ly p h) (hD : isD D) : jn h (D + 23) = 10 := hD.elim (fun e => by subst e; exact L.n64) (fun e => by subst e; exact L.n90)
theorem Ly.dt24 (L : Ly p h) (hD : isD D) : jt h (D + 24) = 20 := hD.elim (fun e => by subst e; exact L.t65) (fun e => by subst e; exact L.t91)
theorem Ly.dn24 (L : Ly p h) (hD : isD D) : jn h (D + 24) = 10 := hD.elim (fun e => by subst e; exact L.n65) (fun e => by subst e; exact L.n91)
theorem Ly.dt25 (L : Ly p h) (hD : isD D) : jt h (D + 25) = 20 := hD.elim (fun e => by subst e; exact L.t66) (fun e => by subst e; exact L.t92)
theorem Ly.dn25 (L : Ly p h) (hD : isD D) : jn h (D + 25) = 10 := hD.elim (fun e => by subst e; exact L.n66) (fun e => by subst e; exact L.n92)
theorem Ly.dr0_0 (L : Ly p h) (hD : isD D) : jr h D 0 = D + 1 := hD.elim (fun e => by subst e; exact L.r41_0) (fun e => by subst e; exact L.r67_0)
theorem Ly.dr0_1 (L : Ly p h) (hD : isD D) : jr h D 1 = D + 5 := hD.elim (fun e => by subst e; exact L.r41_1) (fun e => by subst e; exact L.r67_1)
theorem Ly.dr0_2 (L : Ly p h) (hD : isD D) : jr h D 2 = D + 14 := hD.elim (fun e => by subst e; exact L.r41_2) (fun e => by subst e; exact L.r67_2)
theorem Ly.dr0_3 (L : Ly p h) (hD : isD D) : jr h D 3 = D + 18 := hD.elim (fun e => by subst e; exact L.r41_3) (fun e => by subst e; exact L.r67_3)
theorem Ly.dr0_4 (L : Ly p h) (hD : isD D) : jr h D 4 = D + 22 := hD.elim (fun e => by subst e; exact L.r41_4) (fun e => by subst e; exact L.r67_4)
theorem Ly.dr0_5 (L : Ly p h) (hD : isD D) : jr h D 5 = D + 8 := hD.elim (fun e => by subst e; exact L.r41_5) (fun e => by subst e; exact L.r67_5)
theorem Ly.dr0_7 (L : Ly p h) (hD : isD D) : jr h D 7 = D + 9 := hD.elim (fun e => by subst e; exact L.r41_7) (fun e => by subst e; exact L.r67_7)
theorem Ly.dr0_8 (L : Ly p h) (hD : isD D) : jr h D 8 = D + 10 := hD.elim (fun e => by subst e; exact L.r41_8) (fun e => by subst e; exact L.r67_8)
theorem Ly.dr0_9 (L : Ly p h) (hD : isD D) : jr h D 9 = D + 11 := hD.elim (fun e => by subst e; exact L.r41_9) (fun e => by subst e; exact L.r67_9)
theorem Ly.dr0_10 (L : Ly p h) (hD : isD D) : jr h D 10 = D + 12 := hD.elim (fun e => by subst e; exact L.r41_10) (fun e => by subst e; exact L.r67_10)
theorem Ly.dr0_11 (L : Ly p h) (hD : isD D) : jr h D 11 = D + 13 := hD.elim (fun e => by subst e; exact L.r41_11) (fun e => by subst e; exact L.r67_11)
theorem Ly.dr1_0 (L : Ly p h) (hD : isD D) : jr h (D + 1) 0 = D + 2 := hD.elim (fun e => by subst e; exact L.r42_0) (fun e => by subst e; exact L.r68_0)
theorem Ly.dr1_1 (L : Ly p h) (hD : isD D) : jr h (D + 1) 1 = D + 3 := hD.elim (fun e => by subst e; exact L.r42_1) (fun e => by subst e; exact L.r68_1)
theorem Ly.dr1_2 (L : Ly p h) (hD : isD D) : jr h (D + 1) 2 = D + 4 := hD.elim (fun e => by subst e; exact L.r42_2) (fun e => by subst e; exact L.r68_2)
theorem Ly.dr5_0 (L : Ly p h) (hD : isD D) : jr h (D + 5) 0 = D + 6 := hD.elim (fun e => by subst e; exact L.r46_0) (fun e => by subst e; exact L.r72_0)
theorem Ly.dr5_1 (L : Ly p h) (hD : isD D) : jr h (D + 5) 1 = D + 7 := hD.elim (fun e => by subst e; exact L.r46_1) (fun e => by subst e; exact L.r72_1)
theorem Ly.dr14_0 (L : Ly p h) (hD : isD D) : jr h (D + 14) 0 = D + 5 := hD.elim (fun e => by subst e; exact L.r55_0) (fun e => by subst e; exact L.r81_0)
theorem Ly.dr14_1 (L : Ly p h) (hD : isD D) : jr h (D + 14) 1 = D + 15 := hD.elim (fun e => by subst e; exact L.r55_1) (fun e => by subst e; exact L.r81_1)
theorem Ly.dr14_2 (L : Ly p h) (hD : isD D) : jr h (D + 14) 2 = D + 16 := hD.elim (fun e => by subst e; exact L.r55_2) (fun e => by subst e; exact L.r81_2)
theorem Ly.dr14_3 (L : Ly p h) (hD : isD D) : jr h (D + 14) 3 = D + 17 := hD.elim (fun e => by subst e; exact L.r55_3) (fun e => by subst e; exact L.r81_3)
theorem Ly.dr18_0 (L : Ly p h) (hD : isD D) : jr h (D + 18) 0 = D + 5 := hD.elim (fun e => by subst e; exact L.r59_0) (fun e => by subst e; exact L.r85_0)
theorem Ly.dr18_1 (L : Ly p h) (hD : isD D) : jr h (D + 18) 1 = D + 19 := hD.elim (fun e => by subst e; exact L.r59_1) (fun e => by subst e; exact L.r85_1)
theorem Ly.dr18_2 (L : Ly p h) (hD : isD D) : jr h (D + 18) 2 = D + 20 := hD.elim (fun e => by subst e; exact L.r59_2) (fun e => by subst e; exact L.r85_2)
theorem Ly.dr18_3 (L : Ly p h) (hD : isD D) : jr h (D + 18) 3 = D + 21 := hD.elim (fun e => by subst e; exact L.r59_3) (fun e => by subst e; exact L.r85_3)
theorem Ly.dr22_0 (L : Ly p h) (hD : isD D) : jr h (D + 22) 0 = D + 5 := hD.elim (fun e => by subst e; exact L.r63_0) (fun e => by subst e; exact L.r89_0)
theorem Ly.dr22_1 (L : Ly p h) (hD : isD D) : jr h (D + 22) 1 = D + 23 := hD.elim (fun e => by subst e; exact L.r63_1) (fun e => by subst e; exact L.r89_1)
theorem Ly.dr22_2 (L : Ly p h) (hD : isD D) : jr h (D + 22) 2 = D + 24 := hD.elim (fun e => by subst e; exact L.r63_2) (fun e => by subst e; exact L.r89_2)
theorem Ly.dr22_3 (L : Ly p h) (hD : isD D) : jr h (D + 22) 3 = D + 25 := hD.elim (fun e => by subst e; exact L.r63_3) (fun e => by subst e; exact L.r89_3)
end LYS
