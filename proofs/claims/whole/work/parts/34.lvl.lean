-- needs: 20.num 21.lay 22.spec 23.va 24.leaf 25.tbls 26.thg 27.tok 29.fr 30.tree 28.vb1 28.vb2 28.vb3 31.ctx 32.rd1 33.rd2
/-! THE READER: sums, level by level -/
/-- what the class counts as work, in a sum that stands in w times -/
def mnT (x : Int) : Int := if 1000000000 < x then 1000000000 else x
def wkc (S : List (Int × Int)) : Ex → Int → Int
  | .leaf, _ => 0
  | .inner t k _ l r, w => if t ≤ 3 then w else if t = 4 then w + wkc S l (mnT (w * (szO S k.2.1 * szO S k.2.2))) else wkc S l w + wkc S r w
theorem wkc_mul (S : List (Int × Int)) (q f : Ex) (w : Int) : wkc S (xMul q f) w = wkc S q w + wkc S f w := rfl
theorem wkc_part (S : List (Int × Int)) (neg : Bool) (s q : Ex) (w : Int) : wkc S (xPart neg s q) w = wkc S s w + wkc S q w := by cases neg <;> rfl
abbrev ZS (D a : Nat) : Prop := ZI D a ∨ a = D
def DS (p : Lpar) (h h' : AH) : Prop := Fm (ZS (pT p)) h h' ∧ ∀ k, ji h' (pT p) k = ji h (pT p) k ∧ jr h' (pT p) k = jr h (pT p) k
def SmH (p : Lpar) (C : Cx) (G : NmL) (sl : List Int) (T : Txt) (e i : Nat) (h : AH) (t w : Int) : Prop := Ly p h ∧ TokR T e i h ∧ SmX (pT p) C G sl h ∧ jl h 93 7 = t ∧ jl h (pT p) 14 = w ∧ 0 ≤ t ∧ t ≤ 1000000000 ∧ 0 ≤ w ∧ w ≤ 1000000000 * (i : Int)
def FcP (p : Lpar) (C : Cx) (G : NmL) (sl : List Int) (T : Txt) (e i : Nat) (h : AH) (t w : Int) (R : Er (Ex × Nat)) (u : Option AV) (h' : AH) : Prop := ∃ v, u = some (jP v) ∧ Ly p h' ∧ DS p h h' ∧ ∃ i', TokR T e i' h' ∧ i ≤ i' ∧ jx h' ≤ jx h + 2 * (i' - i) + 1 ∧ Rs R (fun q => v = 0 ∧ ji h' 37 5 = -10 - (q : Int)) (fun r => i' = r.2 ∧ i < i' ∧ jx h' + 1 ≤ jx h + 2 * (i' - i) ∧ tR h' r.1 0 (jx h) (jx h') v 0 ∧ SmH p C G sl T e i' h' t (w + wkc C.1 r.1 t))
def SuP (p : Lpar) (C : Cx) (G : NmL) (sl : List Int) (T : Txt) (e i : Nat) (h : AH) (t w : Int) (R : Er (Ex × Nat)) (u : Option AV) (h' : AH) : Prop := ∃ v, u = some (jP v) ∧ Ly p h' ∧ DS p h h' ∧ ∃ i', TokR T e i' h' ∧ i ≤ i' ∧ jx h' ≤ jx h + 2 * (i' - i) + 2 ∧ Rs R (fun q => v = 0 ∧ ji h' 37 5 = -10 - (q : Int)) (fun r => i' = r.2 ∧ i < i' ∧ jx h' ≤ jx h + 2 * (i' - i) ∧ NF ≤ v ∧ tR h' r.1 3 (jx h) (jx h') v 0 ∧ SmH p C G sl T e i' h' t (w + wkc C.1 r.1 t))
def facR (T : Txt) (C : Cx) : Nat → NmL → List Int → Nat → Er (Ex × Nat)
  | 0 => facW T C false (fun _ _ _ => .error 0)
  | n + 1 => facW T C true (pSum T C n)
theorem pSum_eq (T : Txt) (C : Cx) (n : Nat) (G : NmL) (sl : List Int) (i : Nat) : pSum T C n G sl i = sumW T (facR T C n G sl) i := by cases n <;> rfl
def FacS (p : Lpar) (T : Txt) (e : Nat) (C : Cx) (n : Nat) : Prop := ∀ (d : Nat) (G : NmL) (sl : List Int) (i : Nat) (h : AH) (t w : Int), 15 + 3 * n ≤ d → SmH p C G sl T e i h t w → okX C G sl → sl.length + 2 * n ≤ 18 → ∃ u h', jE d 47 [jP 93, jI (8 - (n : Int))] h u h' ∧ FcP p C G sl T e i h t w (facR T C n G sl i) u h'
def SumS (p : Lpar) (T : Txt) (e : Nat) (C : Cx) (n : Nat) : Prop := ∀ (d : Nat) (G : NmL) (sl : List Int) (i : Nat) (h : AH) (t w : Int), 16 + 3 * n ≤ d → SmH p C G sl T e i h t w → okX C G sl → sl.length + 2 * n ≤ 18 → ∃ u h', jE d 46 [jP 93, jI (8 - (n : Int))] h u h' ∧ SuP p C G sl T e i h t w (pSum T C n G sl i) u h'
section LVL
variable {p : Lpar} {d : Nat} {h h' h0 h1 h2 : AH} {C : Cx} {G : NmL} {sl : List Int} {T : Txt} {e i i0 : Nat} {t w : Int}
theorem DS.refl : DS p h h := ⟨Fm.refl, fun _ => ⟨rfl, rfl⟩⟩
theorem DS.trans (f : DS p h h1) (g : DS p h1 h2) : DS p h h2 := ⟨f.1.trans g.1, fun k => ⟨(g.2 k).1.trans (f.2 k).1, (g.2 k).2.trans (f.2 k).2⟩⟩
/-- cells of a tree lie behind all that a frame lets change -/
theorem DS.old (f : DS p h h') (L : Ly p h) {c : Nat} (h1 : NF ≤ c) (h2 : c < jx h) : jt h' c = jt h c ∧ (∀ k, ji h' c k = ji h c k) ∧ (∀ k, jr h' c k = jr h c k) := by
  have hT := L.iT'
  have hN : NF = 197 := rfl
  have hz : ¬ ZS (pT p) c := by omega
  exact ⟨(f.1.2.1 c h2).1, fun k => f.1.ji h2 hz k, fun k => f.1.jr h2 hz k⟩
theorem DS.tree (f : DS p h h') (L : Ly p h) {x : Ex} {m lo hi a b : Nat} (hx : tR h x m lo hi a b) (h1 : NF ≤ lo) (h2 : hi ≤ jx h) : tR h' x m lo hi a b := tR_mono hx (Nat.le_refl _) (Nat.le_refl _) (fun c g1 g2 => f.old L (by omega) (by omega))
theorem DS.swi (L : Ly p h) {a k : Nat} {x : Int} (ha : ZI (pT p) a ∨ NF ≤ a) (ha2 : a < jx h → ZI (pT p) a) : DS p h (wi h a k x) := by
  have hT := L.iT'
  have hx := L.nx
  have hN : NF = 197 := rfl
  refine ⟨⟨fun b hb hz j => ⟨?_, rfl, rfl⟩, fun _ _ => ⟨rfl, rfl⟩, Nat.le_refl _, Nat.le_refl _⟩, fun k => ⟨by rw [ji_wi, if_neg (by omega)], rfl⟩⟩
  rw [ji_wi, if_neg]
  intro q
  rw [q.1] at hb hz
  exact hz (Or.inl (ha2 hb))
theorem DS.w37 (L : Ly p h) {k : Nat} {x : Int} : DS p h (wi h 37 k x) := DS.swi L (Or.inl (Or.inl rfl)) (fun _ => Or.inl rfl)
theorem DS.swl (L : Ly p h) {x : Int} : DS p h (wl h (pT p) 14 x) := ⟨Fm.wl (Or.inr rfl), fun _ => ⟨rfl, rfl⟩⟩
theorem DS.wl93 (L : Ly p h) {k : Nat} {x : Int} : DS p h (wl h 93 k x) := ⟨Fm.wl (Or.inl (by omega)), fun _ => ⟨rfl, rfl⟩⟩
theorem DS.of37 (L : Ly p h) (f : Fm Z37 h h') : DS p h h' := by
  have hT := L.iT'
  have hx := L.nx
  have hN : NF = 197 := rfl
  exact ⟨f.mono (fun a _ q => Or.inl (Or.inl q)), fun k => ⟨f.ji (by omega) (by show ¬ _ = 37; omega) k, f.jr (by omega) (by show ¬ _ = 37; omega) k⟩⟩
theorem DS.of43 (L : Ly p h) (f : E43 p h h') : DS p h h' := by
  have hT := L.iT'
  have hx := L.nx
  have hN : NF = 197 := rfl
  exact ⟨f.1.mono (fun a _ q => Or.inl q), fun k => ⟨f.1.ji (by omega) (by omega) k, f.1.jr (by omega) (by omega) k⟩⟩
/-- changes of new cells alone -/
theorem DS.new (L : Ly p h) (hx : jx h ≤ jx h') (hu : ju h' + 7 * jx h ≤ ju h + 7 * jx h') (hs : ∀ a, a < jx h → sameC h h' a ∧ jt h' a = jt h a ∧ jn h' a = jn h a) : DS p h h' := by
  have hT := L.iT'
  have hxx := L.nx
  have hN : NF = 197 := rfl
  exact ⟨⟨fun a ha _ => (hs a ha).1, fun a ha => (hs a ha).2, hx, hu⟩, fun k => ⟨((hs (pT p) (by omega)).1 k).1, ((hs (pT p) (by omega)).1 k).2.2⟩⟩
theorem SmX.ds (X : SmX (pT p) C G sl h) (hs : ∀ a k, a < NF → ji h' a k = ji h a k) (L : Ly p h) : SmX (pT p) C G sl h' := by
  have hT := L.iT'
  have hN : NF = 197 := rfl
  exact X.cg (fun a k q => hs a k (by omega))
/-- what stands at the head of the loop of a sum -/
def LpI (p : Lpar) (C : Cx) (G : NmL) (sl : List Int) (T : Txt) (e i0 : Nat) (h0 : AH) (t w : Int) (i : Nat) (h : AH) (s : Ex) (neg : Bool) (q : Ex) (a2 a3 : Nat) : Prop := SmH p C G sl T e i h t (w + wkc C.1 s t + wkc C.1 q t) ∧ DS p h0 h ∧ i0 ≤ i ∧ jx h ≤ jx h0 + 2 * (i - i0) + 1 ∧ tR h s 3 (jx h0) a3 a2 a3 ∧ jx h0 ≤ a3 ∧ a3 < jx h ∧ jt h a3 = 6 ∧ ji h a3 0 = (if neg = true then 1 else 0) ∧ tR h q 1 (a3 + 1) (jx h) (jr h a3 1) 0 ∧ tR h q 2 (a3 + 1) (jx h) (jr h a3 2) 0 ∧ jr h a3 3 = 0 ∧ NF ≤ a2
/-- the same behind a factor -/
def LpJ (p : Lpar) (C : Cx) (G : NmL) (sl : List Int) (T : Txt) (e i0 : Nat) (h0 : AH) (t w : Int) (i : Nat) (h : AH) (s : Ex) (neg : Bool) (q : Ex) (a2 a3 : Nat) : Prop := LpI p C G sl T e i0 h0 t w i h s neg q a2 a3 ∧ i0 < i ∧ jx h ≤ jx h0 + 2 * (i - i0)
theorem SmH.adv {w : Int} (H : SmH p C G sl T e i h t w) (hs : ¬ (tkK T i = 3 ∨ tkK T i = 4)) : SmH p C G sl T e (i + 1) (wi h 37 4 ((i + 1 : Nat) : Int)) t w := by
  obtain ⟨L, K, X, h1, h2, h3, h4, h5, h6⟩ := H
  exact ⟨L.wi (by decide), K.adv hs, X.tok L.iT, h1, h2, h3, h4, h5, by omega⟩
/-- cells that stay: all up to jx h but the tokens' -/
theorem lp_adv {s q : Ex} {neg : Bool} {a2 a3 : Nat} (J : LpI p C G sl T e i0 h0 t w i h s neg q a2 a3) (L0 : Ly p h0) (hs : ¬ (tkK T i = 3 ∨ tkK T i = 4)) : LpI p C G sl T e i0 h0 t w (i + 1) (wi h 37 4 ((i + 1 : Nat) : Int)) s neg q a2 a3 := by
  obtain ⟨j1, j2, j3, j4, j5, j6, j7, j8, j9, j10, j11, j12, j13⟩ := J
  have L := j1.1
  have hx := L0.nx
  have hN : NF = 197 := rfl
  have f : DS p h (wi h 37 4 ((i + 1 : Nat) : Int)) := DS.w37 L
  exact ⟨j1.adv hs, j2.trans f, by omega, by show jx h ≤ _; omega, f.tree L j5 hx (by omega), j6, j7, j8, by rw [ji_wi, if_neg (by omega)]; exact j9, f.tree L j10 (by omega) (Nat.le_refl _), f.tree L j11 (by omega) (Nat.le_refl _), j12, j13⟩
/-- a new part behind the one that is done -/
theorem lp_new {s q : Ex} {neg neg' : Bool} {a2 a3 : Nat} (J : LpI p C G sl T e i0 h0 t w i h s neg q a2 a3) (L0 : Ly p h0) (hi : i0 < i) (hj : jx h ≤ jx h0 + 2 * (i - i0)) : LpI p C G sl T e i0 h0 t w i (wr (wi (nw h 6 4) (jx h) 0 (if neg' = true then 1 else 0)) a3 3 (jx h)) (xPart neg s q) neg' xOne a2 (jx h) := by
  obtain ⟨j1, j2, j3, j4, j5, j6, j7, j8, j9, j10, j11, j12, j13⟩ := J
  obtain ⟨L, K, X, g1, g2, g3, g4, g5, g6⟩ := j1
  have hx := L0.nx
  have hN : NF = 197 := rfl
  have hTT := L.iT'
  generalize hh : wr (wi (nw h 6 4) (jx h) 0 (if neg' = true then 1 else 0)) a3 3 (jx h) = h'
  have ei : ∀ a k, a < jx h → ji h' a k = ji h a k := fun a k ha => by rw [← hh, ji_wr, ji_wi, if_neg (by omega), ji_nw, if_neg (by omega)]
  have el : ∀ a k, a < jx h → jl h' a k = jl h a k := fun a k ha => by rw [← hh, jl_wr, jl_wi, jl_nw, if_neg (by omega)]
  have er : ∀ a k, a < jx h → ¬ (a = a3 ∧ k = 3) → jr h' a k = jr h a k := fun a k ha hk => by rw [← hh, jr_wr, if_neg hk, jr_wi, jr_nw, if_neg (by omega)]
  have et : ∀ a, a < jx h → jt h' a = jt h a ∧ jn h' a = jn h a := fun a ha => by rw [← hh]; exact ⟨by show jt (nw h 6 4) a = _; rw [jt_nw, if_neg (by omega)], by show jn (nw h 6 4) a = _; rw [jn_nw, if_neg (by omega)]⟩
  have ex : jx h' = jx h + 1 := by rw [← hh]; rfl
  have eu : ju h' = ju h + 4 := by rw [← hh]; rfl
  have L' : Ly p h' := by rw [← hh]; exact ((L.nw).wi (by omega)).wr (by unfold mutR; omega)
  have tm : ∀ {x : Ex} {m lo hi a b : Nat}, tR h x m lo hi a b → hi ≤ jx h → (a3 < lo ∨ hi ≤ a3) → tR h' x m lo hi a b := fun {x m lo hi a b} hx hh1 hh2 => tR_mono hx (Nat.le_refl _) (Nat.le_refl _) (fun c c1 c2 => ⟨(et c (by omega)).1, fun k => ei c k (by omega), fun k => er c k (by omega) (by omega)⟩)
  have w0 : w + wkc C.1 (xPart neg s q) t + wkc C.1 xOne t = w + wkc C.1 s t + wkc C.1 q t := by rw [wkc_part]; show _ + _ + 0 = _; omega
  refine ⟨⟨L', K.cg (fun a k _ _ => ei a k (by omega)), X.cg (fun a k _ => ei a k (by omega)), by rw [el _ _ (by omega)]; exact g1, by rw [w0, el _ _ (by omega)]; exact g2, g3, g4, by rw [w0]; exact g5, by rw [w0]; exact g6⟩, ?_, by omega, by rw [ex]; omega, ?_, by omega, by omega, by rw [← hh]; show jt (nw h 6 4) (jx h) = 6; rw [jt_nw, if_pos rfl], by rw [← hh, ji_wr, ji_wi, if_pos ⟨rfl, rfl⟩], ?_, ?_, ?_, j13⟩
  · refine ⟨⟨fun a ha hz k => ?_, fun a ha => ?_, by rw [ex]; have := j2.1.2.2.1; omega, by rw [ex, eu]; have := j2.1.2.2.2; omega⟩, fun k => ⟨by rw [ei _ _ (by omega)]; exact (j2.2 k).1, by rw [er _ _ (by omega) (by omega)]; exact (j2.2 k).2⟩⟩
    · have hb : a < jx h := by omega
      have z := j2.1.1 a ha hz k
      exact ⟨by rw [ei a k hb]; exact z.1, by rw [el a k hb]; exact z.2.1, by rw [er a k hb (by omega)]; exact z.2.2⟩
    · have z := j2.1.2.1 a ha
      have y := et a (by omega)
      exact ⟨y.1.trans z.1, y.2.trans z.2⟩
  · refine tR_part (c := a3) (tm j5 (by omega) (by omega)) j6 (by omega) (by rw [(et a3 (by omega)).1]; exact j8) (by rw [ei a3 0 (by omega)]; exact j9) ?_ ?_ (by rw [← hh, jr_wr, if_pos ⟨rfl, rfl⟩])
    · rw [er a3 1 (by omega) (by omega)]; exact tm j10 (Nat.le_refl _) (by omega)
    · rw [er a3 2 (by omega) (by omega)]; exact tm j11 (Nat.le_refl _) (by omega)
  · exact ⟨Or.inl rfl, by rw [← hh, jr_wr, if_neg (by omega), jr_wi, jr_nw, if_pos rfl]⟩
  · exact ⟨Or.inr rfl, by rw [← hh, jr_wr, if_neg (by omega), jr_wi, jr_nw, if_pos rfl]⟩
  · rw [← hh, jr_wr, if_neg (by omega), jr_wi, jr_nw, if_pos rfl]
end LVL
