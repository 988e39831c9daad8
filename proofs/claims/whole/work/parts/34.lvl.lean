-- needs: 20.num 21.lay 22.spec 23.va 24.leaf 25.tbls 26.thg 27.tok 29.fr 30.tree 28.vb1 28.vb2 28.vb3 31.ctx 32.rd1 33.rd2
/-! THE READER: sums, level by level -/
/-- what the class counts as work, in a sum that stands in w times -/
def mnT (x : Int) : Int := if 1000000000 < x then 1000000000 else x
def wkc (S : List (Int × Int)) : Ex → Int → Int
  | .leaf, _ => 0
  | .inner t k _ l r, w => if t ≤ 3 then w else if t = 4 then w + wkc S l (mnT (w * (szO S k.2.1 * szO S k.2.2))) else wkc S l w + wkc S r w
theorem wkc_mul (S : List (Int × Int)) (q f : Ex) (w : Int) : wkc S (xMul q f) w = wkc S q w + wkc S f w := rfl
theorem wkc_part (S : List (Int × Int)) (neg : Bool) (s q : Ex) (w : Int) : wkc S (xPart neg s q) w = wkc S s w + wkc S q w := by cases neg <;> rfl
abbrev ZS (D a : Nat) : Prop := ZI D a ∨ a = D
def DS (p : Lpar) (h h' : AH) : Prop := Fm (ZS (pT p)) h h' ∧ ∀ k, ji h' (pT p) k = ji h (pT p) k ∧ jr h' (pT p) k = jr h (pT p) k
def SmH (p : Lpar) (C : Cx) (G : NmL) (sl : List Int) (T : Txt) (e i : Nat) (h : AH) (t w : Int) : Prop := Ly p h ∧ TokR T e i h ∧ SmX (pT p) C G sl h ∧ jl h 93 7 = t ∧ jl h (pT p) 14 = w ∧ 0 ≤ t ∧ t ≤ 1000000000 ∧ 0 ≤ w ∧ w ≤ 1000000000 * (i : Int)
def FcP (p : Lpar) (C : Cx) (G : NmL) (sl : List Int) (T : Txt) (e i : Nat) (h : AH) (t w : Int) (R : Er (Ex × Nat)) (u : Option AV) (h' : AH) : Prop := ∃ v, u = some (jP v) ∧ Ly p h' ∧ DS p h h' ∧ ∃ i', TokR T e i' h' ∧ i ≤ i' ∧ jx h' ≤ jx h + 2 * (i' - i) + 1 ∧ Rs R (fun q => v = 0 ∧ ji h' 37 5 = -10 - (q : Int)) (fun r => i' = r.2 ∧ i < i' ∧ jx h' + 1 ≤ jx h + 2 * (i' - i) ∧ tR h' r.1 0 (jx h) (jx h') v 0 ∧ SmH p C G sl T e i' h' t (w + wkc C.1 r.1 t))
def SuP (p : Lpar) (C : Cx) (G : NmL) (sl : List Int) (T : Txt) (e i : Nat) (h : AH) (t w : Int) (R : Er (Ex × Nat)) (u : Option AV) (h' : AH) : Prop := ∃ v, u = some (jP v) ∧ Ly p h' ∧ DS p h h' ∧ ∃ i', TokR T e i' h' ∧ i ≤ i' ∧ jx h' ≤ jx h + 2 * (i' - i) + 2 ∧ Rs R (fun q => v = 0 ∧ ji h' 37 5 = -10 - (q : Int)) (fun r => i' = r.2 ∧ i < i' ∧ jx h' ≤ jx h + 2 * (i' - i) ∧ NF ≤ v ∧ tR h' r.1 3 (jx h) (jx h') v 0 ∧ SmH p C G sl T e i' h' t (w + wkc C.1 r.1 t))
def facR (T : Txt) (C : Cx) : Nat → NmL → List Int → Nat → Er (Ex × Nat)
  | 0 => facW T C false (fun _ _ _ => .error 0)
  | n + 1 => facW T C true (pSum T C n)
theorem pSum_eq (T : Txt) (C : Cx) (n : Nat) (G : NmL) (sl : List Int) (i : Nat) : pSum T C n G sl i = sumW T (facR T C n G sl) i := by cases n <;> rfl
def FacS (p : Lpar) (T : Txt) (e : Nat) (C : Cx) (n : Nat) : Prop := ∀ (d : Nat) (G : NmL) (sl : List Int) (i : Nat) (h : AH) (t w : Int), 15 + 3 * n ≤ d → SmH p C G sl T e i h t w → okX C G sl → sl.length + 2 * n ≤ 18 → ∃ u h', jE d 47 [jP 93, jI (8 - (n : Int))] h u h' ∧ FcP p C G sl T e i h t w (facR T C n G sl i) u h'
def SumS (p : Lpar) (T : Txt) (e : Nat) (C : Cx) (n : Nat) : Prop := ∀ (d : Nat) (G : NmL) (sl : List Int) (i : Nat) (h : AH) (t w : Int), 16 + 3 * n ≤ d → SmH p C G sl T e i h t w → okX C G sl → sl.length + 2 * n ≤ 18 → ∃ u h', jE d 46 [jP 93, jI (8 - (n : Int))] h u h' ∧ SuP p C G sl T e i h t w (pSum T C n G sl i) u h'
section LVL
variable {p : Lpar} {d : Nat} {h h' h0 h1 h2 : AH} {C : Cx} {G : NmL} {sl : List Int} {T : Txt} {e i i0 : Nat} {t w : Int}
theorem DS.refl : DS p h h := ⟨Fm.refl, fun _ => ⟨rfl, rfl⟩⟩
theorem DS.trans (f : DS p h h1) (g : DS p h1 h2) : DS p h h2 := ⟨f.1.trans g.1, fun k => ⟨(g.2 k).1.trans (f.2 k).1, (g.2 k).2.trans (f.2 k).2⟩⟩
/-- cells of a tree lie behind all that a frame lets change -/
theorem DS.old (f : DS p h h') (L : Ly p h) {c : Nat} (h1 : NF ≤ c) (h2 : c < jx h) : jt h' c = jt h c ∧ (∀ k, ji h' c k = ji h c k) ∧ (∀ k, jr h' c k = jr h c k) := by
  have hT := L.iT'
  have hN : NF = 197 := rfl
  have hz : ¬ ZS (pT p) c := by omega
  exact ⟨(f.1.2.1 c h2).1, fun k => f.1.ji h2 hz k, fun k => f.1.jr h2 hz k⟩
theorem DS.tree (f : DS p h h') (L : Ly p h) {x : Ex} {m lo hi a b : Nat} (hx : tR h x m lo hi a b) (h1 : NF ≤ lo) (h2 : hi ≤ jx h) : tR h' x m lo hi a b := tR_mono hx (Nat.le_refl _) (Nat.le_refl _) (fun c g1 g2 => f.old L (by omega) (by omega))
theorem DS.swi (L : Ly p h) {a k : Nat} {x : Int} (ha : ZI (pT p) a ∨ NF ≤ a) (ha2 : a < jx h → ZI (pT p) a) : DS p h (wi h a k x) := by
  have hT := L.iT'
  have hx := L.nx
  have hN : NF = 197 := rfl
  refine ⟨⟨fun b hb hz j => ⟨by rw [ji_wi, if_neg (fun q => ?_)], rfl, rfl⟩, fun _ _ => ⟨rfl, rfl⟩, Nat.le_refl _, Nat.le_refl _⟩, fun k => ⟨by rw [ji_wi, if_neg (by omega)], rfl⟩⟩
  rw [q.1] at hb hz
  exact hz (Or.inl (ha2 hb))
theorem DS.w37 (L : Ly p h) {k : Nat} {x : Int} : DS p h (wi h 37 k x) := DS.swi L (Or.inl (Or.inl rfl)) (fun _ => Or.inl rfl)
theorem DS.swl (L : Ly p h) {x : Int} : DS p h (wl h (pT p) 14 x) := ⟨Fm.wl (Or.inr rfl), fun _ => ⟨rfl, rfl⟩⟩
theorem DS.wl93 (L : Ly p h) {k : Nat} {x : Int} : DS p h (wl h 93 k x) := ⟨Fm.wl (Or.inl (by omega)), fun _ => ⟨rfl, rfl⟩⟩
theorem DS.of37 (L : Ly p h) (f : Fm Z37 h h') : DS p h h' := by
  have hT := L.iT'
  have hx := L.nx
  have hN : NF = 197 := rfl
  exact ⟨f.mono (fun a _ q => Or.inl (Or.inl q)), fun k => ⟨f.ji (by omega) (by show ¬ _ = 37; omega) k, f.jr (by omega) (by show ¬ _ = 37; omega) k⟩⟩
theorem DS.of43 (L : Ly p h) (f : E43 p h h') : DS p h h' := by
  have hT := L.iT'
  have hx := L.nx
  have hN : NF = 197 := rfl
  exact ⟨f.1.mono (fun a _ q => Or.inl q), fun k => ⟨f.1.ji (by omega) (by omega) k, f.1.jr (by omega) (by omega) k⟩⟩
/-- changes of new cells alone -/
theorem DS.new (L : Ly p h) (hx : jx h ≤ jx h') (hu : ju h' + 7 * jx h ≤ ju h + 7 * jx h') (hs : ∀ a, a < jx h → sameC h h' a ∧ jt h' a = jt h a ∧ jn h' a = jn h a) : DS p h h' := by
  have hT := L.iT'
  have hxx := L.nx
  have hN : NF = 197 := rfl
  exact ⟨⟨fun a ha _ => (hs a ha).1, fun a ha => (hs a ha).2, hx, hu⟩, fun k => ⟨((hs (pT p) (by omega)).1 k).1, ((hs (pT p) (by omega)).1 k).2.2⟩⟩
end LVL
