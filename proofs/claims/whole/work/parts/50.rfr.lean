/-! THE REFERENCE: what it leaves as it was; its texts and codes -/
/-- only fields of Z change, nothing is new -/
def Fq (Z : Nat → Nat → Prop) (h h' : AH) : Prop := (∀ a k, ¬ Z a k → ji h' a k = ji h a k ∧ jl h' a k = jl h a k) ∧ (∀ a k, jr h' a k = jr h a k) ∧ (∀ a, jt h' a = jt h a ∧ jn h' a = jn h a) ∧ jx h' = jx h ∧ ju h' = ju h
section FQ
variable {Z Y : Nat → Nat → Prop} {h h1 h2 : AH} {p : Lpar}
theorem Fq.refl : Fq Z h h := ⟨fun _ _ _ => ⟨rfl, rfl⟩, fun _ _ => rfl, fun _ => ⟨rfl, rfl⟩, rfl, rfl⟩
theorem Fq.trans (f : Fq Z h h1) (g : Fq Z h1 h2) : Fq Z h h2 := ⟨fun a k z => ⟨(g.1 a k z).1.trans (f.1 a k z).1, (g.1 a k z).2.trans (f.1 a k z).2⟩, fun a k => (g.2.1 a k).trans (f.2.1 a k), fun a => ⟨(g.2.2.1 a).1.trans (f.2.2.1 a).1, (g.2.2.1 a).2.trans (f.2.2.1 a).2⟩, g.2.2.2.1.trans f.2.2.2.1, g.2.2.2.2.trans f.2.2.2.2⟩
theorem Fq.mono (f : Fq Z h h1) (hz : ∀ a k, Z a k → Y a k) : Fq Y h h1 := ⟨fun a k z => f.1 a k (fun q => z (hz a k q)), f.2⟩
theorem Fq.wi {a k : Nat} {x : Int} (hz : Z a k) : Fq Z h (wi h a k x) := ⟨fun b j z => ⟨by rw [ji_wi, if_neg (fun q => z (by rw [q.1, q.2]; exact hz))], rfl⟩, fun _ _ => rfl, fun _ => ⟨rfl, rfl⟩, rfl, rfl⟩
theorem Fq.wl {a k : Nat} {x : Int} (hz : Z a k) : Fq Z h (wl h a k x) := ⟨fun b j z => ⟨rfl, by rw [jl_wl, if_neg (fun q => z (by rw [q.1, q.2]; exact hz))]⟩, fun _ _ => rfl, fun _ => ⟨rfl, rfl⟩, rfl, rfl⟩
theorem Fq.i (f : Fq Z h h1) {a k : Nat} (z : ¬ Z a k) : ji h1 a k = ji h a k := (f.1 a k z).1
theorem Fq.l (f : Fq Z h h1) {a k : Nat} (z : ¬ Z a k) : jl h1 a k = jl h a k := (f.1 a k z).2
theorem Ly.fq (L : Ly p h) (f : Fq Z h h1) (hz : ∀ a k, Z a k → 32 ≤ a) : Ly p h1 := L.keep (fun a _ => f.2.2.1 a) (fun a k _ _ => f.2.1 a k) (fun a k ha => f.i (fun q => by have := hz a k q; omega)) (Nat.le_of_eq f.2.2.2.1.symm)
end FQ
def TxM (T : Txt) (h : AH) : Prop := ji h 141 1 = (T.1 : Int) ∧ ∀ k, k < T.1 → ji h 142 k = T.2 k
theorem TxM.fq {Z : Nat → Nat → Prop} {T : Txt} {h h1 : AH} (X : TxM T h) (f : Fq Z h h1) (z1 : ¬ Z 141 1) (z2 : ∀ k, ¬ Z 142 k) : TxM T h1 := ⟨(f.i z1).trans X.1, fun k hk => (f.i (z2 k)).trans (X.2 k hk)⟩
theorem okN_c27 {l : List Int} (h : okN l) : 1 ≤ c27 l ∧ c27 l ≤ 531440 := by
  obtain ⟨h1, h2, h3⟩ := h
  match l, h1, h2, h3 with
  | [a], _, _, h3 => have := h3 a (by simp); simp only [c27, List.foldl]; omega
  | [a, b], _, _, h3 => have := h3 a (by simp); have := h3 b (by simp); simp only [c27, List.foldl]; omega
  | [a, b, c], _, _, h3 => have := h3 a (by simp); have := h3 b (by simp); have := h3 c (by simp); simp only [c27, List.foldl]; omega
  | [a, b, c, d], _, _, h3 => have := h3 a (by simp); have := h3 b (by simp); have := h3 c (by simp); have := h3 d (by simp); simp only [c27, List.foldl]; omega
theorem c27_inj {l m : List Int} (hl : okN l) (hm : okN m) (e : c27 l = c27 m) : l = m := by
  obtain ⟨h1, h2, h3⟩ := hl
  obtain ⟨g1, g2, g3⟩ := hm
  match l, h1, h2, h3, m, g1, g2, g3 with
  | [a], _, _, h3, [w], _, _, g3 => have := h3 a (by simp); have := g3 w (by simp); simp only [c27, List.foldl] at e; rw [show a = w by omega]
  | [a], _, _, h3, [w, x], _, _, g3 => have := h3 a (by simp); have := g3 w (by simp); have := g3 x (by simp); simp only [c27, List.foldl] at e; omega
  | [a], _, _, h3, [w, x, y], _, _, g3 => have := h3 a (by simp); have := g3 w (by simp); have := g3 x (by simp); have := g3 y (by simp); simp only [c27, List.foldl] at e; omega
  | [a], _, _, h3, [w, x, y, z], _, _, g3 => have := h3 a (by simp); have := g3 w (by simp); have := g3 x (by simp); have := g3 y (by simp); have := g3 z (by simp); simp only [c27, List.foldl] at e; omega
  | [a, b], _, _, h3, [w], _, _, g3 => have := h3 a (by simp); have := h3 b (by simp); have := g3 w (by simp); simp only [c27, List.foldl] at e; omega
  | [a, b], _, _, h3, [w, x], _, _, g3 => have := h3 a (by simp); have := h3 b (by simp); have := g3 w (by simp); have := g3 x (by simp); simp only [c27, List.foldl] at e; rw [show a = w by omega, show b = x by omega]
  | [a, b], _, _, h3, [w, x, y], _, _, g3 => have := h3 a (by simp); have := h3 b (by simp); have := g3 w (by simp); have := g3 x (by simp); have := g3 y (by simp); simp only [c27, List.foldl] at e; omega
  | [a, b], _, _, h3, [w, x, y, z], _, _, g3 => have := h3 a (by simp); have := h3 b (by simp); have := g3 w (by simp); have := g3 x (by simp); have := g3 y (by simp); have := g3 z (by simp); simp only [c27, List.foldl] at e; omega
  | [a, b, c], _, _, h3, [w], _, _, g3 => have := h3 a (by simp); have := h3 b (by simp); have := h3 c (by simp); have := g3 w (by simp); simp only [c27, List.foldl] at e; omega
  | [a, b, c], _, _, h3, [w, x], _, _, g3 => have := h3 a (by simp); have := h3 b (by simp); have := h3 c (by simp); have := g3 w (by simp); have := g3 x (by simp); simp only [c27, List.foldl] at e; omega
  | [a, b, c], _, _, h3, [w, x, y], _, _, g3 => have := h3 a (by simp); have := h3 b (by simp); have := h3 c (by simp); have := g3 w (by simp); have := g3 x (by simp); have := g3 y (by simp); simp only [c27, List.foldl] at e; rw [show a = w by omega, show b = x by omega, show c = y by omega]
  | [a, b, c], _, _, h3, [w, x, y, z], _, _, g3 => have := h3 a (by simp); have := h3 b (by simp); have := h3 c (by simp); have := g3 w (by simp); have := g3 x (by simp); have := g3 y (by simp); have := g3 z (by simp); simp only [c27, List.foldl] at e; omega
  | [a, b, c, d], _, _, h3, [w], _, _, g3 => have := h3 a (by simp); have := h3 b (by simp); have := h3 c (by simp); have := h3 d (by simp); have := g3 w (by simp); simp only [c27, List.foldl] at e; omega
  | [a, b, c, d], _, _, h3, [w, x], _, _, g3 => have := h3 a (by simp); have := h3 b (by simp); have := h3 c (by simp); have := h3 d (by simp); have := g3 w (by simp); have := g3 x (by simp); simp only [c27, List.foldl] at e; omega
  | [a, b, c, d], _, _, h3, [w, x, y], _, _, g3 => have := h3 a (by simp); have := h3 b (by simp); have := h3 c (by simp); have := h3 d (by simp); have := g3 w (by simp); have := g3 x (by simp); have := g3 y (by simp); simp only [c27, List.foldl] at e; omega
  | [a, b, c, d], _, _, h3, [w, x, y, z], _, _, g3 => have := h3 a (by simp); have := h3 b (by simp); have := h3 c (by simp); have := h3 d (by simp); have := g3 w (by simp); have := g3 x (by simp); have := g3 y (by simp); have := g3 z (by simp); simp only [c27, List.foldl] at e; rw [show a = w by omega, show b = x by omega, show c = y by omega, show d = z by omega]
