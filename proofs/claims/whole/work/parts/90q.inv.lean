/-! THE LAW: its start, what stands between calls -/
section LIV
variable {p p' : Lpar} {L n m d : Nat} {xs : Nat → Int} {h h1 h2 : AH} {T T' : Txt} {c : Dc} {pt : Nat → Int} {W : List Int} {Z : Nat → Nat → Prop}
theorem bd0 : Bd L xs 0 0 (hI L xs) := by
  refine ⟨rfl, fun k hk => absurd hk (Nat.not_lt_zero k), fun a k ha => ⟨?_, rfl⟩, fun i hi => absurd hi (Nat.not_lt_zero i), fun a k ha _ _ => ?_, fun h65 => absurd h65 (by omega), fun a ha => ⟨rfl, rfl, fun k => ⟨rfl, rfl⟩⟩, rfl⟩
  · show (if a = 2 then (if k < L then xs k else 0) else if a = 3 then wdL.getD k 0 else if 13 ≤ a ∧ a ≤ 21 then (sBy.getD (a - 13) []).getD k 0 else 0) = 0
    rw [if_neg (by omega), if_neg (by omega), if_neg (by omega)]
  · show (if 4 ≤ a ∧ a ≤ 12 ∧ k = 0 then a + 9 else 0) = 0
    rw [if_neg (by omega)]
abbrev p0 (L : Nat) (xs : Nat → Int) : Lpar := (67, 41, 41, 67, L, xs)
set_option maxRecDepth 100000 in
theorem refIn : ∀ e ∈ refL, ∃ i, i < 133 ∧ refA.getD i z3 = e := by decide +kernel
set_option maxRecDepth 100000 in
theorem ref4 : (∃ i, i < 133 ∧ refA.getD i z3 = (93, 1, 67)) ∧ (∃ i, i < 133 ∧ refA.getD i z3 = (95, 0, 41)) ∧ (∃ i, i < 133 ∧ refA.getD i z3 = (32, 5, 41)) ∧ (∃ i, i < 133 ∧ refA.getD i z3 = (32, 6, 67)) := by decide +kernel
set_option maxRecDepth 100000 in
theorem refNo : ∀ i, i < 133 → ¬ ((refA.getD i z3).1 = 41 ∧ (refA.getD i z3).2.1 = 13) := by decide +kernel
theorem bdLy (B : Bd L xs 165 133 h) : Ly (p0 L xs) h := by
  have r : ∀ a k b, (∃ i, i < 133 ∧ refA.getD i z3 = (a, k, b)) → jr h a k = b := fun a k b ⟨i, hi, e⟩ => by
    have q := B.r i hi
    rw [e] at q
    exact q
  refine ⟨B.2.1, fun e he => ?_, fun k hk => B.2.2.2.2.2.1 (by omega) k hk, by rw [B.x]; exact Nat.le_refl _, ⟨Or.inr rfl, Or.inl rfl, Or.inl rfl, Or.inr rfl⟩, ⟨r _ _ _ ref4.1, r _ _ _ ref4.2.1, r _ _ _ ref4.2.2.1, r _ _ _ ref4.2.2.2⟩, B.2.2.2.2.2.2.1⟩
  obtain ⟨i, hi, q⟩ := refIn e he
  exact r e.1 e.2.1 e.2.2 ⟨i, hi, q⟩
abbrev T0 : Txt := (0, fun _ => 0)
theorem okMd0 : okMd D0 := ⟨okD0, by decide, by decide, by decide, by decide, by decide⟩
theorem bdC (B : Bd L xs 165 133 h) : Cst (p0 L xs) T0 D0 (fun _ => 0) h := by
  have z : ∀ a k, 32 ≤ a → ji h a k = 0 ∧ jl h a k = 0 := B.2.2.1
  have no : ∀ {q : Nat → Prop} {k : Nat}, k < 0 → q k := fun hk => absurd hk (Nat.not_lt_zero _)
  refine ⟨bdLy B, ⟨⟨Nat.zero_le _, fun k hk => absurd hk (Nat.not_lt_zero k)⟩, (z 33 1 (by omega)).1, fun k hk => absurd hk (Nat.not_lt_zero k)⟩, ⟨rfl, by show ¬ (41 = 67); decide⟩, ⟨(z 42 3 (by omega)).1, fun k hk => absurd hk (Nat.not_lt_zero k)⟩, ?_, (z 41 14 (by omega)).2, okMd0, ⟨fun row hr => absurd hr (Nat.not_lt_zero row), fun y => absurd rfl y⟩, fun col hc => absurd hc (Nat.not_lt_zero col)⟩
  exact ⟨⟨(z 46 2 (by omega)).1, fun k hk => absurd hk (Nat.not_lt_zero k)⟩, ⟨(z 55 4 (by omega)).1, (z 55 5 (by omega)).1, fun k hk => absurd hk (Nat.not_lt_zero k)⟩, ⟨(z 59 4 (by omega)).1, (z 59 5 (by omega)).1, fun k hk => absurd hk (Nat.not_lt_zero k)⟩, ⟨(z 63 4 (by omega)).1, (z 63 5 (by omega)).1, fun k hk => absurd hk (Nat.not_lt_zero k)⟩, ⟨(z 41 6 (by omega)).1, fun k hk => absurd hk (Nat.not_lt_zero k)⟩, fun k hk => absurd hk (Nat.not_lt_zero k), fun k hk => absurd hk (Nat.not_lt_zero k), (z 41 12 (by omega)).1, fun _ => B.2.2.2.2.1 41 13 (by omega) (by omega) refNo, fun y => absurd rfl y⟩
theorem bdR (B : Bd L xs 165 133 h) : Rst (p0 L xs) T0 D0 (fun _ => 0) h := by
  have z : ∀ a k, 32 ≤ a → ji h a k = 0 ∧ jl h a k = 0 := B.2.2.1
  refine ⟨bdLy B, ⟨(z 141 1 (by omega)).1, fun k hk => absurd hk (Nat.not_lt_zero k)⟩, ⟨okD0, by decide, by decide, by decide, by decide⟩, ⟨fun s hs => ?_, fun e he => absurd (show e ∈ ([] : NmL) from he) (by simp), fun k hk => absurd hk (Nat.not_lt_zero k), fun k hk => absurd hk (Nat.not_lt_zero k), fun k j hk => absurd hk (Nat.not_lt_zero k), fun k hk => absurd hk (Nat.not_lt_zero k)⟩, ⟨(z 141 65 (by omega)).1, fun x hx => absurd hx (Nat.not_lt_zero x)⟩, ⟨(z 141 72 (by omega)).1, fun x hx => absurd hx (Nat.not_lt_zero x)⟩, (z 141 78 (by omega)).1, fun y => absurd rfl y, (z 141 80 (by omega)).2⟩
  rw [(z 175 s (by omega)).1]
  rcases (by omega : s = 0 ∨ s = 1 ∨ s = 2 ∨ s = 3) with rfl | rfl | rfl | rfl <;> rfl
theorem bdP (B : Bd L xs 165 133 h) : Pap [] h ∧ PapM [] h := ⟨⟨(B.2.2.1 35 1 (by omega)).1, Nat.zero_le _, fun k hk => absurd hk (Nat.not_lt_zero k)⟩, ⟨(B.2.2.1 141 81 (by omega)).1, Nat.zero_le _, fun k hk => absurd hk (Nat.not_lt_zero k)⟩⟩
theorem Rst.cg (S : Rst p T c pt h) (hs : ∀ a k, 141 ≤ a → a ≤ 196 → ji h1 a k = ji h a k ∧ jl h1 a k = jl h a k) (L1 : Ly p' h1) : Rst p' T c pt h1 := by
  obtain ⟨_, X, O, K, ⟨e1, C⟩, ⟨e2, W⟩, G⟩ := S
  have i : ∀ a k, 141 ≤ a → a ≤ 196 → ji h1 a k = ji h a k := fun a k z1 z2 => (hs a k z1 z2).1
  have l : ∀ a k, 141 ≤ a → a ≤ 196 → jl h1 a k = jl h a k := fun a k z1 z2 => (hs a k z1 z2).2
  refine ⟨L1, ⟨(i _ _ (by omega) (by omega)).trans X.1, fun k hk => (i _ _ (by omega) (by omega)).trans (X.2 k hk)⟩, O, K.cg (fun a k z1 z2 => i a k (by omega) (by omega)), ⟨(i _ _ (by omega) (by omega)).trans e1, fun x hx => ?_⟩, ⟨(i _ _ (by omega) (by omega)).trans e2, fun x hx => ?_⟩, (i _ _ (by omega) (by omega)).trans G.1, fun z j hj => (l _ _ (by omega) (by omega)).trans (G.2.1 z j hj), (l _ _ (by omega) (by omega)).trans G.2.2⟩
  · obtain ⟨c1, c2, c3, c4, c5, c6⟩ := C x hx
    exact ⟨(i _ _ (by omega) (by omega)).trans c1, (i _ _ (by omega) (by omega)).trans c2, (i _ _ (by omega) (by omega)).trans c3, (i _ _ (by omega) (by omega)).trans c4, (i _ _ (by omega) (by omega)).trans c5, (i _ _ (by omega) (by omega)).trans c6⟩
  · obtain ⟨c1, c2, c3, c4, c5, c6⟩ := W x hx
    exact ⟨(i _ _ (by omega) (by omega)).trans c1, (i _ _ (by omega) (by omega)).trans c2, (i _ _ (by omega) (by omega)).trans c3, (i _ _ (by omega) (by omega)).trans c4, fun j hj => (l _ _ (by omega) (by omega)).trans (c5 j hj), (l _ _ (by omega) (by omega)).trans c6⟩
theorem Rst.fm {Y : Nat → Prop} (S : Rst p T c pt h) (F : Fm Y h h1) (hz : ∀ a, Y a → a ≤ 140) (L1 : Ly p' h1) : Rst p' T c pt h1 := by
  have hx := S.1.nx
  have hN : NF = 197 := rfl
  exact S.cg (fun a k z1 z2 => ⟨F.ji (by omega) (fun y => by have := hz a y; omega) k, F.jl (by omega) (fun y => by have := hz a y; omega) k⟩) L1
theorem Fq.fm2 {Y : Nat → Prop} (F : Fq Z h h1) (hz : ∀ a k, Z a k → Y a) : Fm Y h h1 := ⟨fun a _ y k => ⟨F.i (fun q => y (hz a k q)), F.l (fun q => y (hz a k q)), F.2.1 a k⟩, fun a _ => F.2.2.1 a, Nat.le_of_eq F.2.2.2.1.symm, by rw [F.2.2.2.1, F.2.2.2.2]; exact Nat.le_refl _⟩
theorem Cst.fq (S : Cst p T c pt h) (F : Fq Z h h1) (hz : ∀ a k, Z a k → 141 ≤ a ∧ a ≤ 196) (L1 : Ly p h1) : Cst p T c pt h1 := by
  have hD' := S.1.iD
  unfold isD at hD'
  have hN : NF = 197 := rfl
  exact Cst.mv S L1 S.2.2.1 rfl ⟨S.2.1.1, (F.i (fun z => by have := hz _ _ z; omega)).trans S.2.1.2.1, fun k hk => by rw [F.i (fun z => by have := hz _ _ z; omega)]; exact S.2.1.2.2 k hk⟩ (F.fm2 (Y := fun a => 141 ≤ a ∧ a ≤ 196) hz) (fun a z => by omega)
theorem Pap.cg (P : Pap W h) (hs : ∀ a k, (a = 35 ∨ a = 36) → ji h1 a k = ji h a k) : Pap W h1 := ⟨(hs _ _ (by omega)).trans P.1, P.2.1, fun k hk => by rw [hs _ _ (by omega)]; exact P.2.2 k hk⟩
theorem PapM.cg (P : PapM W h) (hs : ∀ a k, (a = 195 ∨ (a = 141 ∧ k = 81)) → ji h1 a k = ji h a k) : PapM W h1 := ⟨(hs _ _ (by omega)).trans P.1, P.2.1, fun k hk => (hs _ _ (by omega)).trans (P.2.2 k hk)⟩
/-- what stands between two calls -/
def LIn (L : Nat) (xs : Nat → Int) (i : Nat) (h : AH) : Prop := ∃ (p : Lpar) (T : Txt) (c : Dc) (pt : Nat → Int) (W : List Int), p.2.2.2.2 = (L, xs) ∧ Cst p T c pt h ∧ Rst p T c pt h ∧ Pap W h ∧ PapM W h ∧ okS2 (dS c) ∧ jx h ≤ 197 + 802 * i ∧ ju h + 1379 ≤ sT 165 + 7 * jx h
theorem bdI (B : Bd L xs 165 133 h) : LIn L xs 0 h := ⟨p0 L xs, T0, D0, fun _ => 0, [], rfl, bdC B, bdR B, (bdP B).1, (bdP B).2, okS2_0, by rw [B.x]; exact Nat.le_refl _, by rw [B.2.2.2.2.2.2.2, B.x]; exact Nat.le_refl _⟩
theorem sc_at (L1 : Ly p h) (e : p.2.2.2.2 = (L, xs)) (k : Nat) : ji h 2 k = (if k < L then xs k else 0) ∧ jt h 2 = 40 ∧ jn h 2 = L := by
  obtain ⟨a, b, cc, dd, rfl⟩ : ∃ a b cc dd, p = (a, b, cc, dd, L, xs) := ⟨p.1, p.2.1, p.2.2.1, p.2.2.2.1, by rw [← e]⟩
  have q := L1.2.2.2.2.2.2 2 (by omega)
  exact ⟨(q.2.2 k).1, q.1, q.2.1⟩
theorem sc_in (L1 : Ly p h) (e : p.2.2.2.2 = (L, xs)) {j : Int} (h0 : 0 ≤ j) (h1 : j < (L : Int)) : inA h 2 0 j := by
  have q := sc_at L1 e 0
  exact ⟨Or.inr q.2.1, h0, by rw [q.2.2]; exact h1⟩
theorem sc_r (hx : ∀ k, r32 (xs k)) (L1 : Ly p h) (e : p.2.2.2.2 = (L, xs)) (k : Nat) : r32 (ji h 2 k) := by
  rw [(sc_at L1 e k).1]
  split
  · exact hx k
  · unfold r32; omega
theorem scr_eq (L1 : Ly p h) (e : p.2.2.2.2 = (L, xs)) (L2 : Ly p' h1) (e2 : p'.2.2.2.2 = (L, xs)) (k : Nat) : ji h1 2 k = ji h 2 k := by rw [(sc_at L1 e k).1, (sc_at L2 e2 k).1]
end LIV
