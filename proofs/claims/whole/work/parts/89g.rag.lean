/-! THE REFERENCE: a sum over indices goes on -/
section RAG
variable {p : Lpar} {d : Nat} {h h' g : AH} {c : Dc} {b lo m k1 i a b2 : Nat} {s s1 s2 : Int} {f f2 : Nat → Int} {Q : Option AV → AH → Prop}
/-- one index is counted -/
theorem n_154 (hd : 9 ≤ d) (L : Ly p g) (B : RTb g c) (hS : okS (dS c)) (hs : 0 ≤ s ∧ s < ((dS c).length : Int)) (hk : k1 + i < 20) (hl : lo < 2000) (ha : ji g 173 (k1 + i) = fsO (dS c) s + (a : Int)) (al : (a : Int) < szO (dS c) s) (H1 : ∀ g', ((a + 1 : Nat) : Int) < szO (dS c) s → Ly p g' → Fq (fun x k => x = 173 ∧ k = k1 + i) g g' → ji g' 173 (k1 + i) = fsO (dS c) s + ((a + 1 : Nat) : Int) → Q (some (jI ((lo + 1 : Nat) : Int))) g') (H2 : ∀ g', ¬ ((a + 1 : Nat) : Int) < szO (dS c) s → Ly p g' → Fq (fun x k => x = 173 ∧ k = k1 + i) g g' → ji g' 173 (k1 + i) = fsO (dS c) s → WF d 154 36 [jP 141, jI (m : Int), jI (lo : Int), jI (k1 : Int), jI ((i : Int) + -1), jI s] [] g' Q) (hi : i ≤ 1) : WF d 154 63 [jP 141, jI (m : Int), jI (lo : Int), jI (k1 : Int), jI (i : Int), jI s] [] g Q := by
  have hl6 := hS.1
  have fr := fsO_r hS s
  have sr := szO_r hS s
  have ek : w32 ((k1 : Int) + (i : Int)) = ((k1 + i : Nat) : Int) := by rw [w32_i (by omega) (by omega)]; omega
  refine c_154_63 (by omega) L ?_
  rw [ek, Int.toNat_natCast, ha, w32_i (x := fsO (dS c) s + (a : Int) + 1) (by omega) (by omega)]
  refine ⟨by omega, by omega, by omega, by omega, fun L2 => c_154_76 (by omega) L2 ?_⟩
  have F : Fq (fun x k => x = 173 ∧ k = k1 + i) g (wi g 173 (k1 + i) (fsO (dS c) s + (a : Int) + 1)) := Fq.wi ⟨rfl, rfl⟩
  have e0 : ji (wi g 173 (k1 + i) (fsO (dS c) s + (a : Int) + 1)) 173 (k1 + i) = fsO (dS c) s + (a : Int) + 1 := by rw [ji_wi, if_pos ⟨rfl, rfl⟩]
  generalize wi g 173 (k1 + i) (fsO (dS c) s + (a : Int) + 1) = g1 at L2 F e0 ⊢
  have B2 : RTb g1 c := B.cg (fun a k y => F.i (by omega))
  obtain ⟨q1, q2⟩ := set_at B2 hs.1 hs.2
  rw [ek, Int.toNat_natCast, e0, q1, q2, w32_i (x := fsO (dS c) s + szO (dS c) s) (by omega) (by omega)]
  refine ⟨by omega, by omega, hs.1, by omega, hs.1, by omega, fun z => ⟨hs.1, by omega, by omega, by omega, fun L3 => c_154_123 (by omega) L3 ?_⟩, fun z => ?_⟩
  · rw [w32_i (x := (i : Int) + -1) (by omega) (by omega)]
    exact H2 _ (by omega) L3 (F.trans (Fq.wi ⟨rfl, rfl⟩)) (by rw [ji_wi, if_pos ⟨rfl, rfl⟩])
  · rw [w32_i (x := (lo : Int) + 1) (by omega) (by omega)]
    exact H1 g1 (by omega) L2 F (by rw [e0]; omega)
end RAG
