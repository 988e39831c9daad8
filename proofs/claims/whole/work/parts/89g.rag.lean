/-! THE REFERENCE: a sum over indices goes on -/
section RAG
variable {p : Lpar} {d : Nat} {h h' g : AH} {c : Dc} {b lo m k1 n i a b2 : Nat} {s s1 s2 fs sz : Int} {Q : Option AV → AH → Prop}
/-- one index is counted -/
theorem n_154b (hd : 9 ≤ d) (L : Ly p g) (q1 : ji g 144 s.toNat = fs) (q2 : ji g 145 s.toNat = sz) (e0 : ji g 173 n = fs + (a : Int) + 1) (hs : 0 ≤ s ∧ s < 6) (hn : (k1 : Int) + (i : Int) = (n : Int)) (n20 : n < 20) (hl : lo < 2000) (r1 : 0 ≤ fs ∧ fs ≤ 9999) (r2 : 0 ≤ sz ∧ sz ≤ 8) (al : (a : Int) < sz) (hi : i ≤ 1) (H1 : ∀ g', ((a + 1 : Nat) : Int) < sz → g' = g → Q (some (jI ((lo + 1 : Nat) : Int))) g') (H2 : ∀ g', ¬ ((a + 1 : Nat) : Int) < sz → Ly p g' → g' = wi g 173 n fs → WF d 154 36 [jP 141, jI (m : Int), jI (lo : Int), jI (k1 : Int), jI ((i : Int) + -1), jI s] [] g' Q) : WF d 154 76 [jP 141, jI (m : Int), jI (lo : Int), jI (k1 : Int), jI (i : Int), jI s] [] g Q := by
  have w1 : w32 (n : Int) = (n : Int) := w32_i (by omega) (by omega)
  have w2 : w32 (fs + sz) = fs + sz := w32_i (by omega) (by omega)
  have w3 : w32 ((i : Int) + -1) = (i : Int) + -1 := w32_i (by omega) (by omega)
  have w4 : w32 ((lo : Int) + 1) = ((lo + 1 : Nat) : Int) := by rw [w32_i (by omega) (by omega)]; omega
  refine c_154_76 hd L ?_
  rw [hn, w1, Int.toNat_natCast, e0, q1, q2, w2, w4]
  clear w1 w2 w4 q1 q2 e0
  refine ⟨by omega, by omega, hs.1, hs.2, hs.1, hs.2, fun z => ⟨hs.1, hs.2, by omega, by omega, fun L3 => c_154_123 hd L3 ?_⟩, fun z => H1 g (by omega) rfl⟩
  rw [w3]
  exact H2 _ (by omega) L3 rfl
theorem n_154 (hd : 9 ≤ d) (L : Ly p g) (q1 : ji g 144 s.toNat = fs) (q2 : ji g 145 s.toNat = sz) (ha : ji g 173 n = fs + (a : Int)) (hs : 0 ≤ s ∧ s < 6) (hn : (k1 : Int) + (i : Int) = (n : Int)) (n20 : n < 20) (hl : lo < 2000) (r1 : 0 ≤ fs ∧ fs ≤ 9999) (r2 : 0 ≤ sz ∧ sz ≤ 8) (al : (a : Int) < sz) (hi : i ≤ 1) (H1 : ∀ g', ((a + 1 : Nat) : Int) < sz → Ly p g' → Fq (fun x k => x = 173 ∧ k = n) g g' → ji g' 173 n = fs + ((a + 1 : Nat) : Int) → Q (some (jI ((lo + 1 : Nat) : Int))) g') (H2 : ∀ g', ¬ ((a + 1 : Nat) : Int) < sz → Ly p g' → Fq (fun x k => x = 173 ∧ k = n) g g' → ji g' 173 n = fs → WF d 154 36 [jP 141, jI (m : Int), jI (lo : Int), jI (k1 : Int), jI ((i : Int) + -1), jI s] [] g' Q) : WF d 154 63 [jP 141, jI (m : Int), jI (lo : Int), jI (k1 : Int), jI (i : Int), jI s] [] g Q := by
  have w1 : w32 (n : Int) = (n : Int) := w32_i (by omega) (by omega)
  have w2 : w32 (fs + (a : Int) + 1) = fs + (a : Int) + 1 := w32_i (by omega) (by omega)
  refine c_154_63 hd L ?_
  rw [hn, w1, Int.toNat_natCast, ha, w2]
  clear w1 w2
  refine ⟨by omega, by omega, by omega, by omega, fun L2 => ?_⟩
  have F : Fq (fun x k => x = 173 ∧ k = n) g (wi g 173 n (fs + (a : Int) + 1)) := Fq.wi ⟨rfl, rfl⟩
  have e0 : ji (wi g 173 n (fs + (a : Int) + 1)) 173 n = fs + (a : Int) + 1 := by rw [ji_wi, if_pos ⟨rfl, rfl⟩]
  have q1' : ji (wi g 173 n (fs + (a : Int) + 1)) 144 s.toNat = fs := by rw [ji_wi, if_neg (by omega)]; exact q1
  have q2' : ji (wi g 173 n (fs + (a : Int) + 1)) 145 s.toNat = sz := by rw [ji_wi, if_neg (by omega)]; exact q2
  generalize wi g 173 n (fs + (a : Int) + 1) = g1 at L2 F e0 q1' q2' ⊢
  refine n_154b hd L2 q1' q2' e0 hs hn n20 hl r1 r2 al hi (fun g' y eg => ?_) (fun g' y L3 eg => ?_)
  · subst eg
    exact H1 g' y L2 F (by rw [e0]; omega)
  · subst eg
    exact H2 _ y L3 (F.trans (Fq.wi ⟨rfl, rfl⟩)) (by rw [ji_wi, if_pos ⟨rfl, rfl⟩])
end RAG
