section RAG
variable {p : Lpar} {d : Nat} {h h' g : AH} {c : Dc} {b lo m k1 n i a b2 : Nat} {s s1 s2 fs sz : Int} {Q : Option AV → AH → Prop}
theorem tt1 (hn : (k1 : Int) + (i : Int) = (n : Int)) (n20 : n < 20) (r1 : 0 ≤ fs ∧ fs ≤ 9999) (r2 : 0 ≤ sz ∧ sz ≤ 8) (al : (a : Int) < sz) (hi : i ≤ 1) : w32 (n : Int) = (n : Int) := w32_i (by omega) (by omega)
theorem tt2 (ha : ji g 173 n = fs + (a : Int)) (hn : (k1 : Int) + (i : Int) = (n : Int)) (n20 : n < 20) (r1 : 0 ≤ fs ∧ fs ≤ 9999) (r2 : 0 ≤ sz ∧ sz ≤ 8) (al : (a : Int) < sz) : 0 ≤ (n : Int) ∧ (n : Int) < 20 := ⟨by omega, by omega⟩
end RAG
