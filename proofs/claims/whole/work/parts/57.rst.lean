/-! THE REFERENCE: a set is told -/
section RST
variable {p : Lpar} {d : Nat} {h h' h0 h1 g : AH} {T : Txt} {e i k A : Nat} {c : Dc}
theorem failsW {P : AH → Prop} {x : Int} (k : ∀ g, g = wi h 141 6 (if ji h 141 6 = -1 then x else ji h 141 6) → P g) : (ji h 141 6 = -1 → (Ly p (wi h 141 6 x) → P (wi h 141 6 x))) ∧ (¬ (ji h 141 6 = -1) → (Ly p (wi h 141 6 (ji h 141 6)) → P (wi h 141 6 (ji h 141 6)))) := ⟨fun z _ => k _ (by rw [if_pos z]), fun z _ => k _ (by rw [if_neg z])⟩
theorem RV.get {α : Type} {r : Er α} {f : α → Nat} {V : α → Prop} (S : RV T e r f V h) {a : α} (hr : r = .ok a) : V a ∧ RtR T e (f a) h := by rw [hr] at S; exact S
theorem f6 {x : Int} : Fq ZF h (wi h 141 6 x) := Fq.wi (by omega)
theorem wke_app {C : Cx} {s : List (Int × Int)} : ∀ (x : Ex) (n : Nat) (sl : List Int), exOK C x n sl → wke (C.1 ++ s) x = wke C.1 x := by
  intro x
  induction x with
  | leaf => intro n sl h; rfl
  | inner tt k v l r ihl ihr =>
    intro n sl h
    unfold exOK at h
    unfold wke
    by_cases c3 : tt ≤ 3
    · rw [if_pos c3, if_pos c3]
    · rw [if_neg c3, if_neg c3]
      rw [if_neg (by omega), if_neg (by omega), if_neg (by omega), if_neg (by omega)] at h
      by_cases c4 : tt = 4
      · rw [if_pos c4] at h
        rw [if_pos c4, if_pos c4]
        obtain ⟨_, _, _, h⟩ := h
        rcases h with ⟨a1, a2, h⟩ | ⟨a1, a2, ⟨a3, h⟩ | ⟨a3, a4, h⟩⟩
        · rw [ihl _ _ h, szO_app (by omega), szO_app (by omega)]
        · rw [ihl _ _ h, szO_app (by omega), szO_app (by omega)]
        · rw [ihl _ _ h, szO_app (by omega), szO_app (by omega)]
      · rw [if_neg c4] at h
        rw [if_neg c4, if_neg c4, ihl _ _ h.2.1, ihr _ _ h.2.2]
/-- the end of a set -/
theorem set_end (D : RDc g c i) (O : okD c) (L : Ly p g) {nm : List Int} (hn : okN nm) (hf : (lkNm (dN c) nm).1 = -1) (hl : (dS c).length < 6) {a b : Int} {j : Nat} (hij : i ≤ j) : RDc (wi (wi (wi (wi g 143 (dS c).length (c27 nm)) 144 (dS c).length a) 145 (dS c).length b) 141 7 ((dS c).length + 1 : Int)) (dN c ++ [(nm, 0, ((dS c).length : Int))], dS c ++ [(a, b)], c.2.2) j := by
  obtain ⟨M, B, A, e33, hA, Rr⟩ := D
  have hs : ∀ x k, ¬ (x = 143 ∧ k = (dS c).length) → ¬ (x = 144 ∧ k = (dS c).length) → ¬ (x = 145 ∧ k = (dS c).length) → ¬ (x = 141 ∧ k = 7) → ji (wi (wi (wi (wi g 143 (dS c).length (c27 nm)) 144 (dS c).length a) 145 (dS c).length b) 141 7 ((dS c).length + 1 : Int)) x k = ji g x k := fun x k z1 z2 z3 z4 => by rw [ji_wi, if_neg z4, ji_wi, if_neg z3, ji_wi, if_neg z2, ji_wi, if_neg z1]
  have e7 : ji (wi (wi (wi (wi g 143 (dS c).length (c27 nm)) 144 (dS c).length a) 145 (dS c).length b) 141 7 ((dS c).length + 1 : Int)) 141 7 = ((dS c).length + 1 : Int) := by rw [ji_wi, if_pos ⟨rfl, rfl⟩]
  have e3 : ji (wi (wi (wi (wi g 143 (dS c).length (c27 nm)) 144 (dS c).length a) 145 (dS c).length b) 141 7 ((dS c).length + 1 : Int)) 143 (dS c).length = c27 nm := by rw [ji_wi, if_neg (by omega), ji_wi, if_neg (by omega), ji_wi, if_neg (by omega), ji_wi, if_pos ⟨rfl, rfl⟩]
  have e4 : ji (wi (wi (wi (wi g 143 (dS c).length (c27 nm)) 144 (dS c).length a) 145 (dS c).length b) 141 7 ((dS c).length + 1 : Int)) 144 (dS c).length = a := by rw [ji_wi, if_neg (by omega), ji_wi, if_neg (by omega), ji_wi, if_pos ⟨rfl, rfl⟩]
  have e5 : ji (wi (wi (wi (wi g 143 (dS c).length (c27 nm)) 144 (dS c).length a) 145 (dS c).length b) 141 7 ((dS c).length + 1 : Int)) 145 (dS c).length = b := by rw [ji_wi, if_neg (by omega), ji_wi, if_pos ⟨rfl, rfl⟩]
  have hL : ∀ x k, jl (wi (wi (wi (wi g 143 (dS c).length (c27 nm)) 144 (dS c).length a) 145 (dS c).length b) 141 7 ((dS c).length + 1 : Int)) x k = jl g x k := fun x k => by rw [jl_wi, jl_wi, jl_wi, jl_wi]
  generalize wi (wi (wi (wi g 143 (dS c).length (c27 nm)) 144 (dS c).length a) 145 (dS c).length b) 141 7 ((dS c).length + 1 : Int) = G at *
  have M0 := M.1
  have cn := O.cnt
  refine ⟨?_, ⟨fun k hk => ?_, fun k hk => ?_, fun k j hk hj => ?_, fun k hk => ?_, fun k hk => ?_⟩, A, (hs _ _ (by omega) (by omega) (by omega) (by omega)).trans e33, by omega, ?_⟩
  · refine NmM.add (s := 0) (n := cnt c) M hn hf (by decide) ?_ (fun t ht => ?_) ?_ ⟨?_, ?_, ?_, ?_, ?_⟩ (fun x k z1 z2 => ?_) e3
    · show (dS c ++ [(a, b)]).length = (dS c).length + 1; rw [List.length_append]; rfl
    · unfold cnt; rw [if_neg ht, if_neg ht]
    · refine ⟨?_, cn.2.1, cn.2.2.1, cn.2.2.2, by show 0 ≤ 18; decide⟩
      show (dS c ++ [(a, b)]).length ≤ 6
      rw [List.length_append]; show (dS c).length + 1 ≤ 6; omega
    · rw [e7]; show _ = ((dS c ++ [(a, b)]).length : Int); rw [List.length_append]; rfl
    · exact (hs _ _ (by omega) (by omega) (by omega) (by omega)).trans M0.2.1
    · exact (hs _ _ (by omega) (by omega) (by omega) (by omega)).trans M0.2.2.1
    · exact (hs _ _ (by omega) (by omega) (by omega) (by omega)).trans M0.2.2.2.1
    · exact (hs _ _ (by omega) (by omega) (by omega) (by omega)).trans M0.2.2.2.2
    · exact hs _ _ (fun z => z2 ⟨z.1, z.2⟩) (by omega) (by omega) (by omega)
  · have hk : k < (dS c ++ [(a, b)]).length := hk
    rw [List.length_append] at hk
    have hk : k < (dS c).length + 1 := hk
    show ji G 144 k = ((dS c ++ [(a, b)]).getD k (0, 0)).1 ∧ ji G 145 k = ((dS c ++ [(a, b)]).getD k (0, 0)).2
    rw [getD_snoc]
    by_cases ck : k < (dS c).length
    · rw [if_pos ck, hs _ _ (by omega) (by omega) (by omega) (by omega), hs _ _ (by omega) (by omega) (by omega) (by omega)]; exact B.1 k ck
    · rw [if_neg ck, if_pos (by omega), show k = (dS c).length by omega]; exact ⟨e4, e5⟩
  · rw [hs _ _ (by omega) (by omega) (by omega) (by omega), hs _ _ (by omega) (by omega) (by omega) (by omega)]; exact B.2.1 k hk
  · have hO := O.1.2.2.1
    have m := hO.2 _ (getD_mem hk (-1, -1))
    have hk : k < (dT c).length := hk
    have hj : (j : Int) < szO (dS c ++ [(a, b)]) ((dT c).getD k (-1, -1)).1 * szO (dS c ++ [(a, b)]) ((dT c).getD k (-1, -1)).2 := hj
    rw [szO_app (by omega), szO_app (by omega)] at hj
    rw [hs _ _ (by omega) (by omega) (by omega) (by omega)]
    show _ = (dV c).getD ((stO (dS c ++ [(a, b)]) (dT c) k).toNat + j) 0
    rw [stO_app hO]
    exact B.2.2.1 k j hk hj
  · rw [hs _ _ (by omega) (by omega) (by omega) (by omega), hs _ _ (by omega) (by omega) (by omega) (by omega)]; exact B.2.2.2.1 k hk
  · rw [hs _ _ (by omega) (by omega) (by omega) (by omega), hs _ _ (by omega) (by omega) (by omega) (by omega)]; exact B.2.2.2.2 k hk
  · have R2 := Rr.cg (h' := G) (Nat.le_refl _) (fun x k z => hs _ _ (by omega) (by omega) (by omega) (by omega)) (fun x k z => hL x k)
    obtain ⟨r1, r2, r3, r4⟩ := R2
    refine ⟨r1, fun k hk => ?_, r3, fun z => ?_⟩
    · have x1 := O.2.2.2.2.2.2.2.2.1 k hk
      obtain ⟨q1, q2, q3⟩ := r2 k hk
      refine ⟨q1, q2.trans ?_, q3⟩
      show _ = wke (dS c ++ [(a, b)]) ((dL c).getD k zL).2.1 + wke (dS c ++ [(a, b)]) ((dL c).getD k zL).2.2
      rw [wke_app (C := dC c) _ _ _ x1.2.1, wke_app (C := dC c) _ _ _ x1.2.2]
    · obtain ⟨q1, q2⟩ := r4 z
      refine ⟨q1.trans ?_, q2⟩
      show _ = wke (dS c ++ [(a, b)]) (dE c)
      rw [wke_app (C := dC c) _ _ _ O.2.2.2.2.2.2.2.2.2.2.1]
end RST
