/-! THE REFERENCE: a set is told -/
section RST
variable {p : Lpar} {d : Nat} {h h' h0 h1 g : AH} {T : Txt} {e i k A : Nat} {c : Dc}
theorem failsW {P : AH → Prop} {x : Int} (k : ∀ g, g = wi h 141 6 (if ji h 141 6 = -1 then x else ji h 141 6) → P g) : (ji h 141 6 = -1 → (Ly p (wi h 141 6 x) → P (wi h 141 6 x))) ∧ (¬ (ji h 141 6 = -1) → (Ly p (wi h 141 6 (ji h 141 6)) → P (wi h 141 6 (ji h 141 6)))) := ⟨fun z _ => k _ (by rw [if_pos z]), fun z _ => k _ (by rw [if_neg z])⟩
theorem RV.get {α : Type} {r : Er α} {f : α → Nat} {V : α → Prop} (S : RV T e r f V h) {a : α} (hr : r = .ok a) : V a ∧ RtR T e (f a) h := by rw [hr] at S; exact S
theorem f6 {x : Int} : Fq ZF h (wi h 141 6 x) := Fq.wi (by omega)
theorem wke_app {C : Cx} {s : List (Int × Int)} : ∀ (x : Ex) (n : Nat) (sl : List Int), exOK C x n sl → wke (C.1 ++ s) x = wke C.1 x := by
  intro x
  induction x with
  | leaf => intro n sl h; rfl
  | inner tt k v l r ihl ihr =>
    intro n sl h
    unfold exOK at h
    unfold wke
    by_cases c3 : tt ≤ 3
    · rw [if_pos c3, if_pos c3]
    · rw [if_neg c3, if_neg c3]
      rw [if_neg (by omega), if_neg (by omega), if_neg (by omega), if_neg (by omega)] at h
      by_cases c4 : tt = 4
      · rw [if_pos c4] at h
        rw [if_pos c4, if_pos c4]
        obtain ⟨_, _, _, h⟩ := h
        rcases h with ⟨a1, a2, h⟩ | ⟨a1, a2, ⟨a3, h⟩ | ⟨a3, a4, h⟩⟩
        · rw [ihl _ _ h, szO_app (by omega), szO_app (by omega)]
        · rw [ihl _ _ h, szO_app (by omega), szO_app (by omega)]
        · rw [ihl _ _ h, szO_app (by omega), szO_app (by omega)]
      · rw [if_neg c4] at h
        rw [if_neg c4, if_neg c4, ihl _ _ h.2.1, ihr _ _ h.2.2]
/-- the end of a set -/
theorem set_end (D : RDc g c i) (O : okD c) (L : Ly p g) {nm : List Int} (hn : okN nm) (hf : (lkNm (dN c) nm).1 = -1) (hl : (dS c).length < 6) {a b : Int} {j : Nat} (hij : i ≤ j) : RDc (wi (wi (wi (wi g 143 (dS c).length (c27 nm)) 144 (dS c).length a) 145 (dS c).length b) 141 7 ((dS c).length + 1 : Int)) (dN c ++ [(nm, 0, ((dS c).length : Int))], dS c ++ [(a, b)], c.2.2) j := by
  obtain ⟨M, B, A, e33, hA, Rr⟩ := D
  have hs : ∀ x k, ¬ (x = 143 ∧ k = (dS c).length) → ¬ (x = 144 ∧ k = (dS c).length) → ¬ (x = 145 ∧ k = (dS c).length) → ¬ (x = 141 ∧ k = 7) → ji (wi (wi (wi (wi g 143 (dS c).length (c27 nm)) 144 (dS c).length a) 145 (dS c).length b) 141 7 ((dS c).length + 1 : Int)) x k = ji g x k := fun x k z1 z2 z3 z4 => by rw [ji_wi, if_neg z4, ji_wi, if_neg z3, ji_wi, if_neg z2, ji_wi, if_neg z1]
  have e7 : ji (wi (wi (wi (wi g 143 (dS c).length (c27 nm)) 144 (dS c).length a) 145 (dS c).length b) 141 7 ((dS c).length + 1 : Int)) 141 7 = ((dS c).length + 1 : Int) := by rw [ji_wi, if_pos ⟨rfl, rfl⟩]
  have e3 : ji (wi (wi (wi (wi g 143 (dS c).length (c27 nm)) 144 (dS c).length a) 145 (dS c).length b) 141 7 ((dS c).length + 1 : Int)) 143 (dS c).length = c27 nm := by rw [ji_wi, if_neg (by omega), ji_wi, if_neg (by omega), ji_wi, if_neg (by omega), ji_wi, if_pos ⟨rfl, rfl⟩]
  have e4 : ji (wi (wi (wi (wi g 143 (dS c).length (c27 nm)) 144 (dS c).length a) 145 (dS c).length b) 141 7 ((dS c).length + 1 : Int)) 144 (dS c).length = a := by rw [ji_wi, if_neg (by omega), ji_wi, if_neg (by omega), ji_wi, if_pos ⟨rfl, rfl⟩]
  have e5 : ji (wi (wi (wi (wi g 143 (dS c).length (c27 nm)) 144 (dS c).length a) 145 (dS c).length b) 141 7 ((dS c).length + 1 : Int)) 145 (dS c).length = b := by rw [ji_wi, if_neg (by omega), ji_wi, if_pos ⟨rfl, rfl⟩]
  have hL : ∀ x k, jl (wi (wi (wi (wi g 143 (dS c).length (c27 nm)) 144 (dS c).length a) 145 (dS c).length b) 141 7 ((dS c).length + 1 : Int)) x k = jl g x k := fun x k => by rw [jl_wi, jl_wi, jl_wi, jl_wi]
  generalize wi (wi (wi (wi g 143 (dS c).length (c27 nm)) 144 (dS c).length a) 145 (dS c).length b) 141 7 ((dS c).length + 1 : Int) = G at *
  have M0 := M.1
  have cn := O.cnt
  refine ⟨?_, ⟨fun k hk => ?_, fun k hk => ?_, fun k j hk hj => ?_, fun k hk => ?_, fun k hk => ?_⟩, A, (hs _ _ (by omega) (by omega) (by omega) (by omega)).trans e33, by omega, ?_⟩
  · refine NmM.add (s := 0) (n := cnt c) M hn hf (by decide) ?_ (fun t ht => ?_) ?_ ⟨?_, ?_, ?_, ?_, ?_⟩ (fun x k z1 z2 => ?_) e3
    · show (dS c ++ [(a, b)]).length = (dS c).length + 1; rw [List.length_append]; rfl
    · unfold cnt; rw [if_neg ht, if_neg ht]
    · refine ⟨?_, cn.2.1, cn.2.2.1, cn.2.2.2, by show 0 ≤ 18; decide⟩
      show (dS c ++ [(a, b)]).length ≤ 6
      rw [List.length_append]; show (dS c).length + 1 ≤ 6; omega
    · rw [e7]; show _ = ((dS c ++ [(a, b)]).length : Int); rw [List.length_append]; rfl
    · exact (hs _ _ (by omega) (by omega) (by omega) (by omega)).trans M0.2.1
    · exact (hs _ _ (by omega) (by omega) (by omega) (by omega)).trans M0.2.2.1
    · exact (hs _ _ (by omega) (by omega) (by omega) (by omega)).trans M0.2.2.2.1
    · exact (hs _ _ (by omega) (by omega) (by omega) (by omega)).trans M0.2.2.2.2
    · exact hs _ _ (fun z => z2 ⟨z.1, z.2⟩) (by omega) (by omega) (by omega)
  · have hk : k < (dS c ++ [(a, b)]).length := hk
    rw [List.length_append] at hk
    have hk : k < (dS c).length + 1 := hk
    show ji G 144 k = ((dS c ++ [(a, b)]).getD k (0, 0)).1 ∧ ji G 145 k = ((dS c ++ [(a, b)]).getD k (0, 0)).2
    rw [getD_snoc]
    by_cases ck : k < (dS c).length
    · rw [if_pos ck, hs _ _ (by omega) (by omega) (by omega) (by omega), hs _ _ (by omega) (by omega) (by omega) (by omega)]; exact B.1 k ck
    · rw [if_neg ck, if_pos (by omega), show k = (dS c).length by omega]; exact ⟨e4, e5⟩
  · rw [hs _ _ (by omega) (by omega) (by omega) (by omega), hs _ _ (by omega) (by omega) (by omega) (by omega)]; exact B.2.1 k hk
  · have hO := O.1.2.2.1
    have hk : k < (dT c).length := hk
    have m : ((dT c).getD k (-1, -1)).1 < ((dS c).length : Int) ∧ ((dT c).getD k (-1, -1)).2 < ((dS c).length : Int) := okO_lt hO _ (getD_mem hk (-1, -1))
    have hj : (j : Int) < szO (dS c ++ [(a, b)]) ((dT c).getD k (-1, -1)).1 * szO (dS c ++ [(a, b)]) ((dT c).getD k (-1, -1)).2 := hj
    rw [szO_app m.1, szO_app m.2] at hj
    rw [hs _ _ (by omega) (by omega) (by omega) (by omega)]
    show _ = (dV c).getD ((stO (dS c ++ [(a, b)]) (dT c) k).toNat + j) 0
    rw [stO_app hO]
    exact B.2.2.1 k j hk hj
  · rw [hs _ _ (by omega) (by omega) (by omega) (by omega), hs _ _ (by omega) (by omega) (by omega) (by omega)]; exact B.2.2.2.1 k hk
  · rw [hs _ _ (by omega) (by omega) (by omega) (by omega), hs _ _ (by omega) (by omega) (by omega) (by omega)]; exact B.2.2.2.2 k hk
  · have R2 := Rr.cg (h' := G) (Nat.le_refl _) (fun x k z => hs _ _ (by omega) (by omega) (by omega) (by omega)) (fun x k z => hL x k)
    obtain ⟨r1, r2, r3, r4⟩ := R2
    refine ⟨r1, fun k hk => ?_, r3, fun z => ?_⟩
    · have x1 := O.2.2.2.2.2.2.2.2.1 k hk
      obtain ⟨q1, q2, q3⟩ := r2 k hk
      refine ⟨q1, q2.trans ?_, q3⟩
      show _ = wke (dS c ++ [(a, b)]) ((dL c).getD k zL).2.1 + wke (dS c ++ [(a, b)]) ((dL c).getD k zL).2.2
      rw [wke_app (C := dC c) _ _ _ x1.2.1, wke_app (C := dC c) _ _ _ x1.2.2]
    · obtain ⟨q1, q2⟩ := r4 z
      refine ⟨q1.trans ?_, q2⟩
      show _ = wke (dS c ++ [(a, b)]) (dE c)
      rw [wke_app (C := dC c) _ _ _ O.2.2.2.2.2.2.2.2.2.2.1]
theorem u2_same {α : Type} (f : Nat → Nat → α) (a k : Nat) : u2 f a k (f a k) = f := by
  funext b j
  unfold u2
  split
  · rename_i z; rw [z.1, z.2]
  · rfl
theorem wi_same (h : AH) (a k : Nat) : wi h a k (ji h a k) = h := by
  show (h.1, h.2.1, u2 h.2.2.1 a k (h.2.2.1 a k), h.2.2.2.1, h.2.2.2.2.1, h.2.2.2.2.2.1, h.2.2.2.2.2.2) = h
  rw [u2_same]
theorem e_120 (hd : 10 ≤ d) (L : Ly p h) (hq : ¬ ji h 141 6 = -1) {k : Int} : jE d 120 [jP 141, jI k] h (some (jI 0)) h := by
  obtain ⟨d, rfl⟩ : ∃ d', d = d' + 1 := ⟨d - 1, by omega⟩
  exact jE_eq (Nat.le_of_ble_eq_true rfl) (c_120_0 (by omega) L ⟨fun z => absurd z hq, fun _ => ⟨rfl, rfl⟩⟩)
theorem e_121 (hd : 11 ≤ d) (L : Ly p h) (hq : ¬ ji h 141 6 = -1) {k : Int} : jE d 121 [jP 141, jI k] h (some (jI 0)) h := by
  obtain ⟨d, rfl⟩ : ∃ d', d = d' + 1 := ⟨d - 1, by omega⟩
  exact jE_eq (Nat.le_of_ble_eq_true rfl) (c_121_0 (by omega) L ⟨0, h, e_120 (by omega) L hq, L, Or.inl rfl, rfl, rfl⟩)
theorem e_124 (hd : 11 ≤ d) (L : Ly p h) (hq : ¬ ji h 141 6 = -1) : jE d 124 [jP 141] h (some (jI (-1))) h := by
  obtain ⟨d, rfl⟩ : ∃ d', d = d' + 1 := ⟨d - 1, by omega⟩
  exact jE_eq (Nat.le_of_ble_eq_true rfl) (c_124_0 (by omega) L ⟨fun z => absurd z hq, fun _ => ⟨0, h, e_120 (by omega) L hq, L, fun _ => ⟨rfl, rfl⟩, fun z => absurd rfl z⟩⟩)
theorem e_125 (hd : 11 ≤ d) (L : Ly p h) (hq : ¬ ji h 141 6 = -1) {n : Nat} (hn : ji h 141 7 = (n : Int)) (hn2 : n ≤ 6) : jE d 125 [jP 141] h (some (jI (-1))) h := by
  obtain ⟨d, rfl⟩ : ∃ d', d = d' + 1 := ⟨d - 1, by omega⟩
  refine jE_eq (Nat.le_of_ble_eq_true rfl) (c_125_0 (by omega) L ?_)
  rw [wi_same]
  have m := fun x => m_123 (d := d) (a := 143) (n := n) (m := ji h 141 7) (x := x) (by omega) L L.t143 hn.symm (by rw [L.n143]; exact hn2) (by omega)
  refine ⟨fun _ => ⟨_, h, m _, L, ?_⟩, fun _ => ⟨fun z => absurd z hq, fun _ _ => ⟨0, h, e_120 (by omega) L hq, L, fun _ => ⟨rfl, rfl⟩, fun z => absurd rfl z⟩⟩⟩
  rw [wi_same]
  exact ⟨fun _ => ⟨fun z => absurd z hq, fun _ _ => ⟨0, h, e_120 (by omega) L hq, L, fun _ => ⟨rfl, rfl⟩, fun z => absurd rfl z⟩⟩, fun _ => ⟨0, h, e_120 (by omega) L hq, L, fun _ => ⟨rfl, rfl⟩, fun z => absurd rfl z⟩⟩
theorem e_128 (hd : 11 ≤ d) (L : Ly p h) (hq : ¬ ji h 141 6 = -1) : jE d 128 [jP 141] h (some (jI 0)) h := by
  obtain ⟨d, rfl⟩ : ∃ d', d = d' + 1 := ⟨d - 1, by omega⟩
  exact jE_eq (Nat.le_of_ble_eq_true rfl) (c_128_0 (by omega) L ⟨fun z => absurd z hq, fun _ => ⟨0, h, e_120 (by omega) L hq, L, fun _ => ⟨rfl, rfl⟩, fun z => absurd rfl z⟩⟩)
/-- a token is there -/
theorem y_120 (hd : 16 ≤ d) (R : RT p T e h) (K : RtR T e i h) {k : Int} (c : tkK T i = k) (hk : ¬ (k = 3 ∨ k = 4)) : ∃ h', jE d 120 [jP 141, jI k] h (some (jI 1)) h' ∧ Ly p h' ∧ Fq ZL h h' ∧ RtR T e (i + 1) h' := by
  obtain ⟨d, rfl⟩ : ∃ d', d = d' + 1 := ⟨d - 1, by omega⟩
  obtain ⟨h1, hE, L1, F1, K1⟩ := t_118 (d := d) (by omega) R K (by rw [c]; exact hk)
  exact ⟨h1, jE_eq (Nat.le_of_ble_eq_true rfl) (c_120_0 (by omega) R.1 ⟨fun _ => ⟨fun _ => ⟨h1, hE, L1, rfl, rfl⟩, fun z => absurd (K.2.1.trans c) z⟩, fun z => absurd K.2.2.2.2.2.2 z⟩), L1, F1, K1⟩
theorem n_120 (hd : 10 ≤ d) (L : Ly p h) (K : RtR T e i h) {k : Int} (c : ¬ tkK T i = k) : jE d 120 [jP 141, jI k] h (some (jI 0)) (wi h 141 6 (tkP T i : Int)) := by
  obtain ⟨d, rfl⟩ : ∃ d', d = d' + 1 := ⟨d - 1, by omega⟩
  refine jE_eq (Nat.le_of_ble_eq_true rfl) (c_120_0 (by omega) L ⟨fun _ => ⟨fun z => absurd (K.2.1.symm.trans z) c, fun _ => ⟨fun _ _ => ?_, fun z => absurd K.2.2.2.2.2.2 z⟩⟩, fun z => absurd K.2.2.2.2.2.2 z⟩)
  rw [K.2.2.1]; exact ⟨rfl, rfl⟩
theorem y_121 (hd : 17 ≤ d) (R : RT p T e h) (K : RtR T e i h) {x k : Int} (c : tkK T i = k) (hx : w32 (100 + x) = k) (hk : ¬ (k = 3 ∨ k = 4)) : ∃ h', jE d 121 [jP 141, jI x] h (some (jI 1)) h' ∧ Ly p h' ∧ Fq ZL h h' ∧ RtR T e (i + 1) h' := by
  obtain ⟨d, rfl⟩ : ∃ d', d = d' + 1 := ⟨d - 1, by omega⟩
  obtain ⟨h1, hE, L1, F1, K1⟩ := y_120 (d := d) (by omega) R K c hk
  exact ⟨h1, jE_eq (Nat.le_of_ble_eq_true rfl) (c_121_0 (by omega) R.1 ⟨1, h1, by rw [hx]; exact hE, L1, Or.inr rfl, rfl, rfl⟩), L1, F1, K1⟩
theorem n_121 (hd : 11 ≤ d) (L : Ly p h) (K : RtR T e i h) {x k : Int} (c : ¬ tkK T i = k) (hx : w32 (100 + x) = k) : jE d 121 [jP 141, jI x] h (some (jI 0)) (wi h 141 6 (tkP T i : Int)) := by
  obtain ⟨d, rfl⟩ : ∃ d', d = d' + 1 := ⟨d - 1, by omega⟩
  exact jE_eq (Nat.le_of_ble_eq_true rfl) (c_121_0 (by omega) L ⟨0, _, by rw [hx]; exact n_120 (by omega) L K c, L.wi (by decide), Or.inl rfl, rfl, rfl⟩)
theorem w6_r {x : Int} : ji (wi h 141 6 x) 141 6 = x := by rw [ji_wi, if_pos ⟨rfl, rfl⟩]
theorem nq {q : Nat} (h6 : ji h 141 6 = (q : Int)) : ¬ ji h 141 6 = -1 := by omega
theorem RV.cs {α : Type} {r : Er α} {f : α → Nat} {V : α → Prop} (S : RV T e r f V h) : (∃ q, r = .error q ∧ ji h 141 6 = (q : Int)) ∨ (∃ a, r = .ok a ∧ V a ∧ RtR T e (f a) h) := by
  cases r with
  | error q => exact Or.inl ⟨q, rfl, S⟩
  | ok a => exact Or.inr ⟨a, rfl, S⟩
theorem rd_bad {q : Nat} {R : Er (Dc × Nat)} (hR : R = .error q) (L : Ly p g) (F : Fq ZP h g) (h6 : ji g 141 6 = (q : Int)) : RdP p T e h R g := by rw [hR]; exact ⟨L, F, h6⟩
theorem Fq.toP (F : Fq ZF h g) : Fq ZP h g := F.mono (fun a k z => by omega)
theorem Fq.toF (F : Fq ZL h g) : Fq ZF h g := F.mono (fun a k z => by omega)
section F129
variable {Q : Option AV → AH → Prop} {v1 v2 v3 : Int} {z1 z2 z3 : AV}
theorem f129_108 (hd : 12 ≤ d) (L : Ly p h) (hq : ¬ ji h 141 6 = -1) (H : Q none h) : WF d 129 108 [jP 141, jI v1, jI v2, jI v3] [] h Q := c_129_108 (by omega) L ⟨0, h, e_121 (by omega) L hq, L, fun _ => c_129_161 (by omega) L H, fun z => absurd rfl z⟩
theorem f129_97 (hd : 12 ≤ d) (L : Ly p h) (hq : ¬ ji h 141 6 = -1) (H : Q none h) : WF d 129 97 [jP 141, jI v1, jI v2, z3] [] h Q := c_129_97 (by omega) L (c_129_102 (by omega) L ⟨0, h, e_120 (by omega) L hq, L, f129_108 hd L hq H⟩)
theorem f129_51 (hd : 12 ≤ d) (L : Ly p h) (hq : ¬ ji h 141 6 = -1) (H : Q none h) : WF d 129 51 [jP 141, jI v1, jI v2, z3] [] h Q := c_129_51 (by omega) L ⟨fun z => absurd z hq, fun _ => f129_97 hd L hq H⟩
theorem f129_44 (hd : 12 ≤ d) (L : Ly p h) (hq : ¬ ji h 141 6 = -1) (H : Q none h) : WF d 129 44 [jP 141, jI v1, jI v2, z3] [] h Q := c_129_44 (by omega) L ⟨0, h, e_120 (by omega) L hq, L, f129_51 hd L hq H⟩
theorem f129_33 (hd : 12 ≤ d) (L : Ly p h) (hq : ¬ ji h 141 6 = -1) (H : Q none h) : WF d 129 33 [jP 141, jI v1, z2, z3] [] h Q := c_129_33 (by omega) L (c_129_38 (by omega) L ⟨0, h, e_120 (by omega) L hq, L, f129_44 hd L hq H⟩)
theorem f129_26 (hd : 12 ≤ d) (L : Ly p h) (hq : ¬ ji h 141 6 = -1) (H : Q none h) : WF d 129 26 [jP 141, jI v1, z2, z3] [] h Q := c_129_26 (by omega) L ⟨0, h, e_121 (by omega) L hq, L, f129_33 hd L hq H⟩
theorem f129_21 (hd : 12 ≤ d) (L : Ly p h) (hq : ¬ ji h 141 6 = -1) (H : Q none h) : WF d 129 21 [jP 141, z1, z2, z3] [] h Q := c_129_21 (by omega) L ⟨-1, h, e_124 (by omega) L hq, L, f129_26 hd L hq H⟩
end F129
theorem q_129 (hd : 20 ≤ d) (R : RT p T e h) (K : RtR T e i h) (hk : tkK T i = 10) (D : RDc h c i) (O : okD c) : ∃ w h', jE d 129 [jP 141] h w h' ∧ (w = none ∧ RdP p T e h (pSet T c i) h') := by
  obtain ⟨d, rfl⟩ : ∃ d', d = d' + 1 := ⟨d - 1, by omega⟩
  have cn := O.cnt
  obtain ⟨h1, hE1, L1, F1, K1⟩ := t_118 (d := d) (by omega) R K (by rw [hk]; decide)
  have F1 : Fq ZF h h1 := F1.toF
  refine jE_of (as := [jP 141]) (Nat.le_of_ble_eq_true rfl) (c_129_0 (by omega) R.1 ⟨h1, hE1, L1, ?_⟩)
  have e7 : ji h1 141 7 = ((dS c).length : Int) := (D.fF F1).1.1.1
  have eP : pSet T c i = xb (pName T (dN c) (dS c).length 6 i) fun q => xb (pTake T 161 q.2) fun j => xb (pTake T 2 j) fun j2 => xb (pTake T 22 j2) fun j3 => if tkK T j3 = 2 ∧ 0 ≤ tkV T j3 - tkV T j + 1 ∧ tkV T j3 - tkV T j + 1 ≤ 8 then xb (pTake T 159 (j3 + 1)) fun j4 => .ok ((dN c ++ [(q.1, 0, ((dS c).length : Int))], dS c ++ [(tkV T j, tkV T j3 - tkV T j + 1)], c.2.2), j4) else .error (tkP T j3) := rfl
  rw [pName_eq cn.1] at eP
  by_cases c6 : (dS c).length = 6
  · rw [if_pos c6] at eP
    refine c_129_4 (by omega) L1 ⟨fun _ => ⟨fun _ L2 => f129_21 (by omega) L2 (by rw [w6_r, K1.2.2.1]; omega) ⟨rfl, rd_bad eP L2 (F1.trans f6).toP (by rw [w6_r]; exact K1.2.2.1)⟩, fun z => absurd K1.2.2.2.2.2.2 z⟩, fun z => by omega⟩
  rw [if_neg c6] at eP
  refine c_129_4 (by omega) L1 ⟨fun z => by omega, fun _ => ?_⟩
  obtain ⟨v1, h3, hE3, L3, G3, S3⟩ := t_124 (d := d) (s := .ok (i + 1)) (by omega) (R.fF F1) K1 (D.fF F1).1
  have F3 := F1.trans G3
  refine c_129_21 (by omega) L1 ⟨v1, h3, hE3, L3, ?_⟩
  rcases S3.cs with ⟨q, hr, h6⟩ | ⟨a, hr, va, K3⟩
  · rw [hr] at eP
    exact f129_26 (by omega) L3 (nq h6) ⟨rfl, rd_bad eP L3 F3.toP h6⟩
  rw [hr] at eP
  have na : okN a.1 ∧ (lkNm (dN c) a.1).1 = -1 ∧ a.2 = i + 2 := by
    have hr : pNew T (dN c) (i + 1) = .ok a := hr
    unfold pNew at hr
    split at hr
    · rename_i z; cases hr; exact ⟨(tkG_all T _).2 z.1, z.2, rfl⟩
    · cases hr
  clear S3 hE3 hE1
  by_cases c1 : ¬ (tkK T a.2 = 161)
  · refine c_129_26 (by omega) L3 ⟨0, _, n_121 (by omega) L3 K3 c1 (by decide), L3.wi (by decide), ?_⟩
    refine f129_33 (by omega) (L3.wi (by decide)) (by rw [w6_r]; omega) ⟨rfl, rd_bad (q := tkP T a.2) ?_ (L3.wi (by decide)) (F3.trans f6).toP w6_r⟩
    rw [eP, xb_pure, take_n c1]; rfl
  have c1 := Decidable.not_not.mp c1
  obtain ⟨h4, hE4, L4, G4, K4⟩ := y_121 (d := d) (x := 61) (by omega) (R.fF F3) K3 c1 (by decide) (by decide)
  have F4 := F3.trans G4.toF
  refine c_129_26 (by omega) L3 ⟨1, h4, hE4, L4, c_129_33 (by omega) L4 ?_⟩
  have eP : pSet T c i = xb (pTake T 2 (a.2 + 1)) fun j2 => xb (pTake T 22 j2) fun j3 => if tkK T j3 = 2 ∧ 0 ≤ tkV T j3 - tkV T (a.2 + 1) + 1 ∧ tkV T j3 - tkV T (a.2 + 1) + 1 ≤ 8 then xb (pTake T 159 (j3 + 1)) fun j4 => .ok ((dN c ++ [(a.1, 0, ((dS c).length : Int))], dS c ++ [(tkV T (a.2 + 1), tkV T j3 - tkV T (a.2 + 1) + 1)], c.2.2), j4) else .error (tkP T j3) := by rw [eP, xb_pure, take_y c1]; rfl
  clear hE4
  by_cases c2 : ¬ (tkK T (a.2 + 1) = 2)
  · refine c_129_38 (by omega) L4 ⟨0, _, n_120 (by omega) L4 K4 c2, L4.wi (by decide), ?_⟩
    refine f129_44 (by omega) (L4.wi (by decide)) (by rw [w6_r]; omega) ⟨rfl, rd_bad (q := tkP T (a.2 + 1)) ?_ (L4.wi (by decide)) (F4.trans f6).toP w6_r⟩
    rw [eP, take_n c2]; rfl
  have c2 := Decidable.not_not.mp c2
  obtain ⟨h5, hE5, L5, G5, K5⟩ := y_120 (d := d) (k := 2) (by omega) (R.fF F4) K4 c2 (by decide)
  have F5 := F4.trans G5.toF
  refine c_129_38 (by omega) L4 ⟨1, h5, hE5, L5, ?_⟩
  have b2 := (tkG_all T _).1 c2
  rw [K4.2.2.2.2.2.1 c2]
  clear hE5
  by_cases c3 : ¬ (tkK T (a.2 + 1 + 1) = 22)
  · refine c_129_44 (by omega) L5 ⟨0, _, n_120 (by omega) L5 K5 c3, L5.wi (by decide), ?_⟩
    refine f129_51 (by omega) (L5.wi (by decide)) (by rw [w6_r]; omega) ⟨rfl, rd_bad (q := tkP T (a.2 + 1 + 1)) ?_ (L5.wi (by decide)) (F5.trans f6).toP w6_r⟩
    rw [eP, take_y c2, xb_pure, take_n c3]; rfl
  have c3 := Decidable.not_not.mp c3
  obtain ⟨h6, hE6, L6, G6, K6⟩ := y_120 (d := d) (k := 22) (by omega) (R.fF F5) K5 c3 (by decide)
  have F6 := F5.trans G6.toF
  refine c_129_44 (by omega) L5 ⟨1, h6, hE6, L6, ?_⟩
  have eP : pSet T c i = if tkK T (a.2 + 1 + 1 + 1) = 2 ∧ 0 ≤ tkV T (a.2 + 1 + 1 + 1) - tkV T (a.2 + 1) + 1 ∧ tkV T (a.2 + 1 + 1 + 1) - tkV T (a.2 + 1) + 1 ≤ 8 then xb (pTake T 159 (a.2 + 1 + 1 + 1 + 1)) fun j4 => .ok ((dN c ++ [(a.1, 0, ((dS c).length : Int))], dS c ++ [(tkV T (a.2 + 1), tkV T (a.2 + 1 + 1 + 1) - tkV T (a.2 + 1) + 1)], c.2.2), j4) else .error (tkP T (a.2 + 1 + 1 + 1)) := by rw [eP, take_y c2, xb_pure, take_y c3]; rfl
  clear hE6
  generalize hj3 : a.2 + 1 + 1 + 1 = j3 at eP K6
  generalize tkV T (a.2 + 1) = lo at eP b2 ⊢
  have bad : (pSet T c i = .error (tkP T j3)) → Ly p (wi h6 141 6 (ji h6 141 3)) → WF d 129 97 [jP 141, jI v1, jI lo, jU] [] (wi h6 141 6 (ji h6 141 3)) (fun w h' => w = none ∧ RdP p T e h (pSet T c i) h') := fun hb L7 => f129_97 (by omega) L7 (by rw [w6_r, K6.2.2.1]; omega) ⟨rfl, rd_bad hb L7 (F6.trans f6).toP (by rw [w6_r]; exact K6.2.2.1)⟩
  by_cases c4 : ¬ (tkK T j3 = 2)
  · refine c_129_51 (by omega) L6 ⟨fun _ => ⟨fun z => absurd (K6.2.1.symm.trans z) c4, fun _ => ?_⟩, fun z => absurd K6.2.2.2.2.2.2 z⟩
    refine c_129_97 (by omega) L6 (c_129_102 (by omega) L6 ⟨0, _, n_120 (by omega) L6 K6 c4, L6.wi (by decide), ?_⟩)
    refine f129_108 (by omega) (L6.wi (by decide)) (by rw [w6_r]; omega) ⟨rfl, rd_bad (q := tkP T j3) ?_ (L6.wi (by decide)) (F6.trans f6).toP w6_r⟩
    rw [eP, if_neg (fun z => c4 z.1)]
  have c4 := Decidable.not_not.mp c4
  have b4 := (tkG_all T _).1 c4
  have e5 := K6.2.2.2.2.2.1 c4
  refine c_129_51 (by omega) L6 ⟨fun _ => ⟨fun _ => ?_, fun z => absurd (K6.2.1.trans c4) z⟩, fun z => absurd K6.2.2.2.2.2.2 z⟩
  rw [e5, w32_i (x := lo - 1) (by omega) (by omega), w32_i (x := tkV T j3 - lo) (by omega) (by omega), w32_i (x := tkV T j3 - lo + 1) (by omega) (by omega)]
  refine ⟨fun z => ⟨fun _ L7 => bad (by rw [eP, if_neg (by omega)]) L7, fun z => absurd K6.2.2.2.2.2.2 z⟩, fun z1 => ⟨fun z2 => ?_, fun z2 => ⟨fun _ L7 => bad (by rw [eP, if_neg (by omega)]) L7, fun z => absurd K6.2.2.2.2.2.2 z⟩⟩⟩
  rw [if_pos ⟨c4, by omega, by omega⟩] at eP
  obtain ⟨h8, hE8, L8, G8, K8⟩ := y_120 (d := d) (k := 2) (by omega) (R.fF F6) K6 c4 (by decide)
  have F8 := F6.trans G8.toF
  refine c_129_97 (by omega) L6 (c_129_102 (by omega) L6 ⟨1, h8, hE8, L8, ?_⟩)
  rw [e5]
  by_cases c5 : ¬ (tkK T (j3 + 1) = 159)
  · refine c_129_108 (by omega) L8 ⟨0, _, n_121 (by omega) L8 K8 c5 (by decide), L8.wi (by decide), fun _ => c_129_161 (by omega) (L8.wi (by decide)) ⟨rfl, rd_bad (q := tkP T (j3 + 1)) ?_ (L8.wi (by decide)) (F8.trans f6).toP w6_r⟩, fun z => absurd rfl z⟩
    rw [eP, take_n c5]; rfl
  have c5 := Decidable.not_not.mp c5
  obtain ⟨h9, hE9, L9, G9, K9⟩ := y_121 (d := d) (x := 59) (by omega) (R.fF F8) K8 c5 (by decide) (by decide)
  have F9 := F8.trans G9.toF
  have D9 := D.fF F9
  have e79 : ji h9 141 7 = ((dS c).length : Int) := D9.1.1.1
  refine c_129_108 (by omega) L8 ⟨1, h9, hE9, L9, fun z => absurd z (by decide), fun _ => ?_⟩
  rw [take_y c5] at eP
  rw [eP, e79, Int.toNat_natCast]
  refine ⟨by omega, by omega, fun L10 => c_129_127 (by omega) L10 ?_⟩
  rw [ji_wi, if_neg (by omega), e79, Int.toNat_natCast]
  refine ⟨by omega, by omega, fun L11 => c_129_137 (by omega) L11 ?_⟩
  rw [ji_wi, if_neg (by omega), ji_wi, if_neg (by omega), e79, Int.toNat_natCast, w32_i (x := tkV T j3 - lo) (by omega) (by omega), w32_i (x := tkV T j3 - lo + 1) (by omega) (by omega)]
  refine ⟨by omega, by omega, fun L12 => c_129_151 (by omega) L12 ?_⟩
  rw [ji_wi, if_neg (by omega), ji_wi, if_neg (by omega), ji_wi, if_neg (by omega), e79, w32_i (x := ((dS c).length : Int) + 1) (by omega) (by omega)]
  intro L13
  have fE : Fq ZP h9 (wi (wi (wi (wi h9 143 (dS c).length v1) 144 (dS c).length lo) 145 (dS c).length (tkV T j3 - lo + 1)) 141 7 ((dS c).length + 1 : Int)) := (((Fq.wi (by omega)).trans (Fq.wi (by omega))).trans (Fq.wi (by omega))).trans (Fq.wi (by omega))
  have DE := set_end (a := lo) (b := tkV T j3 - lo + 1) (j := j3 + 1 + 1) D9 O L9 na.1 na.2.1 (by omega) (by omega)
  rw [← va] at DE
  refine c_129_161 (by omega) L13 ⟨rfl, L13, F9.toP.trans fE, ?_, DE⟩
  exact K9.fq (((Fq.wi (Z := fun a k => (143 ≤ a ∧ a ≤ 145) ∨ (a = 141 ∧ k = 7)) (by omega)).trans (Fq.wi (by omega))).trans (Fq.wi (by omega)) |>.trans (Fq.wi (by omega))) (fun k z1 z2 => by omega)
end RST
