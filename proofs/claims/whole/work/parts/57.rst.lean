/-! THE REFERENCE: a set is told -/
section RST
variable {p : Lpar} {d : Nat} {h h' h0 h1 g : AH} {T : Txt} {e i k A : Nat} {c : Dc}
theorem failsW {P : AH → Prop} {x : Int} (k : ∀ g, g = wi h 141 6 (if ji h 141 6 = -1 then x else ji h 141 6) → P g) : (ji h 141 6 = -1 → (Ly p (wi h 141 6 x) → P (wi h 141 6 x))) ∧ (¬ (ji h 141 6 = -1) → (Ly p (wi h 141 6 (ji h 141 6)) → P (wi h 141 6 (ji h 141 6)))) := ⟨fun z _ => k _ (by rw [if_pos z]), fun z _ => k _ (by rw [if_neg z])⟩
theorem RV.get {α : Type} {r : Er α} {f : α → Nat} {V : α → Prop} (S : RV T e r f V h) {a : α} (hr : r = .ok a) : V a ∧ RtR T e (f a) h := by rw [hr] at S; exact S
theorem f6 {x : Int} : Fq ZF h (wi h 141 6 x) := Fq.wi (by omega)
theorem wke_app {C : Cx} {s : List (Int × Int)} : ∀ (x : Ex) (n : Nat) (sl : List Int), exOK C x n sl → wke (C.1 ++ s) x = wke C.1 x := by
  intro x
  induction x with
  | leaf => intro n sl h; rfl
  | inner tt k v l r ihl ihr =>
    intro n sl h
    unfold exOK at h
    unfold wke
    by_cases c3 : tt ≤ 3
    · rw [if_pos c3, if_pos c3]
    · rw [if_neg c3, if_neg c3]
      rw [if_neg (by omega), if_neg (by omega), if_neg (by omega), if_neg (by omega)] at h
      by_cases c4 : tt = 4
      · rw [if_pos c4] at h
        rw [if_pos c4, if_pos c4]
        obtain ⟨_, _, _, h⟩ := h
        rcases h with ⟨a1, a2, h⟩ | ⟨a1, a2, ⟨a3, h⟩ | ⟨a3, a4, h⟩⟩
        · rw [ihl _ _ h, szO_app (by omega), szO_app (by omega)]
        · rw [ihl _ _ h, szO_app (by omega), szO_app (by omega)]
        · rw [ihl _ _ h, szO_app (by omega), szO_app (by omega)]
      · rw [if_neg c4] at h
        rw [if_neg c4, if_neg c4, ihl _ _ h.2.1, ihr _ _ h.2.2]
/-- the end of a set -/
theorem set_end (D : RDc g c i) (O : okD c) (L : Ly p g) {nm : List Int} (hn : okN nm) (hf : (lkNm (dN c) nm).1 = -1) (hl : (dS c).length < 6) {a b : Int} {j : Nat} (hij : i ≤ j) : RDc (wi (wi (wi (wi g 143 (dS c).length (c27 nm)) 144 (dS c).length a) 145 (dS c).length b) 141 7 ((dS c).length + 1 : Int)) (dN c ++ [(nm, 0, ((dS c).length : Int))], dS c ++ [(a, b)], c.2.2) j := by
  obtain ⟨M, B, A, e33, hA, Rr⟩ := D
  have hs : ∀ x k, ¬ (x = 143 ∧ k = (dS c).length) → ¬ (x = 144 ∧ k = (dS c).length) → ¬ (x = 145 ∧ k = (dS c).length) → ¬ (x = 141 ∧ k = 7) → ji (wi (wi (wi (wi g 143 (dS c).length (c27 nm)) 144 (dS c).length a) 145 (dS c).length b) 141 7 ((dS c).length + 1 : Int)) x k = ji g x k := fun x k z1 z2 z3 z4 => by rw [ji_wi, if_neg z4, ji_wi, if_neg z3, ji_wi, if_neg z2, ji_wi, if_neg z1]
  have e7 : ji (wi (wi (wi (wi g 143 (dS c).length (c27 nm)) 144 (dS c).length a) 145 (dS c).length b) 141 7 ((dS c).length + 1 : Int)) 141 7 = ((dS c).length + 1 : Int) := by rw [ji_wi, if_pos ⟨rfl, rfl⟩]
  have e3 : ji (wi (wi (wi (wi g 143 (dS c).length (c27 nm)) 144 (dS c).length a) 145 (dS c).length b) 141 7 ((dS c).length + 1 : Int)) 143 (dS c).length = c27 nm := by rw [ji_wi, if_neg (by omega), ji_wi, if_neg (by omega), ji_wi, if_neg (by omega), ji_wi, if_pos ⟨rfl, rfl⟩]
  have e4 : ji (wi (wi (wi (wi g 143 (dS c).length (c27 nm)) 144 (dS c).length a) 145 (dS c).length b) 141 7 ((dS c).length + 1 : Int)) 144 (dS c).length = a := by rw [ji_wi, if_neg (by omega), ji_wi, if_neg (by omega), ji_wi, if_pos ⟨rfl, rfl⟩]
  have e5 : ji (wi (wi (wi (wi g 143 (dS c).length (c27 nm)) 144 (dS c).length a) 145 (dS c).length b) 141 7 ((dS c).length + 1 : Int)) 145 (dS c).length = b := by rw [ji_wi, if_neg (by omega), ji_wi, if_pos ⟨rfl, rfl⟩]
  have hL : ∀ x k, jl (wi (wi (wi (wi g 143 (dS c).length (c27 nm)) 144 (dS c).length a) 145 (dS c).length b) 141 7 ((dS c).length + 1 : Int)) x k = jl g x k := fun x k => by rw [jl_wi, jl_wi, jl_wi, jl_wi]
  generalize wi (wi (wi (wi g 143 (dS c).length (c27 nm)) 144 (dS c).length a) 145 (dS c).length b) 141 7 ((dS c).length + 1 : Int) = G at *
  have M0 := M.1
  have cn := O.cnt
  refine ⟨?_, ⟨fun k hk => ?_, fun k hk => ?_, fun k j hk hj => ?_, fun k hk => ?_, fun k hk => ?_⟩, A, (hs _ _ (by omega) (by omega) (by omega) (by omega)).trans e33, by omega, ?_⟩
  · refine NmM.add (s := 0) (n := cnt c) M hn hf (by decide) ?_ (fun t ht => ?_) ?_ ⟨?_, ?_, ?_, ?_, ?_⟩ (fun x k z1 z2 => ?_) e3
    · show (dS c ++ [(a, b)]).length = (dS c).length + 1; rw [List.length_append]; rfl
    · unfold cnt; rw [if_neg ht, if_neg ht]
    · refine ⟨?_, cn.2.1, cn.2.2.1, cn.2.2.2, by show 0 ≤ 18; decide⟩
      show (dS c ++ [(a, b)]).length ≤ 6
      rw [List.length_append]; show (dS c).length + 1 ≤ 6; omega
    · rw [e7]; show _ = ((dS c ++ [(a, b)]).length : Int); rw [List.length_append]; rfl
    · exact (hs _ _ (by omega) (by omega) (by omega) (by omega)).trans M0.2.1
    · exact (hs _ _ (by omega) (by omega) (by omega) (by omega)).trans M0.2.2.1
    · exact (hs _ _ (by omega) (by omega) (by omega) (by omega)).trans M0.2.2.2.1
    · exact (hs _ _ (by omega) (by omega) (by omega) (by omega)).trans M0.2.2.2.2
    · exact hs _ _ (fun z => z2 ⟨z.1, z.2⟩) (by omega) (by omega) (by omega)
  · have hk : k < (dS c ++ [(a, b)]).length := hk
    rw [List.length_append] at hk
    have hk : k < (dS c).length + 1 := hk
    show ji G 144 k = ((dS c ++ [(a, b)]).getD k (0, 0)).1 ∧ ji G 145 k = ((dS c ++ [(a, b)]).getD k (0, 0)).2
    rw [getD_snoc]
    by_cases ck : k < (dS c).length
    · rw [if_pos ck, hs _ _ (by omega) (by omega) (by omega) (by omega), hs _ _ (by omega) (by omega) (by omega) (by omega)]; exact B.1 k ck
    · rw [if_neg ck, if_pos (by omega), show k = (dS c).length by omega]; exact ⟨e4, e5⟩
  · rw [hs _ _ (by omega) (by omega) (by omega) (by omega), hs _ _ (by omega) (by omega) (by omega) (by omega)]; exact B.2.1 k hk
  · have hO := O.1.2.2.1
    have hk : k < (dT c).length := hk
    have m : ((dT c).getD k (-1, -1)).1 < ((dS c).length : Int) ∧ ((dT c).getD k (-1, -1)).2 < ((dS c).length : Int) := okO_lt hO _ (getD_mem hk (-1, -1))
    have hj : (j : Int) < szO (dS c ++ [(a, b)]) ((dT c).getD k (-1, -1)).1 * szO (dS c ++ [(a, b)]) ((dT c).getD k (-1, -1)).2 := hj
    rw [szO_app m.1, szO_app m.2] at hj
    rw [hs _ _ (by omega) (by omega) (by omega) (by omega)]
    show _ = (dV c).getD ((stO (dS c ++ [(a, b)]) (dT c) k).toNat + j) 0
    rw [stO_app hO]
    exact B.2.2.1 k j hk hj
  · rw [hs _ _ (by omega) (by omega) (by omega) (by omega), hs _ _ (by omega) (by omega) (by omega) (by omega)]; exact B.2.2.2.1 k hk
  · rw [hs _ _ (by omega) (by omega) (by omega) (by omega), hs _ _ (by omega) (by omega) (by omega) (by omega)]; exact B.2.2.2.2 k hk
  · have R2 := Rr.cg (h' := G) (Nat.le_refl _) (fun x k z => hs _ _ (by omega) (by omega) (by omega) (by omega)) (fun x k z => hL x k)
    obtain ⟨r1, r2, r3, r4⟩ := R2
    refine ⟨r1, fun k hk => ?_, r3, fun z => ?_⟩
    · have x1 := O.2.2.2.2.2.2.2.2.1 k hk
      obtain ⟨q1, q2, q3⟩ := r2 k hk
      refine ⟨q1, q2.trans ?_, q3⟩
      show _ = wke (dS c ++ [(a, b)]) ((dL c).getD k zL).2.1 + wke (dS c ++ [(a, b)]) ((dL c).getD k zL).2.2
      rw [wke_app (C := dC c) _ _ _ x1.2.1, wke_app (C := dC c) _ _ _ x1.2.2]
    · obtain ⟨q1, q2⟩ := r4 z
      refine ⟨q1.trans ?_, q2⟩
      show _ = wke (dS c ++ [(a, b)]) (dE c)
      rw [wke_app (C := dC c) _ _ _ O.2.2.2.2.2.2.2.2.2.2.1]
theorem q_129 (hd : 20 ≤ d) (R : RT p T e h) (K : RtR T e i h) (hk : tkK T i = 10) (D : RDc h c i) (O : okD c) : ∃ h', jE d 129 [jP 141] h none h' ∧ RdP p T e h (pSet T c i) h' := by
  obtain ⟨d, rfl⟩ : ∃ d', d = d' + 1 := ⟨d - 1, by omega⟩
  suffices hh : ∃ w h', jE (d + 1) 129 [jP 141] h w h' ∧ (w = none ∧ RdP p T e h (pSet T c i) h') by
    obtain ⟨w, h', hE, rfl, r⟩ := hh
    exact ⟨h', hE, r⟩
  have cn := O.cnt
  obtain ⟨h1, hE1, L1, F1, K1⟩ := t_118 (d := d) (by omega) R K (by rw [hk]; decide)
  have F1 : Fq ZF h h1 := F1.mono (fun a k z => by omega)
  refine jE_of (as := [jP 141]) (Nat.le_of_ble_eq_true rfl) (c_129_0 (by omega) R.1 ⟨h1, hE1, L1, ?_⟩)
  have e7 : ji h1 141 7 = ((dS c).length : Int) := (D.fF F1).1.1.1
  suffices key : ∀ h2, Fq ZF h h2 → RV T e (xb (.ok () : Er Unit) fun _ => if (dS c).length = 6 then .error (tkP T (i + 1)) else .ok ()) (fun _ => i + 1) (fun _ => True) h2 → WF d 129 21 [jP 141, jU, jU, jU] [] h2 (fun w h' => w = none ∧ RdP p T e h (pSet T c i) h') by
    have S1 : RV T e (.ok () : Er Unit) (fun _ => i + 1) (fun _ => True) h1 := ⟨trivial, K1⟩
    refine c_129_4 (by omega) L1 ⟨fun z => failsW (P := fun g => WF d 129 21 [jP 141, jU, jU, jU] [] g _) (fun g hg => ?_), fun z => key h1 F1 (S1.stays (P := fun _ => (dS c).length = 6) (fun _ _ z2 => by omega))⟩
    rw [hg]
    exact key _ (F1.trans f6) (S1.fails (P := fun _ => (dS c).length = 6) (fun _ _ => by omega))
  intro h2 F2 S2
  obtain ⟨v1, h3, hE3, L3, G3, S3⟩ := t_124 (d := d) (by omega) (R.fF F2) S2.rs (D.fF F2).1
  have F3 := F2.trans G3
  refine c_129_21 (by omega) (R.fF F2).1 ⟨v1, h3, hE3, L3, ?_⟩
  obtain ⟨v4, h4, hE4, L4, G4, S4⟩ := u_121 (d := d) (c := 61) (k := 161) (by omega) (R.fF F3) S3 (by decide) (by decide)
  have F4 := F3.trans G4
  refine c_129_26 (by omega) L3 ⟨v4, h4, hE4, L4, c_129_33 (by omega) L4 ?_⟩
  obtain ⟨v5, h5, hE5, L5, G5, S5⟩ := u_120 (d := d) (k := 2) (by omega) (R.fF F4) (show RV T e _ _ _ h4 from rsv S4) (by decide)
  have F5 := F4.trans G5
  refine c_129_38 (by omega) L4 ⟨v5, h5, hE5, L5, ?_⟩
  generalize ji h4 141 5 = v2 at S5 ⊢
  obtain ⟨v6, h6, hE6, L6, G6, S6⟩ := u_120 (d := d) (k := 22) (by omega) (R.fF F5) (show RV T e _ _ _ h5 from rsv S5) (by decide)
  have F6 := F5.trans G6
  refine c_129_44 (by omega) L5 ⟨v6, h6, hE6, L6, ?_⟩
  have S6 := (show RV T e _ _ _ h6 from rsv S6)
  clear S4 S5 hE1 hE3 hE4 hE5 hE6 S3 S2
  suffices key : ∀ h7, Fq ZF h h7 → RV T e (xb _ fun a => if (tkK T a.2 = 2 ∧ (tkV T a.2 < tkV T a.1.1.2 - 1 ∨ 8 < tkV T a.2 - tkV T a.1.1.2 + 1)) then .error (tkP T a.2) else .ok a) (fun a => a.2) _ h7 → WF d 129 97 [jP 141, jI v1, jI v2, jU] [] h7 (fun w h' => w = none ∧ RdP p T e h (pSet T c i) h') by
    have gt : ∀ a, _ = Except.ok a → _ := fun a ha => S6.get ha
    have bo : ∀ {a}, _ = Except.ok a → ji h6 141 2 = tkK T a.2 ∧ (tkK T a.2 = 2 → ji h6 141 5 = tkV T a.2 ∧ 0 ≤ tkV T a.2 ∧ tkV T a.2 ≤ 9999) ∧ v2 = tkV T a.1.1.2 ∧ 0 ≤ tkV T a.1.1.2 ∧ tkV T a.1.1.2 ≤ 9999 ∧ ji h6 141 6 = -1 := fun {a} ha => by
      have q := gt a ha
      have b1 := (tkG_all T a.1.1.2).1 q.1.1.2.1
      exact ⟨q.2.2.1, fun z => ⟨q.2.2.2.2.2.2.1 z, (tkG_all T a.2).1 z⟩, q.1.1.2.2 rfl, b1.1, b1.2, q.2.2.2.2.2.2.2⟩
    refine c_129_51 (by omega) L6 ⟨fun z6 => ⟨fun z2 => ⟨fun bad => failsW (P := fun g => WF d 129 97 [jP 141, jI v1, jI v2, jU] [] g _) (fun g hg => ?_), fun nb => ⟨fun ok8 => key h6 F6 (S6.stays (fun a ha => ?_)), fun bad => failsW (P := fun g => WF d 129 97 [jP 141, jI v1, jI v2, jU] [] g _) (fun g hg => ?_)⟩⟩, fun z2 => key h6 F6 (S6.stays (fun a ha => ?_))⟩, fun z6 => key h6 F6 (S6.stays (fun a ha => ?_))⟩
    · rw [hg]
      refine key _ (F6.trans f6) (S6.fails (fun a ha => ?_))
      obtain ⟨b1, b2, b3, b4, b5, b6⟩ := bo ha
      have b2 := b2 (b1.symm.trans z2)
      rw [b3, w32_i (by omega) (by omega)] at bad
      exact ⟨b1.symm.trans z2, Or.inl (by omega)⟩
    · obtain ⟨b1, b2, b3, b4, b5, b6⟩ := bo ha
      have b2 := b2 (b1.symm.trans z2)
      rw [b3, w32_i (by omega) (by omega)] at nb
      rw [b3, w32_i (x := ji h6 141 5 - tkV T a.1.1.2) (by omega) (by omega), w32_i (by omega) (by omega)] at ok8
      omega
    · rw [hg]
      refine key _ (F6.trans f6) (S6.fails (fun a ha => ?_))
      obtain ⟨b1, b2, b3, b4, b5, b6⟩ := bo ha
      have b2 := b2 (b1.symm.trans z2)
      rw [b3, w32_i (x := ji h6 141 5 - tkV T a.1.1.2) (by omega) (by omega), w32_i (by omega) (by omega)] at bad
      exact ⟨b1.symm.trans z2, Or.inr (by omega)⟩
    · obtain ⟨b1, b2, b3, b4, b5, b6⟩ := bo ha
      exact fun y => z2 (b1.trans y.1)
    · obtain ⟨b1, b2, b3, b4, b5, b6⟩ := bo ha
      exact absurd b6 z6
  clear S6
  intro h7 F7 S7
  obtain ⟨v8, h8, hE8, L8, G8, S8⟩ := u_120 (d := d) (k := 2) (by omega) (R.fF F7) S7 (by decide)
  have F8 := F7.trans G8
  refine c_129_97 (by omega) (R.fF F7).1 (c_129_102 (by omega) (R.fF F7).1 ⟨v8, h8, hE8, L8, ?_⟩)
  generalize ji h7 141 5 = v3 at S8 ⊢
  obtain ⟨v9, h9, hE9, L9, G9, S9⟩ := u_121 (d := d) (c := 59) (k := 159) (by omega) (R.fF F8) (show RV T e _ _ _ h8 from rsv S8) (by decide) (by decide)
  have F9 := F8.trans G9
  have D9 := D.fF F9
  have eP : pSet T c i = xb _ fun b => .ok ((dN c ++ [(b.1.1.1.1.1.1.1, 0, ((dS c).length : Int))], dS c ++ [(tkV T b.1.1.1.1.1.2, tkV T b.1.1.2 - tkV T b.1.1.1.1.1.2 + 1)], c.2.2), b.2) := set_eq cn.1
  sorry
end RST
