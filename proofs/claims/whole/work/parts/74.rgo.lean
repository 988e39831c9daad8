/-! THE REFERENCE: the goal is told -/
section RGO
variable {p : Lpar} {d : Nat} {h h' h0 h1 g : AH} {T : Txt} {e i i0 i1 k A A1 : Nat} {c : Dc} {G : NmL} {n : Nat → Nat} {sl : List Int} {x : Ex}
theorem n4_cnt (c : Dc) : n4 (cnt c) 0 = cnt c := by
  funext t
  unfold n4 cnt
  by_cases z : t = 4
  · rw [if_pos z, if_neg (by omega), if_neg (by omega), if_neg (by omega), if_neg (by omega)]
  · rw [if_neg z]
theorem RDc.sx (D : RDc h c i) : SxM h (dN c) (cnt c) [] := ⟨by show NmM h (dN c) (n4 (cnt c) 0); rw [n4_cnt]; exact D.1, fun k hk => absurd hk (Nat.not_lt_zero k)⟩
/-- the exact WORK of a sum -/
theorem wk_ex {C : Cx} {nn : Nat} (hS : okS C.1) (O : okX C G sl) (hsl : sl.length + 2 * nn ≤ 18) (hn : nn ≤ 8) {r : Ex × Nat} (hr : pSum T C nn G sl i = .ok r) (he : r.2 ≤ 400) : 0 ≤ wke C.1 r.1 ∧ wke C.1 r.1 ≤ 112589990684262400 := by
  have q := (sum_wk hS nn G sl i r O hsl hr).2
  refine ⟨wke_nn hS r.1, Int.le_trans q ?_⟩
  have h1 := bd_le (nn := nn) (show r.2 - i ≤ 400 by omega)
  refine Int.le_trans h1 ?_
  unfold bd
  have : 64 ^ nn ≤ 64 ^ 8 := Nat.pow_le_pow_right (by decide) hn
  have e8 : (64 : Nat) ^ 8 = 281474976710656 := by decide
  rw [e8] at this
  have := Nat.mul_le_mul_right 400 this
  omega
theorem q_134 (hd : 25 ≤ d) (R : RT p T e h) (K : RtR T e i h) (hk : tkK T i = 14) (D : RDc h c i) (O : okD c) : ∃ w h', jE d 134 [jP 141] h w h' ∧ (w = none ∧ RdP p T e h (pGoal T c i) h') := by
  obtain ⟨d, rfl⟩ : ∃ d', d = d' + 1 := ⟨d - 1, by omega⟩
  have L := R.1
  have k6 := K.2.2.2.2.2.2
  have D0 := D
  obtain ⟨M, B, A, a33, hA, Rr⟩ := D
  have g26 := Rr.2.2.1
  have og := O.2.2.2.2.2.2.2.2.2.1
  refine jE_of (as := [jP 141]) (Nat.le_of_ble_eq_true rfl) (c_134_0 (by omega) L ?_)
  rw [g26]
  by_cases c0 : ¬ dG c = 0
  · refine ⟨fun z => by omega, fun _ => ⟨fun _ L2 => c_134_15 (by omega) L2 ⟨rfl, rd_bad (q := tkP T i) ?_ L2 f6.toP (w6_r.trans K.2.2.1)⟩, fun z => absurd k6 z⟩⟩
    unfold pGoal; rw [if_pos c0]
  have c0 := Decidable.not_not.mp c0
  obtain ⟨h1, hE1, L1, G1, K1⟩ := t_118 (d := d) (by omega) R K (by rw [hk]; decide)
  have F1 : Fq ZF h h1 := G1.toF
  refine ⟨fun _ => ⟨h1, hE1, L1, ?_⟩, fun z => by omega⟩
  by_cases c1 : ¬ (tkK T (i + 1) = 15 ∨ tkK T (i + 1) = 16)
  · refine c_134_20 (by omega) L1 ⟨fun z => absurd (Or.inl (K1.2.1.symm.trans z)) c1, fun _ => ⟨fun z => absurd (Or.inr (K1.2.1.symm.trans z)) c1, fun _ => ⟨fun _ L2 => c_134_46 (by omega) L2 ⟨rfl, rd_bad (q := tkP T (i + 1)) ?_ L2 (F1.trans f6).toP (w6_r.trans K1.2.2.1)⟩, fun z => absurd K1.2.2.2.2.2.2 z⟩⟩⟩
    unfold pGoal; rw [if_neg (fun z => z c0), if_neg c1]
  have c1 := Decidable.not_not.mp c1
  have eP : pGoal T c i = xb (pSum T (dC c) 8 (dN c) [] (i + 2)) fun a => xb (pTake T 159 a.2) fun j => .ok ((dN c, dS c, dT c, dV c, dX c, dB c, dR c, dL c, if tkK T (i + 1) = 15 then 1 else 2, a.1), j) := by unfold pGoal; rw [if_neg (fun z => z c0), if_pos c1]
  suffices key : ∀ gg, gg = (if tkK T (i + 1) = 15 then (1 : Int) else 2) → Ly p (wi h1 141 26 gg) → WF d 134 65 [jP 141] [] (wi h1 141 26 gg) (fun w h' => w = none ∧ RdP p T e h (pGoal T c i) h') by
    refine c_134_20 (by omega) L1 ⟨fun z => ⟨fun _ => key 1 ?_, fun z2 => absurd z z2⟩, fun z => ⟨fun z2 => ⟨fun z3 => absurd z3 z, fun _ => key 2 ?_⟩, fun z2 => ?_⟩⟩
    · rw [if_pos (K1.2.1.symm.trans z)]
    · rw [if_neg (fun y => z (K1.2.1.trans y))]
    · rcases c1 with c1 | c1
      · exact absurd (K1.2.1.trans c1) z
      · exact absurd (K1.2.1.trans c1) z2
  intro gg hgg L2
  rw [← hgg] at eP
  have hg0 : gg = 1 ∨ gg = 2 := by rw [hgg]; split; exact Or.inl rfl; exact Or.inr rfl
  have FW : Fq (fun a k => a = 141 ∧ k = 26) h1 (wi h1 141 26 gg) := Fq.wi (by omega)
  obtain ⟨h2, hE2, L3, G2, K2⟩ := t_118 (d := d) (by omega) ((R.fF F1).fq FW (fun a k z => by omega) (by omega) (fun k => by omega)) (K1.fq FW (fun k _ _ => by omega)) (by omega)
  refine c_134_65 (by omega) L2 ⟨h2, hE2, L3, c_134_69 (by omega) L3 (fun L4 => c_134_74 (by omega) L4 ?_)⟩
  have b33 : ji (wi h2 141 30 0) 141 33 = (A : Int) := by rw [ji_wi, if_neg (by omega), G2.i (by omega), FW.i (by omega), G1.i (by omega)]; exact a33
  rw [b33]
  intro L5
  -- the state before the sum
  have FX : Fq (fun a k => a = 141 ∧ (k = 30 ∨ k = 27)) h2 (wi (wi h2 141 30 0) 141 27 (A : Int)) := (Fq.wi (by omega)).trans (Fq.wi (by omega))
  have F5 : Fq (fun a k => ZF a k ∨ (a = 141 ∧ (k = 26 ∨ k = 27 ∨ k = 30))) h (wi (wi h2 141 30 0) 141 27 (A : Int)) := (((F1.mono (fun a k z => by omega)).trans (FW.mono (fun a k z => by omega))).trans (G2.mono (fun a k z => by omega))).trans (FX.mono (fun a k z => by omega))
  have e30 : ji (wi (wi h2 141 30 0) 141 27 (A : Int)) 141 30 = 0 := by rw [ji_wi, if_neg (by omega), ji_wi, if_pos ⟨rfl, rfl⟩]
  have e27 : ji (wi (wi h2 141 30 0) 141 27 (A : Int)) 141 27 = (A : Int) := by rw [ji_wi, if_pos ⟨rfl, rfl⟩]
  have e26 : ji (wi (wi h2 141 30 0) 141 27 (A : Int)) 141 26 = gg := by rw [FX.i (by omega), G2.i (by omega), ji_wi, if_pos ⟨rfl, rfl⟩]
  have K5 : RtR T e (i + 2) (wi (wi h2 141 30 0) 141 27 (A : Int)) := K2.fq FX (fun k _ _ => by omega)
  generalize wi (wi h2 141 30 0) 141 27 (A : Int) = g at *
  have R5 : RT p T e g := R.fq F5 (fun a k z => by omega) (by omega) (fun k => by omega)
  have M5 : SxM g (dN c) (cnt c) [] := by
    obtain ⟨⟨⟨m1, m2, m3, m4, m5⟩, ne, ok⟩, as⟩ := D0.sx
    refine ⟨⟨⟨(F5.i (by omega)).trans m1, (F5.i (by omega)).trans m2, (F5.i (by omega)).trans m3, (F5.i (by omega)).trans m4, e30⟩, fun e he => ?_, ok⟩, fun k hk => absurd hk (Nat.not_lt_zero k)⟩
    have := nmA_r e.2.1
    rw [F5.i (by omega)]; exact ne e he
  have B5 : RTb g c := B.cg (fun a k z => F5.i (by omega))
  have g33 : ji g 141 33 = (A : Int) := (F5.i (by omega)).trans a33
  obtain ⟨w, h6, hE6, y, rfl, L6, F6, R6⟩ := t_139 (d := d) (by omega) R5 M5 B5 K5 g33 (by omega) O.1 (by decide)
  have F56 : Fq ZP h h6 := (F5.mono (fun a k z => by omega)).trans F6.vP
  refine c_134_82 (by omega) L5 ⟨y, h6, hE6, L6, fun L7 => c_134_90 (by omega) L7 (fun L8 => ?_)⟩
  have FY : ∀ {v : Int}, Fq (fun a k => a = 141 ∧ (k = 28 ∨ k = 29)) h6 (wi (wl h6 141 29 y) 141 28 v) := fun {v} => (Fq.wl (by omega)).trans (Fq.wi (by omega))
  cases hS : pSum T (dC c) 8 (dN c) [] (i + 2) with
  | error x =>
    rw [hS] at R6 eP
    have h6 : ji (wi (wl h6 141 29 y) 141 28 (ji (wl h6 141 29 y) 141 33)) 141 6 = (x : Int) := (FY.i (by omega)).trans R6
    exact c_134_98 (by omega) L8 ⟨0, _, e_121 (by omega) L8 (nq h6), L8, c_134_105 (by omega) L8 ⟨rfl, rd_bad eP L8 (F56.trans (FY.mono (fun a k z => by omega))) h6⟩⟩
  | ok a =>
    rw [hS, xb_pure] at eP
    rw [hS] at R6
    obtain ⟨hy, A', E6⟩ := R6
    obtain ⟨S6, K6, q33, qb, cx, q49, q52⟩ := E6
    have lA := cR_lt cx
    have ri := e4i S6.1 K6
    have wk := wk_ex (T := T) O.1.2.1 O.1 (by decide) (by decide) hS ri
    have wk : 0 ≤ wke (dS c) a.1 ∧ wke (dS c) a.1 ≤ 112589990684262400 := wk
    have hy : y = wke (dS c) a.1 := hy.trans (w64_id ⟨by omega, by omega⟩)
    have e33 : ji (wl h6 141 29 y) 141 33 = (A' : Int) := q33
    rw [e33] at L8 ⊢
    have K8 : RtR T e a.2 (wi (wl h6 141 29 y) 141 28 (A' : Int)) := K6.fq FY (fun k _ _ => by omega)
    have R8 : RT p T e (wi (wl h6 141 29 y) 141 28 (A' : Int)) := S6.1.fq FY (fun a k z => by omega) (by omega) (fun k => by omega)
    by_cases c2 : ¬ tkK T a.2 = 159
    · exact c_134_98 (by omega) L8 ⟨0, _, n_121 (by omega) L8 K8 c2 (by decide), L8.wi (by decide), c_134_105 (by omega) (L8.wi (by decide)) ⟨rfl, rd_bad (q := tkP T a.2) (by rw [eP, take_n c2]; rfl) (L8.wi (by decide)) ((F56.trans (FY.mono (fun a k z => by omega))).trans f6.toP) w6_r⟩⟩
    have c2 := Decidable.not_not.mp c2
    obtain ⟨h9, hE9, L9, G9, K9⟩ := y_121 (d := d) (x := 59) (by omega) R8 K8 c2 (by decide) (by decide)
    rw [take_y c2] at eP
    have q9 : ∀ a k, ¬ (a = 141 ∧ ((2 ≤ k ∧ k ≤ 5) ∨ k = 28)) → ji h9 a k = ji h6 a k := fun a k z => by rw [G9.i (by omega), ji_wi, if_neg (by omega)]; rfl
    have l9 : ∀ a k, ¬ (a = 141 ∧ ((2 ≤ k ∧ k ≤ 5) ∨ k = 29)) → jl h9 a k = jl h6 a k := fun a k z => by rw [G9.l (by omega), jl_wi, jl_wl, if_neg (by omega)]
    refine c_134_98 (by omega) L8 ⟨1, h9, hE9, L9, c_134_105 (by omega) L9 ⟨rfl, ?_⟩⟩
    rw [eP]
    refine ⟨L9, (F56.trans (FY.mono (fun a k z => by omega))).trans G9.toF.toP, K9, ?_, ?_, A', (q9 _ _ (by omega)).trans q33, by show A' ≤ 4 * (a.2 + 1); omega, ?_⟩
    · have M6 := S6.2.1.1
      have M6 : NmM h6 (dN c) (n4 (cnt c) 0) := M6
      rw [n4_cnt] at M6
      obtain ⟨⟨m1, m2, m3, m4, m5⟩, ne, ok⟩ := M6
      refine ⟨⟨(q9 _ _ (by omega)).trans m1, (q9 _ _ (by omega)).trans m2, (q9 _ _ (by omega)).trans m3, (q9 _ _ (by omega)).trans m4, (q9 _ _ (by omega)).trans m5⟩, fun e he => ?_, ok⟩
      have := nmA_r e.2.1
      rw [q9 _ _ (by omega)]; exact ne e he
    · exact RTb.cg (c := c) S6.2.2.1 (fun a k z => q9 a k (by omega))
    · have qi : ∀ a k, (a = 154 ∨ a = 155 ∨ a = 156 ∨ (160 ≤ a ∧ a ≤ 163 ∧ k < A)) → ji h9 a k = ji h a k := fun a k z => by rw [q9 a k (by omega), F6.i (by omega), F5.i (by omega)]
      have ql : ∀ k, jl h9 157 k = jl h 157 k := fun k => by rw [l9 157 k (by omega), F6.l (by omega), F5.l (by omega)]
      obtain ⟨r1, r2, r3, r4⟩ := Rr
      refine ⟨fun k hk => ⟨(qi _ _ (by omega)).trans (r1 k hk).1, (qi _ _ (by omega)).trans (r1 k hk).2⟩, fun k hk => ?_, ?_, fun _ => ⟨?_, A, A', Nat.le_refl _, ?_, ?_, cR_mono cx (fun a k z1 z2 z3 z4 => q9 a k (by omega))⟩⟩
      · obtain ⟨u1, u2, a1, b1, d1, u3, u4, u5, u6, u7, u8⟩ := r2 k hk
        have t1 := cR_lt u7
        have t2 := cR_lt u8
        exact ⟨(qi _ _ (by omega)).trans u1, (ql k).trans u2, a1, b1, d1, by omega, (qi _ _ (by omega)).trans u4, (qi _ _ (by omega)).trans u5, (qi _ _ (by omega)).trans u6, cR_mono u7 (fun a k z1 z2 z3 z4 => qi a k (by omega)), cR_mono u8 (fun a k z1 z2 z3 z4 => qi a k (by omega))⟩
      · rw [q9 _ _ (by omega), F6.i (by omega)]; exact e26
      · rw [G9.l (by omega), jl_wi, jl_wl, if_pos ⟨rfl, rfl⟩]; exact hy
      · rw [q9 _ _ (by omega), F6.i (by omega)]; exact e27
      · rw [G9.i (by omega), ji_wi, if_pos ⟨rfl, rfl⟩]
end RGO
