-- needs: 20.num 21.lay 22.spec 23.va 24.leaf 25.tbls 26.thg 27.tok
set_option maxRecDepth 100000 in
theorem c_50_0 {p : Lpar} {d : Nat} {h : AH} {Q : Option AV → AH → Prop} {v1 : Int} (hd : 9 ≤ d) (L : Ly p h) {T : Txt} {e i : Nat} (K : TokR T e i h) (H : (v1 < 8 → (tkK T i = 17 → (tkK T (i + 1) = 140 → (Ly p (wi (wi h 37 4 ((i + 1 : Nat) : Int)) 37 4 ((i + 2 : Nat) : Int)) → TokR T e (i + 2) (wi (wi h 37 4 ((i + 1 : Nat) : Int)) 37 4 ((i + 2 : Nat) : Int)) → ∃ x8 h3, jE d 43 [jP 93] (wi (wi h 37 4 ((i + 1 : Nat) : Int)) 37 4 ((i + 2 : Nat) : Int)) (some (jI x8)) h3 ∧ Ly p h3 ∧ ∃ i6, TokR T e i6 h3 ∧ (x8 = (0 : Int) → Q (some (jP 0)) h3) ∧ (¬ (x8 = (0 : Int)) → (tkK T i6 = 158 → (Ly p (nw (wi h3 37 4 ((i6 + 1 : Nat) : Int)) 3 7) → TokR T e (i6 + 1) (nw (wi h3 37 4 ((i6 + 1 : Nat) : Int)) 3 7) → ∃ x15 h10, jE d 44 [jP 93, jI (ji h 93 6)] (nw (wi h3 37 4 ((i6 + 1 : Nat) : Int)) 3 7) (some (jI x15)) h10 ∧ Ly p h10 ∧ ∃ i13, TokR T e i13 h10 ∧ ∃ x21 h16, jE d 44 [jP 93, jI (w32 ((ji h 93 6) + 1))] h10 (some (jI x21)) h16 ∧ Ly p h16 ∧ ∃ i19, TokR T e i19 h16 ∧ ∃ h22, jE d 11 [jP (jx (wi h3 37 4 ((i6 + 1 : Nat) : Int))), jI 4, jI (ji h 93 6), jI x15, jI x21] h16 none h22 ∧ Ly p h22 ∧ ∃ i25, TokR T e i25 h22 ∧ jt h22 (jx (wi h3 37 4 ((i6 + 1 : Nat) : Int))) = 3 ∧ ∃ x32 h27, jE d 53 [jP (pT p + 5), jI (ji h22 (jx (wi h3 37 4 ((i6 + 1 : Nat) : Int))) 2)] h22 (some (jI x32)) h27 ∧ Ly p h27 ∧ ∃ i30, TokR T e i30 h27 ∧ jt h27 (jx (wi h3 37 4 ((i6 + 1 : Nat) : Int))) = 3 ∧ ∃ x38 h33, jE d 53 [jP (pT p + 5), jI (ji h27 (jx (wi h3 37 4 ((i6 + 1 : Nat) : Int))) 3)] h27 (some (jI x38)) h33 ∧ Ly p h33 ∧ ∃ i36, TokR T e i36 h33 ∧ (Ly p (wl (wl h33 93 7 (w64 ((jl h22 93 7) * (w32 (x32 * x38))))) 93 7 (if 1000000000 < (w64 ((jl h22 93 7) * (w32 (x32 * x38)))) then 1000000000 else (w64 ((jl h22 93 7) * (w32 (x32 * x38)))))) → TokR T e i36 (wl (wl h33 93 7 (w64 ((jl h22 93 7) * (w32 (x32 * x38))))) 93 7 (if 1000000000 < (w64 ((jl h22 93 7) * (w32 (x32 * x38)))) then 1000000000 else (w64 ((jl h22 93 7) * (w32 (x32 * x38)))))) → ∃ p44 h39, jE d 46 [jP 93, jI (w32 (v1 + 1))] (wl (wl h33 93 7 (w64 ((jl h22 93 7) * (w32 (x32 * x38))))) 93 7 (if 1000000000 < (w64 ((jl h22 93 7) * (w32 (x32 * x38)))) then 1000000000 else (w64 ((jl h22 93 7) * (w32 (x32 * x38)))))) (some (jP p44)) h39 ∧ Ly p h39 ∧ ∃ i42, TokR T e i42 h39 ∧ jt h39 (jx (wi h3 37 4 ((i6 + 1 : Nat) : Int))) = 3 ∧ NF ≤ (jx (wi h3 37 4 ((i6 + 1 : Nat) : Int))) ∧ jt (wr h39 (jx (wi h3 37 4 ((i6 + 1 : Nat) : Int))) 4 p44) (jx (wi h3 37 4 ((i6 + 1 : Nat) : Int))) = 3 ∧ ¬ (jr (wr h39 (jx (wi h3 37 4 ((i6 + 1 : Nat) : Int))) 4 p44) (jx (wi h3 37 4 ((i6 + 1 : Nat) : Int))) 4) = 1 ∧ ((jr (wr h39 (jx (wi h3 37 4 ((i6 + 1 : Nat) : Int))) 4 p44) (jx (wi h3 37 4 ((i6 + 1 : Nat) : Int))) 4) = 0 → (Ly p (wr h39 (jx (wi h3 37 4 ((i6 + 1 : Nat) : Int))) 4 p44) → TokR T e i42 (wr h39 (jx (wi h3 37 4 ((i6 + 1 : Nat) : Int))) 4 p44) → Q (some (jP 0)) (wr h39 (jx (wi h3 37 4 ((i6 + 1 : Nat) : Int))) 4 p44))) ∧ (¬ (jr (wr h39 (jx (wi h3 37 4 ((i6 + 1 : Nat) : Int))) 4 p44) (jx (wi h3 37 4 ((i6 + 1 : Nat) : Int))) 4) = 0 → (tkK T i42 = 141 → jt (wi (wr h39 (jx (wi h3 37 4 ((i6 + 1 : Nat) : Int))) 4 p44) 37 4 ((i42 + 1 : Nat) : Int)) (jx (wi h3 37 4 ((i6 + 1 : Nat) : Int))) = 3 ∧ (Ly p (wi (wr h39 (jx (wi h3 37 4 ((i6 + 1 : Nat) : Int))) 4 p44) 37 4 ((i42 + 1 : Nat) : Int)) → TokR T e (i42 + 1) (wi (wr h39 (jx (wi h3 37 4 ((i6 + 1 : Nat) : Int))) 4 p44) 37 4 ((i42 + 1 : Nat) : Int)) → WF d 50 209 [jP 93, jI v1, jI (ji h 93 6), jL (jl h 93 7), jU, jI 1, jP (jx (wi h3 37 4 ((i6 + 1 : Nat) : Int))), jP (jr (wi (wr h39 (jx (wi h3 37 4 ((i6 + 1 : Nat) : Int))) 4 p44) 37 4 ((i42 + 1 : Nat) : Int)) (jx (wi h3 37 4 ((i6 + 1 : Nat) : Int))) 4)] [] (wi (wr h39 (jx (wi h3 37 4 ((i6 + 1 : Nat) : Int))) 4 p44) 37 4 ((i42 + 1 : Nat) : Int)) Q)) ∧ (¬ tkK T i42 = 141 → (Ly p (wi (wr h39 (jx (wi h3 37 4 ((i6 + 1 : Nat) : Int))) 4 p44) 37 5 (-10 - (tkP T i42 : Int))) → TokR T e i42 (wi (wr h39 (jx (wi h3 37 4 ((i6 + 1 : Nat) : Int))) 4 p44) 37 5 (-10 - (tkP T i42 : Int))) → Q (some (jP 0)) (wi (wr h39 (jx (wi h3 37 4 ((i6 + 1 : Nat) : Int))) 4 p44) 37 5 (-10 - (tkP T i42 : Int))))))))) ∧ (¬ tkK T i6 = 158 → (Ly p (wi h3 37 5 (-10 - (tkP T i6 : Int))) → TokR T e i6 (wi h3 37 5 (-10 - (tkP T i6 : Int))) → Q (some (jP 0)) (wi h3 37 5 (-10 - (tkP T i6 : Int)))))))) ∧ (¬ tkK T (i + 1) = 140 → (Ly p (wi (wi h 37 4 ((i + 1 : Nat) : Int)) 37 5 (-10 - (tkP T (i + 1) : Int))) → TokR T e (i + 1) (wi (wi h 37 4 ((i + 1 : Nat) : Int)) 37 5 (-10 - (tkP T (i + 1) : Int))) → Q (some (jP 0)) (wi (wi h 37 4 ((i + 1 : Nat) : Int)) 37 5 (-10 - (tkP T (i + 1) : Int)))))) ∧ (¬ tkK T i = 17 → ¬ (tkK T i = 3 ∨ tkK T i = 4) ∧ (Ly p (nw (wi h 37 4 ((i + 1 : Nat) : Int)) 3 7) → TokR T e (i + 1) (nw (wi h 37 4 ((i + 1 : Nat) : Int)) 3 7) → ∃ x61 h56, jE d 44 [jP 93, jI (ji h 93 6)] (nw (wi h 37 4 ((i + 1 : Nat) : Int)) 3 7) (some (jI x61)) h56 ∧ Ly p h56 ∧ ∃ i59, TokR T e i59 h56 ∧ ∃ x67 h62, jE d 44 [jP 93, jI (w32 ((ji h 93 6) + 1))] h56 (some (jI x67)) h62 ∧ Ly p h62 ∧ ∃ i65, TokR T e i65 h62 ∧ ∃ h68, jE d 11 [jP (jx (wi h 37 4 ((i + 1 : Nat) : Int))), jI 4, jI (ji h 93 6), jI x61, jI x67] h62 none h68 ∧ Ly p h68 ∧ ∃ i71, TokR T e i71 h68 ∧ jt h68 (jx (wi h 37 4 ((i + 1 : Nat) : Int))) = 3 ∧ ∃ x78 h73, jE d 53 [jP (pT p + 5), jI (ji h68 (jx (wi h 37 4 ((i + 1 : Nat) : Int))) 2)] h68 (some (jI x78)) h73 ∧ Ly p h73 ∧ ∃ i76, TokR T e i76 h73 ∧ jt h73 (jx (wi h 37 4 ((i + 1 : Nat) : Int))) = 3 ∧ ∃ x84 h79, jE d 53 [jP (pT p + 5), jI (ji h73 (jx (wi h 37 4 ((i + 1 : Nat) : Int))) 3)] h73 (some (jI x84)) h79 ∧ Ly p h79 ∧ ∃ i82, TokR T e i82 h79 ∧ (Ly p (wl (wl h79 93 7 (w64 ((jl h68 93 7) * (w32 (x78 * x84))))) 93 7 (if 1000000000 < (w64 ((jl h68 93 7) * (w32 (x78 * x84)))) then 1000000000 else (w64 ((jl h68 93 7) * (w32 (x78 * x84)))))) → TokR T e i82 (wl (wl h79 93 7 (w64 ((jl h68 93 7) * (w32 (x78 * x84))))) 93 7 (if 1000000000 < (w64 ((jl h68 93 7) * (w32 (x78 * x84)))) then 1000000000 else (w64 ((jl h68 93 7) * (w32 (x78 * x84)))))) → ∃ p90 h85, jE d 46 [jP 93, jI (w32 (v1 + 1))] (wl (wl h79 93 7 (w64 ((jl h68 93 7) * (w32 (x78 * x84))))) 93 7 (if 1000000000 < (w64 ((jl h68 93 7) * (w32 (x78 * x84)))) then 1000000000 else (w64 ((jl h68 93 7) * (w32 (x78 * x84)))))) (some (jP p90)) h85 ∧ Ly p h85 ∧ ∃ i88, TokR T e i88 h85 ∧ jt h85 (jx (wi h 37 4 ((i + 1 : Nat) : Int))) = 3 ∧ NF ≤ (jx (wi h 37 4 ((i + 1 : Nat) : Int))) ∧ jt (wr h85 (jx (wi h 37 4 ((i + 1 : Nat) : Int))) 4 p90) (jx (wi h 37 4 ((i + 1 : Nat) : Int))) = 3 ∧ ¬ (jr (wr h85 (jx (wi h 37 4 ((i + 1 : Nat) : Int))) 4 p90) (jx (wi h 37 4 ((i + 1 : Nat) : Int))) 4) = 1 ∧ ((jr (wr h85 (jx (wi h 37 4 ((i + 1 : Nat) : Int))) 4 p90) (jx (wi h 37 4 ((i + 1 : Nat) : Int))) 4) = 0 → (Ly p (wr h85 (jx (wi h 37 4 ((i + 1 : Nat) : Int))) 4 p90) → TokR T e i88 (wr h85 (jx (wi h 37 4 ((i + 1 : Nat) : Int))) 4 p90) → Q (some (jP 0)) (wr h85 (jx (wi h 37 4 ((i + 1 : Nat) : Int))) 4 p90))) ∧ (¬ (jr (wr h85 (jx (wi h 37 4 ((i + 1 : Nat) : Int))) 4 p90) (jx (wi h 37 4 ((i + 1 : Nat) : Int))) 4) = 0 → (tkK T i88 = 141 → jt (wi (wr h85 (jx (wi h 37 4 ((i + 1 : Nat) : Int))) 4 p90) 37 4 ((i88 + 1 : Nat) : Int)) (jx (wi h 37 4 ((i + 1 : Nat) : Int))) = 3 ∧ (Ly p (wi (wr h85 (jx (wi h 37 4 ((i + 1 : Nat) : Int))) 4 p90) 37 4 ((i88 + 1 : Nat) : Int)) → TokR T e (i88 + 1) (wi (wr h85 (jx (wi h 37 4 ((i + 1 : Nat) : Int))) 4 p90) 37 4 ((i88 + 1 : Nat) : Int)) → WF d 50 209 [jP 93, jI v1, jI (ji h 93 6), jL (jl h 93 7), jU, jI 0, jP (jx (wi h 37 4 ((i + 1 : Nat) : Int))), jP (jr (wi (wr h85 (jx (wi h 37 4 ((i + 1 : Nat) : Int))) 4 p90) 37 4 ((i88 + 1 : Nat) : Int)) (jx (wi h 37 4 ((i + 1 : Nat) : Int))) 4)] [] (wi (wr h85 (jx (wi h 37 4 ((i + 1 : Nat) : Int))) 4 p90) 37 4 ((i88 + 1 : Nat) : Int)) Q)) ∧ (¬ tkK T i88 = 141 → (Ly p (wi (wr h85 (jx (wi h 37 4 ((i + 1 : Nat) : Int))) 4 p90) 37 5 (-10 - (tkP T i88 : Int))) → TokR T e i88 (wi (wr h85 (jx (wi h 37 4 ((i + 1 : Nat) : Int))) 4 p90) 37 5 (-10 - (tkP T i88 : Int))) → Q (some (jP 0)) (wi (wr h85 (jx (wi h 37 4 ((i + 1 : Nat) : Int))) 4 p90) 37 5 (-10 - (tkP T i88 : Int)))))))))) ∧ (¬ (v1 < 8) → (Ly p (wi h 37 5 (-10 - (tkP T i : Int))) → TokR T e i (wi h 37 5 (-10 - (tkP T i : Int))) → Q (some (jP 0)) (wi h 37 5 (-10 - (tkP T i : Int)))))) : WF d 50 0 [jP 93, jI v1, jU, jU, jU, jU, jU, jU] [] h Q := by
  refine b_50_0 ?_
  refine ⟨fun c100 => ?_, fun c100 => ?_⟩
  · have H := H.1 c100
    refine ⟨(Ly.t93 L :), ?_⟩
    refine b_50_21 ?_
    refine ⟨(Ly.t93 L :), ?_⟩
    refine b_50_26 ?_
    refine ⟨(Ly.t93 L :), ?_⟩
    rw [show jr h 93 0 = 37 from (Ly.r93_0 L :)]
    refine ⟨(Ly.t37 L :), ?_⟩
    refine ⟨_, _, t_70 (d := d) (by omega) L K, ?_⟩
    rw [show (ck (tkK T i) = 7566701) = (tkK T i = 17) from TokR.ckE K 17 rfl]
    refine ⟨fun c1 => ?_, fun c1 => ?_⟩
    · have H := H.2 c1
      refine b_50_45 ?_
      refine ⟨(Ly.t93 L :), ?_⟩
      rw [show jr h 93 0 = 37 from (Ly.r93_0 L :)]
      refine ⟨(Ly.t37 L :), ?_⟩
      obtain ⟨z55, H⟩ := H
      refine ⟨_, t_74 (d := d) (by omega) L K z55, ?_⟩
      refine b_50_52 ?_
      refine ⟨fun _ => ?_, fun c => absurd (by decide) c⟩
      refine ⟨(Ly.t93 (Ly.nw (Ly.wi L (a := 37) (k := 4) (x := ((i + 1 : Nat) : Int)) (by decide)) (t := 3) (n := 7)) :), ?_⟩
      have H := H (Ly.nw (Ly.wi L (a := 37) (k := 4) (x := ((i + 1 : Nat) : Int)) (by decide)) (t := 3) (n := 7)) (TokR.snw (TokR.adv K z55) (Ly.wi L (a := 37) (k := 4) (x := ((i + 1 : Nat) : Int)) (by decide)) (t := 3) (n := 7))
      obtain ⟨x61, h56, e58, L57, i59, K60, H⟩ := H
      refine ⟨x61, h56, e58, ?_⟩
      refine ⟨(Ly.t93 L57 :), ?_⟩
      obtain ⟨x67, h62, e64, L63, i65, K66, H⟩ := H
      refine ⟨x67, h62, e64, ?_⟩
      refine ⟨Nat.le_trans (by decide) (Ly.nx (Ly.wi L (a := 37) (k := 4) (x := ((i + 1 : Nat) : Int)) (by decide))), ?_⟩
      obtain ⟨h68, e70, L69, i71, K72, H⟩ := H
      refine ⟨h68, e70, ?_⟩
      refine b_50_113 ?_
      refine ⟨(Ly.t93 L69 :), ?_⟩
      refine ⟨(Ly.t93 L69 :), ?_⟩
      rw [show jr h68 93 1 = pT p from (Ly.r93_1 L69 :)]
      refine ⟨(Ly.dt0 L69 (Ly.iT L69) :), ?_⟩
      rw [show jr h68 (pT p) 1 = (pT p + 5) from (Ly.dr0_1 L69 (Ly.iT L69) :)]
      obtain ⟨z99, H⟩ := H
      refine ⟨z99, ?_⟩
      refine ⟨(Ly.dt5 L69 (Ly.iT L69) :), ?_⟩
      obtain ⟨x78, h73, e75, L74, i76, K77, H⟩ := H
      refine ⟨x78, h73, e75, ?_⟩
      refine ⟨(Ly.t93 L74 :), ?_⟩
      rw [show jr h73 93 1 = pT p from (Ly.r93_1 L74 :)]
      refine ⟨(Ly.dt0 L74 (Ly.iT L74) :), ?_⟩
      rw [show jr h73 (pT p) 1 = (pT p + 5) from (Ly.dr0_1 L74 (Ly.iT L74) :)]
      obtain ⟨z98, H⟩ := H
      refine ⟨z98, ?_⟩
      refine ⟨(Ly.dt5 L74 (Ly.iT L74) :), ?_⟩
      obtain ⟨x84, h79, e81, L80, i82, K83, H⟩ := H
      refine ⟨x84, h79, e81, ?_⟩
      refine ⟨(Ly.t93 L80 :), ?_⟩
      refine b_50_154 ?_
      refine ⟨(Ly.t93 L80 :), ?_⟩
      refine ⟨(Ly.t93 L80 :), ?_⟩
      refine b_50_168 ?_
      refine ⟨(Ly.t93 L80 :), ?_⟩
      have H := H (Ly.wl (Ly.wl L80 (a := 93) (k := 7) (x := w64 ((jl h68 93 7) * (w32 (x78 * x84))))) (a := 93) (k := 7) (x := if 1000000000 < (jl (wl h79 93 7 (w64 ((jl h68 93 7) * (w32 (x78 * x84))))) 93 7) then 1000000000 else (jl (wl h79 93 7 (w64 ((jl h68 93 7) * (w32 (x78 * x84))))) 93 7))) (TokR.swl (TokR.swl K83 (a := 93) (k := 7) (x := w64 ((jl h68 93 7) * (w32 (x78 * x84))))) (a := 93) (k := 7) (x := if 1000000000 < (jl (wl h79 93 7 (w64 ((jl h68 93 7) * (w32 (x78 * x84))))) 93 7) then 1000000000 else (jl (wl h79 93 7 (w64 ((jl h68 93 7) * (w32 (x78 * x84))))) 93 7)))
      obtain ⟨p90, h85, e87, L86, i88, K89, H⟩ := H
      refine ⟨p90, h85, e87, ?_⟩
      obtain ⟨z97, H⟩ := H
      refine ⟨z97, ?_⟩
      obtain ⟨z91, H⟩ := H
      refine b_50_180 ?_
      obtain ⟨z96, H⟩ := H
      refine ⟨z96, ?_⟩
      obtain ⟨z94, H⟩ := H
      refine ⟨z94, fun c95 => ?_, fun c95 => ?_⟩
      · have H := H.1 c95
        exact H (Ly.wr L86 (a := jx (wi h 37 4 ((i + 1 : Nat) : Int))) (k := 4) (b := p90) (Or.inl z91)) (TokR.swr K89 (a := jx (wi h 37 4 ((i + 1 : Nat) : Int))) (k := 4) (x := p90))
      · have H := H.2 c95
        refine ⟨(Ly.t93 (Ly.wr L86 (a := jx (wi h 37 4 ((i + 1 : Nat) : Int))) (k := 4) (b := p90) (Or.inl z91)) :), ?_⟩
        rw [show jr (wr h85 (jx (wi h 37 4 ((i + 1 : Nat) : Int))) 4 p90) 93 0 = 37 from (Ly.r93_0 (Ly.wr L86 (a := jx (wi h 37 4 ((i + 1 : Nat) : Int))) (k := 4) (b := p90) (Or.inl z91)) :)]
        refine ⟨(Ly.t37 (Ly.wr L86 (a := jx (wi h 37 4 ((i + 1 : Nat) : Int))) (k := 4) (b := p90) (Or.inl z91)) :), ?_⟩
        by_cases c92 : tkK T i88 = 141
        · have H := H.1 c92
          refine ⟨_, _, t_75y (d := d) (by omega) (Ly.wr L86 (a := jx (wi h 37 4 ((i + 1 : Nat) : Int))) (k := 4) (b := p90) (Or.inl z91)) (TokR.swr K89 (a := jx (wi h 37 4 ((i + 1 : Nat) : Int))) (k := 4) (x := p90)) 141 rfl c92 (ns c92 (by decide)), ?_⟩
          refine ⟨fun _ => ?_, fun c => absurd (by decide) c⟩
          obtain ⟨z93, H⟩ := H
          refine ⟨z93, ?_⟩
          exact H (Ly.wi (Ly.wr L86 (a := jx (wi h 37 4 ((i + 1 : Nat) : Int))) (k := 4) (b := p90) (Or.inl z91)) (a := 37) (k := 4) (x := ((i88 + 1 : Nat) : Int)) (by decide)) (TokR.adv (TokR.swr K89 (a := jx (wi h 37 4 ((i + 1 : Nat) : Int))) (k := 4) (x := p90)) (ns c92 (by decide)))
        · have H := H.2 c92
          refine ⟨_, _, t_75n (d := d) (by omega) (Ly.wr L86 (a := jx (wi h 37 4 ((i + 1 : Nat) : Int))) (k := 4) (b := p90) (Or.inl z91)) (TokR.swr K89 (a := jx (wi h 37 4 ((i + 1 : Nat) : Int))) (k := 4) (x := p90)) 141 rfl c92, ?_⟩
          refine ⟨fun c => absurd c (by decide), fun _ => ?_⟩
          exact H (Ly.wi (Ly.wr L86 (a := jx (wi h 37 4 ((i + 1 : Nat) : Int))) (k := 4) (b := p90) (Or.inl z91)) (a := 37) (k := 5) (x := -10 - (tkP T i88 : Int)) (by decide)) (TokR.flt (TokR.swr K89 (a := jx (wi h 37 4 ((i + 1 : Nat) : Int))) (k := 4) (x := p90)))
    · have c1 := Decidable.not_not.mp c1
      have H := H.1 c1
      refine b_50_45 ?_
      refine ⟨(Ly.t93 L :), ?_⟩
      rw [show jr h 93 0 = 37 from (Ly.r93_0 L :)]
      refine ⟨(Ly.t37 L :), ?_⟩
      refine ⟨_, t_74 (d := d) (by omega) L K (ns c1 (by decide)), ?_⟩
      refine b_50_52 ?_
      refine ⟨fun c => absurd c (by decide), fun _ => ?_⟩
      refine ⟨(Ly.t93 L :), ?_⟩
      rw [show jr (wi h 37 4 ((i + 1 : Nat) : Int)) 93 0 = 37 from (Ly.r93_0 L :)]
      refine ⟨(Ly.t37 L :), ?_⟩
      by_cases c2 : tkK T (i + 1) = 140
      · have H := H.1 c2
        refine ⟨_, _, t_75y (d := d) (by omega) (Ly.wi L (a := 37) (k := 4) (x := ((i + 1 : Nat) : Int)) (by decide)) (TokR.adv K (ns c1 (by decide))) 140 rfl c2 (ns c2 (by decide)), ?_⟩
        refine ⟨fun c => absurd c (by decide), fun _ => ?_⟩
        refine ⟨(Ly.t93 L :), ?_⟩
        have H := H (Ly.wi (Ly.wi L (a := 37) (k := 4) (x := ((i + 1 : Nat) : Int)) (by decide)) (a := 37) (k := 4) (x := ((i + 2 : Nat) : Int)) (by decide)) (TokR.adv (TokR.adv K (ns c1 (by decide))) (ns c2 (by decide)))
        obtain ⟨x8, h3, e5, L4, i6, K7, H⟩ := H
        refine ⟨x8, h3, e5, ?_⟩
        refine ⟨fun c54 => ?_, fun c54 => ?_⟩
        · have H := H.1 c54
          exact H
        · have H := H.2 c54
          refine ⟨(Ly.t93 L4 :), ?_⟩
          rw [show jr h3 93 0 = 37 from (Ly.r93_0 L4 :)]
          refine ⟨(Ly.t37 L4 :), ?_⟩
          by_cases c9 : tkK T i6 = 158
          · have H := H.1 c9
            refine ⟨_, _, t_75y (d := d) (by omega) L4 K7 158 rfl c9 (ns c9 (by decide)), ?_⟩
            refine ⟨fun _ => ?_, fun c => absurd (by decide) c⟩
            refine ⟨(Ly.t93 (Ly.nw (Ly.wi L4 (a := 37) (k := 4) (x := ((i6 + 1 : Nat) : Int)) (by decide)) (t := 3) (n := 7)) :), ?_⟩
            have H := H (Ly.nw (Ly.wi L4 (a := 37) (k := 4) (x := ((i6 + 1 : Nat) : Int)) (by decide)) (t := 3) (n := 7)) (TokR.snw (TokR.adv K7 (ns c9 (by decide))) (Ly.wi L4 (a := 37) (k := 4) (x := ((i6 + 1 : Nat) : Int)) (by decide)) (t := 3) (n := 7))
            obtain ⟨x15, h10, e12, L11, i13, K14, H⟩ := H
            refine ⟨x15, h10, e12, ?_⟩
            refine ⟨(Ly.t93 L11 :), ?_⟩
            obtain ⟨x21, h16, e18, L17, i19, K20, H⟩ := H
            refine ⟨x21, h16, e18, ?_⟩
            refine ⟨Nat.le_trans (by decide) (Ly.nx (Ly.wi L4 (a := 37) (k := 4) (x := ((i6 + 1 : Nat) : Int)) (by decide))), ?_⟩
            obtain ⟨h22, e24, L23, i25, K26, H⟩ := H
            refine ⟨h22, e24, ?_⟩
            refine b_50_113 ?_
            refine ⟨(Ly.t93 L23 :), ?_⟩
            refine ⟨(Ly.t93 L23 :), ?_⟩
            rw [show jr h22 93 1 = pT p from (Ly.r93_1 L23 :)]
            refine ⟨(Ly.dt0 L23 (Ly.iT L23) :), ?_⟩
            rw [show jr h22 (pT p) 1 = (pT p + 5) from (Ly.dr0_1 L23 (Ly.iT L23) :)]
            obtain ⟨z53, H⟩ := H
            refine ⟨z53, ?_⟩
            refine ⟨(Ly.dt5 L23 (Ly.iT L23) :), ?_⟩
            obtain ⟨x32, h27, e29, L28, i30, K31, H⟩ := H
            refine ⟨x32, h27, e29, ?_⟩
            refine ⟨(Ly.t93 L28 :), ?_⟩
            rw [show jr h27 93 1 = pT p from (Ly.r93_1 L28 :)]
            refine ⟨(Ly.dt0 L28 (Ly.iT L28) :), ?_⟩
            rw [show jr h27 (pT p) 1 = (pT p + 5) from (Ly.dr0_1 L28 (Ly.iT L28) :)]
            obtain ⟨z52, H⟩ := H
            refine ⟨z52, ?_⟩
            refine ⟨(Ly.dt5 L28 (Ly.iT L28) :), ?_⟩
            obtain ⟨x38, h33, e35, L34, i36, K37, H⟩ := H
            refine ⟨x38, h33, e35, ?_⟩
            refine ⟨(Ly.t93 L34 :), ?_⟩
            refine b_50_154 ?_
            refine ⟨(Ly.t93 L34 :), ?_⟩
            refine ⟨(Ly.t93 L34 :), ?_⟩
            refine b_50_168 ?_
            refine ⟨(Ly.t93 L34 :), ?_⟩
            have H := H (Ly.wl (Ly.wl L34 (a := 93) (k := 7) (x := w64 ((jl h22 93 7) * (w32 (x32 * x38))))) (a := 93) (k := 7) (x := if 1000000000 < (jl (wl h33 93 7 (w64 ((jl h22 93 7) * (w32 (x32 * x38))))) 93 7) then 1000000000 else (jl (wl h33 93 7 (w64 ((jl h22 93 7) * (w32 (x32 * x38))))) 93 7))) (TokR.swl (TokR.swl K37 (a := 93) (k := 7) (x := w64 ((jl h22 93 7) * (w32 (x32 * x38))))) (a := 93) (k := 7) (x := if 1000000000 < (jl (wl h33 93 7 (w64 ((jl h22 93 7) * (w32 (x32 * x38))))) 93 7) then 1000000000 else (jl (wl h33 93 7 (w64 ((jl h22 93 7) * (w32 (x32 * x38))))) 93 7)))
            obtain ⟨p44, h39, e41, L40, i42, K43, H⟩ := H
            refine ⟨p44, h39, e41, ?_⟩
            obtain ⟨z51, H⟩ := H
            refine ⟨z51, ?_⟩
            obtain ⟨z45, H⟩ := H
            refine b_50_180 ?_
            obtain ⟨z50, H⟩ := H
            refine ⟨z50, ?_⟩
            obtain ⟨z48, H⟩ := H
            refine ⟨z48, fun c49 => ?_, fun c49 => ?_⟩
            · have H := H.1 c49
              exact H (Ly.wr L40 (a := jx (wi h3 37 4 ((i6 + 1 : Nat) : Int))) (k := 4) (b := p44) (Or.inl z45)) (TokR.swr K43 (a := jx (wi h3 37 4 ((i6 + 1 : Nat) : Int))) (k := 4) (x := p44))
            · have H := H.2 c49
              refine ⟨(Ly.t93 (Ly.wr L40 (a := jx (wi h3 37 4 ((i6 + 1 : Nat) : Int))) (k := 4) (b := p44) (Or.inl z45)) :), ?_⟩
              rw [show jr (wr h39 (jx (wi h3 37 4 ((i6 + 1 : Nat) : Int))) 4 p44) 93 0 = 37 from (Ly.r93_0 (Ly.wr L40 (a := jx (wi h3 37 4 ((i6 + 1 : Nat) : Int))) (k := 4) (b := p44) (Or.inl z45)) :)]
              refine ⟨(Ly.t37 (Ly.wr L40 (a := jx (wi h3 37 4 ((i6 + 1 : Nat) : Int))) (k := 4) (b := p44) (Or.inl z45)) :), ?_⟩
              by_cases c46 : tkK T i42 = 141
              · have H := H.1 c46
                refine ⟨_, _, t_75y (d := d) (by omega) (Ly.wr L40 (a := jx (wi h3 37 4 ((i6 + 1 : Nat) : Int))) (k := 4) (b := p44) (Or.inl z45)) (TokR.swr K43 (a := jx (wi h3 37 4 ((i6 + 1 : Nat) : Int))) (k := 4) (x := p44)) 141 rfl c46 (ns c46 (by decide)), ?_⟩
                refine ⟨fun _ => ?_, fun c => absurd (by decide) c⟩
                obtain ⟨z47, H⟩ := H
                refine ⟨z47, ?_⟩
                exact H (Ly.wi (Ly.wr L40 (a := jx (wi h3 37 4 ((i6 + 1 : Nat) : Int))) (k := 4) (b := p44) (Or.inl z45)) (a := 37) (k := 4) (x := ((i42 + 1 : Nat) : Int)) (by decide)) (TokR.adv (TokR.swr K43 (a := jx (wi h3 37 4 ((i6 + 1 : Nat) : Int))) (k := 4) (x := p44)) (ns c46 (by decide)))
              · have H := H.2 c46
                refine ⟨_, _, t_75n (d := d) (by omega) (Ly.wr L40 (a := jx (wi h3 37 4 ((i6 + 1 : Nat) : Int))) (k := 4) (b := p44) (Or.inl z45)) (TokR.swr K43 (a := jx (wi h3 37 4 ((i6 + 1 : Nat) : Int))) (k := 4) (x := p44)) 141 rfl c46, ?_⟩
                refine ⟨fun c => absurd c (by decide), fun _ => ?_⟩
                exact H (Ly.wi (Ly.wr L40 (a := jx (wi h3 37 4 ((i6 + 1 : Nat) : Int))) (k := 4) (b := p44) (Or.inl z45)) (a := 37) (k := 5) (x := -10 - (tkP T i42 : Int)) (by decide)) (TokR.flt (TokR.swr K43 (a := jx (wi h3 37 4 ((i6 + 1 : Nat) : Int))) (k := 4) (x := p44)))
          · have H := H.2 c9
            refine ⟨_, _, t_75n (d := d) (by omega) L4 K7 158 rfl c9, ?_⟩
            refine ⟨fun c => absurd c (by decide), fun _ => ?_⟩
            exact H (Ly.wi L4 (a := 37) (k := 5) (x := -10 - (tkP T i6 : Int)) (by decide)) (TokR.flt K7)
      · have H := H.2 c2
        refine ⟨_, _, t_75n (d := d) (by omega) (Ly.wi L (a := 37) (k := 4) (x := ((i + 1 : Nat) : Int)) (by decide)) (TokR.adv K (ns c1 (by decide))) 140 rfl c2, ?_⟩
        refine ⟨fun _ => ?_, fun c => absurd (by decide) c⟩
        exact H (Ly.wi (Ly.wi L (a := 37) (k := 4) (x := ((i + 1 : Nat) : Int)) (by decide)) (a := 37) (k := 5) (x := -10 - (tkP T (i + 1) : Int)) (by decide)) (TokR.flt (TokR.adv K (ns c1 (by decide))))
  · have H := H.2 c100
    refine ⟨(Ly.t93 L :), ?_⟩
    rw [show jr h 93 0 = 37 from (Ly.r93_0 L :)]
    refine ⟨(Ly.t37 L :), ?_⟩
    refine ⟨_, _, t_76 (d := d) (by omega) L K, ?_⟩
    refine b_50_14 ?_
    exact H (Ly.wi L (a := 37) (k := 5) (x := -10 - (tkP T i : Int)) (by decide)) (TokR.flt K)
set_option maxRecDepth 100000 in
theorem c_50_209 {p : Lpar} {d : Nat} {h : AH} {Q : Option AV → AH → Prop} {v1 : Int} {v2 : Int} {v3 : Int} {v5 : Int} {a6 : Nat} {a7 : Nat} (hd : 9 ≤ d) (L : Ly p h) {T : Txt} {e i : Nat} (K : TokR T e i h) (H : ¬ a7 = 1 ∧ (a7 = 0 → (Ly p (wl h 93 7 v3) → TokR T e i (wl h 93 7 v3) → ∃ h1, jE d 45 [jP 93, jI v2] (wl h 93 7 v3) none h1 ∧ Ly p h1 ∧ ∃ i4, TokR T e i4 h1 ∧ Q (some (jP a6)) h1)) ∧ (¬ a7 = 0 → jt h a6 = 3 ∧ ((ji h a6 5) = (0 : Int) → jt h a7 = 6 ∧ ¬ (jr h a7 2) = 1 ∧ ((jr h a7 2) = 0 → jt h a6 = 3 ∧ NF ≤ a6 ∧ jt (wi h a6 5 0) a7 = 6 ∧ (Ly p (wi h a6 5 0) → TokR T e i (wi h a6 5 0) → WF d 50 209 [jP 93, jI v1, jI v2, jL v3, jU, jI v5, jP a6, jP (jr (wi h a6 5 0) a7 3)] [] (wi h a6 5 0) Q)) ∧ (¬ (jr h a7 2) = 0 → jt h a6 = 3 ∧ NF ≤ a6 ∧ jt (wi h a6 5 1) a7 = 6 ∧ (Ly p (wi h a6 5 1) → TokR T e i (wi h a6 5 1) → WF d 50 209 [jP 93, jI v1, jI v2, jL v3, jU, jI v5, jP a6, jP (jr (wi h a6 5 1) a7 3)] [] (wi h a6 5 1) Q))) ∧ (¬ (ji h a6 5) = (0 : Int) → jt h a6 = 3 ∧ NF ≤ a6 ∧ jt (wi h a6 5 1) a7 = 6 ∧ (Ly p (wi h a6 5 1) → TokR T e i (wi h a6 5 1) → WF d 50 209 [jP 93, jI v1, jI v2, jL v3, jU, jI v5, jP a6, jP (jr (wi h a6 5 1) a7 3)] [] (wi h a6 5 1) Q)))) : WF d 50 209 [jP 93, jI v1, jI v2, jL v3, jU, jI v5, jP a6, jP a7] [] h Q := by
  refine b_50_209 ?_
  obtain ⟨z20, H⟩ := H
  refine ⟨z20, fun c21 => ?_, fun c21 => ?_⟩
  · have H := H.1 c21
    refine ⟨(Ly.t93 L :), ?_⟩
    refine b_50_255 ?_
    refine ⟨(Ly.t93 L :), ?_⟩
    have H := H (Ly.wl L (a := 93) (k := 7) (x := v3)) (TokR.swl K (a := 93) (k := 7) (x := v3))
    obtain ⟨h1, e3, L2, i4, K5, H⟩ := H
    refine ⟨h1, e3, ?_⟩
    refine b_50_260 ?_
    exact H
  · have H := H.2 c21
    obtain ⟨z19, H⟩ := H
    refine ⟨z19, ?_⟩
    refine ⟨fun c18 => ?_, fun c18 => ?_⟩
    · have H := H.2 c18
      refine ⟨Or.inr rfl, ?_⟩
      obtain ⟨z8, H⟩ := H
      refine ⟨z8, ?_⟩
      obtain ⟨z6, H⟩ := H
      refine b_50_240 ?_
      obtain ⟨z7, H⟩ := H
      refine ⟨z7, ?_⟩
      refine b_50_247 ?_
      exact H (Ly.wi L (a := a6) (k := 5) (x := 1) (Nat.le_trans (by decide) z6)) (TokR.swi K (a := a6) (k := 5) (x := 1) (Or.inr (Nat.lt_of_lt_of_le (by decide) z6)))
    · have c18 := Decidable.not_not.mp c18
      have H := H.1 c18
      obtain ⟨z17, H⟩ := H
      refine ⟨z17, ?_⟩
      obtain ⟨z15, H⟩ := H
      refine ⟨z15, fun c16 => ?_, fun c16 => ?_⟩
      · have H := H.1 c16
        refine ⟨Or.inl rfl, ?_⟩
        obtain ⟨z11, H⟩ := H
        refine ⟨z11, ?_⟩
        obtain ⟨z9, H⟩ := H
        refine b_50_240 ?_
        obtain ⟨z10, H⟩ := H
        refine ⟨z10, ?_⟩
        refine b_50_247 ?_
        exact H (Ly.wi L (a := a6) (k := 5) (x := 0) (Nat.le_trans (by decide) z9)) (TokR.swi K (a := a6) (k := 5) (x := 0) (Or.inr (Nat.lt_of_lt_of_le (by decide) z9)))
      · have H := H.2 c16
        refine ⟨Or.inr rfl, ?_⟩
        obtain ⟨z14, H⟩ := H
        refine ⟨z14, ?_⟩
        obtain ⟨z12, H⟩ := H
        refine b_50_240 ?_
        obtain ⟨z13, H⟩ := H
        refine ⟨z13, ?_⟩
        refine b_50_247 ?_
        exact H (Ly.wi L (a := a6) (k := 5) (x := 1) (Nat.le_trans (by decide) z12)) (TokR.swi K (a := a6) (k := 5) (x := 1) (Or.inr (Nat.lt_of_lt_of_le (by decide) z12)))
set_option maxRecDepth 100000 in
theorem c_39_0 {p : Lpar} {d : Nat} {h : AH} {Q : Option AV → AH → Prop}  (hd : 9 ≤ d) (L : Ly p h) {T : Txt} {e i : Nat} (K : TokR T e i h) (H : ((ji h (pT p) 12) = (0 : Int) → ¬ (tkK T i = 3 ∨ tkK T i = 4) ∧ (tkK T (i + 1) = 15 → (Ly p (wl (wi (wi (wi h 37 4 ((i + 1 : Nat) : Int)) (pT p) 12 1) 37 4 ((i + 2 : Nat) : Int)) 93 7 1) → TokR T e (i + 2) (wl (wi (wi (wi h 37 4 ((i + 1 : Nat) : Int)) (pT p) 12 1) 37 4 ((i + 2 : Nat) : Int)) 93 7 1) → ∃ p9 h4, jE d 46 [jP 93, jI 0] (wl (wi (wi (wi h 37 4 ((i + 1 : Nat) : Int)) (pT p) 12 1) 37 4 ((i + 2 : Nat) : Int)) 93 7 1) (some (jP p9)) h4 ∧ Ly p h4 ∧ ∃ i7, TokR T e i7 h4 ∧ ¬ (jr (wr h4 (pT p) 13 p9) (pT p) 13) = 1 ∧ ((jr (wr h4 (pT p) 13 p9) (pT p) 13) = 0 → (Ly p (wr h4 (pT p) 13 p9) → TokR T e i7 (wr h4 (pT p) 13 p9) → Q (some (jI 0)) (wr h4 (pT p) 13 p9))) ∧ (¬ (jr (wr h4 (pT p) 13 p9) (pT p) 13) = 0 → (tkK T i7 = 159 → (Ly p (wi (wr h4 (pT p) 13 p9) 37 4 ((i7 + 1 : Nat) : Int)) → TokR T e (i7 + 1) (wi (wr h4 (pT p) 13 p9) 37 4 ((i7 + 1 : Nat) : Int)) → Q (some (jI 1)) (wi (wr h4 (pT p) 13 p9) 37 4 ((i7 + 1 : Nat) : Int)))) ∧ (¬ tkK T i7 = 159 → (Ly p (wi (wr h4 (pT p) 13 p9) 37 5 (-10 - (tkP T i7 : Int))) → TokR T e i7 (wi (wr h4 (pT p) 13 p9) 37 5 (-10 - (tkP T i7 : Int))) → Q (some (jI 0)) (wi (wr h4 (pT p) 13 p9) 37 5 (-10 - (tkP T i7 : Int)))))))) ∧ (¬ tkK T (i + 1) = 15 → (tkK T (i + 1) = 16 → (Ly p (wl (wi (wi (wi h 37 4 ((i + 1 : Nat) : Int)) (pT p) 12 2) 37 4 ((i + 2 : Nat) : Int)) 93 7 1) → TokR T e (i + 2) (wl (wi (wi (wi h 37 4 ((i + 1 : Nat) : Int)) (pT p) 12 2) 37 4 ((i + 2 : Nat) : Int)) 93 7 1) → ∃ p20 h15, jE d 46 [jP 93, jI 0] (wl (wi (wi (wi h 37 4 ((i + 1 : Nat) : Int)) (pT p) 12 2) 37 4 ((i + 2 : Nat) : Int)) 93 7 1) (some (jP p20)) h15 ∧ Ly p h15 ∧ ∃ i18, TokR T e i18 h15 ∧ ¬ (jr (wr h15 (pT p) 13 p20) (pT p) 13) = 1 ∧ ((jr (wr h15 (pT p) 13 p20) (pT p) 13) = 0 → (Ly p (wr h15 (pT p) 13 p20) → TokR T e i18 (wr h15 (pT p) 13 p20) → Q (some (jI 0)) (wr h15 (pT p) 13 p20))) ∧ (¬ (jr (wr h15 (pT p) 13 p20) (pT p) 13) = 0 → (tkK T i18 = 159 → (Ly p (wi (wr h15 (pT p) 13 p20) 37 4 ((i18 + 1 : Nat) : Int)) → TokR T e (i18 + 1) (wi (wr h15 (pT p) 13 p20) 37 4 ((i18 + 1 : Nat) : Int)) → Q (some (jI 1)) (wi (wr h15 (pT p) 13 p20) 37 4 ((i18 + 1 : Nat) : Int)))) ∧ (¬ tkK T i18 = 159 → (Ly p (wi (wr h15 (pT p) 13 p20) 37 5 (-10 - (tkP T i18 : Int))) → TokR T e i18 (wi (wr h15 (pT p) 13 p20) 37 5 (-10 - (tkP T i18 : Int))) → Q (some (jI 0)) (wi (wr h15 (pT p) 13 p20) 37 5 (-10 - (tkP T i18 : Int)))))))) ∧ (¬ tkK T (i + 1) = 16 → (Ly p (wi (wi h 37 4 ((i + 1 : Nat) : Int)) 37 5 (-10 - (tkP T (i + 1) : Int))) → TokR T e (i + 1) (wi (wi h 37 4 ((i + 1 : Nat) : Int)) 37 5 (-10 - (tkP T (i + 1) : Int))) → Q (some (jI 0)) (wi (wi h 37 4 ((i + 1 : Nat) : Int)) 37 5 (-10 - (tkP T (i + 1) : Int))))))) ∧ (¬ ((ji h (pT p) 12) = (0 : Int)) → (Ly p (wi h 37 5 (-10 - (tkP T i : Int))) → TokR T e i (wi h 37 5 (-10 - (tkP T i : Int))) → Q (some (jI 0)) (wi h 37 5 (-10 - (tkP T i : Int)))))) : WF d 39 0 [jP 93] [] h Q := by
  refine b_39_0 ?_
  refine ⟨(Ly.t93 L :), ?_⟩
  rw [show jr h 93 1 = pT p from (Ly.r93_1 L :)]
  refine ⟨(Ly.dt0 L (Ly.iT L) :), ?_⟩
  refine ⟨fun c24 => ?_, fun c24 => ?_⟩
  · have H := H.1 c24
    refine ⟨(Ly.t93 L :), ?_⟩
    rw [show jr h 93 0 = 37 from (Ly.r93_0 L :)]
    refine ⟨(Ly.t37 L :), ?_⟩
    obtain ⟨z1, H⟩ := H
    refine ⟨_, t_74 (d := d) (by omega) L K z1, ?_⟩
    refine b_39_25 ?_
    refine ⟨(Ly.t93 L :), ?_⟩
    rw [show jr (wi h 37 4 ((i + 1 : Nat) : Int)) 93 0 = 37 from (Ly.r93_0 L :)]
    refine ⟨(Ly.t37 L :), ?_⟩
    refine ⟨_, _, t_70 (d := d) (by omega) (Ly.wi L (a := 37) (k := 4) (x := ((i + 1 : Nat) : Int)) (by decide)) (TokR.adv K z1), ?_⟩
    rw [show (ck (tkK T (i + 1)) = 7170414) = (tkK T (i + 1) = 15) from TokR.ckE (TokR.adv K z1) 15 rfl]
    refine ⟨fun c2 => ?_, fun c2 => ?_⟩
    · have H := H.1 c2
      refine ⟨(Ly.t93 L :), ?_⟩
      rw [show jr (wi h 37 4 ((i + 1 : Nat) : Int)) 93 1 = pT p from (Ly.r93_1 L :)]
      refine ⟨(Ly.t93 L :), ?_⟩
      rw [show jr (wi h 37 4 ((i + 1 : Nat) : Int)) 93 0 = 37 from (Ly.r93_0 L :)]
      refine ⟨(Ly.t37 L :), ?_⟩
      refine ⟨_, _, t_70 (d := d) (by omega) (Ly.wi L (a := 37) (k := 4) (x := ((i + 1 : Nat) : Int)) (by decide)) (TokR.adv K z1), ?_⟩
      rw [show (ck (tkK T (i + 1)) = 7170414) = (tkK T (i + 1) = 15) from TokR.ckE (TokR.adv K z1) 15 rfl]
      refine ⟨fun c => absurd c2 c, fun _ => ?_⟩
      refine ⟨(Ly.dt0 L (Ly.iT L) :), ?_⟩
      refine b_39_81 ?_
      refine ⟨(Ly.t93 L :), ?_⟩
      rw [show jr (wi (wi h 37 4 ((i + 1 : Nat) : Int)) (pT p) 12 1) 93 0 = 37 from (Ly.r93_0 L :)]
      refine ⟨(Ly.t37 L :), ?_⟩
      refine ⟨_, t_74 (d := d) (by omega) (Ly.wi (Ly.wi L (a := 37) (k := 4) (x := ((i + 1 : Nat) : Int)) (by decide)) (a := pT p) (k := 12) (x := 1) (by have := (Ly.iT L); unfold isD at this; omega)) (TokR.swi (TokR.adv K z1) (a := pT p) (k := 12) (x := 1) (by have := (Ly.iT L); unfold isD at this; omega)) (ns c2 (by decide)), ?_⟩
      refine b_39_88 ?_
      refine ⟨(Ly.t93 L :), ?_⟩
      refine b_39_93 ?_
      refine ⟨(Ly.t93 L :), ?_⟩
      rw [show jr (wl (wi (wi (wi h 37 4 ((i + 1 : Nat) : Int)) (pT p) 12 1) 37 4 ((i + 2 : Nat) : Int)) 93 7 1) 93 1 = pT p from (Ly.r93_1 L :)]
      refine ⟨(Ly.t93 L :), ?_⟩
      have H := H (Ly.wl (Ly.wi (Ly.wi (Ly.wi L (a := 37) (k := 4) (x := ((i + 1 : Nat) : Int)) (by decide)) (a := pT p) (k := 12) (x := 1) (by have := (Ly.iT L); unfold isD at this; omega)) (a := 37) (k := 4) (x := ((i + 2 : Nat) : Int)) (by decide)) (a := 93) (k := 7) (x := 1)) (TokR.swl (TokR.adv (TokR.swi (TokR.adv K z1) (a := pT p) (k := 12) (x := 1) (by have := (Ly.iT L); unfold isD at this; omega)) (ns c2 (by decide))) (a := 93) (k := 7) (x := 1))
      obtain ⟨p9, h4, e6, L5, i7, K8, H⟩ := H
      refine ⟨p9, h4, e6, ?_⟩
      refine ⟨(Ly.dt0 L5 (Ly.iT L5) :), ?_⟩
      refine b_39_105 ?_
      refine ⟨(Ly.t93 (Ly.wr L5 (a := pT p) (k := 13) (b := p9) (by have := (Ly.iT L5); unfold isD at this; unfold mutR; omega)) :), ?_⟩
      rw [show jr (wr h4 (pT p) 13 p9) 93 1 = pT p from (Ly.r93_1 (Ly.wr L5 (a := pT p) (k := 13) (b := p9) (by have := (Ly.iT L5); unfold isD at this; unfold mutR; omega)) :)]
      refine ⟨(Ly.dt0 (Ly.wr L5 (a := pT p) (k := 13) (b := p9) (by have := (Ly.iT L5); unfold isD at this; unfold mutR; omega)) (Ly.iT (Ly.wr L5 (a := pT p) (k := 13) (b := p9) (by have := (Ly.iT L5); unfold isD at this; unfold mutR; omega))) :), ?_⟩
      obtain ⟨z11, H⟩ := H
      refine ⟨z11, fun c12 => ?_, fun c12 => ?_⟩
      · have H := H.1 c12
        refine ⟨Or.inl rfl, ?_⟩
        exact H (Ly.wr L5 (a := pT p) (k := 13) (b := p9) (by have := (Ly.iT L5); unfold isD at this; unfold mutR; omega)) (TokR.swr K8 (a := pT p) (k := 13) (x := p9))
      · have H := H.2 c12
        refine ⟨(Ly.t93 (Ly.wr L5 (a := pT p) (k := 13) (b := p9) (by have := (Ly.iT L5); unfold isD at this; unfold mutR; omega)) :), ?_⟩
        rw [show jr (wr h4 (pT p) 13 p9) 93 0 = 37 from (Ly.r93_0 (Ly.wr L5 (a := pT p) (k := 13) (b := p9) (by have := (Ly.iT L5); unfold isD at this; unfold mutR; omega)) :)]
        refine ⟨(Ly.t37 (Ly.wr L5 (a := pT p) (k := 13) (b := p9) (by have := (Ly.iT L5); unfold isD at this; unfold mutR; omega)) :), ?_⟩
        by_cases c10 : tkK T i7 = 159
        · have H := H.1 c10
          refine ⟨_, _, t_75y (d := d) (by omega) (Ly.wr L5 (a := pT p) (k := 13) (b := p9) (by have := (Ly.iT L5); unfold isD at this; unfold mutR; omega)) (TokR.swr K8 (a := pT p) (k := 13) (x := p9)) 159 rfl c10 (ns c10 (by decide)), ?_⟩
          refine ⟨fun c => absurd c (by decide), fun _ => ?_⟩
          refine ⟨Or.inr rfl, ?_⟩
          exact H (Ly.wi (Ly.wr L5 (a := pT p) (k := 13) (b := p9) (by have := (Ly.iT L5); unfold isD at this; unfold mutR; omega)) (a := 37) (k := 4) (x := ((i7 + 1 : Nat) : Int)) (by decide)) (TokR.adv (TokR.swr K8 (a := pT p) (k := 13) (x := p9)) (ns c10 (by decide)))
        · have H := H.2 c10
          refine ⟨_, _, t_75n (d := d) (by omega) (Ly.wr L5 (a := pT p) (k := 13) (b := p9) (by have := (Ly.iT L5); unfold isD at this; unfold mutR; omega)) (TokR.swr K8 (a := pT p) (k := 13) (x := p9)) 159 rfl c10, ?_⟩
          refine ⟨fun _ => ?_, fun c => absurd (by decide) c⟩
          refine ⟨Or.inl rfl, ?_⟩
          exact H (Ly.wi (Ly.wr L5 (a := pT p) (k := 13) (b := p9) (by have := (Ly.iT L5); unfold isD at this; unfold mutR; omega)) (a := 37) (k := 5) (x := -10 - (tkP T i7 : Int)) (by decide)) (TokR.flt (TokR.swr K8 (a := pT p) (k := 13) (x := p9)))
    · have H := H.2 c2
      refine ⟨(Ly.t93 L :), ?_⟩
      rw [show jr (wi h 37 4 ((i + 1 : Nat) : Int)) 93 0 = 37 from (Ly.r93_0 L :)]
      refine ⟨(Ly.t37 L :), ?_⟩
      refine ⟨_, _, t_70 (d := d) (by omega) (Ly.wi L (a := 37) (k := 4) (x := ((i + 1 : Nat) : Int)) (by decide)) (TokR.adv K z1), ?_⟩
      rw [show (ck (tkK T (i + 1)) = 7168376) = (tkK T (i + 1) = 16) from TokR.ckE (TokR.adv K z1) 16 rfl]
      refine ⟨fun c13 => ?_, fun c13 => ?_⟩
      · have H := H.1 c13
        refine ⟨(Ly.t93 L :), ?_⟩
        rw [show jr (wi h 37 4 ((i + 1 : Nat) : Int)) 93 1 = pT p from (Ly.r93_1 L :)]
        refine ⟨(Ly.t93 L :), ?_⟩
        rw [show jr (wi h 37 4 ((i + 1 : Nat) : Int)) 93 0 = 37 from (Ly.r93_0 L :)]
        refine ⟨(Ly.t37 L :), ?_⟩
        refine ⟨_, _, t_70 (d := d) (by omega) (Ly.wi L (a := 37) (k := 4) (x := ((i + 1 : Nat) : Int)) (by decide)) (TokR.adv K z1), ?_⟩
        rw [show (ck (tkK T (i + 1)) = 7170414) = (tkK T (i + 1) = 15) from TokR.ckE (TokR.adv K z1) 15 rfl]
        refine ⟨fun _ => ?_, fun c => absurd (Decidable.not_not.mp c) (show ¬ tkK T (i + 1) = 15 from fun c => absurd (Eq.trans (Eq.symm c13) c) (by decide))⟩
        refine ⟨(Ly.dt0 L (Ly.iT L) :), ?_⟩
        refine b_39_81 ?_
        refine ⟨(Ly.t93 L :), ?_⟩
        rw [show jr (wi (wi h 37 4 ((i + 1 : Nat) : Int)) (pT p) 12 2) 93 0 = 37 from (Ly.r93_0 L :)]
        refine ⟨(Ly.t37 L :), ?_⟩
        refine ⟨_, t_74 (d := d) (by omega) (Ly.wi (Ly.wi L (a := 37) (k := 4) (x := ((i + 1 : Nat) : Int)) (by decide)) (a := pT p) (k := 12) (x := 2) (by have := (Ly.iT L); unfold isD at this; omega)) (TokR.swi (TokR.adv K z1) (a := pT p) (k := 12) (x := 2) (by have := (Ly.iT L); unfold isD at this; omega)) (ns c13 (by decide)), ?_⟩
        refine b_39_88 ?_
        refine ⟨(Ly.t93 L :), ?_⟩
        refine b_39_93 ?_
        refine ⟨(Ly.t93 L :), ?_⟩
        rw [show jr (wl (wi (wi (wi h 37 4 ((i + 1 : Nat) : Int)) (pT p) 12 2) 37 4 ((i + 2 : Nat) : Int)) 93 7 1) 93 1 = pT p from (Ly.r93_1 L :)]
        refine ⟨(Ly.t93 L :), ?_⟩
        have H := H (Ly.wl (Ly.wi (Ly.wi (Ly.wi L (a := 37) (k := 4) (x := ((i + 1 : Nat) : Int)) (by decide)) (a := pT p) (k := 12) (x := 2) (by have := (Ly.iT L); unfold isD at this; omega)) (a := 37) (k := 4) (x := ((i + 2 : Nat) : Int)) (by decide)) (a := 93) (k := 7) (x := 1)) (TokR.swl (TokR.adv (TokR.swi (TokR.adv K z1) (a := pT p) (k := 12) (x := 2) (by have := (Ly.iT L); unfold isD at this; omega)) (ns c13 (by decide))) (a := 93) (k := 7) (x := 1))
        obtain ⟨p20, h15, e17, L16, i18, K19, H⟩ := H
        refine ⟨p20, h15, e17, ?_⟩
        refine ⟨(Ly.dt0 L16 (Ly.iT L16) :), ?_⟩
        refine b_39_105 ?_
        refine ⟨(Ly.t93 (Ly.wr L16 (a := pT p) (k := 13) (b := p20) (by have := (Ly.iT L16); unfold isD at this; unfold mutR; omega)) :), ?_⟩
        rw [show jr (wr h15 (pT p) 13 p20) 93 1 = pT p from (Ly.r93_1 (Ly.wr L16 (a := pT p) (k := 13) (b := p20) (by have := (Ly.iT L16); unfold isD at this; unfold mutR; omega)) :)]
        refine ⟨(Ly.dt0 (Ly.wr L16 (a := pT p) (k := 13) (b := p20) (by have := (Ly.iT L16); unfold isD at this; unfold mutR; omega)) (Ly.iT (Ly.wr L16 (a := pT p) (k := 13) (b := p20) (by have := (Ly.iT L16); unfold isD at this; unfold mutR; omega))) :), ?_⟩
        obtain ⟨z22, H⟩ := H
        refine ⟨z22, fun c23 => ?_, fun c23 => ?_⟩
        · have H := H.1 c23
          refine ⟨Or.inl rfl, ?_⟩
          exact H (Ly.wr L16 (a := pT p) (k := 13) (b := p20) (by have := (Ly.iT L16); unfold isD at this; unfold mutR; omega)) (TokR.swr K19 (a := pT p) (k := 13) (x := p20))
        · have H := H.2 c23
          refine ⟨(Ly.t93 (Ly.wr L16 (a := pT p) (k := 13) (b := p20) (by have := (Ly.iT L16); unfold isD at this; unfold mutR; omega)) :), ?_⟩
          rw [show jr (wr h15 (pT p) 13 p20) 93 0 = 37 from (Ly.r93_0 (Ly.wr L16 (a := pT p) (k := 13) (b := p20) (by have := (Ly.iT L16); unfold isD at this; unfold mutR; omega)) :)]
          refine ⟨(Ly.t37 (Ly.wr L16 (a := pT p) (k := 13) (b := p20) (by have := (Ly.iT L16); unfold isD at this; unfold mutR; omega)) :), ?_⟩
          by_cases c21 : tkK T i18 = 159
          · have H := H.1 c21
            refine ⟨_, _, t_75y (d := d) (by omega) (Ly.wr L16 (a := pT p) (k := 13) (b := p20) (by have := (Ly.iT L16); unfold isD at this; unfold mutR; omega)) (TokR.swr K19 (a := pT p) (k := 13) (x := p20)) 159 rfl c21 (ns c21 (by decide)), ?_⟩
            refine ⟨fun c => absurd c (by decide), fun _ => ?_⟩
            refine ⟨Or.inr rfl, ?_⟩
            exact H (Ly.wi (Ly.wr L16 (a := pT p) (k := 13) (b := p20) (by have := (Ly.iT L16); unfold isD at this; unfold mutR; omega)) (a := 37) (k := 4) (x := ((i18 + 1 : Nat) : Int)) (by decide)) (TokR.adv (TokR.swr K19 (a := pT p) (k := 13) (x := p20)) (ns c21 (by decide)))
          · have H := H.2 c21
            refine ⟨_, _, t_75n (d := d) (by omega) (Ly.wr L16 (a := pT p) (k := 13) (b := p20) (by have := (Ly.iT L16); unfold isD at this; unfold mutR; omega)) (TokR.swr K19 (a := pT p) (k := 13) (x := p20)) 159 rfl c21, ?_⟩
            refine ⟨fun _ => ?_, fun c => absurd (by decide) c⟩
            refine ⟨Or.inl rfl, ?_⟩
            exact H (Ly.wi (Ly.wr L16 (a := pT p) (k := 13) (b := p20) (by have := (Ly.iT L16); unfold isD at this; unfold mutR; omega)) (a := 37) (k := 5) (x := -10 - (tkP T i18 : Int)) (by decide)) (TokR.flt (TokR.swr K19 (a := pT p) (k := 13) (x := p20)))
      · have H := H.2 c13
        refine ⟨(Ly.t93 L :), ?_⟩
        rw [show jr (wi h 37 4 ((i + 1 : Nat) : Int)) 93 0 = 37 from (Ly.r93_0 L :)]
        refine ⟨(Ly.t37 L :), ?_⟩
        refine ⟨_, _, t_76 (d := d) (by omega) (Ly.wi L (a := 37) (k := 4) (x := ((i + 1 : Nat) : Int)) (by decide)) (TokR.adv K z1), ?_⟩
        refine ⟨Or.inl rfl, ?_⟩
        exact H (Ly.wi (Ly.wi L (a := 37) (k := 4) (x := ((i + 1 : Nat) : Int)) (by decide)) (a := 37) (k := 5) (x := -10 - (tkP T (i + 1) : Int)) (by decide)) (TokR.flt (TokR.adv K z1))
  · have H := H.2 c24
    refine ⟨(Ly.t93 L :), ?_⟩
    rw [show jr h 93 0 = 37 from (Ly.r93_0 L :)]
    refine ⟨(Ly.t37 L :), ?_⟩
    refine ⟨_, _, t_76 (d := d) (by omega) L K, ?_⟩
    refine ⟨Or.inl rfl, ?_⟩
    exact H (Ly.wi L (a := 37) (k := 5) (x := -10 - (tkP T i : Int)) (by decide)) (TokR.flt K)
