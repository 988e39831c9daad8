-- needs: 20.num 21.lay 22.spec 23.va 24.leaf 25.tbls 26.thg 27.tok
set_option maxRecDepth 100000 in
theorem c_50_0 {p : Lpar} {d : Nat} {h : AH} {Q : Option AV → AH → Prop} {v1 : Int} (hd : 9 ≤ d) (L : Ly p h) {T : Txt} {e i : Nat} (K : TokR T e i h) (H : (v1 < 8 → (tkK T i = 17 → (tkK T (i + 1) = 140 → (Ly p (wi (wi h 37 4 ((i + 1 : Nat) : Int)) 37 4 ((i + 2 : Nat) : Int)) → TokR T e (i + 2) (wi (wi h 37 4 ((i + 1 : Nat) : Int)) 37 4 ((i + 2 : Nat) : Int)) → ∃ x53 h48, jE d 43 [jP 93] (wi (wi h 37 4 ((i + 1 : Nat) : Int)) 37 4 ((i + 2 : Nat) : Int)) (some (jI x53)) h48 ∧ Ly p h48 ∧ ∃ i51, TokR T e i51 h48 ∧ (x53 = (0 : Int) → Q (some (jP 0)) h48) ∧ (¬ (x53 = (0 : Int)) → (tkK T i51 = 158 → (Ly p (nw (wi h48 37 4 ((i51 + 1 : Nat) : Int)) 3 7) → TokR T e (i51 + 1) (nw (wi h48 37 4 ((i51 + 1 : Nat) : Int)) 3 7) → ∃ x60 h55, jE d 44 [jP 93, jI (ji h 93 6)] (nw (wi h48 37 4 ((i51 + 1 : Nat) : Int)) 3 7) (some (jI x60)) h55 ∧ Ly p h55 ∧ ∃ i58, TokR T e i58 h55 ∧ ∃ x66 h61, jE d 44 [jP 93, jI (w32 ((ji h 93 6) + 1))] h55 (some (jI x66)) h61 ∧ Ly p h61 ∧ ∃ i64, TokR T e i64 h61 ∧ ∃ h67, jE d 11 [jP (jx (wi h48 37 4 ((i51 + 1 : Nat) : Int))), jI 4, jI (ji h 93 6), jI x60, jI x66] h61 none h67 ∧ Ly p h67 ∧ ∃ i70, TokR T e i70 h67 ∧ jt h67 (jx (wi h48 37 4 ((i51 + 1 : Nat) : Int))) = 3 ∧ ∃ x77 h72, jE d 53 [jP (pT p + 5), jI (ji h67 (jx (wi h48 37 4 ((i51 + 1 : Nat) : Int))) 2)] h67 (some (jI x77)) h72 ∧ Ly p h72 ∧ ∃ i75, TokR T e i75 h72 ∧ jt h72 (jx (wi h48 37 4 ((i51 + 1 : Nat) : Int))) = 3 ∧ ∃ x83 h78, jE d 53 [jP (pT p + 5), jI (ji h72 (jx (wi h48 37 4 ((i51 + 1 : Nat) : Int))) 3)] h72 (some (jI x83)) h78 ∧ Ly p h78 ∧ ∃ i81, TokR T e i81 h78 ∧ (Ly p (wl (wl h78 93 7 (w64 ((jl h67 93 7) * (w32 (x77 * x83))))) 93 7 (if 1000000000 < (w64 ((jl h67 93 7) * (w32 (x77 * x83)))) then 1000000000 else (w64 ((jl h67 93 7) * (w32 (x77 * x83)))))) → TokR T e i81 (wl (wl h78 93 7 (w64 ((jl h67 93 7) * (w32 (x77 * x83))))) 93 7 (if 1000000000 < (w64 ((jl h67 93 7) * (w32 (x77 * x83)))) then 1000000000 else (w64 ((jl h67 93 7) * (w32 (x77 * x83)))))) → ∃ p89 h84, jE d 46 [jP 93, jI (w32 (v1 + 1))] (wl (wl h78 93 7 (w64 ((jl h67 93 7) * (w32 (x77 * x83))))) 93 7 (if 1000000000 < (w64 ((jl h67 93 7) * (w32 (x77 * x83)))) then 1000000000 else (w64 ((jl h67 93 7) * (w32 (x77 * x83)))))) (some (jP p89)) h84 ∧ Ly p h84 ∧ ∃ i87, TokR T e i87 h84 ∧ jt h84 (jx (wi h48 37 4 ((i51 + 1 : Nat) : Int))) = 3 ∧ NF ≤ (jx (wi h48 37 4 ((i51 + 1 : Nat) : Int))) ∧ jt (wr h84 (jx (wi h48 37 4 ((i51 + 1 : Nat) : Int))) 4 p89) (jx (wi h48 37 4 ((i51 + 1 : Nat) : Int))) = 3 ∧ ¬ (jr (wr h84 (jx (wi h48 37 4 ((i51 + 1 : Nat) : Int))) 4 p89) (jx (wi h48 37 4 ((i51 + 1 : Nat) : Int))) 4) = 1 ∧ ((jr (wr h84 (jx (wi h48 37 4 ((i51 + 1 : Nat) : Int))) 4 p89) (jx (wi h48 37 4 ((i51 + 1 : Nat) : Int))) 4) = 0 → (Ly p (wr h84 (jx (wi h48 37 4 ((i51 + 1 : Nat) : Int))) 4 p89) → TokR T e i87 (wr h84 (jx (wi h48 37 4 ((i51 + 1 : Nat) : Int))) 4 p89) → Q (some (jP 0)) (wr h84 (jx (wi h48 37 4 ((i51 + 1 : Nat) : Int))) 4 p89))) ∧ (¬ (jr (wr h84 (jx (wi h48 37 4 ((i51 + 1 : Nat) : Int))) 4 p89) (jx (wi h48 37 4 ((i51 + 1 : Nat) : Int))) 4) = 0 → (tkK T i87 = 141 → jt (wi (wr h84 (jx (wi h48 37 4 ((i51 + 1 : Nat) : Int))) 4 p89) 37 4 ((i87 + 1 : Nat) : Int)) (jx (wi h48 37 4 ((i51 + 1 : Nat) : Int))) = 3 ∧ (Ly p (wi (wr h84 (jx (wi h48 37 4 ((i51 + 1 : Nat) : Int))) 4 p89) 37 4 ((i87 + 1 : Nat) : Int)) → TokR T e (i87 + 1) (wi (wr h84 (jx (wi h48 37 4 ((i51 + 1 : Nat) : Int))) 4 p89) 37 4 ((i87 + 1 : Nat) : Int)) → WF d 50 209 [jP 93, jI v1, jI (ji h 93 6), jL (jl h 93 7), jU, jI 1, jP (jx (wi h48 37 4 ((i51 + 1 : Nat) : Int))), jP (jr (wi (wr h84 (jx (wi h48 37 4 ((i51 + 1 : Nat) : Int))) 4 p89) 37 4 ((i87 + 1 : Nat) : Int)) (jx (wi h48 37 4 ((i51 + 1 : Nat) : Int))) 4)] [] (wi (wr h84 (jx (wi h48 37 4 ((i51 + 1 : Nat) : Int))) 4 p89) 37 4 ((i87 + 1 : Nat) : Int)) Q)) ∧ (¬ tkK T i87 = 141 → (Ly p (wi (wr h84 (jx (wi h48 37 4 ((i51 + 1 : Nat) : Int))) 4 p89) 37 5 (-10 - (tkP T i87 : Int))) → TokR T e i87 (wi (wr h84 (jx (wi h48 37 4 ((i51 + 1 : Nat) : Int))) 4 p89) 37 5 (-10 - (tkP T i87 : Int))) → Q (some (jP 0)) (wi (wr h84 (jx (wi h48 37 4 ((i51 + 1 : Nat) : Int))) 4 p89) 37 5 (-10 - (tkP T i87 : Int))))))))) ∧ (¬ tkK T i51 = 158 → (Ly p (wi h48 37 5 (-10 - (tkP T i51 : Int))) → TokR T e i51 (wi h48 37 5 (-10 - (tkP T i51 : Int))) → Q (some (jP 0)) (wi h48 37 5 (-10 - (tkP T i51 : Int)))))))) ∧ (¬ tkK T (i + 1) = 140 → (Ly p (wi (wi h 37 4 ((i + 1 : Nat) : Int)) 37 5 (-10 - (tkP T (i + 1) : Int))) → TokR T e (i + 1) (wi (wi h 37 4 ((i + 1 : Nat) : Int)) 37 5 (-10 - (tkP T (i + 1) : Int))) → Q (some (jP 0)) (wi (wi h 37 4 ((i + 1 : Nat) : Int)) 37 5 (-10 - (tkP T (i + 1) : Int)))))) ∧ (¬ tkK T i = 17 → ¬ (tkK T i = 3 ∨ tkK T i = 4) ∧ (Ly p (nw (wi h 37 4 ((i + 1 : Nat) : Int)) 3 7) → TokR T e (i + 1) (nw (wi h 37 4 ((i + 1 : Nat) : Int)) 3 7) → ∃ x8 h3, jE d 44 [jP 93, jI (ji h 93 6)] (nw (wi h 37 4 ((i + 1 : Nat) : Int)) 3 7) (some (jI x8)) h3 ∧ Ly p h3 ∧ ∃ i6, TokR T e i6 h3 ∧ ∃ x14 h9, jE d 44 [jP 93, jI (w32 ((ji h 93 6) + 1))] h3 (some (jI x14)) h9 ∧ Ly p h9 ∧ ∃ i12, TokR T e i12 h9 ∧ ∃ h15, jE d 11 [jP (jx (wi h 37 4 ((i + 1 : Nat) : Int))), jI 4, jI (ji h 93 6), jI x8, jI x14] h9 none h15 ∧ Ly p h15 ∧ ∃ i18, TokR T e i18 h15 ∧ jt h15 (jx (wi h 37 4 ((i + 1 : Nat) : Int))) = 3 ∧ ∃ x25 h20, jE d 53 [jP (pT p + 5), jI (ji h15 (jx (wi h 37 4 ((i + 1 : Nat) : Int))) 2)] h15 (some (jI x25)) h20 ∧ Ly p h20 ∧ ∃ i23, TokR T e i23 h20 ∧ jt h20 (jx (wi h 37 4 ((i + 1 : Nat) : Int))) = 3 ∧ ∃ x31 h26, jE d 53 [jP (pT p + 5), jI (ji h20 (jx (wi h 37 4 ((i + 1 : Nat) : Int))) 3)] h20 (some (jI x31)) h26 ∧ Ly p h26 ∧ ∃ i29, TokR T e i29 h26 ∧ (Ly p (wl (wl h26 93 7 (w64 ((jl h15 93 7) * (w32 (x25 * x31))))) 93 7 (if 1000000000 < (w64 ((jl h15 93 7) * (w32 (x25 * x31)))) then 1000000000 else (w64 ((jl h15 93 7) * (w32 (x25 * x31)))))) → TokR T e i29 (wl (wl h26 93 7 (w64 ((jl h15 93 7) * (w32 (x25 * x31))))) 93 7 (if 1000000000 < (w64 ((jl h15 93 7) * (w32 (x25 * x31)))) then 1000000000 else (w64 ((jl h15 93 7) * (w32 (x25 * x31)))))) → ∃ p37 h32, jE d 46 [jP 93, jI (w32 (v1 + 1))] (wl (wl h26 93 7 (w64 ((jl h15 93 7) * (w32 (x25 * x31))))) 93 7 (if 1000000000 < (w64 ((jl h15 93 7) * (w32 (x25 * x31)))) then 1000000000 else (w64 ((jl h15 93 7) * (w32 (x25 * x31)))))) (some (jP p37)) h32 ∧ Ly p h32 ∧ ∃ i35, TokR T e i35 h32 ∧ jt h32 (jx (wi h 37 4 ((i + 1 : Nat) : Int))) = 3 ∧ NF ≤ (jx (wi h 37 4 ((i + 1 : Nat) : Int))) ∧ jt (wr h32 (jx (wi h 37 4 ((i + 1 : Nat) : Int))) 4 p37) (jx (wi h 37 4 ((i + 1 : Nat) : Int))) = 3 ∧ ¬ (jr (wr h32 (jx (wi h 37 4 ((i + 1 : Nat) : Int))) 4 p37) (jx (wi h 37 4 ((i + 1 : Nat) : Int))) 4) = 1 ∧ ((jr (wr h32 (jx (wi h 37 4 ((i + 1 : Nat) : Int))) 4 p37) (jx (wi h 37 4 ((i + 1 : Nat) : Int))) 4) = 0 → (Ly p (wr h32 (jx (wi h 37 4 ((i + 1 : Nat) : Int))) 4 p37) → TokR T e i35 (wr h32 (jx (wi h 37 4 ((i + 1 : Nat) : Int))) 4 p37) → Q (some (jP 0)) (wr h32 (jx (wi h 37 4 ((i + 1 : Nat) : Int))) 4 p37))) ∧ (¬ (jr (wr h32 (jx (wi h 37 4 ((i + 1 : Nat) : Int))) 4 p37) (jx (wi h 37 4 ((i + 1 : Nat) : Int))) 4) = 0 → (tkK T i35 = 141 → jt (wi (wr h32 (jx (wi h 37 4 ((i + 1 : Nat) : Int))) 4 p37) 37 4 ((i35 + 1 : Nat) : Int)) (jx (wi h 37 4 ((i + 1 : Nat) : Int))) = 3 ∧ (Ly p (wi (wr h32 (jx (wi h 37 4 ((i + 1 : Nat) : Int))) 4 p37) 37 4 ((i35 + 1 : Nat) : Int)) → TokR T e (i35 + 1) (wi (wr h32 (jx (wi h 37 4 ((i + 1 : Nat) : Int))) 4 p37) 37 4 ((i35 + 1 : Nat) : Int)) → WF d 50 209 [jP 93, jI v1, jI (ji h 93 6), jL (jl h 93 7), jU, jI 0, jP (jx (wi h 37 4 ((i + 1 : Nat) : Int))), jP (jr (wi (wr h32 (jx (wi h 37 4 ((i + 1 : Nat) : Int))) 4 p37) 37 4 ((i35 + 1 : Nat) : Int)) (jx (wi h 37 4 ((i + 1 : Nat) : Int))) 4)] [] (wi (wr h32 (jx (wi h 37 4 ((i + 1 : Nat) : Int))) 4 p37) 37 4 ((i35 + 1 : Nat) : Int)) Q)) ∧ (¬ tkK T i35 = 141 → (Ly p (wi (wr h32 (jx (wi h 37 4 ((i + 1 : Nat) : Int))) 4 p37) 37 5 (-10 - (tkP T i35 : Int))) → TokR T e i35 (wi (wr h32 (jx (wi h 37 4 ((i + 1 : Nat) : Int))) 4 p37) 37 5 (-10 - (tkP T i35 : Int))) → Q (some (jP 0)) (wi (wr h32 (jx (wi h 37 4 ((i + 1 : Nat) : Int))) 4 p37) 37 5 (-10 - (tkP T i35 : Int)))))))))) ∧ (¬ (v1 < 8) → (Ly p (wi h 37 5 (-10 - (tkP T i : Int))) → TokR T e i (wi h 37 5 (-10 - (tkP T i : Int))) → Q (some (jP 0)) (wi h 37 5 (-10 - (tkP T i : Int)))))) : WF d 50 0 [jP 93, jI v1, jU, jU, jU, jU, jU, jU] [] h Q := by
  refine b_50_0 ?_
  refine ⟨fun c100 => ?_, fun c100 => ?_⟩
  · have H := H.1 c100
    refine ⟨(Ly.t93 L :), ?_⟩
    refine b_50_21 ?_
    refine ⟨(Ly.t93 L :), ?_⟩
    refine b_50_26 ?_
    refine ⟨(Ly.t93 L :), ?_⟩
    rw [show jr h 93 0 = 37 from (Ly.r93_0 L :)]
    refine ⟨(Ly.t37 L :), ?_⟩
    refine ⟨_, _, t_70 (d := d) (by omega) L K, ?_⟩
    rw [show (ck (tkK T i) = 7566701) = (tkK T i = 17) from TokR.ckE K 17 rfl]
    refine ⟨fun c1 => ?_, fun c1 => ?_⟩
    · have H := H.2 c1
      refine b_50_45 ?_
      refine ⟨(Ly.t93 L :), ?_⟩
      rw [show jr h 93 0 = 37 from (Ly.r93_0 L :)]
      refine ⟨(Ly.t37 L :), ?_⟩
      obtain ⟨z2, H⟩ := H
      refine ⟨_, t_74 (d := d) (by omega) L K z2, ?_⟩
      refine b_50_52 ?_
      refine ⟨fun _ => ?_, fun c => absurd (by decide) c⟩
      refine ⟨(Ly.t93 (Ly.nw (Ly.wi L (a := 37) (k := 4) (x := ((i + 1 : Nat) : Int)) (by decide)) (t := 3) (n := 7)) :), ?_⟩
      have H := H (Ly.nw (Ly.wi L (a := 37) (k := 4) (x := ((i + 1 : Nat) : Int)) (by decide)) (t := 3) (n := 7)) (TokR.snw (TokR.adv K z2) (Ly.wi L (a := 37) (k := 4) (x := ((i + 1 : Nat) : Int)) (by decide)) (t := 3) (n := 7))
      obtain ⟨x8, h3, e5, L4, i6, K7, H⟩ := H
      refine ⟨x8, h3, e5, ?_⟩
      refine ⟨(Ly.t93 L4 :), ?_⟩
      obtain ⟨x14, h9, e11, L10, i12, K13, H⟩ := H
      refine ⟨x14, h9, e11, ?_⟩
      refine ⟨Nat.le_trans (by decide) (Ly.nx (Ly.wi L (a := 37) (k := 4) (x := ((i + 1 : Nat) : Int)) (by decide))), ?_⟩
      obtain ⟨h15, e17, L16, i18, K19, H⟩ := H
      refine ⟨h15, e17, ?_⟩
      refine b_50_113 ?_
      refine ⟨(Ly.t93 L16 :), ?_⟩
      refine ⟨(Ly.t93 L16 :), ?_⟩
      rw [show jr h15 93 1 = pT p from (Ly.r93_1 L16 :)]
      refine ⟨(Ly.dt0 L16 (Ly.iT L16) :), ?_⟩
      rw [show jr h15 (pT p) 1 = (pT p + 5) from (Ly.dr0_1 L16 (Ly.iT L16) :)]
      obtain ⟨z46, H⟩ := H
      refine ⟨z46, ?_⟩
      refine ⟨(Ly.dt5 L16 (Ly.iT L16) :), ?_⟩
      obtain ⟨x25, h20, e22, L21, i23, K24, H⟩ := H
      refine ⟨x25, h20, e22, ?_⟩
      refine ⟨(Ly.t93 L21 :), ?_⟩
      rw [show jr h20 93 1 = pT p from (Ly.r93_1 L21 :)]
      refine ⟨(Ly.dt0 L21 (Ly.iT L21) :), ?_⟩
      rw [show jr h20 (pT p) 1 = (pT p + 5) from (Ly.dr0_1 L21 (Ly.iT L21) :)]
      obtain ⟨z45, H⟩ := H
      refine ⟨z45, ?_⟩
      refine ⟨(Ly.dt5 L21 (Ly.iT L21) :), ?_⟩
      obtain ⟨x31, h26, e28, L27, i29, K30, H⟩ := H
      refine ⟨x31, h26, e28, ?_⟩
      refine ⟨(Ly.t93 L27 :), ?_⟩
      refine b_50_154 ?_
      refine ⟨(Ly.t93 L27 :), ?_⟩
      refine ⟨(Ly.t93 L27 :), ?_⟩
      refine b_50_168 ?_
      refine ⟨(Ly.t93 L27 :), ?_⟩
      have H := H (Ly.wl (Ly.wl L27 (a := 93) (k := 7) (x := w64 ((jl h15 93 7) * (w32 (x25 * x31))))) (a := 93) (k := 7) (x := if 1000000000 < (jl (wl h26 93 7 (w64 ((jl h15 93 7) * (w32 (x25 * x31))))) 93 7) then 1000000000 else (jl (wl h26 93 7 (w64 ((jl h15 93 7) * (w32 (x25 * x31))))) 93 7))) (TokR.swl (TokR.swl K30 (a := 93) (k := 7) (x := w64 ((jl h15 93 7) * (w32 (x25 * x31))))) (a := 93) (k := 7) (x := if 1000000000 < (jl (wl h26 93 7 (w64 ((jl h15 93 7) * (w32 (x25 * x31))))) 93 7) then 1000000000 else (jl (wl h26 93 7 (w64 ((jl h15 93 7) * (w32 (x25 * x31))))) 93 7)))
      obtain ⟨p37, h32, e34, L33, i35, K36, H⟩ := H
      refine ⟨p37, h32, e34, ?_⟩
      obtain ⟨z44, H⟩ := H
      refine ⟨z44, ?_⟩
      obtain ⟨z38, H⟩ := H
      refine b_50_180 ?_
      obtain ⟨z43, H⟩ := H
      refine ⟨z43, ?_⟩
      obtain ⟨z41, H⟩ := H
      refine ⟨z41, fun c42 => ?_, fun c42 => ?_⟩
      · have H := H.1 c42
        exact H (Ly.wr L33 (a := jx (wi h 37 4 ((i + 1 : Nat) : Int))) (k := 4) (b := p37) (Or.inl z38)) (TokR.swr K36 (a := jx (wi h 37 4 ((i + 1 : Nat) : Int))) (k := 4) (x := p37))
      · have H := H.2 c42
        refine ⟨(Ly.t93 (Ly.wr L33 (a := jx (wi h 37 4 ((i + 1 : Nat) : Int))) (k := 4) (b := p37) (Or.inl z38)) :), ?_⟩
        rw [show jr (wr h32 (jx (wi h 37 4 ((i + 1 : Nat) : Int))) 4 p37) 93 0 = 37 from (Ly.r93_0 (Ly.wr L33 (a := jx (wi h 37 4 ((i + 1 : Nat) : Int))) (k := 4) (b := p37) (Or.inl z38)) :)]
        refine ⟨(Ly.t37 (Ly.wr L33 (a := jx (wi h 37 4 ((i + 1 : Nat) : Int))) (k := 4) (b := p37) (Or.inl z38)) :), ?_⟩
        by_cases c39 : tkK T i35 = 141
        · have H := H.1 c39
          refine ⟨_, _, t_75y (d := d) (by omega) (Ly.wr L33 (a := jx (wi h 37 4 ((i + 1 : Nat) : Int))) (k := 4) (b := p37) (Or.inl z38)) (TokR.swr K36 (a := jx (wi h 37 4 ((i + 1 : Nat) : Int))) (k := 4) (x := p37)) 141 rfl c39 (ns c39 (by decide)), ?_⟩
          refine ⟨fun _ => ?_, fun c => absurd (by decide) c⟩
          obtain ⟨z40, H⟩ := H
          refine ⟨z40, ?_⟩
          exact H (Ly.wi (Ly.wr L33 (a := jx (wi h 37 4 ((i + 1 : Nat) : Int))) (k := 4) (b := p37) (Or.inl z38)) (a := 37) (k := 4) (x := ((i35 + 1 : Nat) : Int)) (by decide)) (TokR.adv (TokR.swr K36 (a := jx (wi h 37 4 ((i + 1 : Nat) : Int))) (k := 4) (x := p37)) (ns c39 (by decide)))
        · have H := H.2 c39
          refine ⟨_, _, t_75n (d := d) (by omega) (Ly.wr L33 (a := jx (wi h 37 4 ((i + 1 : Nat) : Int))) (k := 4) (b := p37) (Or.inl z38)) (TokR.swr K36 (a := jx (wi h 37 4 ((i + 1 : Nat) : Int))) (k := 4) (x := p37)) 141 rfl c39, ?_⟩
          refine ⟨fun c => absurd c (by decide), fun _ => ?_⟩
          exact H (Ly.wi (Ly.wr L33 (a := jx (wi h 37 4 ((i + 1 : Nat) : Int))) (k := 4) (b := p37) (Or.inl z38)) (a := 37) (k := 5) (x := -10 - (tkP T i35 : Int)) (by decide)) (TokR.flt (TokR.swr K36 (a := jx (wi h 37 4 ((i + 1 : Nat) : Int))) (k := 4) (x := p37)))
    · have c1 := Decidable.not_not.mp c1
      have H := H.1 c1
      refine b_50_45 ?_
      refine ⟨(Ly.t93 L :), ?_⟩
      rw [show jr h 93 0 = 37 from (Ly.r93_0 L :)]
      refine ⟨(Ly.t37 L :), ?_⟩
      refine ⟨_, t_74 (d := d) (by omega) L K (ns c1 (by decide)), ?_⟩
      refine b_50_52 ?_
      refine ⟨fun c => absurd c (by decide), fun _ => ?_⟩
      refine ⟨(Ly.t93 L :), ?_⟩
      rw [show jr (wi h 37 4 ((i + 1 : Nat) : Int)) 93 0 = 37 from (Ly.r93_0 L :)]
      refine ⟨(Ly.t37 L :), ?_⟩
      by_cases c47 : tkK T (i + 1) = 140
      · have H := H.1 c47
        refine ⟨_, _, t_75y (d := d) (by omega) (Ly.wi L (a := 37) (k := 4) (x := ((i + 1 : Nat) : Int)) (by decide)) (TokR.adv K (ns c1 (by decide))) 140 rfl c47 (ns c47 (by decide)), ?_⟩
        refine ⟨fun c => absurd c (by decide), fun _ => ?_⟩
        refine ⟨(Ly.t93 L :), ?_⟩
        have H := H (Ly.wi (Ly.wi L (a := 37) (k := 4) (x := ((i + 1 : Nat) : Int)) (by decide)) (a := 37) (k := 4) (x := ((i + 2 : Nat) : Int)) (by decide)) (TokR.adv (TokR.adv K (ns c1 (by decide))) (ns c47 (by decide)))
        obtain ⟨x53, h48, e50, L49, i51, K52, H⟩ := H
        refine ⟨x53, h48, e50, ?_⟩
        refine ⟨fun c99 => ?_, fun c99 => ?_⟩
        · have H := H.1 c99
          exact H
        · have H := H.2 c99
          refine ⟨(Ly.t93 L49 :), ?_⟩
          rw [show jr h48 93 0 = 37 from (Ly.r93_0 L49 :)]
          refine ⟨(Ly.t37 L49 :), ?_⟩
          by_cases c54 : tkK T i51 = 158
          · have H := H.1 c54
            refine ⟨_, _, t_75y (d := d) (by omega) L49 K52 158 rfl c54 (ns c54 (by decide)), ?_⟩
            refine ⟨fun _ => ?_, fun c => absurd (by decide) c⟩
            refine ⟨(Ly.t93 (Ly.nw (Ly.wi L49 (a := 37) (k := 4) (x := ((i51 + 1 : Nat) : Int)) (by decide)) (t := 3) (n := 7)) :), ?_⟩
            have H := H (Ly.nw (Ly.wi L49 (a := 37) (k := 4) (x := ((i51 + 1 : Nat) : Int)) (by decide)) (t := 3) (n := 7)) (TokR.snw (TokR.adv K52 (ns c54 (by decide))) (Ly.wi L49 (a := 37) (k := 4) (x := ((i51 + 1 : Nat) : Int)) (by decide)) (t := 3) (n := 7))
            obtain ⟨x60, h55, e57, L56, i58, K59, H⟩ := H
            refine ⟨x60, h55, e57, ?_⟩
            refine ⟨(Ly.t93 L56 :), ?_⟩
            obtain ⟨x66, h61, e63, L62, i64, K65, H⟩ := H
            refine ⟨x66, h61, e63, ?_⟩
            refine ⟨Nat.le_trans (by decide) (Ly.nx (Ly.wi L49 (a := 37) (k := 4) (x := ((i51 + 1 : Nat) : Int)) (by decide))), ?_⟩
            obtain ⟨h67, e69, L68, i70, K71, H⟩ := H
            refine ⟨h67, e69, ?_⟩
            refine b_50_113 ?_
            refine ⟨(Ly.t93 L68 :), ?_⟩
            refine ⟨(Ly.t93 L68 :), ?_⟩
            rw [show jr h67 93 1 = pT p from (Ly.r93_1 L68 :)]
            refine ⟨(Ly.dt0 L68 (Ly.iT L68) :), ?_⟩
            rw [show jr h67 (pT p) 1 = (pT p + 5) from (Ly.dr0_1 L68 (Ly.iT L68) :)]
            obtain ⟨z98, H⟩ := H
            refine ⟨z98, ?_⟩
            refine ⟨(Ly.dt5 L68 (Ly.iT L68) :), ?_⟩
            obtain ⟨x77, h72, e74, L73, i75, K76, H⟩ := H
            refine ⟨x77, h72, e74, ?_⟩
            refine ⟨(Ly.t93 L73 :), ?_⟩
            rw [show jr h72 93 1 = pT p from (Ly.r93_1 L73 :)]
            refine ⟨(Ly.dt0 L73 (Ly.iT L73) :), ?_⟩
            rw [show jr h72 (pT p) 1 = (pT p + 5) from (Ly.dr0_1 L73 (Ly.iT L73) :)]
            obtain ⟨z97, H⟩ := H
            refine ⟨z97, ?_⟩
            refine ⟨(Ly.dt5 L73 (Ly.iT L73) :), ?_⟩
            obtain ⟨x83, h78, e80, L79, i81, K82, H⟩ := H
            refine ⟨x83, h78, e80, ?_⟩
            refine ⟨(Ly.t93 L79 :), ?_⟩
            refine b_50_154 ?_
            refine ⟨(Ly.t93 L79 :), ?_⟩
            refine ⟨(Ly.t93 L79 :), ?_⟩
            refine b_50_168 ?_
            refine ⟨(Ly.t93 L79 :), ?_⟩
            have H := H (Ly.wl (Ly.wl L79 (a := 93) (k := 7) (x := w64 ((jl h67 93 7) * (w32 (x77 * x83))))) (a := 93) (k := 7) (x := if 1000000000 < (jl (wl h78 93 7 (w64 ((jl h67 93 7) * (w32 (x77 * x83))))) 93 7) then 1000000000 else (jl (wl h78 93 7 (w64 ((jl h67 93 7) * (w32 (x77 * x83))))) 93 7))) (TokR.swl (TokR.swl K82 (a := 93) (k := 7) (x := w64 ((jl h67 93 7) * (w32 (x77 * x83))))) (a := 93) (k := 7) (x := if 1000000000 < (jl (wl h78 93 7 (w64 ((jl h67 93 7) * (w32 (x77 * x83))))) 93 7) then 1000000000 else (jl (wl h78 93 7 (w64 ((jl h67 93 7) * (w32 (x77 * x83))))) 93 7)))
            obtain ⟨p89, h84, e86, L85, i87, K88, H⟩ := H
            refine ⟨p89, h84, e86, ?_⟩
            obtain ⟨z96, H⟩ := H
            refine ⟨z96, ?_⟩
            obtain ⟨z90, H⟩ := H
            refine b_50_180 ?_
            obtain ⟨z95, H⟩ := H
            refine ⟨z95, ?_⟩
            obtain ⟨z93, H⟩ := H
            refine ⟨z93, fun c94 => ?_, fun c94 => ?_⟩
            · have H := H.1 c94
              exact H (Ly.wr L85 (a := jx (wi h48 37 4 ((i51 + 1 : Nat) : Int))) (k := 4) (b := p89) (Or.inl z90)) (TokR.swr K88 (a := jx (wi h48 37 4 ((i51 + 1 : Nat) : Int))) (k := 4) (x := p89))
            · have H := H.2 c94
              refine ⟨(Ly.t93 (Ly.wr L85 (a := jx (wi h48 37 4 ((i51 + 1 : Nat) : Int))) (k := 4) (b := p89) (Or.inl z90)) :), ?_⟩
              rw [show jr (wr h84 (jx (wi h48 37 4 ((i51 + 1 : Nat) : Int))) 4 p89) 93 0 = 37 from (Ly.r93_0 (Ly.wr L85 (a := jx (wi h48 37 4 ((i51 + 1 : Nat) : Int))) (k := 4) (b := p89) (Or.inl z90)) :)]
              refine ⟨(Ly.t37 (Ly.wr L85 (a := jx (wi h48 37 4 ((i51 + 1 : Nat) : Int))) (k := 4) (b := p89) (Or.inl z90)) :), ?_⟩
              by_cases c91 : tkK T i87 = 141
              · have H := H.1 c91
                refine ⟨_, _, t_75y (d := d) (by omega) (Ly.wr L85 (a := jx (wi h48 37 4 ((i51 + 1 : Nat) : Int))) (k := 4) (b := p89) (Or.inl z90)) (TokR.swr K88 (a := jx (wi h48 37 4 ((i51 + 1 : Nat) : Int))) (k := 4) (x := p89)) 141 rfl c91 (ns c91 (by decide)), ?_⟩
                refine ⟨fun _ => ?_, fun c => absurd (by decide) c⟩
                obtain ⟨z92, H⟩ := H
                refine ⟨z92, ?_⟩
                exact H (Ly.wi (Ly.wr L85 (a := jx (wi h48 37 4 ((i51 + 1 : Nat) : Int))) (k := 4) (b := p89) (Or.inl z90)) (a := 37) (k := 4) (x := ((i87 + 1 : Nat) : Int)) (by decide)) (TokR.adv (TokR.swr K88 (a := jx (wi h48 37 4 ((i51 + 1 : Nat) : Int))) (k := 4) (x := p89)) (ns c91 (by decide)))
              · have H := H.2 c91
                refine ⟨_, _, t_75n (d := d) (by omega) (Ly.wr L85 (a := jx (wi h48 37 4 ((i51 + 1 : Nat) : Int))) (k := 4) (b := p89) (Or.inl z90)) (TokR.swr K88 (a := jx (wi h48 37 4 ((i51 + 1 : Nat) : Int))) (k := 4) (x := p89)) 141 rfl c91, ?_⟩
                refine ⟨fun c => absurd c (by decide), fun _ => ?_⟩
                exact H (Ly.wi (Ly.wr L85 (a := jx (wi h48 37 4 ((i51 + 1 : Nat) : Int))) (k := 4) (b := p89) (Or.inl z90)) (a := 37) (k := 5) (x := -10 - (tkP T i87 : Int)) (by decide)) (TokR.flt (TokR.swr K88 (a := jx (wi h48 37 4 ((i51 + 1 : Nat) : Int))) (k := 4) (x := p89)))
          · have H := H.2 c54
            refine ⟨_, _, t_75n (d := d) (by omega) L49 K52 158 rfl c54, ?_⟩
            refine ⟨fun c => absurd c (by decide), fun _ => ?_⟩
            exact H (Ly.wi L49 (a := 37) (k := 5) (x := -10 - (tkP T i51 : Int)) (by decide)) (TokR.flt K52)
      · have H := H.2 c47
        refine ⟨_, _, t_75n (d := d) (by omega) (Ly.wi L (a := 37) (k := 4) (x := ((i + 1 : Nat) : Int)) (by decide)) (TokR.adv K (ns c1 (by decide))) 140 rfl c47, ?_⟩
        refine ⟨fun _ => ?_, fun c => absurd (by decide) c⟩
        exact H (Ly.wi (Ly.wi L (a := 37) (k := 4) (x := ((i + 1 : Nat) : Int)) (by decide)) (a := 37) (k := 5) (x := -10 - (tkP T (i + 1) : Int)) (by decide)) (TokR.flt (TokR.adv K (ns c1 (by decide))))
  · have H := H.2 c100
    refine ⟨(Ly.t93 L :), ?_⟩
    rw [show jr h 93 0 = 37 from (Ly.r93_0 L :)]
    refine ⟨(Ly.t37 L :), ?_⟩
    refine ⟨_, _, t_76 (d := d) (by omega) L K, ?_⟩
    refine b_50_14 ?_
    exact H (Ly.wi L (a := 37) (k := 5) (x := -10 - (tkP T i : Int)) (by decide)) (TokR.flt K)
set_option maxRecDepth 100000 in
theorem c_50_209 {p : Lpar} {d : Nat} {h : AH} {Q : Option AV → AH → Prop} {v1 : Int} {v2 : Int} {v3 : Int} {v5 : Int} {a6 : Nat} {a7 : Nat} (hd : 9 ≤ d) (L : Ly p h) {T : Txt} {e i : Nat} (K : TokR T e i h) (H : ¬ a7 = 1 ∧ (a7 = 0 → (Ly p (wl h 93 7 v3) → TokR T e i (wl h 93 7 v3) → ∃ h1, jE d 45 [jP 93, jI v2] (wl h 93 7 v3) none h1 ∧ Ly p h1 ∧ ∃ i4, TokR T e i4 h1 ∧ Q (some (jP a6)) h1)) ∧ (¬ a7 = 0 → jt h a6 = 3 ∧ ((ji h a6 5) = (0 : Int) → jt h a7 = 6 ∧ ¬ (jr h a7 2) = 1 ∧ ((jr h a7 2) = 0 → jt h a6 = 3 ∧ NF ≤ a6 ∧ jt (wi h a6 5 0) a7 = 6 ∧ (Ly p (wi h a6 5 0) → TokR T e i (wi h a6 5 0) → WF d 50 209 [jP 93, jI v1, jI v2, jL v3, jU, jI v5, jP a6, jP (jr (wi h a6 5 0) a7 3)] [] (wi h a6 5 0) Q)) ∧ (¬ (jr h a7 2) = 0 → jt h a6 = 3 ∧ NF ≤ a6 ∧ jt (wi h a6 5 1) a7 = 6 ∧ (Ly p (wi h a6 5 1) → TokR T e i (wi h a6 5 1) → WF d 50 209 [jP 93, jI v1, jI v2, jL v3, jU, jI v5, jP a6, jP (jr (wi h a6 5 1) a7 3)] [] (wi h a6 5 1) Q))) ∧ (¬ (ji h a6 5) = (0 : Int) → jt h a6 = 3 ∧ NF ≤ a6 ∧ jt (wi h a6 5 1) a7 = 6 ∧ (Ly p (wi h a6 5 1) → TokR T e i (wi h a6 5 1) → WF d 50 209 [jP 93, jI v1, jI v2, jL v3, jU, jI v5, jP a6, jP (jr (wi h a6 5 1) a7 3)] [] (wi h a6 5 1) Q)))) : WF d 50 209 [jP 93, jI v1, jI v2, jL v3, jU, jI v5, jP a6, jP a7] [] h Q := by
  refine b_50_209 ?_
  obtain ⟨z20, H⟩ := H
  refine ⟨z20, fun c21 => ?_, fun c21 => ?_⟩
  · have H := H.1 c21
    refine ⟨(Ly.t93 L :), ?_⟩
    refine b_50_255 ?_
    refine ⟨(Ly.t93 L :), ?_⟩
    have H := H (Ly.wl L (a := 93) (k := 7) (x := v3)) (TokR.swl K (a := 93) (k := 7) (x := v3))
    obtain ⟨h1, e3, L2, i4, K5, H⟩ := H
    refine ⟨h1, e3, ?_⟩
    refine b_50_260 ?_
    exact H
  · have H := H.2 c21
    obtain ⟨z19, H⟩ := H
    refine ⟨z19, ?_⟩
    refine ⟨fun c18 => ?_, fun c18 => ?_⟩
    · have H := H.2 c18
      refine ⟨Or.inr rfl, ?_⟩
      obtain ⟨z8, H⟩ := H
      refine ⟨z8, ?_⟩
      obtain ⟨z6, H⟩ := H
      refine b_50_240 ?_
      obtain ⟨z7, H⟩ := H
      refine ⟨z7, ?_⟩
      refine b_50_247 ?_
      exact H (Ly.wi L (a := a6) (k := 5) (x := 1) (Nat.le_trans (by decide) z6)) (TokR.swi K (a := a6) (k := 5) (x := 1) (Or.inr (Nat.lt_of_lt_of_le (by decide) z6)))
    · have c18 := Decidable.not_not.mp c18
      have H := H.1 c18
      obtain ⟨z17, H⟩ := H
      refine ⟨z17, ?_⟩
      obtain ⟨z15, H⟩ := H
      refine ⟨z15, fun c16 => ?_, fun c16 => ?_⟩
      · have H := H.1 c16
        refine ⟨Or.inl rfl, ?_⟩
        obtain ⟨z11, H⟩ := H
        refine ⟨z11, ?_⟩
        obtain ⟨z9, H⟩ := H
        refine b_50_240 ?_
        obtain ⟨z10, H⟩ := H
        refine ⟨z10, ?_⟩
        refine b_50_247 ?_
        exact H (Ly.wi L (a := a6) (k := 5) (x := 0) (Nat.le_trans (by decide) z9)) (TokR.swi K (a := a6) (k := 5) (x := 0) (Or.inr (Nat.lt_of_lt_of_le (by decide) z9)))
      · have H := H.2 c16
        refine ⟨Or.inr rfl, ?_⟩
        obtain ⟨z14, H⟩ := H
        refine ⟨z14, ?_⟩
        obtain ⟨z12, H⟩ := H
        refine b_50_240 ?_
        obtain ⟨z13, H⟩ := H
        refine ⟨z13, ?_⟩
        refine b_50_247 ?_
        exact H (Ly.wi L (a := a6) (k := 5) (x := 1) (Nat.le_trans (by decide) z12)) (TokR.swi K (a := a6) (k := 5) (x := 1) (Or.inr (Nat.lt_of_lt_of_le (by decide) z12)))
set_option maxRecDepth 100000 in
theorem c_39_0 {p : Lpar} {d : Nat} {h : AH} {Q : Option AV → AH → Prop}  (hd : 9 ≤ d) (L : Ly p h) {T : Txt} {e i : Nat} (K : TokR T e i h) (H : ((ji h (pT p) 12) = (0 : Int) → ¬ (tkK T i = 3 ∨ tkK T i = 4) ∧ (tkK T (i + 1) = 15 → (tkK T (i + 1) = 15 → (Ly p (wl (wi (wi (wi h 37 4 ((i + 1 : Nat) : Int)) (pT p) 12 1) 37 4 ((i + 2 : Nat) : Int)) 93 7 1) → TokR T e (i + 2) (wl (wi (wi (wi h 37 4 ((i + 1 : Nat) : Int)) (pT p) 12 1) 37 4 ((i + 2 : Nat) : Int)) 93 7 1) → ∃ p18 h13, jE d 46 [jP 93, jI 0] (wl (wi (wi (wi h 37 4 ((i + 1 : Nat) : Int)) (pT p) 12 1) 37 4 ((i + 2 : Nat) : Int)) 93 7 1) (some (jP p18)) h13 ∧ Ly p h13 ∧ ∃ i16, TokR T e i16 h13 ∧ ¬ (jr (wr h13 (pT p) 13 p18) (pT p) 13) = 1 ∧ ((jr (wr h13 (pT p) 13 p18) (pT p) 13) = 0 → (Ly p (wr h13 (pT p) 13 p18) → TokR T e i16 (wr h13 (pT p) 13 p18) → Q (some (jI 0)) (wr h13 (pT p) 13 p18))) ∧ (¬ (jr (wr h13 (pT p) 13 p18) (pT p) 13) = 0 → (tkK T i16 = 159 → (Ly p (wi (wr h13 (pT p) 13 p18) 37 4 ((i16 + 1 : Nat) : Int)) → TokR T e (i16 + 1) (wi (wr h13 (pT p) 13 p18) 37 4 ((i16 + 1 : Nat) : Int)) → Q (some (jI 1)) (wi (wr h13 (pT p) 13 p18) 37 4 ((i16 + 1 : Nat) : Int)))) ∧ (¬ tkK T i16 = 159 → (Ly p (wi (wr h13 (pT p) 13 p18) 37 5 (-10 - (tkP T i16 : Int))) → TokR T e i16 (wi (wr h13 (pT p) 13 p18) 37 5 (-10 - (tkP T i16 : Int))) → Q (some (jI 0)) (wi (wr h13 (pT p) 13 p18) 37 5 (-10 - (tkP T i16 : Int)))))))) ∧ (¬ tkK T (i + 1) = 15 → (Ly p (wl (wi (wi (wi h 37 4 ((i + 1 : Nat) : Int)) (pT p) 12 2) 37 4 ((i + 2 : Nat) : Int)) 93 7 1) → TokR T e (i + 2) (wl (wi (wi (wi h 37 4 ((i + 1 : Nat) : Int)) (pT p) 12 2) 37 4 ((i + 2 : Nat) : Int)) 93 7 1) → ∃ p9 h4, jE d 46 [jP 93, jI 0] (wl (wi (wi (wi h 37 4 ((i + 1 : Nat) : Int)) (pT p) 12 2) 37 4 ((i + 2 : Nat) : Int)) 93 7 1) (some (jP p9)) h4 ∧ Ly p h4 ∧ ∃ i7, TokR T e i7 h4 ∧ ¬ (jr (wr h4 (pT p) 13 p9) (pT p) 13) = 1 ∧ ((jr (wr h4 (pT p) 13 p9) (pT p) 13) = 0 → (Ly p (wr h4 (pT p) 13 p9) → TokR T e i7 (wr h4 (pT p) 13 p9) → Q (some (jI 0)) (wr h4 (pT p) 13 p9))) ∧ (¬ (jr (wr h4 (pT p) 13 p9) (pT p) 13) = 0 → (tkK T i7 = 159 → (Ly p (wi (wr h4 (pT p) 13 p9) 37 4 ((i7 + 1 : Nat) : Int)) → TokR T e (i7 + 1) (wi (wr h4 (pT p) 13 p9) 37 4 ((i7 + 1 : Nat) : Int)) → Q (some (jI 1)) (wi (wr h4 (pT p) 13 p9) 37 4 ((i7 + 1 : Nat) : Int)))) ∧ (¬ tkK T i7 = 159 → (Ly p (wi (wr h4 (pT p) 13 p9) 37 5 (-10 - (tkP T i7 : Int))) → TokR T e i7 (wi (wr h4 (pT p) 13 p9) 37 5 (-10 - (tkP T i7 : Int))) → Q (some (jI 0)) (wi (wr h4 (pT p) 13 p9) 37 5 (-10 - (tkP T i7 : Int))))))))) ∧ (¬ tkK T (i + 1) = 15 → (tkK T (i + 1) = 16 → (tkK T (i + 1) = 15 → (Ly p (wl (wi (wi (wi h 37 4 ((i + 1 : Nat) : Int)) (pT p) 12 1) 37 4 ((i + 2 : Nat) : Int)) 93 7 1) → TokR T e (i + 2) (wl (wi (wi (wi h 37 4 ((i + 1 : Nat) : Int)) (pT p) 12 1) 37 4 ((i + 2 : Nat) : Int)) 93 7 1) → ∃ p38 h33, jE d 46 [jP 93, jI 0] (wl (wi (wi (wi h 37 4 ((i + 1 : Nat) : Int)) (pT p) 12 1) 37 4 ((i + 2 : Nat) : Int)) 93 7 1) (some (jP p38)) h33 ∧ Ly p h33 ∧ ∃ i36, TokR T e i36 h33 ∧ ¬ (jr (wr h33 (pT p) 13 p38) (pT p) 13) = 1 ∧ ((jr (wr h33 (pT p) 13 p38) (pT p) 13) = 0 → (Ly p (wr h33 (pT p) 13 p38) → TokR T e i36 (wr h33 (pT p) 13 p38) → Q (some (jI 0)) (wr h33 (pT p) 13 p38))) ∧ (¬ (jr (wr h33 (pT p) 13 p38) (pT p) 13) = 0 → (tkK T i36 = 159 → (Ly p (wi (wr h33 (pT p) 13 p38) 37 4 ((i36 + 1 : Nat) : Int)) → TokR T e (i36 + 1) (wi (wr h33 (pT p) 13 p38) 37 4 ((i36 + 1 : Nat) : Int)) → Q (some (jI 1)) (wi (wr h33 (pT p) 13 p38) 37 4 ((i36 + 1 : Nat) : Int)))) ∧ (¬ tkK T i36 = 159 → (Ly p (wi (wr h33 (pT p) 13 p38) 37 5 (-10 - (tkP T i36 : Int))) → TokR T e i36 (wi (wr h33 (pT p) 13 p38) 37 5 (-10 - (tkP T i36 : Int))) → Q (some (jI 0)) (wi (wr h33 (pT p) 13 p38) 37 5 (-10 - (tkP T i36 : Int)))))))) ∧ (¬ tkK T (i + 1) = 15 → (Ly p (wl (wi (wi (wi h 37 4 ((i + 1 : Nat) : Int)) (pT p) 12 2) 37 4 ((i + 2 : Nat) : Int)) 93 7 1) → TokR T e (i + 2) (wl (wi (wi (wi h 37 4 ((i + 1 : Nat) : Int)) (pT p) 12 2) 37 4 ((i + 2 : Nat) : Int)) 93 7 1) → ∃ p29 h24, jE d 46 [jP 93, jI 0] (wl (wi (wi (wi h 37 4 ((i + 1 : Nat) : Int)) (pT p) 12 2) 37 4 ((i + 2 : Nat) : Int)) 93 7 1) (some (jP p29)) h24 ∧ Ly p h24 ∧ ∃ i27, TokR T e i27 h24 ∧ ¬ (jr (wr h24 (pT p) 13 p29) (pT p) 13) = 1 ∧ ((jr (wr h24 (pT p) 13 p29) (pT p) 13) = 0 → (Ly p (wr h24 (pT p) 13 p29) → TokR T e i27 (wr h24 (pT p) 13 p29) → Q (some (jI 0)) (wr h24 (pT p) 13 p29))) ∧ (¬ (jr (wr h24 (pT p) 13 p29) (pT p) 13) = 0 → (tkK T i27 = 159 → (Ly p (wi (wr h24 (pT p) 13 p29) 37 4 ((i27 + 1 : Nat) : Int)) → TokR T e (i27 + 1) (wi (wr h24 (pT p) 13 p29) 37 4 ((i27 + 1 : Nat) : Int)) → Q (some (jI 1)) (wi (wr h24 (pT p) 13 p29) 37 4 ((i27 + 1 : Nat) : Int)))) ∧ (¬ tkK T i27 = 159 → (Ly p (wi (wr h24 (pT p) 13 p29) 37 5 (-10 - (tkP T i27 : Int))) → TokR T e i27 (wi (wr h24 (pT p) 13 p29) 37 5 (-10 - (tkP T i27 : Int))) → Q (some (jI 0)) (wi (wr h24 (pT p) 13 p29) 37 5 (-10 - (tkP T i27 : Int))))))))) ∧ (¬ tkK T (i + 1) = 16 → (Ly p (wi (wi h 37 4 ((i + 1 : Nat) : Int)) 37 5 (-10 - (tkP T (i + 1) : Int))) → TokR T e (i + 1) (wi (wi h 37 4 ((i + 1 : Nat) : Int)) 37 5 (-10 - (tkP T (i + 1) : Int))) → Q (some (jI 0)) (wi (wi h 37 4 ((i + 1 : Nat) : Int)) 37 5 (-10 - (tkP T (i + 1) : Int))))))) ∧ (¬ ((ji h (pT p) 12) = (0 : Int)) → (Ly p (wi h 37 5 (-10 - (tkP T i : Int))) → TokR T e i (wi h 37 5 (-10 - (tkP T i : Int))) → Q (some (jI 0)) (wi h 37 5 (-10 - (tkP T i : Int)))))) : WF d 39 0 [jP 93] [] h Q := by
  refine b_39_0 ?_
  refine ⟨(Ly.t93 L :), ?_⟩
  rw [show jr h 93 1 = pT p from (Ly.r93_1 L :)]
  refine ⟨(Ly.dt0 L (Ly.iT L) :), ?_⟩
  refine ⟨fun c42 => ?_, fun c42 => ?_⟩
  · have H := H.1 c42
    refine ⟨(Ly.t93 L :), ?_⟩
    rw [show jr h 93 0 = 37 from (Ly.r93_0 L :)]
    refine ⟨(Ly.t37 L :), ?_⟩
    obtain ⟨z1, H⟩ := H
    refine ⟨_, t_74 (d := d) (by omega) L K z1, ?_⟩
    refine b_39_25 ?_
    refine ⟨(Ly.t93 L :), ?_⟩
    rw [show jr (wi h 37 4 ((i + 1 : Nat) : Int)) 93 0 = 37 from (Ly.r93_0 L :)]
    refine ⟨(Ly.t37 L :), ?_⟩
    refine ⟨_, _, t_70 (d := d) (by omega) (Ly.wi L (a := 37) (k := 4) (x := ((i + 1 : Nat) : Int)) (by decide)) (TokR.adv K z1), ?_⟩
    rw [show (ck (tkK T (i + 1)) = 7170414) = (tkK T (i + 1) = 15) from TokR.ckE (TokR.adv K z1) 15 rfl]
    refine ⟨fun c2 => ?_, fun c2 => ?_⟩
    · have H := H.1 c2
      refine ⟨(Ly.t93 L :), ?_⟩
      rw [show jr (wi h 37 4 ((i + 1 : Nat) : Int)) 93 1 = pT p from (Ly.r93_1 L :)]
      refine ⟨(Ly.t93 L :), ?_⟩
      rw [show jr (wi h 37 4 ((i + 1 : Nat) : Int)) 93 0 = 37 from (Ly.r93_0 L :)]
      refine ⟨(Ly.t37 L :), ?_⟩
      refine ⟨_, _, t_70 (d := d) (by omega) (Ly.wi L (a := 37) (k := 4) (x := ((i + 1 : Nat) : Int)) (by decide)) (TokR.adv K z1), ?_⟩
      rw [show (ck (tkK T (i + 1)) = 7170414) = (tkK T (i + 1) = 15) from TokR.ckE (TokR.adv K z1) 15 rfl]
      refine ⟨fun c3 => ?_, fun c3 => ?_⟩
      · have H := H.2 c3
        refine ⟨(Ly.dt0 L (Ly.iT L) :), ?_⟩
        refine b_39_81 ?_
        refine ⟨(Ly.t93 L :), ?_⟩
        rw [show jr (wi (wi h 37 4 ((i + 1 : Nat) : Int)) (pT p) 12 2) 93 0 = 37 from (Ly.r93_0 L :)]
        refine ⟨(Ly.t37 L :), ?_⟩
        refine ⟨_, t_74 (d := d) (by omega) (Ly.wi (Ly.wi L (a := 37) (k := 4) (x := ((i + 1 : Nat) : Int)) (by decide)) (a := pT p) (k := 12) (x := 2) (by have := (Ly.iT L); unfold isD at this; omega)) (TokR.swi (TokR.adv K z1) (a := pT p) (k := 12) (x := 2) (by have := (Ly.iT L); unfold isD at this; omega)) (ns c2 (by decide)), ?_⟩
        refine b_39_88 ?_
        refine ⟨(Ly.t93 L :), ?_⟩
        refine b_39_93 ?_
        refine ⟨(Ly.t93 L :), ?_⟩
        rw [show jr (wl (wi (wi (wi h 37 4 ((i + 1 : Nat) : Int)) (pT p) 12 2) 37 4 ((i + 2 : Nat) : Int)) 93 7 1) 93 1 = pT p from (Ly.r93_1 L :)]
        refine ⟨(Ly.t93 L :), ?_⟩
        have H := H (Ly.wl (Ly.wi (Ly.wi (Ly.wi L (a := 37) (k := 4) (x := ((i + 1 : Nat) : Int)) (by decide)) (a := pT p) (k := 12) (x := 2) (by have := (Ly.iT L); unfold isD at this; omega)) (a := 37) (k := 4) (x := ((i + 2 : Nat) : Int)) (by decide)) (a := 93) (k := 7) (x := 1)) (TokR.swl (TokR.adv (TokR.swi (TokR.adv K z1) (a := pT p) (k := 12) (x := 2) (by have := (Ly.iT L); unfold isD at this; omega)) (ns c2 (by decide))) (a := 93) (k := 7) (x := 1))
        obtain ⟨p9, h4, e6, L5, i7, K8, H⟩ := H
        refine ⟨p9, h4, e6, ?_⟩
        refine ⟨(Ly.dt0 L5 (Ly.iT L5) :), ?_⟩
        refine b_39_105 ?_
        refine ⟨(Ly.t93 (Ly.wr L5 (a := pT p) (k := 13) (b := p9) (by have := (Ly.iT L5); unfold isD at this; unfold mutR; omega)) :), ?_⟩
        rw [show jr (wr h4 (pT p) 13 p9) 93 1 = pT p from (Ly.r93_1 (Ly.wr L5 (a := pT p) (k := 13) (b := p9) (by have := (Ly.iT L5); unfold isD at this; unfold mutR; omega)) :)]
        refine ⟨(Ly.dt0 (Ly.wr L5 (a := pT p) (k := 13) (b := p9) (by have := (Ly.iT L5); unfold isD at this; unfold mutR; omega)) (Ly.iT (Ly.wr L5 (a := pT p) (k := 13) (b := p9) (by have := (Ly.iT L5); unfold isD at this; unfold mutR; omega))) :), ?_⟩
        obtain ⟨z11, H⟩ := H
        refine ⟨z11, fun c12 => ?_, fun c12 => ?_⟩
        · have H := H.1 c12
          refine ⟨Or.inl rfl, ?_⟩
          exact H (Ly.wr L5 (a := pT p) (k := 13) (b := p9) (by have := (Ly.iT L5); unfold isD at this; unfold mutR; omega)) (TokR.swr K8 (a := pT p) (k := 13) (x := p9))
        · have H := H.2 c12
          refine ⟨(Ly.t93 (Ly.wr L5 (a := pT p) (k := 13) (b := p9) (by have := (Ly.iT L5); unfold isD at this; unfold mutR; omega)) :), ?_⟩
          rw [show jr (wr h4 (pT p) 13 p9) 93 0 = 37 from (Ly.r93_0 (Ly.wr L5 (a := pT p) (k := 13) (b := p9) (by have := (Ly.iT L5); unfold isD at this; unfold mutR; omega)) :)]
          refine ⟨(Ly.t37 (Ly.wr L5 (a := pT p) (k := 13) (b := p9) (by have := (Ly.iT L5); unfold isD at this; unfold mutR; omega)) :), ?_⟩
          by_cases c10 : tkK T i7 = 159
          · have H := H.1 c10
            refine ⟨_, _, t_75y (d := d) (by omega) (Ly.wr L5 (a := pT p) (k := 13) (b := p9) (by have := (Ly.iT L5); unfold isD at this; unfold mutR; omega)) (TokR.swr K8 (a := pT p) (k := 13) (x := p9)) 159 rfl c10 (ns c10 (by decide)), ?_⟩
            refine ⟨fun c => absurd c (by decide), fun _ => ?_⟩
            refine ⟨Or.inr rfl, ?_⟩
            exact H (Ly.wi (Ly.wr L5 (a := pT p) (k := 13) (b := p9) (by have := (Ly.iT L5); unfold isD at this; unfold mutR; omega)) (a := 37) (k := 4) (x := ((i7 + 1 : Nat) : Int)) (by decide)) (TokR.adv (TokR.swr K8 (a := pT p) (k := 13) (x := p9)) (ns c10 (by decide)))
          · have H := H.2 c10
            refine ⟨_, _, t_75n (d := d) (by omega) (Ly.wr L5 (a := pT p) (k := 13) (b := p9) (by have := (Ly.iT L5); unfold isD at this; unfold mutR; omega)) (TokR.swr K8 (a := pT p) (k := 13) (x := p9)) 159 rfl c10, ?_⟩
            refine ⟨fun _ => ?_, fun c => absurd (by decide) c⟩
            refine ⟨Or.inl rfl, ?_⟩
            exact H (Ly.wi (Ly.wr L5 (a := pT p) (k := 13) (b := p9) (by have := (Ly.iT L5); unfold isD at this; unfold mutR; omega)) (a := 37) (k := 5) (x := -10 - (tkP T i7 : Int)) (by decide)) (TokR.flt (TokR.swr K8 (a := pT p) (k := 13) (x := p9)))
      · have c3 := Decidable.not_not.mp c3
        have H := H.1 c3
        refine ⟨(Ly.dt0 L (Ly.iT L) :), ?_⟩
        refine b_39_81 ?_
        refine ⟨(Ly.t93 L :), ?_⟩
        rw [show jr (wi (wi h 37 4 ((i + 1 : Nat) : Int)) (pT p) 12 1) 93 0 = 37 from (Ly.r93_0 L :)]
        refine ⟨(Ly.t37 L :), ?_⟩
        refine ⟨_, t_74 (d := d) (by omega) (Ly.wi (Ly.wi L (a := 37) (k := 4) (x := ((i + 1 : Nat) : Int)) (by decide)) (a := pT p) (k := 12) (x := 1) (by have := (Ly.iT L); unfold isD at this; omega)) (TokR.swi (TokR.adv K z1) (a := pT p) (k := 12) (x := 1) (by have := (Ly.iT L); unfold isD at this; omega)) (ns c3 (by decide)), ?_⟩
        refine b_39_88 ?_
        refine ⟨(Ly.t93 L :), ?_⟩
        refine b_39_93 ?_
        refine ⟨(Ly.t93 L :), ?_⟩
        rw [show jr (wl (wi (wi (wi h 37 4 ((i + 1 : Nat) : Int)) (pT p) 12 1) 37 4 ((i + 2 : Nat) : Int)) 93 7 1) 93 1 = pT p from (Ly.r93_1 L :)]
        refine ⟨(Ly.t93 L :), ?_⟩
        have H := H (Ly.wl (Ly.wi (Ly.wi (Ly.wi L (a := 37) (k := 4) (x := ((i + 1 : Nat) : Int)) (by decide)) (a := pT p) (k := 12) (x := 1) (by have := (Ly.iT L); unfold isD at this; omega)) (a := 37) (k := 4) (x := ((i + 2 : Nat) : Int)) (by decide)) (a := 93) (k := 7) (x := 1)) (TokR.swl (TokR.adv (TokR.swi (TokR.adv K z1) (a := pT p) (k := 12) (x := 1) (by have := (Ly.iT L); unfold isD at this; omega)) (ns c3 (by decide))) (a := 93) (k := 7) (x := 1))
        obtain ⟨p18, h13, e15, L14, i16, K17, H⟩ := H
        refine ⟨p18, h13, e15, ?_⟩
        refine ⟨(Ly.dt0 L14 (Ly.iT L14) :), ?_⟩
        refine b_39_105 ?_
        refine ⟨(Ly.t93 (Ly.wr L14 (a := pT p) (k := 13) (b := p18) (by have := (Ly.iT L14); unfold isD at this; unfold mutR; omega)) :), ?_⟩
        rw [show jr (wr h13 (pT p) 13 p18) 93 1 = pT p from (Ly.r93_1 (Ly.wr L14 (a := pT p) (k := 13) (b := p18) (by have := (Ly.iT L14); unfold isD at this; unfold mutR; omega)) :)]
        refine ⟨(Ly.dt0 (Ly.wr L14 (a := pT p) (k := 13) (b := p18) (by have := (Ly.iT L14); unfold isD at this; unfold mutR; omega)) (Ly.iT (Ly.wr L14 (a := pT p) (k := 13) (b := p18) (by have := (Ly.iT L14); unfold isD at this; unfold mutR; omega))) :), ?_⟩
        obtain ⟨z20, H⟩ := H
        refine ⟨z20, fun c21 => ?_, fun c21 => ?_⟩
        · have H := H.1 c21
          refine ⟨Or.inl rfl, ?_⟩
          exact H (Ly.wr L14 (a := pT p) (k := 13) (b := p18) (by have := (Ly.iT L14); unfold isD at this; unfold mutR; omega)) (TokR.swr K17 (a := pT p) (k := 13) (x := p18))
        · have H := H.2 c21
          refine ⟨(Ly.t93 (Ly.wr L14 (a := pT p) (k := 13) (b := p18) (by have := (Ly.iT L14); unfold isD at this; unfold mutR; omega)) :), ?_⟩
          rw [show jr (wr h13 (pT p) 13 p18) 93 0 = 37 from (Ly.r93_0 (Ly.wr L14 (a := pT p) (k := 13) (b := p18) (by have := (Ly.iT L14); unfold isD at this; unfold mutR; omega)) :)]
          refine ⟨(Ly.t37 (Ly.wr L14 (a := pT p) (k := 13) (b := p18) (by have := (Ly.iT L14); unfold isD at this; unfold mutR; omega)) :), ?_⟩
          by_cases c19 : tkK T i16 = 159
          · have H := H.1 c19
            refine ⟨_, _, t_75y (d := d) (by omega) (Ly.wr L14 (a := pT p) (k := 13) (b := p18) (by have := (Ly.iT L14); unfold isD at this; unfold mutR; omega)) (TokR.swr K17 (a := pT p) (k := 13) (x := p18)) 159 rfl c19 (ns c19 (by decide)), ?_⟩
            refine ⟨fun c => absurd c (by decide), fun _ => ?_⟩
            refine ⟨Or.inr rfl, ?_⟩
            exact H (Ly.wi (Ly.wr L14 (a := pT p) (k := 13) (b := p18) (by have := (Ly.iT L14); unfold isD at this; unfold mutR; omega)) (a := 37) (k := 4) (x := ((i16 + 1 : Nat) : Int)) (by decide)) (TokR.adv (TokR.swr K17 (a := pT p) (k := 13) (x := p18)) (ns c19 (by decide)))
          · have H := H.2 c19
            refine ⟨_, _, t_75n (d := d) (by omega) (Ly.wr L14 (a := pT p) (k := 13) (b := p18) (by have := (Ly.iT L14); unfold isD at this; unfold mutR; omega)) (TokR.swr K17 (a := pT p) (k := 13) (x := p18)) 159 rfl c19, ?_⟩
            refine ⟨fun _ => ?_, fun c => absurd (by decide) c⟩
            refine ⟨Or.inl rfl, ?_⟩
            exact H (Ly.wi (Ly.wr L14 (a := pT p) (k := 13) (b := p18) (by have := (Ly.iT L14); unfold isD at this; unfold mutR; omega)) (a := 37) (k := 5) (x := -10 - (tkP T i16 : Int)) (by decide)) (TokR.flt (TokR.swr K17 (a := pT p) (k := 13) (x := p18)))
    · have H := H.2 c2
      refine ⟨(Ly.t93 L :), ?_⟩
      rw [show jr (wi h 37 4 ((i + 1 : Nat) : Int)) 93 0 = 37 from (Ly.r93_0 L :)]
      refine ⟨(Ly.t37 L :), ?_⟩
      refine ⟨_, _, t_70 (d := d) (by omega) (Ly.wi L (a := 37) (k := 4) (x := ((i + 1 : Nat) : Int)) (by decide)) (TokR.adv K z1), ?_⟩
      rw [show (ck (tkK T (i + 1)) = 7168376) = (tkK T (i + 1) = 16) from TokR.ckE (TokR.adv K z1) 16 rfl]
      refine ⟨fun c22 => ?_, fun c22 => ?_⟩
      · have H := H.1 c22
        refine ⟨(Ly.t93 L :), ?_⟩
        rw [show jr (wi h 37 4 ((i + 1 : Nat) : Int)) 93 1 = pT p from (Ly.r93_1 L :)]
        refine ⟨(Ly.t93 L :), ?_⟩
        rw [show jr (wi h 37 4 ((i + 1 : Nat) : Int)) 93 0 = 37 from (Ly.r93_0 L :)]
        refine ⟨(Ly.t37 L :), ?_⟩
        refine ⟨_, _, t_70 (d := d) (by omega) (Ly.wi L (a := 37) (k := 4) (x := ((i + 1 : Nat) : Int)) (by decide)) (TokR.adv K z1), ?_⟩
        rw [show (ck (tkK T (i + 1)) = 7170414) = (tkK T (i + 1) = 15) from TokR.ckE (TokR.adv K z1) 15 rfl]
        refine ⟨fun c23 => ?_, fun c23 => ?_⟩
        · have H := H.2 c23
          refine ⟨(Ly.dt0 L (Ly.iT L) :), ?_⟩
          refine b_39_81 ?_
          refine ⟨(Ly.t93 L :), ?_⟩
          rw [show jr (wi (wi h 37 4 ((i + 1 : Nat) : Int)) (pT p) 12 2) 93 0 = 37 from (Ly.r93_0 L :)]
          refine ⟨(Ly.t37 L :), ?_⟩
          refine ⟨_, t_74 (d := d) (by omega) (Ly.wi (Ly.wi L (a := 37) (k := 4) (x := ((i + 1 : Nat) : Int)) (by decide)) (a := pT p) (k := 12) (x := 2) (by have := (Ly.iT L); unfold isD at this; omega)) (TokR.swi (TokR.adv K z1) (a := pT p) (k := 12) (x := 2) (by have := (Ly.iT L); unfold isD at this; omega)) (ns c22 (by decide)), ?_⟩
          refine b_39_88 ?_
          refine ⟨(Ly.t93 L :), ?_⟩
          refine b_39_93 ?_
          refine ⟨(Ly.t93 L :), ?_⟩
          rw [show jr (wl (wi (wi (wi h 37 4 ((i + 1 : Nat) : Int)) (pT p) 12 2) 37 4 ((i + 2 : Nat) : Int)) 93 7 1) 93 1 = pT p from (Ly.r93_1 L :)]
          refine ⟨(Ly.t93 L :), ?_⟩
          have H := H (Ly.wl (Ly.wi (Ly.wi (Ly.wi L (a := 37) (k := 4) (x := ((i + 1 : Nat) : Int)) (by decide)) (a := pT p) (k := 12) (x := 2) (by have := (Ly.iT L); unfold isD at this; omega)) (a := 37) (k := 4) (x := ((i + 2 : Nat) : Int)) (by decide)) (a := 93) (k := 7) (x := 1)) (TokR.swl (TokR.adv (TokR.swi (TokR.adv K z1) (a := pT p) (k := 12) (x := 2) (by have := (Ly.iT L); unfold isD at this; omega)) (ns c22 (by decide))) (a := 93) (k := 7) (x := 1))
          obtain ⟨p29, h24, e26, L25, i27, K28, H⟩ := H
          refine ⟨p29, h24, e26, ?_⟩
          refine ⟨(Ly.dt0 L25 (Ly.iT L25) :), ?_⟩
          refine b_39_105 ?_
          refine ⟨(Ly.t93 (Ly.wr L25 (a := pT p) (k := 13) (b := p29) (by have := (Ly.iT L25); unfold isD at this; unfold mutR; omega)) :), ?_⟩
          rw [show jr (wr h24 (pT p) 13 p29) 93 1 = pT p from (Ly.r93_1 (Ly.wr L25 (a := pT p) (k := 13) (b := p29) (by have := (Ly.iT L25); unfold isD at this; unfold mutR; omega)) :)]
          refine ⟨(Ly.dt0 (Ly.wr L25 (a := pT p) (k := 13) (b := p29) (by have := (Ly.iT L25); unfold isD at this; unfold mutR; omega)) (Ly.iT (Ly.wr L25 (a := pT p) (k := 13) (b := p29) (by have := (Ly.iT L25); unfold isD at this; unfold mutR; omega))) :), ?_⟩
          obtain ⟨z31, H⟩ := H
          refine ⟨z31, fun c32 => ?_, fun c32 => ?_⟩
          · have H := H.1 c32
            refine ⟨Or.inl rfl, ?_⟩
            exact H (Ly.wr L25 (a := pT p) (k := 13) (b := p29) (by have := (Ly.iT L25); unfold isD at this; unfold mutR; omega)) (TokR.swr K28 (a := pT p) (k := 13) (x := p29))
          · have H := H.2 c32
            refine ⟨(Ly.t93 (Ly.wr L25 (a := pT p) (k := 13) (b := p29) (by have := (Ly.iT L25); unfold isD at this; unfold mutR; omega)) :), ?_⟩
            rw [show jr (wr h24 (pT p) 13 p29) 93 0 = 37 from (Ly.r93_0 (Ly.wr L25 (a := pT p) (k := 13) (b := p29) (by have := (Ly.iT L25); unfold isD at this; unfold mutR; omega)) :)]
            refine ⟨(Ly.t37 (Ly.wr L25 (a := pT p) (k := 13) (b := p29) (by have := (Ly.iT L25); unfold isD at this; unfold mutR; omega)) :), ?_⟩
            by_cases c30 : tkK T i27 = 159
            · have H := H.1 c30
              refine ⟨_, _, t_75y (d := d) (by omega) (Ly.wr L25 (a := pT p) (k := 13) (b := p29) (by have := (Ly.iT L25); unfold isD at this; unfold mutR; omega)) (TokR.swr K28 (a := pT p) (k := 13) (x := p29)) 159 rfl c30 (ns c30 (by decide)), ?_⟩
              refine ⟨fun c => absurd c (by decide), fun _ => ?_⟩
              refine ⟨Or.inr rfl, ?_⟩
              exact H (Ly.wi (Ly.wr L25 (a := pT p) (k := 13) (b := p29) (by have := (Ly.iT L25); unfold isD at this; unfold mutR; omega)) (a := 37) (k := 4) (x := ((i27 + 1 : Nat) : Int)) (by decide)) (TokR.adv (TokR.swr K28 (a := pT p) (k := 13) (x := p29)) (ns c30 (by decide)))
            · have H := H.2 c30
              refine ⟨_, _, t_75n (d := d) (by omega) (Ly.wr L25 (a := pT p) (k := 13) (b := p29) (by have := (Ly.iT L25); unfold isD at this; unfold mutR; omega)) (TokR.swr K28 (a := pT p) (k := 13) (x := p29)) 159 rfl c30, ?_⟩
              refine ⟨fun _ => ?_, fun c => absurd (by decide) c⟩
              refine ⟨Or.inl rfl, ?_⟩
              exact H (Ly.wi (Ly.wr L25 (a := pT p) (k := 13) (b := p29) (by have := (Ly.iT L25); unfold isD at this; unfold mutR; omega)) (a := 37) (k := 5) (x := -10 - (tkP T i27 : Int)) (by decide)) (TokR.flt (TokR.swr K28 (a := pT p) (k := 13) (x := p29)))
        · have c23 := Decidable.not_not.mp c23
          have H := H.1 c23
          refine ⟨(Ly.dt0 L (Ly.iT L) :), ?_⟩
          refine b_39_81 ?_
          refine ⟨(Ly.t93 L :), ?_⟩
          rw [show jr (wi (wi h 37 4 ((i + 1 : Nat) : Int)) (pT p) 12 1) 93 0 = 37 from (Ly.r93_0 L :)]
          refine ⟨(Ly.t37 L :), ?_⟩
          refine ⟨_, t_74 (d := d) (by omega) (Ly.wi (Ly.wi L (a := 37) (k := 4) (x := ((i + 1 : Nat) : Int)) (by decide)) (a := pT p) (k := 12) (x := 1) (by have := (Ly.iT L); unfold isD at this; omega)) (TokR.swi (TokR.adv K z1) (a := pT p) (k := 12) (x := 1) (by have := (Ly.iT L); unfold isD at this; omega)) (ns c23 (by decide)), ?_⟩
          refine b_39_88 ?_
          refine ⟨(Ly.t93 L :), ?_⟩
          refine b_39_93 ?_
          refine ⟨(Ly.t93 L :), ?_⟩
          rw [show jr (wl (wi (wi (wi h 37 4 ((i + 1 : Nat) : Int)) (pT p) 12 1) 37 4 ((i + 2 : Nat) : Int)) 93 7 1) 93 1 = pT p from (Ly.r93_1 L :)]
          refine ⟨(Ly.t93 L :), ?_⟩
          have H := H (Ly.wl (Ly.wi (Ly.wi (Ly.wi L (a := 37) (k := 4) (x := ((i + 1 : Nat) : Int)) (by decide)) (a := pT p) (k := 12) (x := 1) (by have := (Ly.iT L); unfold isD at this; omega)) (a := 37) (k := 4) (x := ((i + 2 : Nat) : Int)) (by decide)) (a := 93) (k := 7) (x := 1)) (TokR.swl (TokR.adv (TokR.swi (TokR.adv K z1) (a := pT p) (k := 12) (x := 1) (by have := (Ly.iT L); unfold isD at this; omega)) (ns c23 (by decide))) (a := 93) (k := 7) (x := 1))
          obtain ⟨p38, h33, e35, L34, i36, K37, H⟩ := H
          refine ⟨p38, h33, e35, ?_⟩
          refine ⟨(Ly.dt0 L34 (Ly.iT L34) :), ?_⟩
          refine b_39_105 ?_
          refine ⟨(Ly.t93 (Ly.wr L34 (a := pT p) (k := 13) (b := p38) (by have := (Ly.iT L34); unfold isD at this; unfold mutR; omega)) :), ?_⟩
          rw [show jr (wr h33 (pT p) 13 p38) 93 1 = pT p from (Ly.r93_1 (Ly.wr L34 (a := pT p) (k := 13) (b := p38) (by have := (Ly.iT L34); unfold isD at this; unfold mutR; omega)) :)]
          refine ⟨(Ly.dt0 (Ly.wr L34 (a := pT p) (k := 13) (b := p38) (by have := (Ly.iT L34); unfold isD at this; unfold mutR; omega)) (Ly.iT (Ly.wr L34 (a := pT p) (k := 13) (b := p38) (by have := (Ly.iT L34); unfold isD at this; unfold mutR; omega))) :), ?_⟩
          obtain ⟨z40, H⟩ := H
          refine ⟨z40, fun c41 => ?_, fun c41 => ?_⟩
          · have H := H.1 c41
            refine ⟨Or.inl rfl, ?_⟩
            exact H (Ly.wr L34 (a := pT p) (k := 13) (b := p38) (by have := (Ly.iT L34); unfold isD at this; unfold mutR; omega)) (TokR.swr K37 (a := pT p) (k := 13) (x := p38))
          · have H := H.2 c41
            refine ⟨(Ly.t93 (Ly.wr L34 (a := pT p) (k := 13) (b := p38) (by have := (Ly.iT L34); unfold isD at this; unfold mutR; omega)) :), ?_⟩
            rw [show jr (wr h33 (pT p) 13 p38) 93 0 = 37 from (Ly.r93_0 (Ly.wr L34 (a := pT p) (k := 13) (b := p38) (by have := (Ly.iT L34); unfold isD at this; unfold mutR; omega)) :)]
            refine ⟨(Ly.t37 (Ly.wr L34 (a := pT p) (k := 13) (b := p38) (by have := (Ly.iT L34); unfold isD at this; unfold mutR; omega)) :), ?_⟩
            by_cases c39 : tkK T i36 = 159
            · have H := H.1 c39
              refine ⟨_, _, t_75y (d := d) (by omega) (Ly.wr L34 (a := pT p) (k := 13) (b := p38) (by have := (Ly.iT L34); unfold isD at this; unfold mutR; omega)) (TokR.swr K37 (a := pT p) (k := 13) (x := p38)) 159 rfl c39 (ns c39 (by decide)), ?_⟩
              refine ⟨fun c => absurd c (by decide), fun _ => ?_⟩
              refine ⟨Or.inr rfl, ?_⟩
              exact H (Ly.wi (Ly.wr L34 (a := pT p) (k := 13) (b := p38) (by have := (Ly.iT L34); unfold isD at this; unfold mutR; omega)) (a := 37) (k := 4) (x := ((i36 + 1 : Nat) : Int)) (by decide)) (TokR.adv (TokR.swr K37 (a := pT p) (k := 13) (x := p38)) (ns c39 (by decide)))
            · have H := H.2 c39
              refine ⟨_, _, t_75n (d := d) (by omega) (Ly.wr L34 (a := pT p) (k := 13) (b := p38) (by have := (Ly.iT L34); unfold isD at this; unfold mutR; omega)) (TokR.swr K37 (a := pT p) (k := 13) (x := p38)) 159 rfl c39, ?_⟩
              refine ⟨fun _ => ?_, fun c => absurd (by decide) c⟩
              refine ⟨Or.inl rfl, ?_⟩
              exact H (Ly.wi (Ly.wr L34 (a := pT p) (k := 13) (b := p38) (by have := (Ly.iT L34); unfold isD at this; unfold mutR; omega)) (a := 37) (k := 5) (x := -10 - (tkP T i36 : Int)) (by decide)) (TokR.flt (TokR.swr K37 (a := pT p) (k := 13) (x := p38)))
      · have H := H.2 c22
        refine ⟨(Ly.t93 L :), ?_⟩
        rw [show jr (wi h 37 4 ((i + 1 : Nat) : Int)) 93 0 = 37 from (Ly.r93_0 L :)]
        refine ⟨(Ly.t37 L :), ?_⟩
        refine ⟨_, _, t_76 (d := d) (by omega) (Ly.wi L (a := 37) (k := 4) (x := ((i + 1 : Nat) : Int)) (by decide)) (TokR.adv K z1), ?_⟩
        refine ⟨Or.inl rfl, ?_⟩
        exact H (Ly.wi (Ly.wi L (a := 37) (k := 4) (x := ((i + 1 : Nat) : Int)) (by decide)) (a := 37) (k := 5) (x := -10 - (tkP T (i + 1) : Int)) (by decide)) (TokR.flt (TokR.adv K z1))
  · have H := H.2 c42
    refine ⟨(Ly.t93 L :), ?_⟩
    rw [show jr h 93 0 = 37 from (Ly.r93_0 L :)]
    refine ⟨(Ly.t37 L :), ?_⟩
    refine ⟨_, _, t_76 (d := d) (by omega) L K, ?_⟩
    refine ⟨Or.inl rfl, ?_⟩
    exact H (Ly.wi L (a := 37) (k := 5) (x := -10 - (tkP T i : Int)) (by decide)) (TokR.flt K)
