-- needs: 20.num 21.lay 22.spec 23.va 24.leaf 25.tbls 26.thg 27.tok
set_option maxRecDepth 100000 in
theorem c_37_0 {p : Lpar} {d : Nat} {h : AH} {Q : Option AV → AH → Prop}  (hd : 9 ≤ d) (L : Ly p h) {T : Txt} {e i : Nat} (K : TokR T e i h) (H : ∃ x6 h1, jE d 33 [jP 93, jI 3, jI (ji h (pT p + 22) 4), jI 10] h (some (jI x6)) h1 ∧ Ly p h1 ∧ ∃ i4, TokR T e i4 h1 ∧ (x6 = (0 : Int) → Q (some (jI 0)) h1) ∧ (¬ x6 = (0 : Int) → (tkK T i4 = 19 → (Ly p (wi h1 37 4 ((i4 + 1 : Nat) : Int)) → TokR T e (i4 + 1) (wi h1 37 4 ((i4 + 1 : Nat) : Int)) → ∃ x13 h8, jE d 43 [jP 93] (wi h1 37 4 ((i4 + 1 : Nat) : Int)) (some (jI x13)) h8 ∧ Ly p h8 ∧ ∃ i11, TokR T e i11 h8 ∧ (x13 = (0 : Int) → Q (some (jI 0)) h8) ∧ (¬ x13 = (0 : Int) → (tkK T i11 = 158 → (Ly p (wi h8 37 4 ((i11 + 1 : Nat) : Int)) → TokR T e (i11 + 1) (wi h8 37 4 ((i11 + 1 : Nat) : Int)) → ∃ x20 h15, jE d 44 [jP 93, jI 0] (wi h8 37 4 ((i11 + 1 : Nat) : Int)) (some (jI x20)) h15 ∧ Ly p h15 ∧ ∃ i18, TokR T e i18 h15 ∧ ∃ x26 h21, jE d 44 [jP 93, jI 1] h15 (some (jI x26)) h21 ∧ Ly p h21 ∧ ∃ i24, TokR T e i24 h21 ∧ ∃ h27, jE d 59 [jP (pT p + 22), jI x20, jI x26] h21 none h27 ∧ Ly p h27 ∧ ∃ i30, TokR T e i30 h27 ∧ ∃ x37 h32, jE d 44 [jP 93, jI 0] h27 (some (jI x37)) h32 ∧ Ly p h32 ∧ ∃ i35, TokR T e i35 h32 ∧ ∃ x43 h38, jE d 53 [jP (pT p + 5), jI x37] h32 (some (jI x43)) h38 ∧ Ly p h38 ∧ ∃ i41, TokR T e i41 h38 ∧ ∃ x49 h44, jE d 44 [jP 93, jI 1] h38 (some (jI x49)) h44 ∧ Ly p h44 ∧ ∃ i47, TokR T e i47 h44 ∧ ∃ x55 h50, jE d 53 [jP (pT p + 5), jI x49] h44 (some (jI x55)) h50 ∧ Ly p h50 ∧ ∃ i53, TokR T e i53 h50 ∧ (Ly p (wl h50 93 7 (w32 (x43 * x55))) → TokR T e i53 (wl h50 93 7 (w32 (x43 * x55))) → ∃ p61 h56, jE d 46 [jP 93, jI 0] (wl h50 93 7 (w32 (x43 * x55))) (some (jP p61)) h56 ∧ Ly p h56 ∧ ∃ i59, TokR T e i59 h56 ∧ 0 ≤ (ji h (pT p + 22) 4) ∧ (ji h (pT p + 22) 4) < 10 ∧ (p61 = 0 ∨ jt h56 p61 = 6) ∧ 0 ≤ (ji h (pT p + 22) 4) ∧ (ji h (pT p + 22) 4) < 10 ∧ ¬ (jr (wr h56 (pT p + 12) (Int.toNat (ji h (pT p + 22) 4)) p61) (pT p + 12) (Int.toNat (ji h (pT p + 22) 4))) = 1 ∧ ((jr (wr h56 (pT p + 12) (Int.toNat (ji h (pT p + 22) 4)) p61) (pT p + 12) (Int.toNat (ji h (pT p + 22) 4))) = 0 → (Ly p (wr h56 (pT p + 12) (Int.toNat (ji h (pT p + 22) 4)) p61) → TokR T e i59 (wr h56 (pT p + 12) (Int.toNat (ji h (pT p + 22) 4)) p61) → Q (some (jI 0)) (wr h56 (pT p + 12) (Int.toNat (ji h (pT p + 22) 4)) p61))) ∧ (¬ (jr (wr h56 (pT p + 12) (Int.toNat (ji h (pT p + 22) 4)) p61) (pT p + 12) (Int.toNat (ji h (pT p + 22) 4))) = 0 → (Ly p (wr h56 (pT p + 12) (Int.toNat (ji h (pT p + 22) 4)) p61) → TokR T e i59 (wr h56 (pT p + 12) (Int.toNat (ji h (pT p + 22) 4)) p61) → ∃ x69 h64, jE d 38 [jP 93, jI (ji h (pT p + 22) 4)] (wr h56 (pT p + 12) (Int.toNat (ji h (pT p + 22) 4)) p61) (some (jI x69)) h64 ∧ Ly p h64 ∧ ∃ i67, TokR T e i67 h64 ∧ (x69 = (0 : Int) → Q (some (jI 0)) h64) ∧ (¬ x69 = (0 : Int) → ∃ p75 h70, jE d 46 [jP 93, jI 0] h64 (some (jP p75)) h70 ∧ Ly p h70 ∧ ∃ i73, TokR T e i73 h70 ∧ 0 ≤ (ji h (pT p + 22) 4) ∧ (ji h (pT p + 22) 4) < 10 ∧ (p75 = 0 ∨ jt h70 p75 = 6) ∧ (Ly p (wr h70 (pT p + 13) (Int.toNat (ji h (pT p + 22) 4)) p75) → TokR T e i73 (wr h70 (pT p + 13) (Int.toNat (ji h (pT p + 22) 4)) p75) → ∃ h76, jE d 45 [jP 93, jI 0] (wr h70 (pT p + 13) (Int.toNat (ji h (pT p + 22) 4)) p75) none h76 ∧ Ly p h76 ∧ ∃ i79, TokR T e i79 h76 ∧ 0 ≤ (ji h (pT p + 22) 4) ∧ (ji h (pT p + 22) 4) < 10 ∧ ¬ (jr h76 (pT p + 13) (Int.toNat (ji h (pT p + 22) 4))) = 1 ∧ ((jr h76 (pT p + 13) (Int.toNat (ji h (pT p + 22) 4))) = 0 → Q (some (jI 0)) h76) ∧ (¬ (jr h76 (pT p + 13) (Int.toNat (ji h (pT p + 22) 4))) = 0 → (tkK T i79 = 159 → (Ly p (wi h76 37 4 ((i79 + 1 : Nat) : Int)) → TokR T e (i79 + 1) (wi h76 37 4 ((i79 + 1 : Nat) : Int)) → Q (some (jI 1)) (wi h76 37 4 ((i79 + 1 : Nat) : Int)))) ∧ (¬ tkK T i79 = 159 → (Ly p (wi h76 37 5 (-10 - (tkP T i79 : Int))) → TokR T e i79 (wi h76 37 5 (-10 - (tkP T i79 : Int))) → Q (some (jI 0)) (wi h76 37 5 (-10 - (tkP T i79 : Int))))))))))))) ∧ (¬ tkK T i11 = 158 → (Ly p (wi h8 37 5 (-10 - (tkP T i11 : Int))) → TokR T e i11 (wi h8 37 5 (-10 - (tkP T i11 : Int))) → Q (some (jI 0)) (wi h8 37 5 (-10 - (tkP T i11 : Int)))))))) ∧ (¬ tkK T i4 = 19 → (tkK T i4 = 158 → (Ly p (wi h1 37 4 ((i4 + 1 : Nat) : Int)) → TokR T e (i4 + 1) (wi h1 37 4 ((i4 + 1 : Nat) : Int)) → ∃ x102 h97, jE d 44 [jP 93, jI 0] (wi h1 37 4 ((i4 + 1 : Nat) : Int)) (some (jI x102)) h97 ∧ Ly p h97 ∧ ∃ i100, TokR T e i100 h97 ∧ ∃ x108 h103, jE d 44 [jP 93, jI 1] h97 (some (jI x108)) h103 ∧ Ly p h103 ∧ ∃ i106, TokR T e i106 h103 ∧ ∃ h109, jE d 59 [jP (pT p + 22), jI x102, jI x108] h103 none h109 ∧ Ly p h109 ∧ ∃ i112, TokR T e i112 h109 ∧ ∃ x119 h114, jE d 44 [jP 93, jI 0] h109 (some (jI x119)) h114 ∧ Ly p h114 ∧ ∃ i117, TokR T e i117 h114 ∧ ∃ x125 h120, jE d 53 [jP (pT p + 5), jI x119] h114 (some (jI x125)) h120 ∧ Ly p h120 ∧ ∃ i123, TokR T e i123 h120 ∧ ∃ x131 h126, jE d 44 [jP 93, jI 1] h120 (some (jI x131)) h126 ∧ Ly p h126 ∧ ∃ i129, TokR T e i129 h126 ∧ ∃ x137 h132, jE d 53 [jP (pT p + 5), jI x131] h126 (some (jI x137)) h132 ∧ Ly p h132 ∧ ∃ i135, TokR T e i135 h132 ∧ (Ly p (wl h132 93 7 (w32 (x125 * x137))) → TokR T e i135 (wl h132 93 7 (w32 (x125 * x137))) → ∃ p143 h138, jE d 46 [jP 93, jI 0] (wl h132 93 7 (w32 (x125 * x137))) (some (jP p143)) h138 ∧ Ly p h138 ∧ ∃ i141, TokR T e i141 h138 ∧ 0 ≤ (ji h (pT p + 22) 4) ∧ (ji h (pT p + 22) 4) < 10 ∧ (p143 = 0 ∨ jt h138 p143 = 6) ∧ 0 ≤ (ji h (pT p + 22) 4) ∧ (ji h (pT p + 22) 4) < 10 ∧ ¬ (jr (wr h138 (pT p + 12) (Int.toNat (ji h (pT p + 22) 4)) p143) (pT p + 12) (Int.toNat (ji h (pT p + 22) 4))) = 1 ∧ ((jr (wr h138 (pT p + 12) (Int.toNat (ji h (pT p + 22) 4)) p143) (pT p + 12) (Int.toNat (ji h (pT p + 22) 4))) = 0 → (Ly p (wr h138 (pT p + 12) (Int.toNat (ji h (pT p + 22) 4)) p143) → TokR T e i141 (wr h138 (pT p + 12) (Int.toNat (ji h (pT p + 22) 4)) p143) → Q (some (jI 0)) (wr h138 (pT p + 12) (Int.toNat (ji h (pT p + 22) 4)) p143))) ∧ (¬ (jr (wr h138 (pT p + 12) (Int.toNat (ji h (pT p + 22) 4)) p143) (pT p + 12) (Int.toNat (ji h (pT p + 22) 4))) = 0 → (Ly p (wr h138 (pT p + 12) (Int.toNat (ji h (pT p + 22) 4)) p143) → TokR T e i141 (wr h138 (pT p + 12) (Int.toNat (ji h (pT p + 22) 4)) p143) → ∃ x151 h146, jE d 38 [jP 93, jI (ji h (pT p + 22) 4)] (wr h138 (pT p + 12) (Int.toNat (ji h (pT p + 22) 4)) p143) (some (jI x151)) h146 ∧ Ly p h146 ∧ ∃ i149, TokR T e i149 h146 ∧ (x151 = (0 : Int) → Q (some (jI 0)) h146) ∧ (¬ x151 = (0 : Int) → ∃ p157 h152, jE d 46 [jP 93, jI 0] h146 (some (jP p157)) h152 ∧ Ly p h152 ∧ ∃ i155, TokR T e i155 h152 ∧ 0 ≤ (ji h (pT p + 22) 4) ∧ (ji h (pT p + 22) 4) < 10 ∧ (p157 = 0 ∨ jt h152 p157 = 6) ∧ (Ly p (wr h152 (pT p + 13) (Int.toNat (ji h (pT p + 22) 4)) p157) → TokR T e i155 (wr h152 (pT p + 13) (Int.toNat (ji h (pT p + 22) 4)) p157) → ∃ h158, jE d 45 [jP 93, jI 0] (wr h152 (pT p + 13) (Int.toNat (ji h (pT p + 22) 4)) p157) none h158 ∧ Ly p h158 ∧ ∃ i161, TokR T e i161 h158 ∧ 0 ≤ (ji h (pT p + 22) 4) ∧ (ji h (pT p + 22) 4) < 10 ∧ ¬ (jr h158 (pT p + 13) (Int.toNat (ji h (pT p + 22) 4))) = 1 ∧ ((jr h158 (pT p + 13) (Int.toNat (ji h (pT p + 22) 4))) = 0 → Q (some (jI 0)) h158) ∧ (¬ (jr h158 (pT p + 13) (Int.toNat (ji h (pT p + 22) 4))) = 0 → (tkK T i161 = 159 → (Ly p (wi h158 37 4 ((i161 + 1 : Nat) : Int)) → TokR T e (i161 + 1) (wi h158 37 4 ((i161 + 1 : Nat) : Int)) → Q (some (jI 1)) (wi h158 37 4 ((i161 + 1 : Nat) : Int)))) ∧ (¬ tkK T i161 = 159 → (Ly p (wi h158 37 5 (-10 - (tkP T i161 : Int))) → TokR T e i161 (wi h158 37 5 (-10 - (tkP T i161 : Int))) → Q (some (jI 0)) (wi h158 37 5 (-10 - (tkP T i161 : Int))))))))))))) ∧ (¬ tkK T i4 = 158 → (Ly p (wi h1 37 5 (-10 - (tkP T i4 : Int))) → TokR T e i4 (wi h1 37 5 (-10 - (tkP T i4 : Int))) → Q (some (jI 0)) (wi h1 37 5 (-10 - (tkP T i4 : Int)))))))) : WF d 37 0 [jP 93, jU] [] h Q := by
  refine b_37_0 ?_
  refine ⟨(Ly.t93 L :), ?_⟩
  rw [show jr h 93 1 = pT p from (Ly.r93_1 L :)]
  refine ⟨(Ly.dt0 L (Ly.iT L) :), ?_⟩
  rw [show jr h (pT p) 4 = (pT p + 22) from (Ly.dr0_4 L (Ly.iT L) :)]
  refine ⟨(Ly.dt22 L (Ly.iT L) :), ?_⟩
  refine b_37_11 ?_
  refine ⟨(Ly.t93 L :), ?_⟩
  obtain ⟨x6, h1, e3, L2, i4, K5, H⟩ := H
  refine ⟨x6, h1, e3, ?_⟩
  refine ⟨fun c177 => ?_, fun c177 => ?_⟩
  · have H := H.2 c177
    refine ⟨(Ly.t93 L2 :), ?_⟩
    rw [show jr h1 93 0 = 37 from (Ly.r93_0 L2 :)]
    refine ⟨(Ly.t37 L2 :), ?_⟩
    refine ⟨_, _, t_70 (d := d) (by omega) L2 K5, ?_⟩
    rw [show (ck (tkK T i4) = 6713202) = (tkK T i4 = 19) from TokR.ckE K5 19 rfl]
    refine ⟨fun c7 => ?_, fun c7 => ?_⟩
    · have H := H.2 c7
      refine ⟨(Ly.t93 L2 :), ?_⟩
      rw [show jr h1 93 0 = 37 from (Ly.r93_0 L2 :)]
      refine ⟨(Ly.t37 L2 :), ?_⟩
      by_cases c96 : tkK T i4 = 158
      · have H := H.1 c96
        refine ⟨_, _, t_75y (d := d) (by omega) L2 K5 158 rfl c96 (ns c96 (by decide)), ?_⟩
        refine ⟨fun _ => ?_, fun c => absurd (by decide) c⟩
        refine ⟨(Ly.t93 L2 :), ?_⟩
        rw [show jr (wi h1 37 4 ((i4 + 1 : Nat) : Int)) 93 1 = pT p from (Ly.r93_1 L2 :)]
        refine ⟨(Ly.dt0 L2 (Ly.iT L2) :), ?_⟩
        rw [show jr (wi h1 37 4 ((i4 + 1 : Nat) : Int)) (pT p) 4 = (pT p + 22) from (Ly.dr0_4 L2 (Ly.iT L2) :)]
        refine ⟨(Ly.t93 L2 :), ?_⟩
        have H := H (Ly.wi L2 (a := 37) (k := 4) (x := ((i4 + 1 : Nat) : Int)) (by decide)) (TokR.adv K5 (ns c96 (by decide)))
        obtain ⟨x102, h97, e99, L98, i100, K101, H⟩ := H
        refine ⟨x102, h97, e99, ?_⟩
        refine ⟨(Ly.t93 L98 :), ?_⟩
        obtain ⟨x108, h103, e105, L104, i106, K107, H⟩ := H
        refine ⟨x108, h103, e105, ?_⟩
        refine ⟨(Ly.dt22 L104 (Ly.iT L104) :), ?_⟩
        obtain ⟨h109, e111, L110, i112, K113, H⟩ := H
        refine ⟨h109, e111, ?_⟩
        refine b_37_86 ?_
        refine ⟨(Ly.t93 L110 :), ?_⟩
        rw [show jr h109 93 1 = pT p from (Ly.r93_1 L110 :)]
        refine ⟨(Ly.dt0 L110 (Ly.iT L110) :), ?_⟩
        rw [show jr h109 (pT p) 1 = (pT p + 5) from (Ly.dr0_1 L110 (Ly.iT L110) :)]
        refine ⟨(Ly.t93 L110 :), ?_⟩
        obtain ⟨x119, h114, e116, L115, i117, K118, H⟩ := H
        refine ⟨x119, h114, e116, ?_⟩
        refine ⟨(Ly.dt5 L115 (Ly.iT L115) :), ?_⟩
        obtain ⟨x125, h120, e122, L121, i123, K124, H⟩ := H
        refine ⟨x125, h120, e122, ?_⟩
        refine ⟨(Ly.t93 L121 :), ?_⟩
        rw [show jr h120 93 1 = pT p from (Ly.r93_1 L121 :)]
        refine ⟨(Ly.dt0 L121 (Ly.iT L121) :), ?_⟩
        rw [show jr h120 (pT p) 1 = (pT p + 5) from (Ly.dr0_1 L121 (Ly.iT L121) :)]
        refine ⟨(Ly.t93 L121 :), ?_⟩
        obtain ⟨x131, h126, e128, L127, i129, K130, H⟩ := H
        refine ⟨x131, h126, e128, ?_⟩
        refine ⟨(Ly.dt5 L127 (Ly.iT L127) :), ?_⟩
        obtain ⟨x137, h132, e134, L133, i135, K136, H⟩ := H
        refine ⟨x137, h132, e134, ?_⟩
        refine ⟨(Ly.t93 L133 :), ?_⟩
        refine b_37_122 ?_
        refine ⟨(Ly.t93 L133 :), ?_⟩
        rw [show jr (wl h132 93 7 (w32 (x125 * x137))) 93 1 = pT p from (Ly.r93_1 L133 :)]
        refine ⟨(Ly.dt0 L133 (Ly.iT L133) :), ?_⟩
        rw [show jr (wl h132 93 7 (w32 (x125 * x137))) (pT p) 10 = (pT p + 12) from (Ly.dr0_10 L133 (Ly.iT L133) :)]
        refine ⟨(Ly.t93 L133 :), ?_⟩
        have H := H (Ly.wl L133 (a := 93) (k := 7) (x := w32 (x125 * x137))) (TokR.swl K136 (a := 93) (k := 7) (x := w32 (x125 * x137)))
        obtain ⟨p143, h138, e140, L139, i141, K142, H⟩ := H
        refine ⟨p143, h138, e140, ?_⟩
        obtain ⟨z175, z176, H⟩ := H
        refine ⟨inW_mk (N := 10) (Ly.dt12 L139 (Ly.iT L139) :) (Ly.dn12 L139 (Ly.iT L139) :) z175 z176, ?_⟩
        obtain ⟨z174, H⟩ := H
        refine ⟨z174, ?_⟩
        refine b_37_136 ?_
        refine ⟨(Ly.t93 (Ly.wr L139 (a := (pT p + 12)) (k := Int.toNat (ji h (pT p + 22) 4)) (b := p143) (by have := (Ly.iT L139); unfold isD at this; unfold mutR; omega)) :), ?_⟩
        rw [show jr (wr h138 (pT p + 12) (Int.toNat (ji h (pT p + 22) 4)) p143) 93 1 = pT p from (Ly.r93_1 (Ly.wr L139 (a := (pT p + 12)) (k := Int.toNat (ji h (pT p + 22) 4)) (b := p143) (by have := (Ly.iT L139); unfold isD at this; unfold mutR; omega)) :)]
        refine ⟨(Ly.dt0 (Ly.wr L139 (a := (pT p + 12)) (k := Int.toNat (ji h (pT p + 22) 4)) (b := p143) (by have := (Ly.iT L139); unfold isD at this; unfold mutR; omega)) (Ly.iT (Ly.wr L139 (a := (pT p + 12)) (k := Int.toNat (ji h (pT p + 22) 4)) (b := p143) (by have := (Ly.iT L139); unfold isD at this; unfold mutR; omega))) :), ?_⟩
        rw [show jr (wr h138 (pT p + 12) (Int.toNat (ji h (pT p + 22) 4)) p143) (pT p) 10 = (pT p + 12) from (Ly.dr0_10 (Ly.wr L139 (a := (pT p + 12)) (k := Int.toNat (ji h (pT p + 22) 4)) (b := p143) (by have := (Ly.iT L139); unfold isD at this; unfold mutR; omega)) (Ly.iT (Ly.wr L139 (a := (pT p + 12)) (k := Int.toNat (ji h (pT p + 22) 4)) (b := p143) (by have := (Ly.iT L139); unfold isD at this; unfold mutR; omega))) :)]
        obtain ⟨z144, z145, H⟩ := H
        refine ⟨Or.inl (inA_mk (N := 10) (Ly.dt12 (Ly.wr L139 (a := (pT p + 12)) (k := Int.toNat (ji h (pT p + 22) 4)) (b := p143) (by have := (Ly.iT L139); unfold isD at this; unfold mutR; omega)) (Ly.iT (Ly.wr L139 (a := (pT p + 12)) (k := Int.toNat (ji h (pT p + 22) 4)) (b := p143) (by have := (Ly.iT L139); unfold isD at this; unfold mutR; omega))) :) (Ly.dn12 (Ly.wr L139 (a := (pT p + 12)) (k := Int.toNat (ji h (pT p + 22) 4)) (b := p143) (by have := (Ly.iT L139); unfold isD at this; unfold mutR; omega)) (Ly.iT (Ly.wr L139 (a := (pT p + 12)) (k := Int.toNat (ji h (pT p + 22) 4)) (b := p143) (by have := (Ly.iT L139); unfold isD at this; unfold mutR; omega))) :) z144 z145), ?_⟩
        obtain ⟨z172, H⟩ := H
        refine ⟨z172, fun c173 => ?_, fun c173 => ?_⟩
        · have H := H.1 c173
          refine ⟨Or.inl rfl, ?_⟩
          exact H (Ly.wr L139 (a := (pT p + 12)) (k := Int.toNat (ji h (pT p + 22) 4)) (b := p143) (by have := (Ly.iT L139); unfold isD at this; unfold mutR; omega)) (TokR.swr K142 (a := (pT p + 12)) (k := Int.toNat (ji h (pT p + 22) 4)) (x := p143))
        · have H := H.2 c173
          refine ⟨(Ly.t93 (Ly.wr L139 (a := (pT p + 12)) (k := Int.toNat (ji h (pT p + 22) 4)) (b := p143) (by have := (Ly.iT L139); unfold isD at this; unfold mutR; omega)) :), ?_⟩
          have H := H (Ly.wr L139 (a := (pT p + 12)) (k := Int.toNat (ji h (pT p + 22) 4)) (b := p143) (by have := (Ly.iT L139); unfold isD at this; unfold mutR; omega)) (TokR.swr K142 (a := (pT p + 12)) (k := Int.toNat (ji h (pT p + 22) 4)) (x := p143))
          obtain ⟨x151, h146, e148, L147, i149, K150, H⟩ := H
          refine ⟨x151, h146, e148, ?_⟩
          refine ⟨fun c171 => ?_, fun c171 => ?_⟩
          · have H := H.2 c171
            refine ⟨(Ly.t93 L147 :), ?_⟩
            rw [show jr h146 93 1 = pT p from (Ly.r93_1 L147 :)]
            refine ⟨(Ly.dt0 L147 (Ly.iT L147) :), ?_⟩
            rw [show jr h146 (pT p) 11 = (pT p + 13) from (Ly.dr0_11 L147 (Ly.iT L147) :)]
            refine ⟨(Ly.t93 L147 :), ?_⟩
            obtain ⟨p157, h152, e154, L153, i155, K156, H⟩ := H
            refine ⟨p157, h152, e154, ?_⟩
            obtain ⟨z169, z170, H⟩ := H
            refine ⟨inW_mk (N := 10) (Ly.dt13 L153 (Ly.iT L153) :) (Ly.dn13 L153 (Ly.iT L153) :) z169 z170, ?_⟩
            obtain ⟨z168, H⟩ := H
            refine ⟨z168, ?_⟩
            refine b_37_172 ?_
            refine ⟨(Ly.t93 (Ly.wr L153 (a := (pT p + 13)) (k := Int.toNat (ji h (pT p + 22) 4)) (b := p157) (by have := (Ly.iT L153); unfold isD at this; unfold mutR; omega)) :), ?_⟩
            have H := H (Ly.wr L153 (a := (pT p + 13)) (k := Int.toNat (ji h (pT p + 22) 4)) (b := p157) (by have := (Ly.iT L153); unfold isD at this; unfold mutR; omega)) (TokR.swr K156 (a := (pT p + 13)) (k := Int.toNat (ji h (pT p + 22) 4)) (x := p157))
            obtain ⟨h158, e160, L159, i161, K162, H⟩ := H
            refine ⟨h158, e160, ?_⟩
            refine b_37_177 ?_
            refine ⟨(Ly.t93 L159 :), ?_⟩
            rw [show jr h158 93 1 = pT p from (Ly.r93_1 L159 :)]
            refine ⟨(Ly.dt0 L159 (Ly.iT L159) :), ?_⟩
            rw [show jr h158 (pT p) 11 = (pT p + 13) from (Ly.dr0_11 L159 (Ly.iT L159) :)]
            obtain ⟨z163, z164, H⟩ := H
            refine ⟨Or.inl (inA_mk (N := 10) (Ly.dt13 L159 (Ly.iT L159) :) (Ly.dn13 L159 (Ly.iT L159) :) z163 z164), ?_⟩
            obtain ⟨z166, H⟩ := H
            refine ⟨z166, fun c167 => ?_, fun c167 => ?_⟩
            · have H := H.1 c167
              refine ⟨Or.inl rfl, ?_⟩
              exact H
            · have H := H.2 c167
              refine ⟨(Ly.t93 L159 :), ?_⟩
              rw [show jr h158 93 0 = 37 from (Ly.r93_0 L159 :)]
              refine ⟨(Ly.t37 L159 :), ?_⟩
              by_cases c165 : tkK T i161 = 159
              · have H := H.1 c165
                refine ⟨_, _, t_75y (d := d) (by omega) L159 K162 159 rfl c165 (ns c165 (by decide)), ?_⟩
                refine ⟨fun c => absurd c (by decide), fun _ => ?_⟩
                refine ⟨Or.inr rfl, ?_⟩
                exact H (Ly.wi L159 (a := 37) (k := 4) (x := ((i161 + 1 : Nat) : Int)) (by decide)) (TokR.adv K162 (ns c165 (by decide)))
              · have H := H.2 c165
                refine ⟨_, _, t_75n (d := d) (by omega) L159 K162 159 rfl c165, ?_⟩
                refine ⟨fun _ => ?_, fun c => absurd (by decide) c⟩
                refine ⟨Or.inl rfl, ?_⟩
                exact H (Ly.wi L159 (a := 37) (k := 5) (x := -10 - (tkP T i161 : Int)) (by decide)) (TokR.flt K162)
          · have c171 := Decidable.not_not.mp c171
            have H := H.1 c171
            refine ⟨Or.inl rfl, ?_⟩
            exact H
      · have H := H.2 c96
        refine ⟨_, _, t_75n (d := d) (by omega) L2 K5 158 rfl c96, ?_⟩
        refine ⟨fun c => absurd c (by decide), fun _ => ?_⟩
        refine ⟨Or.inl rfl, ?_⟩
        exact H (Ly.wi L2 (a := 37) (k := 5) (x := -10 - (tkP T i4 : Int)) (by decide)) (TokR.flt K5)
    · have c7 := Decidable.not_not.mp c7
      have H := H.1 c7
      refine ⟨(Ly.t93 L2 :), ?_⟩
      rw [show jr h1 93 0 = 37 from (Ly.r93_0 L2 :)]
      refine ⟨(Ly.t37 L2 :), ?_⟩
      refine ⟨_, t_74 (d := d) (by omega) L2 K5 (ns c7 (by decide)), ?_⟩
      refine b_37_43 ?_
      refine ⟨(Ly.t93 L2 :), ?_⟩
      have H := H (Ly.wi L2 (a := 37) (k := 4) (x := ((i4 + 1 : Nat) : Int)) (by decide)) (TokR.adv K5 (ns c7 (by decide)))
      obtain ⟨x13, h8, e10, L9, i11, K12, H⟩ := H
      refine ⟨x13, h8, e10, ?_⟩
      refine ⟨fun c95 => ?_, fun c95 => ?_⟩
      · have H := H.2 c95
        refine ⟨(Ly.t93 L9 :), ?_⟩
        rw [show jr h8 93 0 = 37 from (Ly.r93_0 L9 :)]
        refine ⟨(Ly.t37 L9 :), ?_⟩
        by_cases c14 : tkK T i11 = 158
        · have H := H.1 c14
          refine ⟨_, _, t_75y (d := d) (by omega) L9 K12 158 rfl c14 (ns c14 (by decide)), ?_⟩
          refine ⟨fun _ => ?_, fun c => absurd (by decide) c⟩
          refine ⟨(Ly.t93 L9 :), ?_⟩
          rw [show jr (wi h8 37 4 ((i11 + 1 : Nat) : Int)) 93 1 = pT p from (Ly.r93_1 L9 :)]
          refine ⟨(Ly.dt0 L9 (Ly.iT L9) :), ?_⟩
          rw [show jr (wi h8 37 4 ((i11 + 1 : Nat) : Int)) (pT p) 4 = (pT p + 22) from (Ly.dr0_4 L9 (Ly.iT L9) :)]
          refine ⟨(Ly.t93 L9 :), ?_⟩
          have H := H (Ly.wi L9 (a := 37) (k := 4) (x := ((i11 + 1 : Nat) : Int)) (by decide)) (TokR.adv K12 (ns c14 (by decide)))
          obtain ⟨x20, h15, e17, L16, i18, K19, H⟩ := H
          refine ⟨x20, h15, e17, ?_⟩
          refine ⟨(Ly.t93 L16 :), ?_⟩
          obtain ⟨x26, h21, e23, L22, i24, K25, H⟩ := H
          refine ⟨x26, h21, e23, ?_⟩
          refine ⟨(Ly.dt22 L22 (Ly.iT L22) :), ?_⟩
          obtain ⟨h27, e29, L28, i30, K31, H⟩ := H
          refine ⟨h27, e29, ?_⟩
          refine b_37_86 ?_
          refine ⟨(Ly.t93 L28 :), ?_⟩
          rw [show jr h27 93 1 = pT p from (Ly.r93_1 L28 :)]
          refine ⟨(Ly.dt0 L28 (Ly.iT L28) :), ?_⟩
          rw [show jr h27 (pT p) 1 = (pT p + 5) from (Ly.dr0_1 L28 (Ly.iT L28) :)]
          refine ⟨(Ly.t93 L28 :), ?_⟩
          obtain ⟨x37, h32, e34, L33, i35, K36, H⟩ := H
          refine ⟨x37, h32, e34, ?_⟩
          refine ⟨(Ly.dt5 L33 (Ly.iT L33) :), ?_⟩
          obtain ⟨x43, h38, e40, L39, i41, K42, H⟩ := H
          refine ⟨x43, h38, e40, ?_⟩
          refine ⟨(Ly.t93 L39 :), ?_⟩
          rw [show jr h38 93 1 = pT p from (Ly.r93_1 L39 :)]
          refine ⟨(Ly.dt0 L39 (Ly.iT L39) :), ?_⟩
          rw [show jr h38 (pT p) 1 = (pT p + 5) from (Ly.dr0_1 L39 (Ly.iT L39) :)]
          refine ⟨(Ly.t93 L39 :), ?_⟩
          obtain ⟨x49, h44, e46, L45, i47, K48, H⟩ := H
          refine ⟨x49, h44, e46, ?_⟩
          refine ⟨(Ly.dt5 L45 (Ly.iT L45) :), ?_⟩
          obtain ⟨x55, h50, e52, L51, i53, K54, H⟩ := H
          refine ⟨x55, h50, e52, ?_⟩
          refine ⟨(Ly.t93 L51 :), ?_⟩
          refine b_37_122 ?_
          refine ⟨(Ly.t93 L51 :), ?_⟩
          rw [show jr (wl h50 93 7 (w32 (x43 * x55))) 93 1 = pT p from (Ly.r93_1 L51 :)]
          refine ⟨(Ly.dt0 L51 (Ly.iT L51) :), ?_⟩
          rw [show jr (wl h50 93 7 (w32 (x43 * x55))) (pT p) 10 = (pT p + 12) from (Ly.dr0_10 L51 (Ly.iT L51) :)]
          refine ⟨(Ly.t93 L51 :), ?_⟩
          have H := H (Ly.wl L51 (a := 93) (k := 7) (x := w32 (x43 * x55))) (TokR.swl K54 (a := 93) (k := 7) (x := w32 (x43 * x55)))
          obtain ⟨p61, h56, e58, L57, i59, K60, H⟩ := H
          refine ⟨p61, h56, e58, ?_⟩
          obtain ⟨z93, z94, H⟩ := H
          refine ⟨inW_mk (N := 10) (Ly.dt12 L57 (Ly.iT L57) :) (Ly.dn12 L57 (Ly.iT L57) :) z93 z94, ?_⟩
          obtain ⟨z92, H⟩ := H
          refine ⟨z92, ?_⟩
          refine b_37_136 ?_
          refine ⟨(Ly.t93 (Ly.wr L57 (a := (pT p + 12)) (k := Int.toNat (ji h (pT p + 22) 4)) (b := p61) (by have := (Ly.iT L57); unfold isD at this; unfold mutR; omega)) :), ?_⟩
          rw [show jr (wr h56 (pT p + 12) (Int.toNat (ji h (pT p + 22) 4)) p61) 93 1 = pT p from (Ly.r93_1 (Ly.wr L57 (a := (pT p + 12)) (k := Int.toNat (ji h (pT p + 22) 4)) (b := p61) (by have := (Ly.iT L57); unfold isD at this; unfold mutR; omega)) :)]
          refine ⟨(Ly.dt0 (Ly.wr L57 (a := (pT p + 12)) (k := Int.toNat (ji h (pT p + 22) 4)) (b := p61) (by have := (Ly.iT L57); unfold isD at this; unfold mutR; omega)) (Ly.iT (Ly.wr L57 (a := (pT p + 12)) (k := Int.toNat (ji h (pT p + 22) 4)) (b := p61) (by have := (Ly.iT L57); unfold isD at this; unfold mutR; omega))) :), ?_⟩
          rw [show jr (wr h56 (pT p + 12) (Int.toNat (ji h (pT p + 22) 4)) p61) (pT p) 10 = (pT p + 12) from (Ly.dr0_10 (Ly.wr L57 (a := (pT p + 12)) (k := Int.toNat (ji h (pT p + 22) 4)) (b := p61) (by have := (Ly.iT L57); unfold isD at this; unfold mutR; omega)) (Ly.iT (Ly.wr L57 (a := (pT p + 12)) (k := Int.toNat (ji h (pT p + 22) 4)) (b := p61) (by have := (Ly.iT L57); unfold isD at this; unfold mutR; omega))) :)]
          obtain ⟨z62, z63, H⟩ := H
          refine ⟨Or.inl (inA_mk (N := 10) (Ly.dt12 (Ly.wr L57 (a := (pT p + 12)) (k := Int.toNat (ji h (pT p + 22) 4)) (b := p61) (by have := (Ly.iT L57); unfold isD at this; unfold mutR; omega)) (Ly.iT (Ly.wr L57 (a := (pT p + 12)) (k := Int.toNat (ji h (pT p + 22) 4)) (b := p61) (by have := (Ly.iT L57); unfold isD at this; unfold mutR; omega))) :) (Ly.dn12 (Ly.wr L57 (a := (pT p + 12)) (k := Int.toNat (ji h (pT p + 22) 4)) (b := p61) (by have := (Ly.iT L57); unfold isD at this; unfold mutR; omega)) (Ly.iT (Ly.wr L57 (a := (pT p + 12)) (k := Int.toNat (ji h (pT p + 22) 4)) (b := p61) (by have := (Ly.iT L57); unfold isD at this; unfold mutR; omega))) :) z62 z63), ?_⟩
          obtain ⟨z90, H⟩ := H
          refine ⟨z90, fun c91 => ?_, fun c91 => ?_⟩
          · have H := H.1 c91
            refine ⟨Or.inl rfl, ?_⟩
            exact H (Ly.wr L57 (a := (pT p + 12)) (k := Int.toNat (ji h (pT p + 22) 4)) (b := p61) (by have := (Ly.iT L57); unfold isD at this; unfold mutR; omega)) (TokR.swr K60 (a := (pT p + 12)) (k := Int.toNat (ji h (pT p + 22) 4)) (x := p61))
          · have H := H.2 c91
            refine ⟨(Ly.t93 (Ly.wr L57 (a := (pT p + 12)) (k := Int.toNat (ji h (pT p + 22) 4)) (b := p61) (by have := (Ly.iT L57); unfold isD at this; unfold mutR; omega)) :), ?_⟩
            have H := H (Ly.wr L57 (a := (pT p + 12)) (k := Int.toNat (ji h (pT p + 22) 4)) (b := p61) (by have := (Ly.iT L57); unfold isD at this; unfold mutR; omega)) (TokR.swr K60 (a := (pT p + 12)) (k := Int.toNat (ji h (pT p + 22) 4)) (x := p61))
            obtain ⟨x69, h64, e66, L65, i67, K68, H⟩ := H
            refine ⟨x69, h64, e66, ?_⟩
            refine ⟨fun c89 => ?_, fun c89 => ?_⟩
            · have H := H.2 c89
              refine ⟨(Ly.t93 L65 :), ?_⟩
              rw [show jr h64 93 1 = pT p from (Ly.r93_1 L65 :)]
              refine ⟨(Ly.dt0 L65 (Ly.iT L65) :), ?_⟩
              rw [show jr h64 (pT p) 11 = (pT p + 13) from (Ly.dr0_11 L65 (Ly.iT L65) :)]
              refine ⟨(Ly.t93 L65 :), ?_⟩
              obtain ⟨p75, h70, e72, L71, i73, K74, H⟩ := H
              refine ⟨p75, h70, e72, ?_⟩
              obtain ⟨z87, z88, H⟩ := H
              refine ⟨inW_mk (N := 10) (Ly.dt13 L71 (Ly.iT L71) :) (Ly.dn13 L71 (Ly.iT L71) :) z87 z88, ?_⟩
              obtain ⟨z86, H⟩ := H
              refine ⟨z86, ?_⟩
              refine b_37_172 ?_
              refine ⟨(Ly.t93 (Ly.wr L71 (a := (pT p + 13)) (k := Int.toNat (ji h (pT p + 22) 4)) (b := p75) (by have := (Ly.iT L71); unfold isD at this; unfold mutR; omega)) :), ?_⟩
              have H := H (Ly.wr L71 (a := (pT p + 13)) (k := Int.toNat (ji h (pT p + 22) 4)) (b := p75) (by have := (Ly.iT L71); unfold isD at this; unfold mutR; omega)) (TokR.swr K74 (a := (pT p + 13)) (k := Int.toNat (ji h (pT p + 22) 4)) (x := p75))
              obtain ⟨h76, e78, L77, i79, K80, H⟩ := H
              refine ⟨h76, e78, ?_⟩
              refine b_37_177 ?_
              refine ⟨(Ly.t93 L77 :), ?_⟩
              rw [show jr h76 93 1 = pT p from (Ly.r93_1 L77 :)]
              refine ⟨(Ly.dt0 L77 (Ly.iT L77) :), ?_⟩
              rw [show jr h76 (pT p) 11 = (pT p + 13) from (Ly.dr0_11 L77 (Ly.iT L77) :)]
              obtain ⟨z81, z82, H⟩ := H
              refine ⟨Or.inl (inA_mk (N := 10) (Ly.dt13 L77 (Ly.iT L77) :) (Ly.dn13 L77 (Ly.iT L77) :) z81 z82), ?_⟩
              obtain ⟨z84, H⟩ := H
              refine ⟨z84, fun c85 => ?_, fun c85 => ?_⟩
              · have H := H.1 c85
                refine ⟨Or.inl rfl, ?_⟩
                exact H
              · have H := H.2 c85
                refine ⟨(Ly.t93 L77 :), ?_⟩
                rw [show jr h76 93 0 = 37 from (Ly.r93_0 L77 :)]
                refine ⟨(Ly.t37 L77 :), ?_⟩
                by_cases c83 : tkK T i79 = 159
                · have H := H.1 c83
                  refine ⟨_, _, t_75y (d := d) (by omega) L77 K80 159 rfl c83 (ns c83 (by decide)), ?_⟩
                  refine ⟨fun c => absurd c (by decide), fun _ => ?_⟩
                  refine ⟨Or.inr rfl, ?_⟩
                  exact H (Ly.wi L77 (a := 37) (k := 4) (x := ((i79 + 1 : Nat) : Int)) (by decide)) (TokR.adv K80 (ns c83 (by decide)))
                · have H := H.2 c83
                  refine ⟨_, _, t_75n (d := d) (by omega) L77 K80 159 rfl c83, ?_⟩
                  refine ⟨fun _ => ?_, fun c => absurd (by decide) c⟩
                  refine ⟨Or.inl rfl, ?_⟩
                  exact H (Ly.wi L77 (a := 37) (k := 5) (x := -10 - (tkP T i79 : Int)) (by decide)) (TokR.flt K80)
            · have c89 := Decidable.not_not.mp c89
              have H := H.1 c89
              refine ⟨Or.inl rfl, ?_⟩
              exact H
        · have H := H.2 c14
          refine ⟨_, _, t_75n (d := d) (by omega) L9 K12 158 rfl c14, ?_⟩
          refine ⟨fun c => absurd c (by decide), fun _ => ?_⟩
          refine ⟨Or.inl rfl, ?_⟩
          exact H (Ly.wi L9 (a := 37) (k := 5) (x := -10 - (tkP T i11 : Int)) (by decide)) (TokR.flt K12)
      · have c95 := Decidable.not_not.mp c95
        have H := H.1 c95
        refine ⟨Or.inl rfl, ?_⟩
        exact H
  · have c177 := Decidable.not_not.mp c177
    have H := H.1 c177
    refine ⟨Or.inl rfl, ?_⟩
    exact H
