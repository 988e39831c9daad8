/-! THE REFERENCE: a sum, level by level -/
section RLV
variable {p : Lpar} {d : Nat} {h h' h0 h1 g : AH} {T : Txt} {e i i0 i1 k A A1 dp lo m : Nat} {c : Dc} {G : NmL} {n : Nat → Nat} {sl : List Int} {s q f x : Ex} {neg lp : Bool}
theorem facR_num {C : Cx} {nn : Nat} (c2 : tkK T i = 2) : facR T C nn G sl i = .ok (xNum (tkV T i), i + 1) := by
  cases nn with
  | zero => show facW T C false (fun _ _ _ => .error 0) G sl i = _; unfold facW; rw [if_pos c2]
  | succ k => show facW T C true (pSum T C k) G sl i = _; unfold facW; rw [if_pos c2]
theorem facR_nam {C : Cx} {nn : Nat} (c1 : tkK T i = 1) : facR T C nn G sl i = pNamed T C G sl i := by
  cases nn with
  | zero => show facW T C false (fun _ _ _ => .error 0) G sl i = _; unfold facW; rw [if_neg (by omega), if_pos c1]
  | succ k => show facW T C true (pSum T C k) G sl i = _; unfold facW; rw [if_neg (by omega), if_pos c1]
theorem facR_bad {C : Cx} {nn : Nat} (n1 : ¬ tkK T i = 1) (n2 : ¬ tkK T i = 2) (hb : (¬ tkK T i = 140 ∧ ¬ tkK T i = 17) ∨ nn = 0) : facR T C nn G sl i = .error (tkP T i) := by
  cases nn with
  | zero => show facW T C false (fun _ _ _ => .error 0) G sl i = _; unfold facW; rw [if_neg n2, if_neg n1, if_neg (fun z => absurd z.1 (by decide)), if_neg (fun z => absurd z.1 (by decide))]
  | succ k => show facW T C true (pSum T C k) G sl i = _; unfold facW; rw [if_neg n2, if_neg n1, if_neg (fun z => by omega), if_neg (fun z => by omega)]
theorem facR_open {C : Cx} {nn : Nat} (hk : tkK T i = 140 ∨ tkK T i = 17) : facR T C (nn + 1) G sl i = xb (pOpen T G sl i) fun r => xb (pSum T C nn r.1 r.2.1 r.2.2) fun q => xb (pTake T 141 q.2) fun j => .ok (xInn sl.length (r.2.1.getD sl.length (-1)) (r.2.1.getD (sl.length + 1) (-1)) q.1, j) := by
  show facW T C true (pSum T C nn) G sl i = _
  unfold facW pOpen
  rw [if_neg (by omega), if_neg (by omega)]
  by_cases c1 : tkK T i = 140
  · rw [if_pos ⟨rfl, c1⟩, if_pos c1, xb_pure, getD_len _ _ (Nat.le_refl _), getD_len _ _ (Nat.le_succ _)]
  · rw [if_neg (fun z => c1 z.2), if_pos ⟨rfl, by omega⟩, if_neg c1]
    simp only [xb_as, xb_pure]
/-- what pOpen gives -/
theorem pOpen_ok {C : Cx} (O : okX C G sl) (hsl : sl.length ≤ 16) (hk : tkK T i = 140 ∨ tkK T i = 17) {r : NmL × List Int × Nat} (hr : pOpen T G sl i = .ok r) : okX C r.1 r.2.1 ∧ (∃ gg ss, r.1 = G ++ gg ∧ r.2.1 = sl ++ ss ∧ ((lpB T i = false ∧ ss = []) ∨ (lpB T i = true ∧ ssOK C.1 ss))) ∧ i + 1 ≤ r.2.2 := by
  unfold pOpen at hr
  by_cases c1 : tkK T i = 140
  · rw [if_pos c1] at hr
    cases hr
    exact ⟨O, ⟨[], [], by simp, by simp, Or.inl ⟨by unfold lpB; exact decide_eq_false (by omega), rfl⟩⟩, Nat.le_refl _⟩
  · rw [if_neg c1] at hr
    obtain ⟨a, h1, hr⟩ := xb_ok hr
    obtain ⟨b, h2, hr⟩ := xb_ok hr
    obtain ⟨q, h3, hr⟩ := xb_ok hr
    have q1 := (take_ok h1).2
    have q2 := pInd_ok (tkG_all T) O hsl h2
    have q3 := (take_ok h3).2
    cases hr
    obtain ⟨O2, ⟨gg, ss, e1, e2, e3, e4, e5⟩, e6⟩ := q2
    refine ⟨O2, ⟨gg, ss, e1, e2, Or.inr ⟨by unfold lpB; exact decide_eq_true (by omega), ?_⟩⟩, by show i + 1 ≤ q; omega⟩
    have hs := O2.2.2.2.2.2.2.2.1
    have O2b : ∀ s ∈ sl ++ ss, 0 ≤ s ∧ s < (C.1.length : Int) := by rw [← e2]; exact hs
    match ss, e4, e5, O2b with
    | [a], _, _, hb => have := hb a (by simp); exact Or.inl ⟨a, rfl, this.1, this.2⟩
    | [a, b], _, _, hb => have h1 := hb a (by simp); have h2 := hb b (by simp); exact Or.inr ⟨a, b, rfl, h1.1, h1.2, h2.1, h2.2⟩
theorem getD_r {α : Type} (l m : List α) (z : α) (k : Nat) : (l ++ m).getD (l.length + k) z = m.getD k z := by
  rw [List.getD_eq_getElem?_getD, List.getElem?_append_right (by omega), show l.length + k - l.length = k by omega, ← List.getD_eq_getElem?_getD]
/-- the ) of a sum inside, and what stands outside again -/
theorem lv_close (hd : 18 ≤ d) {gg : NmL} {ss : List Int} {i2 A2 : Nat} (E : LvE p T e c (G ++ gg) n (sl ++ ss) (dp + 1) A1 i2 A2 g x) (hM : okM G (n4 n sl.length)) (St : StF T g dp lp neg q s i (wke (dS c) s + wke (dS c) q) sl.length A) (hA1 : A1 = A + (if lp = true then 1 else 0)) (hl : lp = true → ji g 160 A = 9 ∧ ji g 161 A = (sl.length : Int) ∧ ji g 162 A = ss.getD 0 (-1) ∧ ji g 163 A = ss.getD 1 (-1)) (hlp : (lp = false ∧ ss = []) ∨ (lp = true ∧ ssOK (dS c) ss)) (hdp : dp < 8) (hS : okS (dS c)) (hcd : ∃ m, cR g s lo m ∧ cR g q m A) (n3 : ¬ tkK T i2 = 143) (n5 : ¬ tkK T i2 = 145) {Q : Option AV → AH → Prop} (HE : ¬ tkK T i2 = 141 → ∀ h', Ly p h' → Fq (ZV dp 0 A) g h' → ji h' 141 6 = (tkP T i2 : Int) → Q (some (jI 2)) h') (HO : tkK T i2 = 141 → ∀ h' A3, LvD p T e c G n sl dp lo i (i2 + 1) A3 h' s neg q (xInn sl.length (ss.getD 0 (-1)) (ss.getD 1 (-1)) x) → Fq (ZV dp 0 A) g h' → Q (some (jI 1)) h') : WF d 144 116 [jP 141] [] g Q := by
  obtain ⟨S, K, a33, ab, cx, a49, a52⟩ := E
  have L := S.1.1
  have i4 := e4i S.1 K
  have k2 := K.2.1
  have a38 := S.2.2.2
  have l1 := cR_lt cx
  have lA : A ≤ A1 := by omega
  refine c_144_116 (by omega) L ⟨fun z => by omega, fun _ => ⟨fun z => by omega, fun _ => ⟨fun z => by omega, fun _ => ?_⟩⟩⟩
  by_cases c1 : ¬ tkK T i2 = 141
  · have L2 : Ly p (wi g 141 6 (tkP T i2 : Int)) := L.wi (by decide)
    exact ⟨0, _, n_121 (by omega) L K c1 (by decide), L2, fun _ => HE c1 _ L2 (Fq.wi (by omega)) w6_r, fun z => absurd rfl z⟩
  have c1 := Decidable.not_not.mp c1
  obtain ⟨h2, hE2, L2, G2, K2⟩ := y_121 (d := d) (x := 41) (by omega) S.1 K c1 (by decide) (by decide)
  have S2 := S.fF G2.toF
  obtain ⟨f1, f2, f3, f4, f5, f6', f7, f8⟩ := St
  have St2 : StF T h2 dp lp neg q s i (wke (dS c) s + wke (dS c) q) sl.length A := ⟨(G2.i (by omega)).trans f1, (G2.i (by omega)).trans f2, (G2.i (by omega)).trans f3, (G2.i (by omega)).trans f4, (G2.i (by omega)).trans f5, (G2.l (by omega)).trans f6', (G2.i (by omega)).trans f7, (G2.i (by omega)).trans f8⟩
  obtain ⟨w, h3, hE3, rfl, L3, F3, S3, b33, bL, b47, b48, b49, b51, b50, b52⟩ := m_145 (d := d) (x := x) (by omega) S2 hM St2 ((G2.i (by omega)).trans a33) (by omega) ((G2.i (by omega)).trans a49) ((G2.l (by omega)).trans a52) hlp (by omega) hS
  have K3 : RtR T e (i2 + 1) h3 := K2.fq F3 (fun k _ _ => by omega)
  have q3 : ∀ a k, 160 ≤ a → a ≤ 163 → k < A2 → ji h3 a k = ji g a k := fun a k z1 z2 z3 => by rw [F3.i (by omega), G2.i (by omega)]
  obtain ⟨m', cs, cq⟩ := hcd
  have l2 := cR_lt cs
  have l3 := cR_lt cq
  have cx3 : cR h3 x A1 A2 := cR_mono cx (fun a k z1 z2 z3 z4 => q3 a k z1 z2 z4)
  refine ⟨1, h2, hE2, L2, fun z => absurd z (by decide), fun _ => ⟨h3, hE3, L3, c_144_189 (by omega) L3 (HO c1 h3 (A2 + (if lp = true then 1 else 0)) ⟨S3, K3, b33, ?_, ⟨m', A, cR_mono cs (fun a k z1 z2 z3 z4 => q3 a k z1 z2 (by omega)), cR_mono cq (fun a k z1 z2 z3 z4 => q3 a k z1 z2 (by omega)), ?_⟩, b47, b48, b49, ?_, b51, b50⟩ ((G2.mono (fun a k z => by omega)).trans (F3.mono (fun a k z => by omega))))⟩⟩
  · split <;> omega
  · rcases hlp with ⟨z1, z2⟩ | ⟨z1, z2⟩
    · subst z1 z2
      refine Or.inl ⟨rfl, ?_⟩
      have : A1 = A := by rw [hA1]; rfl
      rw [← this]; exact cx3
    · subst z1
      have hl := hl rfl
      have e1 : A1 = A + 1 := hA1
      refine Or.inr ⟨?_, A2, rfl, (q3 _ _ (by omega) (by omega) (by omega)).trans hl.1, (q3 _ _ (by omega) (by omega) (by omega)).trans hl.2.1, (q3 _ _ (by omega) (by omega) (by omega)).trans hl.2.2.1, (q3 _ _ (by omega) (by omega) (by omega)).trans hl.2.2.2, by rw [← e1]; exact cx3, (bL rfl).1, (bL rfl).2⟩
      show ¬ ss.getD 0 (-1) = -1
      rcases z2 with ⟨a, rfl, a0, a1⟩ | ⟨a, b, rfl, a0, a1, b0, b1⟩
      · show ¬ a = -1; omega
      · show ¬ a = -1; omega
  · rw [b52]
    congr 1
    show _ = wke (dS c) s + wke (dS c) q + (1 + wke (dS c) x * (szO (dS c) (ss.getD 0 (-1)) * szO (dS c) (ss.getD 1 (-1))))
    omega
def LevT (p : Lpar) (T : Txt) (e : Nat) (c : Dc) (n : Nat → Nat) (nn : Nat) : Prop := ∀ (d : Nat) (Q : Option AV → AH → Prop) (m : Nat) (G : NmL) (sl : List Int) (dp lo i A : Nat) (h : AH) (s : Ex) (neg : Bool) (q : Ex), dp + nn = 8 → 23 ≤ d → LvB p T e c G n sl dp lo i A h s neg q → okX (dC c) G sl → sl.length + 2 * nn ≤ 18 → 401 ≤ m + i → (∀ h' x, loopW T (facR T (dC c) nn G sl) m s neg q i = .error x → Ly p h' → Fq (ZV dp 0 lo) h h' → ji h' 141 6 = (x : Int) → ∀ y, Q (some (jL y)) h') → (∀ h' s' neg' q' f i0 i' A', loopW T (facR T (dC c) nn G sl) m s neg q i = .ok (xPart neg' s' (xMul q' f), i') → LvD p T e c G n sl dp lo i0 i' A' h' s' neg' q' f → ¬ (hv f = true ∧ hv q' = true) → ¬ tkK T i' = 142 → ¬ tkK T i' = 143 → ¬ tkK T i' = 145 → Fq (ZV dp 0 lo) h h' → WF d 139 20 [jP 141, jI 1] [] h' Q) → WF d 139 20 [jP 141, jI 0] [] h Q
theorem lev_f {Q : Option AV → AH → Prop} (hd : 9 ≤ d) (L : Ly p h) {y : Nat} (h6 : ji h 141 6 = (y : Int)) {v : Int} (H : ∀ z, Q (some (jL z)) h) : WF d 139 20 [jP 141, jI v] [] h Q := c_139_20 (by omega) L ⟨fun z => absurd z (nq h6), fun _ => H _⟩
theorem lev_step {nn : Nat} (IH : ∀ k, nn = k + 1 → LevT p T e c n k) (O0 : okS (dS c)) : LevT p T e c n nn := by
  intro d Q m
  induction m with
  | zero =>
    intro G sl dp lo i A h s neg q hdn hd B O hsl hm HE HO
    have := e4i B.1.1 B.2.1
    omega
  | succ m ihm =>
    intro G sl dp lo i A h s neg q hdn hd B O hsl hm HE HO
    have B0 := B
    obtain ⟨S, K, a33, ab, ⟨mm, cs, cq⟩, a47, a48, a49, a52⟩ := B
    have L := S.1.1
    have k6 := K.2.2.2.2.2.2
    have l1 := cR_lt cs
    have l2 := cR_lt cq
    have eW : loopW T (facR T (dC c) nn G sl) (m + 1) s neg q i = xb (facR T (dC c) nn G sl i) fun f => if hv f.1 = true ∧ hv q = true then .error (tkP T i) else if tkK T f.2 = 142 then loopW T (facR T (dC c) nn G sl) m s neg (xMul q f.1) (f.2 + 1) else if tkK T f.2 = 143 then loopW T (facR T (dC c) nn G sl) m (xPart neg s (xMul q f.1)) false xOne (f.2 + 1) else if tkK T f.2 = 145 then loopW T (facR T (dC c) nn G sl) m (xPart neg s (xMul q f.1)) true xOne (f.2 + 1) else .ok (xPart neg s (xMul q f.1), f.2) := rfl
    -- a factor is done
    have dn : ∀ h6 f i2 A2, facR T (dC c) nn G sl i = .ok (f, i2) → LvD p T e c G n sl dp lo i i2 A2 h6 s neg q f → Fq (ZV dp 0 lo) h h6 → i < i2 → WF d 139 20 [jP 141, jI 1] [] h6 Q := fun h6 f i2 A2 hf D F6 hi => by
      rw [hf, xb_pure] at eW
      have eW : loopW T (facR T (dC c) nn G sl) (m + 1) s neg q i = if hv f = true ∧ hv q = true then .error (tkP T i) else if tkK T i2 = 142 then loopW T (facR T (dC c) nn G sl) m s neg (xMul q f) (i2 + 1) else if tkK T i2 = 143 then loopW T (facR T (dC c) nn G sl) m (xPart neg s (xMul q f)) false xOne (i2 + 1) else if tkK T i2 = 145 then loopW T (facR T (dC c) nn G sl) m (xPart neg s (xMul q f)) true xOne (i2 + 1) else .ok (xPart neg s (xMul q f), i2) := eW
      have L6 := D.1.1.1
      have kd := D.2.1.2.2.2.2.2.2
      have lA : lo ≤ A2 := by
        obtain ⟨m1, m2, y1, y2, y3⟩ := D.2.2.2.2.1
        have := cR_lt y1; have := cR_lt y2; have := cR_lt y3; omega
      by_cases hcl : hv f = true ∧ hv q = true
      · rw [if_pos hcl] at eW
        have L7 : Ly p (wi h6 141 6 (tkP T i : Int)) := L6.wi (by decide)
        exact c_139_20 (by omega) L6 ⟨fun _ => ⟨fun z => absurd z (by decide), fun _ => ⟨fun z => absurd z (by decide), fun _ => ⟨2, _, b144_22 (by omega) D hcl, L7, lev_f (by omega) L7 w6_r (fun y => HE _ _ eW L7 (F6.trans (Fq.wi (by omega))) w6_r y)⟩⟩⟩, fun z => absurd kd z⟩
      rw [if_neg hcl] at eW
      by_cases hstop : ¬ tkK T i2 = 142 ∧ ¬ tkK T i2 = 143 ∧ ¬ tkK T i2 = 145
      · rw [if_neg hstop.1, if_neg hstop.2.1, if_neg hstop.2.2] at eW
        exact HO h6 s neg q f i i2 A2 eW D hcl hstop.1 hstop.2.1 hstop.2.2 F6
      obtain ⟨d', rfl⟩ : ∃ d', d = d' + 1 := ⟨d - 1, by omega⟩
      have hW : WF d' 144 0 [jP 141] [] h6 (fun w h' => w = some (jI 0) ∧ Ly p h' ∧ WF (d' + 1) 139 20 [jP 141, jI 0] [] h' Q) := by
        refine bh (by omega) D hcl (fun c1 h' B' F' => ⟨rfl, B'.1.1.1, ?_⟩) (fun c1 h' B' F' => ⟨rfl, B'.1.1.1, ?_⟩) (fun c1 c2 c3 h' _ _ => absurd ⟨c1, c2, c3⟩ hstop)
        · rw [if_pos c1] at eW
          have F7 : Fq (ZV dp 0 lo) h h' := F6.trans (F'.mono (fun a k z => by omega))
          exact ihm G sl dp lo (i2 + 1) _ h' s neg (xMul q f) hdn hd B' O hsl (by omega) (fun h2 x hx L2 F2 h62 y => HE h2 x (eW.trans hx) L2 (F7.trans F2) h62 y) (fun h2 s' neg' q' f' i0 i' A' hx D' hc' n1 n2 n3 F2 => HO h2 s' neg' q' f' i0 i' A' (eW.trans hx) D' hc' n1 n2 n3 (F7.trans F2))
        · have F7 : Fq (ZV dp 0 lo) h h' := F6.trans (F'.mono (fun a k z => by omega))
          have eW : loopW T (facR T (dC c) nn G sl) (m + 1) s neg q i = loopW T (facR T (dC c) nn G sl) m (xPart neg s (xMul q f)) (decide (tkK T i2 = 145)) xOne (i2 + 1) := by
            rw [eW, if_neg (by omega)]
            by_cases c3 : tkK T i2 = 143
            · rw [if_pos c3, decide_eq_false (by omega)]
            · rw [if_neg c3, if_pos (by omega), decide_eq_true (by omega)]
          exact ihm G sl dp lo (i2 + 1) _ h' _ _ xOne hdn hd B' O hsl (by omega) (fun h2 x hx L2 F2 h62 y => HE h2 x (eW.trans hx) L2 (F7.trans F2) h62 y) (fun h2 s' neg' q' f' i0 i' A' hx D' hc' n1 n2 n3 F2 => HO h2 s' neg' q' f' i0 i' A' (eW.trans hx) D' hc' n1 n2 n3 (F7.trans F2))
      obtain ⟨w, h7, hE7, rfl, L7, W7⟩ := jE_of (d := d') (y := 144) (h := h6) (as := [jP 141]) (Nat.le_of_ble_eq_true rfl) hW
      exact c_139_20 (by omega) L6 ⟨fun _ => ⟨fun z => absurd z (by decide), fun _ => ⟨fun z => absurd z (by decide), fun _ => ⟨0, h7, hE7, L7, W7⟩⟩⟩, fun z => absurd kd z⟩
    refine c_139_20 (by omega) L ⟨fun _ => ⟨fun z => absurd z (by decide), fun _ => ⟨fun _ => ?_, fun z => absurd rfl z⟩⟩, fun z => absurd k6 z⟩
    -- no sum inside
    have leaf : ∀ R, facR T (dC c) nn G sl i = R → (∀ r, R = .ok r → i < r.2) → (∃ w h', jE d 140 [jP 141] h w h' ∧ P140 p T e c G n sl dp lo i h s neg q R w h') → ∃ x9 h6, jE d 140 [jP 141] h (some (jI x9)) h6 ∧ Ly p h6 ∧ WF d 139 20 [jP 141, jI x9] [] h6 Q := fun R hR hi ⟨w, h6, hE, v, hw, L6, ⟨A6, F6, l6⟩, r6⟩ => by
      subst hw
      have F6 : Fq (ZV dp 0 lo) h h6 := F6.mono (fun a k z => by omega)
      refine ⟨v, h6, hE, L6, ?_⟩
      cases R with
      | error x => exact lev_f (by omega) L6 r6 (fun y => HE h6 x (by rw [eW, hR]; rfl) L6 F6 r6 y)
      | ok r =>
        obtain ⟨r1, A2, D⟩ := r6
        subst r1
        exact dn h6 r.1 r.2 A2 hR D F6 (hi r rfl)
    by_cases c2 : tkK T i = 2
    · exact leaf _ (facR_num c2) (fun r hr => by cases hr; show i < i + 1; omega) (fac_num (by omega) B0 c2)
    by_cases c1 : tkK T i = 1
    · exact leaf _ (facR_nam c1) (fun r hr => (pNamed_ok (n := 0) (tkG_all T) O hr).2) (fac_nam (by omega) B0 O c1)
    by_cases hb : (¬ tkK T i = 140 ∧ ¬ tkK T i = 17) ∨ nn = 0
    · exact leaf _ (facR_bad c1 c2 hb) (fun r hr => by cases hr) (fac_bad (by omega) B0 c1 c2 (by omega))
    have hk : tkK T i = 140 ∨ tkK T i = 17 := by omega
    obtain ⟨k, rfl⟩ : ∃ k, nn = k + 1 := ⟨nn - 1, by omega⟩
    have eF := facR_open (C := dC c) (nn := k) (G := G) (sl := sl) hk
    obtain ⟨w, h6, hE, v, rfl, L6, F6, r6⟩ := fac_open (d := d) (by omega) B0 (by omega) (by omega) hk
    have F6l : Fq (ZV dp 0 lo) h h6 := F6.mono (fun a k z => by omega)
    refine ⟨v, h6, hE, L6, ?_⟩
    cases hO : pOpen T G sl i with
    | error x =>
      rw [hO] at r6 eF
      exact lev_f (by omega) L6 r6 (fun y => HE h6 x (by rw [eW, eF]; rfl) L6 F6l r6 y)
    | ok r =>
      rw [hO] at r6 eF
      obtain ⟨rfl, A1, hA1, B6, St6, hl6⟩ := r6
      obtain ⟨O6, ⟨gg, ss, g1, g2, g3⟩, hi6⟩ := pOpen_ok O (by omega) hk hO
      obtain ⟨rG, rs, ri⟩ := r
      have g1 : rG = G ++ gg := g1
      have g2 : rs = sl ++ ss := g2
      subst g1 g2
      have e0 : (sl ++ ss).getD sl.length (-1) = ss.getD 0 (-1) := getD_r sl ss (-1) 0
      have e1 : (sl ++ ss).getD (sl.length + 1) (-1) = ss.getD 1 (-1) := getD_r sl ss (-1) 1
      have eF : facR T (dC c) (k + 1) G sl i = xb (pSum T (dC c) k (G ++ gg) (sl ++ ss) ri) fun q => xb (pTake T 141 q.2) fun j => .ok (xInn sl.length (ss.getD 0 (-1)) (ss.getD 1 (-1)) q.1, j) := by rw [eF, xb_pure]; simp only [e0, e1]
      have hl6 : lpB T i = true → ji h6 160 A = 9 ∧ ji h6 161 A = (sl.length : Int) ∧ ji h6 162 A = ss.getD 0 (-1) ∧ ji h6 163 A = ss.getD 1 (-1) := fun z => by
        have := hl6 z
        exact ⟨this.1, this.2.1, this.2.2.1.trans e0, this.2.2.2.trans e1⟩
      have eS : pSum T (dC c) k (G ++ gg) (sl ++ ss) ri = loopW T (facR T (dC c) k (G ++ gg) (sl ++ ss)) 400 xZero (sgn T ri) xOne (sgi T ri) := by rw [pSum_eq, sumW_eq]
      rw [eS] at eF
      have sg : ri ≤ sgi T ri := by unfold sgi; split <;> omega
      have ssl : (sl ++ ss).length ≤ sl.length + 2 := by
        rw [List.length_append]
        rcases g3 with ⟨_, z⟩ | ⟨_, ⟨a, z, _⟩ | ⟨a, b, z, _⟩⟩
        · rw [z]; show sl.length + 0 ≤ _; omega
        · rw [z]; show sl.length + 1 ≤ _; omega
        · rw [z]; show sl.length + 2 ≤ _; omega
      refine IH k rfl d Q 400 (G ++ gg) (sl ++ ss) (dp + 1) A1 (sgi T ri) (A1 + 2) h6 xZero (sgn T ri) xOne (by omega) hd B6 O6 (by omega) (by have : i + 1 ≤ ri := hi6; omega) (fun h7 x hx L7 F7 h67 y => HE h7 x (by rw [eW, eF, hx]; rfl) L7 (F6l.trans (F7.mono (fun a k z => by omega))) h67 y) (fun h7 s' neg' q' f' j0 j A7 hx D7 hc7 n1 n2 n3 F7 => ?_)
      -- behind the sum inside
      rw [hx, xb_pure] at eF
      have eF : facR T (dC c) (k + 1) G sl i = xb (pTake T 141 j) fun j => .ok (xInn sl.length (ss.getD 0 (-1)) (ss.getD 1 (-1)) (xPart neg' s' (xMul q' f')), j) := eF
      have L7 := D7.1.1.1
      have k7 := D7.2.1.2.2.2.2.2.2
      have F7l : Fq (ZV dp 0 lo) h h7 := F6l.trans (F7.mono (fun a k z => by omega))
      have lA7 : A1 ≤ A7 := by
        obtain ⟨m1, m2, y1, y2, y3⟩ := D7.2.2.2.2.1
        have := cR_lt y1; have := cR_lt y2; have := cR_lt y3; omega
      have ij : i < j := by
        have z : pSum T (dC c) k (G ++ gg) (sl ++ ss) ri = .ok (xPart neg' s' (xMul q' f'), j) := by rw [eS]; exact hx
        have z2 := (pSum_ok (tkG_all T) k (G ++ gg) (sl ++ ss) ri _ O6 (by omega) z).2
        have z2 : ri < j := z2
        have : i + 1 ≤ ri := hi6
        omega
      obtain ⟨d', rfl⟩ : ∃ d', d = d' + 1 := ⟨d - 1, by omega⟩
      have hW : WF d' 144 0 [jP 141] [] h7 (fun w h' => ∃ x, w = some (jI x) ∧ Ly p h' ∧ WF (d' + 1) 139 20 [jP 141, jI x] [] h' Q) := by
        refine bh (by omega) D7 hc7 (fun z => absurd z n1) (fun z => by omega) (fun _ _ _ g E8 F8 => ?_)
        have F8l : Fq (ZV dp 0 lo) h g := F7l.trans (F8.mono (fun a k z => by omega))
        have Fd : Fq (ZV (dp + 1) 0 A1) h6 g := F7.trans (F8.mono (fun a k z => by omega))
        obtain ⟨f1, f2, f3, f4, f5, f6', f7, f8⟩ := St6
        have St8 : StF T g dp (lpB T i) neg q s i (wke (dS c) s + wke (dS c) q) sl.length A := ⟨(Fd.i (by omega)).trans f1, (Fd.i (by omega)).trans f2, (Fd.i (by omega)).trans f3, (Fd.i (by omega)).trans f4, (Fd.i (by omega)).trans f5, (Fd.l (by omega)).trans f6', (Fd.i (by omega)).trans f7, (Fd.i (by omega)).trans f8⟩
        have cc : ∀ a y, 160 ≤ a → a ≤ 163 → y < A → ji g a y = ji h a y := fun a y z1 z2 z3 => by rw [Fd.i (by omega), F6.i (by omega)]
        have hl8 : lpB T i = true → ji g 160 A = 9 ∧ ji g 161 A = (sl.length : Int) ∧ ji g 162 A = ss.getD 0 (-1) ∧ ji g 163 A = ss.getD 1 (-1) := fun z => by
          have q := hl6 z
          have e1 : A1 = A + 1 := by rw [hA1, if_pos z]
          exact ⟨(Fd.i (by omega)).trans q.1, (Fd.i (by omega)).trans q.2.1, (Fd.i (by omega)).trans q.2.2.1, (Fd.i (by omega)).trans q.2.2.2⟩
        refine lv_close (A := A) (lo := lo) (by omega) E8 S.2.1.1.2.2 St8 hA1 hl8 g3 (by omega) O0 ⟨mm, cR_mono cs (fun a y z1 z2 z3 z4 => cc a y z1 z2 (by omega)), cR_mono cq (fun a y z1 z2 z3 z4 => cc a y z1 z2 (by omega))⟩ n2 n3 (fun c1 h9 L9 F9 h69 => ⟨2, rfl, L9, lev_f (by omega) L9 h69 (fun y => HE h9 _ ?_ L9 (F8l.trans (F9.mono (fun a k z => by omega))) h69 y)⟩) (fun c1 h9 A9 D9 F9 => ⟨1, rfl, D9.1.1.1, dn h9 _ (j + 1) A9 ?_ D9 (F8l.trans (F9.mono (fun a k z => by omega))) (by omega)⟩)
        · rw [eW, eF, take_n c1]; rfl
        · rw [eF, take_y c1]; rfl
      obtain ⟨w, h8, hE8, x8, rfl, L8, W8⟩ := jE_of (d := d') (y := 144) (h := h7) (as := [jP 141]) (Nat.le_of_ble_eq_true rfl) hW
      exact c_139_20 (by omega) L7 ⟨fun _ => ⟨fun z => absurd z (by decide), fun _ => ⟨fun z => absurd z (by decide), fun _ => ⟨x8, h8, hE8, L8, W8⟩⟩⟩, fun z => absurd k7 z⟩
theorem levs (O0 : okS (dS c)) : ∀ nn, LevT p T e c n nn := by
  intro nn
  induction nn with
  | zero => exact lev_step (fun k hk => absurd hk (by omega)) O0
  | succ nn ih => exact lev_step (fun k hk => by rw [show k = nn by omega]; exact ih) O0
end RLV
