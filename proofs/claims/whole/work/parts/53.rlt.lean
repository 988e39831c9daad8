/-! THE REFERENCE TAKES TOKENS: signs, the next token -/
section RLT
variable {p : Lpar} {d : Nat} {h h' h0 h1 g : AH} {T : Txt} {e i k n q m : Nat}
def SgP (p : Lpar) (T : Txt) (q : Nat) (h : AH) (w : Option AV) (h' : AH) : Prop := w = none ∧ Ly p h' ∧ Fq ZL h h' ∧ ji h' 141 3 = ji h 141 3 ∧ ji h' 141 2 = (lexS T q).1 ∧ ji h' 141 4 = ((lexS T q).2.2.2.2 : Int)
theorem sg_2 (hq : q + 2 ≤ 402) {K : Int} (hK : (lexS T q).1 = K ∧ (lexS T q).2.2.2.2 = q + 2) (L2 : Ly p (wi (wi (wi h 141 4 ((q : Int) + 1)) 141 2 K) 141 4 (w32 (((q : Int) + 1) + 1)))) : SgP p T q h none (wi (wi (wi h 141 4 ((q : Int) + 1)) 141 2 K) 141 4 (w32 (((q : Int) + 1) + 1))) := by
  refine ⟨rfl, L2, ((Fq.wi (by omega)).trans (Fq.wi (by omega))).trans (Fq.wi (by omega)), ?_, ?_, ?_⟩
  · rw [ji_wi, if_neg (by omega), ji_wi, if_neg (by omega), ji_wi, if_neg (by omega)]
  · rw [ji_wi, if_neg (by omega), ji_wi, if_pos ⟨rfl, rfl⟩, hK.1]
  · rw [ji_wi, if_pos ⟨rfl, rfl⟩, w32_i (by omega) (by omega), hK.2]; omega
theorem sg_1 {K : Int} (hK : (lexS T q).1 = K ∧ (lexS T q).2.2.2.2 = q + 1) (L2 : Ly p (wi (wi h 141 4 ((q : Int) + 1)) 141 2 K)) : SgP p T q h none (wi (wi h 141 4 ((q : Int) + 1)) 141 2 K) := by
  refine ⟨rfl, L2, (Fq.wi (by omega)).trans (Fq.wi (by omega)), ?_, ?_, ?_⟩
  · rw [ji_wi, if_neg (by omega), ji_wi, if_neg (by omega)]
  · rw [ji_wi, if_pos ⟨rfl, rfl⟩, hK.1]
  · rw [ji_wi, if_neg (by omega), ji_wi, if_pos ⟨rfl, rfl⟩, hK.2]; omega
theorem m_117 (hd : 10 ≤ d) (L : Ly p h) (hT : okT T) (X : TxM T h) (e4 : ji h 141 4 = (q : Int)) (hq : q < T.1) : ∃ w h', jE d 117 [jP 141, jI (T.2 q)] h w h' ∧ SgP p T q h w h' := by
  obtain ⟨d, rfl⟩ : ∃ d', d = d' + 1 := ⟨d - 1, by omega⟩
  have hT1 := hT.1
  have hb := hT.2 q hq
  refine jE_of (as := [jP 141, jI (T.2 q)]) (Nat.le_of_ble_eq_true rfl) (c_117_0 (by omega) L ?_)
  have at1 : (if (q : Int) + 1 < (T.1 : Int) then ji h 142 (Int.toNat ((q : Int) + 1)) else -1) = tAt T (q + 1) := by
    unfold tAt
    by_cases c : q + 1 < T.1
    · rw [if_pos (by omega), if_pos c, show ((q : Int) + 1).toNat = q + 1 by omega]; exact X.2 _ c
    · rw [if_neg (by omega), if_neg c]
  rw [e4, X.1, w32_i (x := (q : Int) + 1) (by omega) (by omega), at1, w32_i (x := 100 + T.2 q) (by omega) (by omega)]
  have s2 : T.2 q = 60 ∨ T.2 q = 62 ∨ T.2 q = 46 → (lexS T q).2.2.2.2 = q + 2 := fun z => by
    unfold lexS
    by_cases c1 : T.2 q = 60
    · rw [if_pos c1]
    · rw [if_neg c1]
      by_cases c2 : T.2 q = 62
      · rw [if_pos c2]
      · rw [if_neg c2, if_pos (by omega)]
  have k60 : T.2 q = 60 → (lexS T q).1 = if tAt T (q + 1) = 61 then 20 else 4 := fun c => by unfold lexS; rw [if_pos c]
  have k62 : T.2 q = 62 → (lexS T q).1 = if tAt T (q + 1) = 61 then 21 else 4 := fun c => by unfold lexS; rw [if_neg (by omega), if_pos c]
  have k46 : T.2 q = 46 → (lexS T q).1 = if tAt T (q + 1) = 46 then 22 else 4 := fun c => by unfold lexS; rw [if_neg (by omega), if_neg (by omega), if_pos c]
  have k1 : ¬ T.2 q = 60 → ¬ T.2 q = 62 → ¬ T.2 q = 46 → (lexS T q).1 = (if isSg (T.2 q) = true then 100 + T.2 q else 4) ∧ (lexS T q).2.2.2.2 = q + 1 := fun c1 c2 c3 => by unfold lexS; rw [if_neg c1, if_neg c2, if_neg c3]; exact ⟨rfl, rfl⟩
  have sy : ∀ {x : Int}, T.2 q = x → isSg x = true → ¬ T.2 q = 60 → ¬ T.2 q = 62 → ¬ T.2 q = 46 → (lexS T q).1 = 100 + T.2 q ∧ (lexS T q).2.2.2.2 = q + 1 := fun hx hs c1 c2 c3 => by
    have := k1 c1 c2 c3
    rw [if_pos (by rw [hx]; exact hs)] at this; exact this
  exact ⟨fun c1 => ⟨by omega, by omega, fun c2 => ⟨fun _ L2 => sg_2 (by omega) ⟨by rw [k60 c1, if_pos c2], s2 (by omega)⟩ L2, fun c3 => absurd c1 c3⟩, fun c2 L2 => sg_2 (by omega) ⟨by rw [k60 c1, if_neg c2], s2 (by omega)⟩ L2⟩, fun c1 => ⟨fun c3 => ⟨by omega, by omega, fun c2 => ⟨fun c4 => absurd c4 c1, fun _ L2 => sg_2 (by omega) ⟨by rw [k62 c3, if_pos c2], s2 (by omega)⟩ L2⟩, fun c2 L2 => sg_2 (by omega) ⟨by rw [k62 c3, if_neg c2], s2 (by omega)⟩ L2⟩, fun c3 => ⟨fun c4 => ⟨by omega, by omega, fun c2 L2 => sg_2 (by omega) ⟨by rw [k46 c4, if_pos c2], s2 (by omega)⟩ L2, fun c2 L2 => sg_2 (by omega) ⟨by rw [k46 c4, if_neg c2], s2 (by omega)⟩ L2⟩, fun c4 => ⟨fun s0 L2 => sg_1 (sy s0 (by decide) c1 c3 c4) L2, fun s0 => ⟨fun s1 L2 => sg_1 (sy s1 (by decide) c1 c3 c4) L2, fun s1 => ⟨fun s2 L2 => sg_1 (sy s2 (by decide) c1 c3 c4) L2, fun s2 => ⟨fun s3 L2 => sg_1 (sy s3 (by decide) c1 c3 c4) L2, fun s3 => ⟨fun s4 L2 => sg_1 (sy s4 (by decide) c1 c3 c4) L2, fun s4 => ⟨fun s5 L2 => sg_1 (sy s5 (by decide) c1 c3 c4) L2, fun s5 => ⟨fun s6 L2 => sg_1 (sy s6 (by decide) c1 c3 c4) L2, fun s6 => ⟨fun s7 L2 => sg_1 (sy s7 (by decide) c1 c3 c4) L2, fun s7 => ⟨fun s8 L2 => sg_1 (sy s8 (by decide) c1 c3 c4) L2, fun s8 => ⟨fun s9 L2 => sg_1 (sy s9 (by decide) c1 c3 c4) L2, fun s9 => ⟨fun s10 L2 => sg_1 (sy s10 (by decide) c1 c3 c4) L2, fun s10 => fun L2 => sg_1 (by have := k1 c1 c3 c4; rw [if_neg (fun z => by unfold isSg at z; have := of_decide_eq_true z; omega)] at this; exact this) L2⟩⟩⟩⟩⟩⟩⟩⟩⟩⟩⟩⟩⟩⟩
/-- token i stands -/
def RtR (T : Txt) (e i : Nat) (h : AH) : Prop := i ≤ e ∧ ji h 141 2 = tkK T i ∧ ji h 141 3 = (tkP T i : Int) ∧ ji h 141 4 = (tkE T i : Int) ∧ (tkK T i = 1 → ji h 141 5 = c27 (tkN T i)) ∧ (tkK T i = 2 → ji h 141 5 = tkV T i) ∧ ji h 141 6 = -1
/-- what stands through a reading -/
def RT (p : Lpar) (T : Txt) (e : Nat) (h : AH) : Prop := Ly p h ∧ okT T ∧ stopAt T e ∧ e ≤ 400 ∧ TxM T h
theorem RT.fq {Z : Nat → Nat → Prop} (R : RT p T e h) (f : Fq Z h h') (z0 : ∀ a k, Z a k → 32 ≤ a) (z1 : ¬ Z 141 1) (z2 : ∀ k, ¬ Z 142 k) : RT p T e h' := ⟨R.1.fq f z0, R.2.1, R.2.2.1, R.2.2.2.1, R.2.2.2.2.fq f z1 z2⟩
theorem RtR.fq {Z : Nat → Nat → Prop} (R : RtR T e i h) (f : Fq Z h h') (z : ∀ k, 2 ≤ k → k ≤ 6 → ¬ Z 141 k) : RtR T e i h' := by
  obtain ⟨r1, r2, r3, r4, r5, r6, r7⟩ := R
  exact ⟨r1, (f.i (z 2 (by omega) (by omega))).trans r2, (f.i (z 3 (by omega) (by omega))).trans r3, (f.i (z 4 (by omega) (by omega))).trans r4, fun y => (f.i (z 5 (by omega) (by omega))).trans (r5 y), fun y => (f.i (z 5 (by omega) (by omega))).trans (r6 y), (f.i (z 6 (by omega) (by omega))).trans r7⟩
/-- the token behind position s -/
def LxP (p : Lpar) (T : Txt) (s : Nat) (h : AH) (w : Option AV) (h' : AH) : Prop := w = none ∧ Ly p h' ∧ Fq ZL h h' ∧ ji h' 141 2 = (lex T s).1 ∧ ji h' 141 3 = ((lex T s).2.1 : Int) ∧ ji h' 141 4 = ((lex T s).2.2.2.2 : Int) ∧ ((lex T s).1 = 1 → ji h' 141 5 = c27 (lex T s).2.2.2.1) ∧ ((lex T s).1 = 2 → ji h' 141 5 = (lex T s).2.2.1)
theorem lexS_n (T : Txt) (q : Nat) : ¬ (lexS T q).1 = 1 ∧ ¬ (lexS T q).1 = 2 ∧ (lexS T q).2.1 = q := by
  have two : ∀ {a x : Int}, ¬ a = 1 → ¬ a = 2 → ¬ (if tAt T (q + 1) = x then a else 4) = 1 ∧ ¬ (if tAt T (q + 1) = x then a else 4) = 2 := fun h1 h2 => by
    split
    · exact ⟨h1, h2⟩
    · exact ⟨by decide, by decide⟩
  unfold lexS
  split
  · exact ⟨(two (by decide) (by decide)).1, (two (by decide) (by decide)).2, rfl⟩
  split
  · exact ⟨(two (by decide) (by decide)).1, (two (by decide) (by decide)).2, rfl⟩
  split
  · exact ⟨(two (by decide) (by decide)).1, (two (by decide) (by decide)).2, rfl⟩
  · by_cases hs : isSg (T.2 q) = true
    · rw [if_pos hs]
      have h9 := hs
      unfold isSg at h9
      have h9 := of_decide_eq_true h9
      exact ⟨fun z => by have z : 100 + T.2 q = 1 := z; omega, fun z => by have z : 100 + T.2 q = 2 := z; omega, rfl⟩
    · rw [if_neg hs]
      exact ⟨n41, n42, rfl⟩
theorem m_118 (hd : 14 ≤ d) (hT : okT T) (h0 : AH) : ∀ (j s : Nat) (h : AH), T.1 - s = j → s ≤ T.1 → Ly p h → TxM T h → ji h 141 4 = (s : Int) → Fq ZL h0 h → WF d 118 0 [jP 141, jU] [] h (LxP p T s h0) := by
  have hT1 := hT.1
  intro j
  induction j with
  | zero =>
    intro s h hj hs L X e4 F
    refine c_118_0 (by omega) L ?_
    rw [atM X e4, tAt_n (by omega), e4, X.1]
    have eL : lex T s = (3, s, 0, [], s) := by unfold lex; rw [spn_end (by omega), lex0_E (by omega)]
    refine ⟨by omega, by omega, fun z => absurd z (by decide), fun _ => ⟨by omega, by omega, fun z => absurd z (by decide), fun _ => ⟨by omega, by omega, fun _ L2 => ?_, fun z => absurd rfl z⟩⟩⟩
    unfold LxP
    rw [eL]
    refine ⟨rfl, L2, F.trans ((Fq.wi (by omega)).trans (Fq.wi (by omega))), by rw [ji_wi, if_pos ⟨rfl, rfl⟩], by rw [ji_wi, if_neg (by omega), ji_wi, if_pos ⟨rfl, rfl⟩], by rw [ji_wi, if_neg (by omega), ji_wi, if_neg (by omega)]; exact e4, fun z => absurd z n31, fun z => absurd z n32⟩
  | succ j ih =>
    intro s h hj hs L X e4 F
    have hm : s < T.1 := by omega
    have hb := hT.2 s hm
    refine c_118_0 (by omega) L ?_
    rw [atM X e4, tAt_y hm, e4, X.1, w32_i (x := (s : Int) + 1) (by omega) (by omega)]
    have bl : isBl (T.2 s) = true → Ly p (wi h 141 4 ((s : Int) + 1)) → WF d 118 0 [jP 141, jU] [] (wi h 141 4 ((s : Int) + 1)) (LxP p T s h0) := fun hb L2 => by
      have f2 : Fq ZL h (wi h 141 4 ((s : Int) + 1)) := Fq.wi (by omega)
      have := ih (s + 1) (wi h 141 4 ((s : Int) + 1)) (by omega) (by omega) L2 (X.fq f2 (by omega) (fun k => by omega)) (by rw [ji_wi, if_pos ⟨rfl, rfl⟩]; omega) (F.trans f2)
      unfold LxP at this ⊢
      rw [lex_bl hm hb]; exact this
    refine ⟨by omega, by omega, fun z => bl (by unfold isBl; exact decide_eq_true (Or.inl z)), fun n1 => ⟨by omega, by omega, fun z => bl (by unfold isBl; exact decide_eq_true (Or.inr z)), fun n2 => ⟨by omega, by omega, fun z => by omega, fun _ => ?_⟩⟩⟩
    have hnb : ¬ isBl (T.2 s) = true := fun z => by unfold isBl at z; have := of_decide_eq_true z; omega
    have f1 : Fq ZL h (wi h 141 3 (s : Int)) := Fq.wi (by omega)
    have X1 : TxM T (wi h 141 3 (s : Int)) := X.fq f1 (by omega) (fun k => by omega)
    have e31 : ji (wi h 141 3 (s : Int)) 141 3 = (s : Int) := by rw [ji_wi, if_pos ⟨rfl, rfl⟩]
    have e41 : ji (wi h 141 3 (s : Int)) 141 4 = (s : Int) := by rw [ji_wi, if_neg (by omega)]; exact e4
    refine ⟨fun z L2 => ?_, fun z => ⟨fun z2 L2 => ?_, fun z2 L2 => ?_⟩⟩
    · have hl := isLt_i.mpr z
      have eL : lex T s = lexL T s := by rw [lex_nb hnb, lex0_L hm hl]
      obtain ⟨h2, hE, L3, F2, q1, q2, q3, q4⟩ := m_113 (d := d) (by omega) L2 hT X1 e31 e41 hm hl
      refine ⟨h2, hE, L3, ?_⟩
      unfold LxP
      rw [eL]
      refine ⟨rfl, L3, (F.trans f1).trans F2, q2, q1, q3, fun y => q4 ?_, fun y => ?_⟩
      · by_cases c : spn isLt T s - s ≤ 4
        · exact c
        · unfold lexL at y; rw [if_pos (by omega)] at y; exact absurd y n41
      · unfold lexL at y
        split at y
        · exact absurd y n42
        · have y : wordK (slc T s (spn isLt T s)) = 2 := y
          have := wordK_r (slc T s (spn isLt T s)); omega
    · have hl0 : ¬ isLt (T.2 s) = true := fun y => z (isLt_i.mp y)
      have hl := isDg_i.mpr z2
      have eL : lex T s = lexD T s := by rw [lex_nb hnb, lex0_D hm hl0 hl]
      obtain ⟨h2, hE, L3, F2, q1, q2, q3, q4⟩ := m_116 (d := d) (by omega) L2 hT X1 e31 e41 hm hl
      refine ⟨h2, hE, L3, ?_⟩
      unfold LxP
      rw [eL]
      refine ⟨rfl, L3, (F.trans f1).trans F2, q2, q1, q3, fun y => ?_, fun y => q4 ?_⟩
      · unfold lexD at y
        split at y
        · exact absurd y n41
        · exact absurd y n21
      · by_cases c : spn isDg T s - s ≤ 4
        · exact c
        · unfold lexD at y; rw [if_pos (by omega)] at y; exact absurd y n42
    · have hl0 : ¬ isLt (T.2 s) = true := fun y => z (isLt_i.mp y)
      have hg : ¬ isDg (T.2 s) = true := fun y => z2 (isDg_i.mp y)
      have eL : lex T s = lexS T s := by rw [lex_nb hnb, lex0_S hm hl0 hg]
      obtain ⟨w, h2, hE, rfl, L3, F2, q1, q2, q3⟩ := m_117 (d := d) (by omega) L2 hT X1 e41 hm
      have hn := lexS_n T s
      refine ⟨h2, hE, L3, ?_⟩
      unfold LxP
      rw [eL]
      exact ⟨rfl, L3, (F.trans f1).trans F2, q2, by rw [q1, e31, hn.2.2], q3, fun y => absurd y hn.1, fun y => absurd y hn.2.1⟩
/-- the first token -/
theorem t_118z (hd : 15 ≤ d) (R : RT p T e h) (e4 : ji h 141 4 = 0) (e6 : ji h 141 6 = -1) : ∃ h', jE d 118 [jP 141] h none h' ∧ Ly p h' ∧ Fq ZL h h' ∧ RtR T e 0 h' := by
  obtain ⟨d, rfl⟩ : ∃ d', d = d' + 1 := ⟨d - 1, by omega⟩
  obtain ⟨L, hT, hs, he, X⟩ := R
  obtain ⟨v, h', hE, rfl, L2, F, q1, q2, q3, q4, q5⟩ := jE_of (d := d) (y := 118) (h := h) (as := [jP 141]) (Nat.le_of_ble_eq_true rfl) (m_118 (by omega) hT h _ 0 h rfl (Nat.zero_le _) L X e4 Fq.refl)
  exact ⟨h', hE, L2, F, Nat.zero_le _, q1, q2, q3, q4, q5, (F.i (by omega)).trans e6⟩
theorem t_118 (hd : 15 ≤ d) (R : RT p T e h) (K : RtR T e i h) (hn : ¬ (tkK T i = 3 ∨ tkK T i = 4)) : ∃ h', jE d 118 [jP 141] h none h' ∧ Ly p h' ∧ Fq ZL h h' ∧ RtR T e (i + 1) h' := by
  obtain ⟨d, rfl⟩ : ∃ d', d = d' + 1 := ⟨d - 1, by omega⟩
  obtain ⟨L, hT, hs, he, X⟩ := R
  obtain ⟨k1, k2, k3, k4, k5, k6, k7⟩ := K
  have hlt : i < e := by
    by_cases c : i = e
    · rw [c] at hn; exact absurd hs.1 hn
    · omega
  have hp := pos_le T (i + 1) (fun j hj => hs.2 j (by omega))
  have hp2 : tkE T i ≤ T.1 := hp.2
  obtain ⟨v, h', hE, rfl, L2, F, q1, q2, q3, q4, q5⟩ := jE_of (d := d) (y := 118) (h := h) (as := [jP 141]) (Nat.le_of_ble_eq_true rfl) (m_118 (by omega) hT h _ (tkE T i) h rfl hp2 L X k4 Fq.refl)
  exact ⟨h', hE, L2, F, by omega, q1, q2, q3, q4, q5, (F.i (by omega)).trans k7⟩
/-- a state: a token, or a fault -/
def RS (T : Txt) (e : Nat) (s : Er Nat) (h : AH) : Prop := Rs s (fun q => ji h 141 6 = (q : Int)) (fun i => RtR T e i h)
theorem t_120 (hd : 16 ≤ d) (R : RT p T e h) {s : Er Nat} (S : RS T e s h) {k : Int} (hk : ¬ (k = 3 ∨ k = 4)) : ∃ v h', jE d 120 [jP 141, jI k] h (some (jI v)) h' ∧ Ly p h' ∧ Fq ZF h h' ∧ Rs (xb s (pTake T k)) (fun q => v = 0 ∧ ji h' 141 6 = (q : Int)) (fun i => v = 1 ∧ RtR T e i h') := by
  obtain ⟨d, rfl⟩ : ∃ d', d = d' + 1 := ⟨d - 1, by omega⟩
  have L := R.1
  obtain ⟨w, h', hE, v, rfl, r⟩ := jE_of (d := d) (y := 120) (h := h) (as := [jP 141, jI k]) (P := fun w h' => ∃ v, w = some (jI v) ∧ Ly p h' ∧ Fq ZF h h' ∧ Rs (xb s (pTake T k)) (fun q => v = 0 ∧ ji h' 141 6 = (q : Int)) (fun i => v = 1 ∧ RtR T e i h')) (Nat.le_of_ble_eq_true rfl) (c_120_0 (by omega) L (by
    cases s with
    | error q =>
      have S : ji h 141 6 = (q : Int) := S
      exact ⟨fun z => by omega, fun _ => ⟨0, rfl, L, Fq.refl, rfl, S⟩⟩
    | ok i =>
      have S : RtR T e i h := S
      refine ⟨fun _ => ⟨fun z => ?_, fun z => ⟨fun _ L2 => ?_, fun z2 => absurd S.2.2.2.2.2.2 z2⟩⟩, fun z => absurd S.2.2.2.2.2.2 z⟩
      · have z : tkK T i = k := by rw [← S.2.1]; exact z
        obtain ⟨h1, hE, L1, F1, K1⟩ := t_118 (d := d) (by omega) R S (by rw [z]; exact hk)
        refine ⟨h1, hE, L1, 1, rfl, L1, F1.mono (fun a k z => by omega), ?_⟩
        show Rs (pTake T k i) _ _
        rw [take_y z]
        exact ⟨rfl, K1⟩
      · refine ⟨0, rfl, L2, Fq.wi (by omega), ?_⟩
        show Rs (pTake T k i) _ _
        rw [take_n (by rw [← S.2.1]; exact z)]
        exact ⟨rfl, by rw [ji_wi, if_pos ⟨rfl, rfl⟩]; exact S.2.2.1⟩))
  exact ⟨v, h', hE, r⟩
theorem t_121 (hd : 17 ≤ d) (R : RT p T e h) {s : Er Nat} (S : RS T e s h) {c k : Int} (hk : w32 (100 + c) = k) (hk2 : ¬ (k = 3 ∨ k = 4)) : ∃ v h', jE d 121 [jP 141, jI c] h (some (jI v)) h' ∧ Ly p h' ∧ Fq ZF h h' ∧ Rs (xb s (pTake T k)) (fun q => v = 0 ∧ ji h' 141 6 = (q : Int)) (fun i => v = 1 ∧ RtR T e i h') := by
  obtain ⟨d, rfl⟩ : ∃ d', d = d' + 1 := ⟨d - 1, by omega⟩
  obtain ⟨v, h1, hE, L1, F1, r⟩ := t_120 (d := d) (by omega) R S hk2
  have hv : v = 0 ∨ v = 1 := by
    cases hx : xb s (pTake T k) with
    | error q => rw [hx] at r; exact Or.inl r.1
    | ok i => rw [hx] at r; exact Or.inr r.1
  obtain ⟨w, h', hE2, rfl, rfl⟩ := jE_of (d := d) (y := 121) (h := h) (as := [jP 141, jI c]) (P := fun w h' => w = some (jI v) ∧ h' = h1) (Nat.le_of_ble_eq_true rfl) (c_121_0 (by omega) R.1 ⟨v, h1, by rw [hk]; exact hE, L1, hv, rfl, rfl⟩)
  exact ⟨v, h', hE2, L1, F1, r⟩
end RLT
