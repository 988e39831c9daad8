/-! THE REFERENCE: a whole sum -/
section RSU
variable {p : Lpar} {d : Nat} {h h' h0 h1 g : AH} {T : Txt} {e i i0 i1 k A A1 dp lo m : Nat} {c : Dc} {G : NmL} {n : Nat → Nat} {sl : List Int} {s q f x : Ex} {neg lp : Bool}
theorem e_139 (hd : 10 ≤ d) (L : Ly p h) (hq : ¬ ji h 141 6 = -1) : jE d 139 [jP 141] h (some (jL 0)) h := by
  obtain ⟨d, rfl⟩ : ∃ d', d = d' + 1 := ⟨d - 1, by omega⟩
  exact jE_eq (Nat.le_of_ble_eq_true rfl) (c_139_0 (by omega) L ⟨fun z => absurd z hq, fun _ => ⟨rfl, rfl⟩⟩)
def P139 (p : Lpar) (T : Txt) (e : Nat) (c : Dc) (G : NmL) (n : Nat → Nat) (sl : List Int) (A : Nat) (h : AH) (R : Er (Ex × Nat)) (w : Option AV) (h' : AH) : Prop := ∃ y, w = some (jL y) ∧ Ly p h' ∧ Fq (ZV 0 0 A) h h' ∧ Rs R (fun x => ji h' 141 6 = (x : Int)) (fun r => y = w64 (wke (dS c) r.1) ∧ ∃ A', LvE p T e c G n sl 0 A r.2 A' h' r.1)
theorem t_139 (hd : 24 ≤ d) (R : RT p T e h) (M : SxM h G n sl) (B : RTb h c) (K : RtR T e i h) (h33 : ji h 141 33 = (A : Int)) (hA : A + 4 ≤ 4 * i) (O : okX (dC c) G sl) (hsl : sl.length ≤ 2) : ∃ w h', jE d 139 [jP 141] h w h' ∧ P139 p T e c G n sl A h (pSum T (dC c) 8 G sl i) w h' := by
  obtain ⟨d, rfl⟩ : ∃ d', d = d' + 1 := ⟨d - 1, by omega⟩
  have L := R.1
  have k6 := K.2.2.2.2.2.2
  refine jE_of (as := [jP 141]) (Nat.le_of_ble_eq_true rfl) (c_139_0 (by omega) L ⟨fun _ L1 => ?_, fun z => absurd k6 z⟩)
  have F1 : Fq (fun a k => a = 141 ∧ k = 38) h (wi h 141 38 0) := Fq.wi (by omega)
  have S1 : SmC p T e c G n sl 0 (wi h 141 38 0) := ⟨R.fq F1 (fun a k z => by omega) (by omega) (fun k => by omega), M.fq F1 (fun k z => by omega) (fun a k z => by omega), B.cg (fun a k z => F1.i (by omega)), by rw [ji_wi, if_pos ⟨rfl, rfl⟩]; rfl⟩
  obtain ⟨w, h2, hE2, rfl, B2, G2⟩ := m_137 (d := d) (by omega) S1 (K.fq F1 (fun k _ _ => by omega)) (by rw [F1.i (by omega)]; exact h33) hA
  have F2 : Fq (ZV 0 0 A) h h2 := (F1.mono (fun a k z => by omega)).trans (G2.mono (fun a k z => by omega))
  refine ⟨h2, hE2, B2.1.1.1, ?_⟩
  have eS : pSum T (dC c) 8 G sl i = loopW T (facR T (dC c) 8 G sl) 400 xZero (sgn T i) xOne (sgi T i) := by rw [pSum_eq, sumW_eq]
  have sg : i ≤ sgi T i := by unfold sgi; split <;> omega
  rw [eS]
  refine levs O.2.1 8 d _ 400 G sl 0 A (sgi T i) (A + 2) h2 xZero (sgn T i) xOne rfl (by omega) B2 O (by omega) (by omega) (fun h' x hx L' F' h6 y => ⟨y, rfl, L', F2.trans F', by rw [hx]; exact h6⟩) (fun h7 s' neg' q' f' j0 j A7 hx D7 hc7 n1 n2 n3 F7 => ?_)
  have L7 := D7.1.1.1
  have k7 := D7.2.1.2.2.2.2.2.2
  have lA7 : A ≤ A7 := by
    obtain ⟨m1, m2, y1, y2, y3⟩ := D7.2.2.2.2.1
    have := cR_lt y1; have := cR_lt y2; have := cR_lt y3; omega
  obtain ⟨d', rfl⟩ : ∃ d', d = d' + 1 := ⟨d - 1, by omega⟩
  have hW : WF d' 144 0 [jP 141] [] h7 (fun w h' => w = some (jI 2) ∧ Ly p h' ∧ WF (d' + 1) 139 20 [jP 141, jI 2] [] h' (P139 p T e c G n sl A h (loopW T (facR T (dC c) 8 G sl) 400 xZero (sgn T i) xOne (sgi T i)))) := by
    refine bh (by omega) D7 hc7 (fun z => absurd z n1) (fun z => by omega) (fun _ _ _ g E8 F8 => ?_)
    have Lg := E8.1.1.1
    have kg := E8.2.1.2.1
    have F9 : Fq (ZV 0 0 A) h g := (F2.trans F7).trans (F8.mono (fun a k z => by omega))
    refine c_144_116 (by omega) Lg ⟨fun z => by omega, fun _ => ⟨fun z => by omega, fun _ => ⟨fun _ => ⟨rfl, Lg, c_139_20 (by omega) Lg ⟨fun _ => ⟨fun _ => ⟨_, rfl, Lg, F9, ?_⟩, fun z => absurd rfl z⟩, fun z => absurd E8.2.1.2.2.2.2.2.2 z⟩⟩, fun z => absurd E8.1.2.2.2 z⟩⟩⟩
    rw [hx]
    exact ⟨E8.2.2.2.2.2.2, _, E8⟩
  obtain ⟨w, h8, hE8, rfl, L8, W8⟩ := jE_of (d := d') (y := 144) (h := h7) (as := [jP 141]) (Nat.le_of_ble_eq_true rfl) hW
  exact c_139_20 (by omega) L7 ⟨fun _ => ⟨fun z => absurd z (by decide), fun _ => ⟨fun z => absurd z (by decide), fun _ => ⟨2, h8, hE8, L8, W8⟩⟩⟩, fun z => absurd k7 z⟩
/-! how much WORK at most -/
theorem wke_nn {S : List (Int × Int)} (hS : okS S) : ∀ x : Ex, 0 ≤ wke S x := by
  intro x
  induction x with
  | leaf => exact Int.le_refl _
  | inner t k u l r ihl ihr =>
    unfold wke
    split
    · decide
    split
    · have := Int.mul_nonneg ihl (sz2_r hS k.2.1 k.2.2).1
      omega
    · omega
def bd (nn k : Nat) : Int := ((64 ^ nn * k : Nat) : Int)
theorem bd_add (nn a b : Nat) : bd nn a + bd nn b = bd nn (a + b) := by unfold bd; rw [Nat.mul_add]; omega
theorem bd_one (nn : Nat) : 1 ≤ bd nn 1 := by
  unfold bd
  have : 0 < 64 ^ nn := Nat.pow_pos (by decide)
  rw [Nat.mul_one]; omega
theorem bd_le {nn a b : Nat} (h : a ≤ b) : bd nn a ≤ bd nn b := by
  unfold bd
  have := Nat.mul_le_mul_left (64 ^ nn) h
  omega
theorem bd_s (nn k : Nat) : bd nn k * 64 = bd (nn + 1) k := by
  unfold bd
  rw [Nat.pow_succ, show 64 ^ nn * 64 * k = 64 ^ nn * k * 64 by rw [Nat.mul_right_comm]]
  omega
theorem bd_up {nn k : Nat} : bd nn k ≤ bd (nn + 1) k := by
  rw [← bd_s]
  have : 0 ≤ bd nn k := by unfold bd; omega
  omega
theorem loop_wk {C : Cx} {fac : Nat → Er (Ex × Nat)} {nn : Nat} (F : ∀ i r, fac i = .ok r → i < r.2 ∧ wke C.1 r.1 ≤ bd nn (r.2 - i)) : ∀ (m : Nat) (s : Ex) (neg : Bool) (q : Ex) (i i0 : Nat) (r : Ex × Nat), i0 ≤ i → wke C.1 s + wke C.1 q ≤ bd nn (i - i0) → loopW T fac m s neg q i = .ok r → i < r.2 ∧ wke C.1 r.1 ≤ bd nn (r.2 - i0) := by
  intro m
  induction m with
  | zero => intro s neg q i i0 r _ _ h; cases h
  | succ m ih =>
    intro s neg q i i0 r h0 hb h
    have eW : loopW T fac (m + 1) s neg q i = xb (fac i) fun f => if hv f.1 = true ∧ hv q = true then .error (tkP T i) else if tkK T f.2 = 142 then loopW T fac m s neg (xMul q f.1) (f.2 + 1) else if tkK T f.2 = 143 then loopW T fac m (xPart neg s (xMul q f.1)) false xOne (f.2 + 1) else if tkK T f.2 = 145 then loopW T fac m (xPart neg s (xMul q f.1)) true xOne (f.2 + 1) else .ok (xPart neg s (xMul q f.1), f.2) := rfl
    rw [eW] at h
    obtain ⟨f, hf, h⟩ := xb_ok h
    obtain ⟨f1, f2⟩ := F i f hf
    have e1 := bd_add nn (i - i0) (f.2 - i)
    have e2 : i - i0 + (f.2 - i) = f.2 - i0 := by omega
    rw [e2] at e1
    have e3 := bd_le (nn := nn) (show f.2 - i0 ≤ f.2 + 1 - i0 by omega)
    split at h
    · cases h
    split at h
    · have q := ih s neg (xMul q f.1) (f.2 + 1) i0 r (by omega) (by rw [wke_mul]; omega) h
      exact ⟨by omega, q.2⟩
    split at h
    · have q := ih _ false xOne (f.2 + 1) i0 r (by omega) (by rw [wke_part, wke_mul]; show wke C.1 s + (wke C.1 q + wke C.1 f.1) + 0 ≤ _; omega) h
      exact ⟨by omega, q.2⟩
    split at h
    · have q := ih _ true xOne (f.2 + 1) i0 r (by omega) (by rw [wke_part, wke_mul]; show wke C.1 s + (wke C.1 q + wke C.1 f.1) + 0 ≤ _; omega) h
      exact ⟨by omega, q.2⟩
    · cases h
      refine ⟨f1, ?_⟩
      show wke C.1 (xPart neg s (xMul q f.1)) ≤ _
      rw [wke_part, wke_mul]; show _ ≤ bd nn (f.2 - i0); omega
theorem sum_wk {C : Cx} (hS : okS C.1) : ∀ (nn : Nat) (G : NmL) (sl : List Int) (i : Nat) (r : Ex × Nat), okX C G sl → sl.length + 2 * nn ≤ 18 → pSum T C nn G sl i = .ok r → i < r.2 ∧ wke C.1 r.1 ≤ bd nn (r.2 - i) := by
  intro nn
  induction nn with
  | zero =>
    intro G sl i r O hsl h
    rw [pSum_eq, sumW_eq] at h
    have sg : i ≤ sgi T i := by unfold sgi; split <;> omega
    have q := loop_wk (C := C) (nn := 0) (fac := facR T C 0 G sl) (fun i r hr => ?_) 400 xZero (sgn T i) xOne (sgi T i) i r sg (by show (0 : Int) + 0 ≤ _; unfold bd; omega) h
    · exact ⟨by omega, q.2⟩
    · by_cases c2 : tkK T i = 2
      · rw [facR_num c2] at hr; cases hr; exact ⟨by show i < i + 1; omega, by show (1 : Int) ≤ bd 0 (i + 1 - i); rw [show i + 1 - i = 1 by omega]; exact bd_one 0⟩
      by_cases c1 : tkK T i = 1
      · rw [facR_nam c1] at hr
        have q := (pNamed_ok (n := 0) (tkG_all T) O hr).2
        refine ⟨q, ?_⟩
        rw [nam_w hr]
        exact Int.le_trans (bd_one 0) (bd_le (by omega))
      · rw [facR_bad c1 c2 (Or.inr rfl)] at hr; cases hr
  | succ nn ih =>
    intro G sl i r O hsl h
    rw [pSum_eq, sumW_eq] at h
    have sg : i ≤ sgi T i := by unfold sgi; split <;> omega
    have q := loop_wk (C := C) (nn := nn + 1) (fac := facR T C (nn + 1) G sl) (fun i r hr => ?_) 400 xZero (sgn T i) xOne (sgi T i) i r sg (by show (0 : Int) + 0 ≤ _; unfold bd; omega) h
    · exact ⟨by omega, q.2⟩
    · by_cases c2 : tkK T i = 2
      · rw [facR_num c2] at hr; cases hr; exact ⟨by show i < i + 1; omega, by show (1 : Int) ≤ bd (nn + 1) (i + 1 - i); rw [show i + 1 - i = 1 by omega]; exact bd_one _⟩
      by_cases c1 : tkK T i = 1
      · rw [facR_nam c1] at hr
        have q := (pNamed_ok (n := 0) (tkG_all T) O hr).2
        refine ⟨q, ?_⟩
        rw [nam_w hr]
        exact Int.le_trans (bd_one _) (bd_le (by omega))
      by_cases hk : tkK T i = 140 ∨ tkK T i = 17
      · rw [facR_open hk] at hr
        obtain ⟨a, ha, hr⟩ := xb_ok hr
        obtain ⟨b, hb, hr⟩ := xb_ok hr
        obtain ⟨j, hj, hr⟩ := xb_ok hr
        obtain ⟨O2, ⟨gg, ss, g1, g2, g3⟩, hi⟩ := pOpen_ok O (by omega) hk ha
        have hl : a.2.1.length ≤ sl.length + 2 := by
          rw [g2, List.length_append]
          rcases g3 with ⟨_, z⟩ | ⟨_, ⟨a, z, _⟩ | ⟨a, b, z, _⟩⟩
          · rw [z]; show sl.length + 0 ≤ _; omega
          · rw [z]; show sl.length + 1 ≤ _; omega
          · rw [z]; show sl.length + 2 ≤ _; omega
        have q := ih a.1 a.2.1 a.2.2 b O2 (by omega) hb
        have tj := (take_ok hj).2
        cases hr
        refine ⟨by show i < j; omega, ?_⟩
        show 1 + wke C.1 b.1 * (szO C.1 (a.2.1.getD sl.length (-1)) * szO C.1 (a.2.1.getD (sl.length + 1) (-1))) ≤ bd (nn + 1) (j - i)
        have sz := sz2_r hS (a.2.1.getD sl.length (-1)) (a.2.1.getD (sl.length + 1) (-1))
        have w0 := wke_nn hS b.1
        have m1 : wke C.1 b.1 * (szO C.1 (a.2.1.getD sl.length (-1)) * szO C.1 (a.2.1.getD (sl.length + 1) (-1))) ≤ wke C.1 b.1 * 64 := Int.mul_le_mul_of_nonneg_left sz.2 w0
        have m2 := bd_s nn (b.2 - a.2.2)
        have m3 := bd_one (nn + 1)
        have m4 := bd_add (nn + 1) 1 (b.2 - a.2.2)
        have m5 := bd_le (nn := nn + 1) (show 1 + (b.2 - a.2.2) ≤ j - i by omega)
        omega
      · rw [facR_bad c1 c2 (Or.inl ⟨fun z => hk (Or.inl z), fun z => hk (Or.inr z)⟩)] at hr; cases hr
end RSU
