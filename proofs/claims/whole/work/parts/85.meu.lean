/-! THE CLASS: parts, whole sums -/
section MEU
variable {p : Lpar} {d : Nat} {h h' h0 h1 g : AH} {c : Dc} {W m m1 n lo hi a b dep tt : Nat} {nu nu1 X Y : Nat → Int} {sl sl' : List Int} {t v : Int} {x f q l r : Ex} {k : Int × Int × Int} {u : Unit} {Q : Option AV → AH → Prop}
theorem tR1 (hT : tR h (.inner tt k u l r) 1 lo hi a b) : tt = 5 ∧ ((hv r = true ∧ tR h l 1 lo hi a b) ∨ (hv r = false ∧ tR h r 0 lo hi a 0 ∧ tR h l 1 lo hi (jr h a 6) b)) := by
  unfold tR at hT
  split at hT
  · exact absurd hT.1 (by omega)
  split at hT
  · exact absurd hT.1 (by omega)
  split at hT
  · rename_i z
    rcases hT with ⟨_, y⟩ | ⟨y, _⟩
    · exact ⟨z, y⟩
    · exact absurd y (by omega)
  split at hT
  · exact absurd hT.1 (by omega)
  · exact absurd hT.1 (by omega)
theorem tR_pt : ∀ {q : Ex} {a b : Nat}, tR h q 1 lo hi a b → isPt q := by
  intro q
  induction q with
  | leaf => intro a b _; trivial
  | inner tt k u l r ihl ihr =>
    intro a b hT
    obtain ⟨z, y⟩ := tR1 hT
    refine ⟨z, ?_⟩
    rcases y with ⟨_, y⟩ | ⟨_, _, y⟩
    · exact ihl y
    · exact ihl y
theorem tR2 (hT : tR h (.inner tt k u l r) 2 lo hi a b) : tt = 5 ∧ ((hv r = true ∧ tR h r 0 lo hi a 0) ∨ (hv r = false ∧ tR h l 2 lo hi a b)) := by
  unfold tR at hT
  split at hT
  · exact absurd hT.1 (by omega)
  split at hT
  · exact absurd hT.1 (by omega)
  split at hT
  · rename_i z
    rcases hT with ⟨y, _⟩ | ⟨_, y⟩
    · exact absurd y (by omega)
    · exact ⟨z, y⟩
  split at hT
  · exact absurd hT.1 (by omega)
  · exact absurd hT.1 (by omega)
theorem ho_of : ∀ {q : Ex} {a b : Nat}, tR h q 2 lo hi a b → exOK (dC c) q n sl → (a = 0 ∧ ∀ j, hoV c nu q j = if j = 40 then 1 else 0) ∨ (∃ f, hv f = true ∧ tR h f 0 lo hi a 0 ∧ exOK (dC c) f n sl ∧ ∀ j, hoV c nu q j = lin c f nu j) := by
  intro q
  induction q with
  | leaf => intro a b hT _; exact Or.inl ⟨hT.2, fun j => rfl⟩
  | inner tt k u l r ihl ihr =>
    intro a b hT hx
    obtain ⟨z, y⟩ := tR2 hT
    subst z
    have hx : (5 = 5 → ¬ (hv l = true ∧ hv r = true)) ∧ exOK (dC c) l n sl ∧ exOK (dC c) r n sl := hx
    rcases y with ⟨y1, y2⟩ | ⟨y1, y2⟩
    · exact Or.inr ⟨r, y1, y2, hx.2.2, fun j => by unfold hoV; rw [if_pos y1]⟩
    · have e : ∀ j, hoV c nu (.inner 5 k u l r) j = hoV c nu l j := fun j => by
        show (if hv r = true then lin c r nu j else hoV c nu l j) = _
        rw [if_neg (by rw [y1]; decide)]
      rcases ihl y2 hx.2.1 with ⟨w1, w2⟩ | ⟨f, w1, w2, w3, w4⟩
      · exact Or.inl ⟨w1, fun j => (e j).trans (w2 j)⟩
      · exact Or.inr ⟨f, w1, w2, w3, fun j => (e j).trans (w4 j)⟩
/-- the chain of factors without vars -/
theorem ch_31 (hd : 11 ≤ d) (IH : 1 ≤ n → S16 p c W d (n - 1)) (hs : sl.length + 2 * n ≤ 18) (hl : NF ≤ lo) (hdp : dep + n ≤ 8) {a1 a5 : Nat} {v2 : Int} : ∀ (q : Ex) (h : AH) (a8 b : Nat) (v6 u6 : Int), EvC p c W h → exOK (dC c) q n sl → tR h q 1 lo hi a8 b → NuM h sl.length nu → Acc h W X → v6 = w64 u6 → (∀ h', EvC p c W h' → Fq (ZEv W) h h' → NuM h' sl.length nu → Acc h' W X → WF (d + 2) 16 31 [jP 95, jP a1, jL v2, jU, jI (dep : Int), jP a5, jL (w64 (u6 * prV c nu q)), jU, jP 0] [] h' Q) → WF (d + 2) 16 31 [jP 95, jP a1, jL v2, jU, jI (dep : Int), jP a5, jL v6, jU, jP a8] [] h Q := by
  intro q
  induction q with
  | leaf =>
    intro h a8 b v6 u6 E hx hT N A e6 K
    have q := K h E Fq.refl N A
    have e : prV c nu .leaf = 1 := rfl
    rw [e, Int.mul_one, ← e6] at q
    rw [hT.2]; exact q
  | inner tt k u l r ihl ihr =>
    intro h a8 b v6 u6 E hx hT N A e6 K
    obtain ⟨z, y⟩ := tR1 hT
    subst z
    have hx : (5 = 5 → ¬ (hv l = true ∧ hv r = true)) ∧ exOK (dC c) l n sl ∧ exOK (dC c) r n sl := hx
    have hW := E.2.2.2.2.2.2.1
    have hN : NF = 197 := rfl
    have eP : prV c nu (.inner 5 k u l r) = if hv r = true then prV c nu l else prV c nu l * lin c r nu 40 := rfl
    rcases y with ⟨y1, y2⟩ | ⟨y1, y2, y3⟩
    · rw [eP, if_pos y1] at K
      exact ihl h a8 b v6 u6 E hx.2.1 y2 N A e6 K
    · rw [eP, if_neg (by rw [y1]; decide)] at K
      obtain ⟨h1, hE1, E1, F1, N1, A1⟩ := m_20 (d := d) (dep := dep) hd IH E hx.2.2 hs y2 hl y1 N A hdp
      have a8b : lo ≤ a8 ∧ jt h a8 = 3 := by
        cases r with
        | leaf => exact absurd y2.1 (by omega)
        | inner t' k' u' l' r' => have := tR0 y2; exact ⟨this.2.1, this.2.2.2.1⟩
      refine c_16_31 (by omega) E.1 ⟨by omega, fun z => by omega, fun _ => ⟨_, h1, hE1, E1.1, (F1.2.2.1 a8).1.trans a8b.2, ?_⟩⟩
      rw [F1.2.1 a8 6]
      refine ihl h1 (jr h a8 6) b _ (u6 * lin c r nu 40) E1 hx.2.1 (tR_q y3 hl hW F1) N1 A1 ?_ (fun h' E' F' N' A' => ?_)
      · rw [e6, w64_m, Int.mul_comm u6 (w64 _), w64_m, Int.mul_comm]
      · have q := K h' E' (F1.trans F') N' A'
        rw [show u6 * lin c r nu 40 * prV c nu l = u6 * (prV c nu l * lin c r nu 40) by rw [Int.mul_assoc, Int.mul_comm (lin c r nu 40)]]
        exact q
theorem tR3 (hT : tR h (.inner tt k u l r) 3 lo hi a b) : (tt = 6 ∧ a = b) ∨ (7 ≤ tt ∧ ∃ e, tR h l 3 lo e a e ∧ lo ≤ e ∧ e < hi ∧ jt h e = 6 ∧ ji h e 0 = (if tt = 8 then 1 else 0) ∧ tR h r 1 (e + 1) hi (jr h e 1) 0 ∧ tR h r 2 (e + 1) hi (jr h e 2) 0 ∧ jr h e 3 = b) := by
  unfold tR at hT
  split at hT
  · exact absurd hT.1 (by omega)
  split at hT
  · exact absurd hT.1 (by omega)
  split at hT
  · rcases hT with ⟨y, _⟩ | ⟨y, _⟩ <;> omega
  split at hT
  · exact Or.inl ⟨by assumption, hT.2⟩
  · exact Or.inr ⟨by omega, hT.2⟩
/-- one PART -/
theorem part_c (hd : 11 ≤ d) (IH : 1 ≤ n → S16 p c W d (n - 1)) (hs : sl.length + 2 * n ≤ 18) (hl : NF ≤ lo) (hdp : dep + n ≤ 8) {a1 : Nat} {e : Nat} {w : Int} {z6 z7 z8 : AV} (hv2 : v = w64 t) (E : EvC p c W h) (hx : exOK (dC c) r n sl) (he : lo ≤ e) (j6 : jt h e = 6) {sg : Bool} (j0 : ji h e 0 = (if sg = true then 1 else 0)) (T1 : tR h r 1 (e + 1) hi (jr h e 1) 0) (T2 : tR h r 2 (e + 1) hi (jr h e 2) 0) (N : NuM h sl.length nu) (A : Acc h W X) (K : ∀ h' y6 y7 y8, EvC p c W h' → Fq (ZEv W) h h' → NuM h' sl.length nu → Acc h' W (fun j => X j + (if sg = true then -t else t) * lin c r nu j) → WF (d + 2) 16 3 [jP 95, jP a1, jL v, jU, jI (dep : Int), jP (jr h e 3), y6, y7, y8] [] h' Q) : WF (d + 2) 16 3 [jP 95, jP a1, jL v, jU, jI (dep : Int), jP e, z6, z7, z8] [] h Q := by
  have hW := E.2.2.2.2.2.2.1
  have hN : NF = 197 := rfl
  have key : ∀ v6, v6 = w64 (if sg = true then -t else t) → WF (d + 2) 16 31 [jP 95, jP a1, jL v, jU, jI (dep : Int), jP e, jL v6, jU, jP (jr h e 1)] [] h Q := by
    intro v6 e6
    refine ch_31 (X := X) hd IH hs (lo := e + 1) (by omega) hdp r h (jr h e 1) 0 v6 _ E hx T1 N A e6 (fun h1 E1 F1 N1 A1 => ?_)
    have T3 : tR h1 r 2 (e + 1) hi (jr h e 2) 0 := tR_q T2 (by omega) hW F1
    have r2 : jr h1 e 2 = jr h e 2 := F1.2.1 e 2
    have r3 : jr h1 e 3 = jr h e 3 := F1.2.1 e 3
    have j61 : jt h1 e = 6 := (F1.2.2.1 e).1.trans j6
    have pl := part_lin (nu := nu) (tR_pt T1) hx
    refine c_16_31 (by omega) E1.1 ⟨by omega, fun _ => ?_, fun z => absurd rfl z⟩
    rw [r2]
    rcases ho_of (nu := nu) T3 hx with ⟨y1, y2⟩ | ⟨f, y1, y2, y3, y4⟩
    · refine ⟨j61, by omega, fun z => absurd y1 z, fun _ => ⟨j61, fun L2 => ?_⟩⟩
      have F2 : Fq (ZEv W) h1 (wl h1 95 8 (w64 (jl h1 95 8 + w64 ((if sg = true then -t else t) * prV c nu r)))) := Fq.wl (by omega)
      have q := K _ (jL (w64 ((if sg = true then -t else t) * prV c nu r))) jU (jP 0) (E1.fq F2) (F1.trans F2) (fun s hs => N1 s hs) ⟨fun j hj => ?_, ?_⟩
      · rw [F2.2.1 e 3, r3]; exact q
      · show _ = w64 (X j + (if sg = true then -t else t) * lin c r nu j)
        rw [jl_wl, if_neg (by unfold isW at hW; omega), A1.1 j hj, pl j (by omega), y2 j, show (if j = 40 then (1 : Int) else 0) = 0 from if_neg (by omega), Int.mul_zero, Int.mul_zero, Int.add_zero]
      · show _ = w64 (X 40 + (if sg = true then -t else t) * lin c r nu 40)
        rw [jl_wl, if_pos ⟨rfl, rfl⟩, A1.2, pl 40 (by omega), y2 40, if_pos rfl, Int.mul_one, w64_a, w64_a2]
    · obtain ⟨h2, hE2, E2, F2, N2, A2⟩ := m_17 (d := d) (dep := dep) hd IH E1 y3 hs y2 (by omega) y1 N1 A1 (v := w64 ((if sg = true then -t else t) * prV c nu r)) rfl hdp
      have a2b : ¬ jr h e 2 = 0 ∧ ¬ jr h e 2 = 1 := by
        cases f with
        | leaf => exact absurd y2.1 (by omega)
        | inner t' k' u' l' r' => have := tR0 y2; omega
      refine ⟨j61, a2b.2, fun _ => ⟨j61, h2, hE2, E2.1, (F2.2.2.1 e).1.trans j61, ?_⟩, fun z => absurd z a2b.1⟩
      rw [F2.2.1 e 3, r3]
      refine K h2 _ _ _ E2 (F1.trans F2) N2 (A2.cg (fun j hj => ?_))
      show X j + (if sg = true then -t else t) * prV c nu r * lin c f nu j = X j + (if sg = true then -t else t) * lin c r nu j
      rw [pl j hj, y4 j, Int.mul_assoc]
  refine c_16_3 (by omega) E.1 ⟨by omega, fun z => by omega, fun _ => ⟨j6, fun z => ⟨j6, ?_⟩, fun z => ⟨j6, ?_⟩⟩⟩
  · refine key v ?_
    cases sg
    · exact hv2
    · rw [j0] at z; exact absurd z (by decide)
  · refine key _ ?_
    cases sg
    · exact absurd j0 z
    · show w64 (-v) = w64 (-t)
      rw [hv2]
      have := w64_m t (-1)
      rw [show -w64 t = w64 t * -1 by omega, this, show t * -1 = -t by omega]
theorem sm_3 (hd : 11 ≤ d) (IH : 1 ≤ n → S16 p c W d (n - 1)) (hs : sl.length + 2 * n ≤ 18) (hl : NF ≤ lo) (hdp : dep + n ≤ 8) {a1 : Nat} (hv2 : v = w64 t) : ∀ (x : Ex) (h : AH) (a b hi : Nat) (z6 z7 z8 : AV), EvC p c W h → exOK (dC c) x n sl → tR h x 3 lo hi a b → NuM h sl.length nu → Acc h W X → (∀ h' y6 y7 y8, EvC p c W h' → Fq (ZEv W) h h' → NuM h' sl.length nu → Acc h' W (fun j => X j + t * lin c x nu j) → WF (d + 2) 16 3 [jP 95, jP a1, jL v, jU, jI (dep : Int), jP b, y6, y7, y8] [] h' Q) → WF (d + 2) 16 3 [jP 95, jP a1, jL v, jU, jI (dep : Int), jP a, z6, z7, z8] [] h Q := by
  intro x
  induction x with
  | leaf => intro h a b hi z6 z7 z8 E hx hT; exact absurd hT.1 (by omega)
  | inner tt k u l r ihl ihr =>
    intro h a b hi z6 z7 z8 E hx hT N A K
    have hW := E.2.2.2.2.2.2.1
    rcases tR3 hT with ⟨z, y⟩ | ⟨z, e, y1, y2, y3, y4, y5, y6, y7, y8⟩
    · subst z
      rw [y]
      refine K h _ _ _ E Fq.refl N (A.cg (fun j _ => ?_))
      show X j = X j + t * 0
      rw [Int.mul_zero, Int.add_zero]
    · have hx : exOK (dC c) l n sl ∧ exOK (dC c) r n sl := by
        unfold exOK at hx
        rw [if_neg (by omega), if_neg (by omega), if_neg (by omega), if_neg (by omega), if_neg (by omega)] at hx
        exact hx.2
      refine ihl h a e e z6 z7 z8 E hx.1 y1 N A (fun h1 w6 w7 w8 E1 F1 N1 A1 => ?_)
      have hN : NF = 197 := rfl
      refine part_c (hi := hi) (sg := decide (tt = 8)) (w := 0) hd IH hs hl hdp hv2 E1 hx.2 y2 ((F1.2.2.1 e).1.trans y4) ?_ ?_ ?_ N1 A1 (fun h2 x6 x7 x8 E2 F2 N2 A2 => ?_)
      · rw [F1.i (by unfold isW at hW; omega), y5]
        by_cases w : tt = 8
        · rw [if_pos w, if_pos (decide_eq_true w)]
        · rw [if_neg w, if_neg (by rw [decide_eq_false w]; decide)]
      · rw [F1.2.1 e 1]; exact tR_q y6 (by omega) hW F1
      · rw [F1.2.1 e 2]; exact tR_q y7 (by omega) hW F1
      · rw [F1.2.1 e 3, y8]
        refine K h2 _ _ _ E2 (F1.trans F2) N2 (A2.cg (fun j _ => ?_))
        show X j + t * lin c l nu j + (if decide (tt = 8) = true then -t else t) * lin c r nu j = X j + t * lin c (.inner tt k u l r) nu j
        have eL : lin c (.inner tt k u l r) nu j = if tt = 8 then lin c l nu j - lin c r nu j else lin c l nu j + lin c r nu j := by
          show (if tt = 0 then _ else _) = _
          rw [if_neg (by omega), if_neg (by omega), if_neg (by omega), if_neg (by omega), if_neg (by omega), if_neg (by omega), if_neg (by omega)]
        rw [eL]
        by_cases w : tt = 8
        · rw [if_pos (decide_eq_true w), if_pos w, Int.mul_sub, Int.neg_mul]; omega
        · rw [if_neg (by rw [decide_eq_false w]; decide), if_neg w, Int.mul_add]; omega
/-- SUMS ARE WORKED OUT -/
theorem s16 (p : Lpar) (c : Dc) (W : Nat) : ∀ (n d : Nat), 11 + 3 * n ≤ d → S16 p c W (d + 3) n := by
  intro n
  induction n with
  | zero =>
    intro d hd h x sl a lo hi nu X t v dep E hx hs hT hl N A hv2 hdp
    suffices hh : ∃ w h', jE (d + 2 + 1) 16 [jP 95, jP a, jL v, jI (dep : Int)] h w h' ∧ w = none ∧ P16 p c W h sl.length nu X t x h' by
      obtain ⟨w, h', hE, rfl, q⟩ := hh
      exact ⟨h', hE, q⟩
    refine jE_of (as := [jP 95, jP a, jL v, jI (dep : Int)]) (Nat.le_of_ble_eq_true rfl) (c_16_0 (by omega) E.1 ?_)
    exact sm_3 (n := 0) (by omega) (fun z => absurd z (by decide)) hs hl hdp hv2 x h a 0 hi _ _ _ E hx hT N A (fun h' y6 y7 y8 E' F' N' A' => c_16_3 (by omega) E'.1 ⟨by decide, fun _ => ⟨rfl, E', F', N', A'⟩, fun z => absurd rfl z⟩)
  | succ n ih =>
    intro d hd h x sl a lo hi nu X t v dep E hx hs hT hl N A hv2 hdp
    suffices hh : ∃ w h', jE (d + 2 + 1) 16 [jP 95, jP a, jL v, jI (dep : Int)] h w h' ∧ w = none ∧ P16 p c W h sl.length nu X t x h' by
      obtain ⟨w, h', hE, rfl, q⟩ := hh
      exact ⟨h', hE, q⟩
    obtain ⟨d', rfl⟩ : ∃ d', d = d' + 3 := ⟨d - 3, by omega⟩
    refine jE_of (as := [jP 95, jP a, jL v, jI (dep : Int)]) (Nat.le_of_ble_eq_true rfl) (c_16_0 (by omega) E.1 ?_)
    exact sm_3 (n := n + 1) (by omega) (fun _ => ih d' (by omega)) hs hl hdp hv2 x h a 0 hi _ _ _ E hx hT N A (fun h' y6 y7 y8 E' F' N' A' => c_16_3 (by omega) E'.1 ⟨by decide, fun _ => ⟨rfl, E', F', N', A'⟩, fun z => absurd rfl z⟩)
end MEU
