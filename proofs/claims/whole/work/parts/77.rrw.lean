/-! THE REFERENCE: a rule is told, step by step -/
section RRW
variable {p : Lpar} {d : Nat} {h h' h0 h1 g : AH} {T : Txt} {e i j k A A0 A1 A2 : Nat} {c : Dc} {G : NmL} {sl : List Int} {v1 v3 : Int} {z3 z4 : AV} {nm : List Int} {o : Int × Int} {rel : Int} {a b : Ex}
/-- what stands already -/
def W4 (h : AH) (c : Dc) (o : Int × Int) : Prop := ji h 154 (2 * (dR c).length) = o.1 ∧ ji h 154 (2 * (dR c).length + 1) = o.2
theorem ru_264 (hd : 24 ≤ d) (Rr : RRl h0 c A0) (N : NmF c nm G) (hL : (dL c).length = (dR c).length) (hr : (dR c).length < 10) (S : RuS p T e c G sl A0 h0 i A2 h) (w : W4 h c o) (w3 : ji h 155 (dR c).length = rel) (w5 : ji h 156 (3 * (dR c).length) = (A0 : Int)) (w6 : ji h 156 (3 * (dR c).length + 1) = (A1 : Int)) (x1 : cR h a A0 A1) (x2 : cR h b A1 A2) (hA : A2 ≤ 4 * i) (hv : v3 = wke (dS c) a + wke (dS c) b) : WF d 133 264 [jP 141, jI v1, jI ((dR c).length : Int), jL v3, jU] [] h (QR p T e h0 (pR5 T c nm o rel a b i)) := by
  refine c_133_264 (by omega) S.1.1 ?_
  rw [i3b hr, S.2.2.2.2.1, Int.toNat_natCast]
  refine ⟨by omega, by omega, fun L1 => c_133_278 (by omega) L1 ?_⟩
  rw [Int.toNat_natCast]
  refine ⟨by omega, by omega, fun L2 => ?_⟩
  have F2 : Fq (ZY (dR c).length) h (wl (wi h 156 (3 * (dR c).length + 2) (A2 : Int)) 157 (dR c).length v3) := (Fq.wi (by omega)).trans (Fq.wl (by omega))
  have s : ∀ a k, ¬ (a = 156 ∧ k = 3 * (dR c).length + 2) → ji (wl (wi h 156 (3 * (dR c).length + 2) (A2 : Int)) 157 (dR c).length v3) a k = ji h a k := fun a k z => by rw [ji_wl, ji_wi, if_neg z]
  have w7 : ji (wl (wi h 156 (3 * (dR c).length + 2) (A2 : Int)) 157 (dR c).length v3) 156 (3 * (dR c).length + 2) = (A2 : Int) := by rw [ji_wl, ji_wi, if_pos ⟨rfl, rfl⟩]
  have w4 : jl (wl (wi h 156 (3 * (dR c).length + 2) (A2 : Int)) 157 (dR c).length v3) 157 (dR c).length = v3 := by rw [jl_wl, if_pos ⟨rfl, rfl⟩]
  have S2 := S.y F2
  generalize wl (wi h 156 (3 * (dR c).length + 2) (A2 : Int)) 157 (dR c).length v3 = g at *
  by_cases c2 : ¬ tkK T i = 159
  · have L3 : Ly p (wi g 141 6 (tkP T i : Int)) := L2.wi (by decide)
    refine c_133_285 (by omega) L2 ⟨0, _, n_121 (by omega) L2 S2.2.2.2.1 c2 (by decide), L3, c_133_292 (by omega) L3 (fun L4 => c_133_297 (by omega) L4 ?_)⟩
    refine hf_bad (q := tkP T i) (h := wi g 141 6 (tkP T i : Int)) ?_ ((uP S2.2.2.2.2.2).trans f6.toP) w6_r _ L4 (Fq.wi (by omega)) (by rw [ji_wi, if_neg (by omega)])
    unfold pR5; rw [take_n c2]; rfl
  have c2 := Decidable.not_not.mp c2
  obtain ⟨h3, hE3, L3, G3, K3⟩ := y_121 (d := d) (x := 59) (by omega) S2.1 S2.2.2.2.1 c2 (by decide) (by decide)
  refine c_133_285 (by omega) L2 ⟨1, h3, hE3, L3, c_133_292 (by omega) L3 (fun L4 => c_133_297 (by omega) L4 ?_)⟩
  have S3 := S2.l G3 K3
  have q : ∀ a k, ¬ (a = 156 ∧ k = 3 * (dR c).length + 2) → ¬ a = 141 → ji h3 a k = ji h a k := fun a k z1 z2 => (G3.i (by omega)).trans (s a k z1)
  have eR : pR5 T c nm o rel a b i = .ok (ruC c nm o rel a b, i + 1) := by unfold pR5; rw [take_y c2]; rfl
  rw [eR]
  have FW : Fq (fun a k => a = 141 ∧ k = 30) h3 (wi h3 141 30 0) := Fq.wi (by omega)
  refine ⟨rfl, L4, (uP S3.2.2.2.2.2).trans (FW.mono (fun a k z => by omega)), K3.fq FW (fun k _ _ => by omega), ?_⟩
  exact ru_end Rr N S3 hL ((q _ _ (by omega) (by omega)).trans w.1) ((q _ _ (by omega) (by omega)).trans w.2) ((q _ _ (by omega) (by omega)).trans w3) (((G3.l (by omega)).trans w4).trans hv) ((q _ _ (by omega) (by omega)).trans w5) ((q _ _ (by omega) (by omega)).trans w6) ((G3.i (by omega)).trans w7) (cR_mono x1 (fun x y z1 z2 z3 z4 => q _ _ (by omega) (by omega))) (cR_mono x2 (fun x y z1 z2 z3 z4 => q _ _ (by omega) (by omega))) (by omega)
/-- after a sum -/
theorem RuS.ev {x : Ex} (S : RuS p T e c G sl A0 h0 i A1 h) (hA : A0 ≤ A1) (F : Fq (ZV 0 0 A1) h g) (E : LvE p T e c G (cnR c) sl 0 A1 j A2 g x) : RuS p T e c G sl A0 h0 j A2 g := ⟨E.1.1, E.1.2.1, E.1.2.2.1, E.2.1, E.2.2.1, S.2.2.2.2.2.trans (F.mono (fun a k z => by omega))⟩
theorem ru_257 (hd : 24 ≤ d) (Rr : RRl h0 c A0) (N : NmF c nm G) (hL : (dL c).length = (dR c).length) (hr : (dR c).length < 10) (O : okX (dC c) G sl) (hsl : sl.length ≤ 2) (S : RuS p T e c G sl A0 h0 i A1 h) (w : W4 h c (sl.getD 0 (-1), sl.getD 1 (-1))) (w3 : ji h 155 (dR c).length = rel) (w5 : ji h 156 (3 * (dR c).length) = (A0 : Int)) (w6 : ji h 156 (3 * (dR c).length + 1) = (A1 : Int)) (x1 : cR h a A0 A1) (hA : A1 + 4 ≤ 4 * i) (hv : v3 = wke (dS c) a) (hb : 0 ≤ v3 ∧ v3 ≤ 112589990684262400) : WF d 133 257 [jP 141, jI v1, jI ((dR c).length : Int), jL v3, jU] [] h (QR p T e h0 (pR4 T c nm G sl rel a i)) := by
  obtain ⟨u, h6, hE6, y, rfl, L6, F6, R6⟩ := t_139 (d := d) (by omega) S.1 S.2.1 S.2.2.1 S.2.2.2.1 S.2.2.2.2.1 hA O hsl
  have l1 := cR_lt x1
  refine c_133_257 (by omega) S.1.1 ⟨y, h6, hE6, L6, ?_⟩
  unfold pR4
  cases hS : pSum T (dC c) 8 G sl i with
  | error x =>
    rw [hS] at R6
    exact f133_264 (by omega) hr L6 (nq R6) (hf_bad rfl ((uP S.2.2.2.2.2).trans F6.vP) R6)
  | ok b =>
    rw [hS] at R6
    obtain ⟨hy, A2, E6⟩ := R6
    have wk := wk_ex (T := T) O.2.1 O (by omega) (by decide) hS (e4i E6.1.1 E6.2.1)
    have wk : 0 ≤ wke (dS c) b.1 ∧ wke (dS c) b.1 ≤ 112589990684262400 := wk
    have hy : y = wke (dS c) b.1 := hy.trans (w64_id ⟨by omega, by omega⟩)
    have q : ∀ a k, (154 ≤ a ∧ a ≤ 157) ∨ (160 ≤ a ∧ a ≤ 163 ∧ k < A1) → ji h6 a k = ji h a k := fun a k z => F6.i (by omega)
    exact ru_264 hd Rr N hL hr (S.ev (by omega) F6 E6) ⟨(q _ _ (by omega)).trans w.1, (q _ _ (by omega)).trans w.2⟩ ((q _ _ (by omega)).trans w3) ((q _ _ (by omega)).trans w5) ((q _ _ (by omega)).trans w6) (cR_mono x1 (fun x y z1 z2 z3 z4 => q _ _ (by omega))) E6.2.2.2.2.1 (by have := E6.2.2.2.1; omega) (by rw [w64_id ⟨by omega, by omega⟩]; omega)
theorem ru_203 (hd : 24 ≤ d) (Rr : RRl h0 c A0) (N : NmF c nm G) (hL : (dL c).length = (dR c).length) (hr : (dR c).length < 10) (O : okX (dC c) G sl) (hsl : sl.length ≤ 2) (S : RuS p T e c G sl A0 h0 i A1 h) (w : W4 h c (sl.getD 0 (-1), sl.getD 1 (-1))) (w3 : ji h 155 (dR c).length = rel) (hrel : (tkK T i = 20 ∧ rel = -1) ∨ (tkK T i = 21 ∧ rel = 1) ∨ (¬ tkK T i = 20 ∧ ¬ tkK T i = 21 ∧ rel = 0)) (w5 : ji h 156 (3 * (dR c).length) = (A0 : Int)) (w6 : ji h 156 (3 * (dR c).length + 1) = (A1 : Int)) (x1 : cR h a A0 A1) (hA : A1 + 3 ≤ 4 * i) (hv : v3 = wke (dS c) a) (hb : 0 ≤ v3 ∧ v3 ≤ 112589990684262400) : WF d 133 203 [jP 141, jI v1, jI ((dR c).length : Int), jL v3, jU] [] h (QR p T e h0 (pR3 T c nm G sl a i)) := by
  have L := S.1.1
  have K := S.2.2.2.1
  have k6 := K.2.2.2.2.2.2
  by_cases c1 : ¬ (tkK T i = 20 ∨ tkK T i = 21 ∨ tkK T i = 161)
  · have eR : pR3 T c nm G sl a i = .error (tkP T i) := by
      unfold pR3 pRel; rw [if_neg (fun z => c1 (Or.inl z)), if_neg (fun z => c1 (Or.inr (Or.inr z))), if_neg (fun z => c1 (Or.inr (Or.inl z)))]; rfl
    refine c_133_203 (by omega) L ⟨fun _ => ⟨fun z => absurd (Or.inl (K.2.1.symm.trans z)) c1, fun _ => ⟨fun z => absurd (Or.inr (Or.inl (K.2.1.symm.trans z))) c1, fun _ => ⟨fun z => absurd (Or.inr (Or.inr (K.2.1.symm.trans z))) c1, fun _ => ⟨fun _ L2 => ?_, fun z => absurd k6 z⟩⟩⟩⟩, fun z => absurd k6 z⟩
    have h6 : ji (wi h 141 6 (ji h 141 3)) 141 6 = (tkP T i : Int) := w6_r.trans K.2.2.1
    exact c_133_246 (by omega) L2 ⟨fun z => absurd z (nq h6), fun _ => f133_257 (by omega) hr L2 (nq h6) (hf_bad eR ((uP S.2.2.2.2.2).trans f6.toP) h6)⟩
  have c1 := Decidable.not_not.mp c1
  obtain ⟨h2, hE2, L2, G2, K2⟩ := t_118 (d := d) (by omega) S.1 K (by omega)
  have eR : pR3 T c nm G sl a i = pR4 T c nm G sl rel a (i + 1) := by
    unfold pR3 pRel
    rcases hrel with ⟨z1, z2⟩ | ⟨z1, z2⟩ | ⟨z1, z2, z3⟩
    · rw [if_pos z1, z2]; rfl
    · rw [if_neg (by omega), if_neg (by omega), if_pos z1, z2]; rfl
    · rw [if_neg z1, if_pos (by omega), z3]; rfl
  have key : WF d 133 246 [jP 141, jI v1, jI ((dR c).length : Int), jL v3, jU] [] h (QR p T e h0 (pR3 T c nm G sl a i)) := by
    rw [eR]
    refine c_133_246 (by omega) L ⟨fun _ => ⟨h2, hE2, L2, ?_⟩, fun z => absurd k6 z⟩
    have q : ∀ a k, ¬ a = 141 → ji h2 a k = ji h a k := fun a k z => G2.i (by omega)
    exact ru_257 hd Rr N hL hr O hsl (S.l G2 K2) ⟨(q _ _ (by omega)).trans w.1, (q _ _ (by omega)).trans w.2⟩ ((q _ _ (by omega)).trans w3) ((q _ _ (by omega)).trans w5) ((q _ _ (by omega)).trans w6) (cR_mono x1 (fun x y z1 z2 z3 z4 => q _ _ (by omega))) (by omega) hv hb
  refine c_133_203 (by omega) L ⟨fun _ => ⟨fun _ => key, fun z1 => ⟨fun _ => key, fun z2 => ⟨fun _ => key, fun z3 => ?_⟩⟩⟩, fun z => absurd k6 z⟩
  rw [K.2.1] at z1 z2 z3
  omega
theorem ru_156 (hd : 24 ≤ d) (Rr : RRl h0 c A0) (N : NmF c nm G) (hL : (dL c).length = (dR c).length) (hr : (dR c).length < 10) (O : okX (dC c) G sl) (hsl : sl.length ≤ 2) (S : RuS p T e c G sl A0 h0 i A1 h) (w : W4 h c (sl.getD 0 (-1), sl.getD 1 (-1))) (w5 : ji h 156 (3 * (dR c).length) = (A0 : Int)) (x1 : cR h a A0 A1) (hA : A1 + 3 ≤ 4 * i) (hv : v3 = wke (dS c) a) (hb : 0 ≤ v3 ∧ v3 ≤ 112589990684262400) : WF d 133 156 [jP 141, jI v1, jI ((dR c).length : Int), jL v3, jU] [] h (QR p T e h0 (pR3 T c nm G sl a i)) := by
  have L := S.1.1
  have K := S.2.2.2.1
  refine c_133_156 (by omega) L ?_
  rw [i3a hr, S.2.2.2.2.1, Int.toNat_natCast]
  refine ⟨by omega, by omega, fun L1 => c_133_170 (by omega) L1 ?_⟩
  rw [Int.toNat_natCast, ji_wi, if_neg (by omega), K.2.1]
  have key : ∀ rel, ((tkK T i = 20 ∧ rel = -1) ∨ (tkK T i = 21 ∧ rel = 1) ∨ (¬ tkK T i = 20 ∧ ¬ tkK T i = 21 ∧ rel = 0)) → WF d 133 203 [jP 141, jI v1, jI ((dR c).length : Int), jL v3, jU] [] (wi (wi h 156 (3 * (dR c).length + 1) (A1 : Int)) 155 (dR c).length rel) (QR p T e h0 (pR3 T c nm G sl a i)) := by
    intro rel hrel
    have F2 : Fq (ZY (dR c).length) h (wi (wi h 156 (3 * (dR c).length + 1) (A1 : Int)) 155 (dR c).length rel) := (Fq.wi (by omega)).trans (Fq.wi (by omega))
    have s : ∀ a k, ¬ (a = 156 ∧ k = 3 * (dR c).length + 1) → ¬ a = 155 → ji (wi (wi h 156 (3 * (dR c).length + 1) (A1 : Int)) 155 (dR c).length rel) a k = ji h a k := fun a k z1 z2 => by rw [ji_wi, if_neg (by omega), ji_wi, if_neg z1]
    refine ru_203 hd Rr N hL hr O hsl (S.y F2) ⟨(s _ _ (by omega) (by omega)).trans w.1, (s _ _ (by omega) (by omega)).trans w.2⟩ ?_ hrel ((s _ _ (by omega) (by omega)).trans w5) ?_ (cR_mono x1 (fun x y z1 z2 z3 z4 => s _ _ (by omega) (by omega))) hA hv hb
    · rw [ji_wi, if_pos ⟨rfl, rfl⟩]
    · rw [ji_wi, if_neg (by omega), ji_wi, if_pos ⟨rfl, rfl⟩]
  exact ⟨fun z => ⟨by omega, by omega, fun _ => key _ (Or.inl ⟨z, rfl⟩)⟩, fun z => ⟨fun z2 => ⟨by omega, by omega, fun _ => key _ (Or.inr (Or.inl ⟨z2, rfl⟩))⟩, fun z2 => ⟨by omega, by omega, fun _ => key _ (Or.inr (Or.inr ⟨z, z2, rfl⟩))⟩⟩⟩
theorem ru_139 (hd : 24 ≤ d) (Rr : RRl h0 c A0) (N : NmF c nm G) (hL : (dL c).length = (dR c).length) (hr : (dR c).length < 10) (O : okX (dC c) G sl) (hsl : sl.length ≤ 2) (S : RuS p T e c G sl A0 h0 i A0 h) (w : W4 h c (sl.getD 0 (-1), sl.getD 1 (-1))) (hA : A0 + 4 ≤ 4 * i) : WF d 133 139 [jP 141, jI v1, jI ((dR c).length : Int), z3, z4] [] h (QR p T e h0 (pR2 T c nm G sl i)) := by
  have L := S.1.1
  refine c_133_139 (by omega) L ?_
  rw [i3z hr, S.2.2.2.2.1, Int.toNat_natCast]
  refine ⟨by omega, by omega, fun L1 => ?_⟩
  have F1 : Fq (ZY (dR c).length) h (wi h 156 (3 * (dR c).length) (A0 : Int)) := Fq.wi (by omega)
  have w5 : ji (wi h 156 (3 * (dR c).length) (A0 : Int)) 156 (3 * (dR c).length) = (A0 : Int) := by rw [ji_wi, if_pos ⟨rfl, rfl⟩]
  have w : W4 (wi h 156 (3 * (dR c).length) (A0 : Int)) c (sl.getD 0 (-1), sl.getD 1 (-1)) := ⟨by rw [ji_wi, if_neg (by omega)]; exact w.1, by rw [ji_wi, if_neg (by omega)]; exact w.2⟩
  have S1 := S.y F1
  generalize wi h 156 (3 * (dR c).length) (A0 : Int) = g at *
  obtain ⟨u, h6, hE6, y, rfl, L6, F6, R6⟩ := t_139 (d := d) (by omega) S1.1 S1.2.1 S1.2.2.1 S1.2.2.2.1 S1.2.2.2.2.1 hA O hsl
  refine c_133_151 (by omega) L1 ⟨y, h6, hE6, L6, ?_⟩
  unfold pR2
  cases hS : pSum T (dC c) 8 G sl i with
  | error x =>
    rw [hS] at R6
    exact f133_156 (by omega) hr L6 (nq R6) (hf_bad rfl ((uP S1.2.2.2.2.2).trans F6.vP) R6)
  | ok b =>
    rw [hS] at R6
    obtain ⟨hy, A2, E6⟩ := R6
    have wk := wk_ex (T := T) O.2.1 O (by omega) (by decide) hS (e4i E6.1.1 E6.2.1)
    have wk : 0 ≤ wke (dS c) b.1 ∧ wke (dS c) b.1 ≤ 112589990684262400 := wk
    have hy : y = wke (dS c) b.1 := hy.trans (w64_id ⟨by omega, by omega⟩)
    have q : ∀ a k, (154 ≤ a ∧ a ≤ 157) → ji h6 a k = ji g a k := fun a k z => F6.i (by omega)
    exact ru_156 hd Rr N hL hr O hsl (S1.ev (by omega) F6 E6) ⟨(q _ _ (by omega)).trans w.1, (q _ _ (by omega)).trans w.2⟩ ((q _ _ (by omega)).trans w5) E6.2.2.2.2.1 (by have := E6.2.2.2.1; omega) hy (by omega)
theorem ru_sg (hd : 24 ≤ d) (Rr : RRl h0 c A0) (N : NmF c nm G) (hL : (dL c).length = (dR c).length) (hr : (dR c).length < 10) (O : okX (dC c) G sl) (hsl : sl.length ≤ 2) (S : RuS p T e c G sl A0 h0 i A0 h) (w : W4 h c (sl.getD 0 (-1), sl.getD 1 (-1))) (hA : A0 ≤ 4 * i) : ∃ x4 h1, jE d 121 [jP 141, jI 58] h (some (jI x4)) h1 ∧ Ly p h1 ∧ WF d 133 139 [jP 141, jI v1, jI ((dR c).length : Int), z3, z4] [] h1 (QR p T e h0 (pR1 T c nm G sl i)) := by
  have L := S.1.1
  have K := S.2.2.2.1
  unfold pR1
  by_cases c2 : ¬ tkK T i = 158
  · rw [take_n c2]
    exact ⟨0, _, n_121 (by omega) L K c2 (by decide), L.wi (by decide), f133_139 (by omega) hr (L.wi (by decide)) (by rw [w6_r]; omega) (hf_bad rfl ((uP S.2.2.2.2.2).trans f6.toP) w6_r)⟩
  have c2 := Decidable.not_not.mp c2
  obtain ⟨h3, hE3, L3, G3, K3⟩ := y_121 (d := d) (x := 58) (by omega) S.1 K c2 (by decide) (by decide)
  rw [take_y c2]
  have q : ∀ a k, ¬ a = 141 → ji h3 a k = ji h a k := fun a k z => G3.i (by omega)
  exact ⟨1, h3, hE3, L3, ru_139 hd Rr N hL hr O hsl (S.l G3 K3) ⟨(q _ _ (by omega)).trans w.1, (q _ _ (by omega)).trans w.2⟩ (by omega)⟩
theorem ru_102 (hd : 24 ≤ d) (Rr : RRl h0 c A0) (N : NmF c nm G) (hL : (dL c).length = (dR c).length) (hr : (dR c).length < 10) (O : okX (dC c) G sl) (hsl : sl.length ≤ 2) (hA : A0 ≤ 4 * i) : ∀ (m : Nat) (h : AH) (v : Nat), sl.length = v + m → RuS p T e c G sl A0 h0 i A0 h → (∀ k, k < 2 → ji h 154 (2 * (dR c).length + k) = if k < v then sl.getD k (-1) else -1) → WF d 133 102 [jP 141, jI v1, jI ((dR c).length : Int), jI (sl.length : Int), jI (v : Int)] [] h (QR p T e h0 (pR1 T c nm G sl i)) := by
  intro m
  induction m with
  | zero =>
    intro h v hv S w
    have g2 : ∀ k, k < 2 → (if k < v then sl.getD k (-1) else -1) = sl.getD k (-1) := fun k hk => by
      by_cases z : k < v
      · rw [if_pos z]
      · rw [if_neg z, List.getD_eq_getElem?_getD, List.getElem?_eq_none (by omega)]; rfl
    exact c_133_102 (by omega) S.1.1 ⟨fun _ => ru_sg hd Rr N hL hr O hsl S ⟨(w 0 (by omega)).trans (g2 0 (by omega)), (w 1 (by omega)).trans (g2 1 (by omega))⟩ hA, fun z => by omega⟩
  | succ m ih =>
    intro h v hv S w
    refine c_133_102 (by omega) S.1.1 ⟨fun z => by omega, fun z => ?_⟩
    rw [i2 hr (by omega), Int.toNat_natCast, Int.toNat_natCast]
    refine ⟨by omega, by omega, by omega, by omega, fun L1 => c_133_126 (by omega) L1 ?_⟩
    have a0 : ji h 159 v = sl.getD v (-1) := S.2.1.2 v (by omega)
    have F1 : Fq (ZY (dR c).length) h (wi h 154 (2 * (dR c).length + v) (ji h 159 v)) := Fq.wi (by omega)
    have := ih (wi h 154 (2 * (dR c).length + v) (ji h 159 v)) (v + 1) (by omega) (S.y F1) (fun k hk => by
      rw [ji_wi]
      by_cases z : k = v
      · rw [if_pos ⟨rfl, by omega⟩, if_pos (by omega), a0, z]
      · rw [if_neg (by omega), w k hk]
        by_cases y : k < v
        · rw [if_pos y, if_pos (by omega)]
        · rw [if_neg y, if_neg (by omega)])
    rw [w32_i (by omega) (by omega)]
    exact this
end RRW
