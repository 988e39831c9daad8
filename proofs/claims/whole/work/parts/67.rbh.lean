/-! THE REFERENCE: behind a factor -/
abbrev ZW (A : Nat) (a k : Nat) : Prop := (a = 141 ∧ ((2 ≤ k ∧ k ≤ 6) ∨ k = 33 ∨ (47 ≤ k ∧ k ≤ 52))) ∨ (160 ≤ a ∧ a ≤ 163 ∧ A ≤ k)
/-- a sum is complete -/
def LvE (p : Lpar) (T : Txt) (e : Nat) (c : Dc) (G : NmL) (n : Nat → Nat) (sl : List Int) (dp lo i A : Nat) (h : AH) (x : Ex) : Prop := SmC p T e c G n sl dp h ∧ RtR T e i h ∧ ji h 141 33 = (A : Int) ∧ A + 3 ≤ 4 * i ∧ cR h x lo A ∧ ji h 141 49 = bI (hv x) ∧ jl h 141 52 = w64 (wke (dS c) x)
section RBH
variable {p : Lpar} {d : Nat} {h h' h0 h1 g : AH} {T : Txt} {e i i0 k A dp lo : Nat} {c : Dc} {G : NmL} {n : Nat → Nat} {sl : List Int} {s q f : Ex} {neg : Bool}
theorem SmC.fW (S : SmC p T e c G n sl dp h) (f : Fq (ZW A) h h') : SmC p T e c G n sl dp h' := S.fq f (fun a k z => by omega) (fun k z => by omega) (fun a k z => by omega)
theorem bI_or (a b : Bool) : bI (a || b) = if bI a = 0 then bI b else 1 := by cases a <;> cases b <;> rfl
theorem b144_22 (hd : 10 ≤ d) (D : LvD p T e c G n sl dp lo i0 i A h s neg q f) (hc : hv f = true ∧ hv q = true) : jE d 144 [jP 141] h (some (jI 2)) (wi h 141 6 (tkP T i0 : Int)) := by
  obtain ⟨d, rfl⟩ : ∃ d', d = d' + 1 := ⟨d - 1, by omega⟩
  obtain ⟨S, K, a33, ab, cc, a47, a48, a49, a52, a51, a50⟩ := D
  have L := S.1.1
  rw [hc.1] at a51
  rw [hc.2] at a48
  have e1 : bI true = 1 := rfl
  rw [e1] at a51 a48
  refine jE_eq (Nat.le_of_ble_eq_true rfl) (c_144_0 (by omega) L ⟨fun z => by omega, fun _ => ⟨fun z => by omega, fun _ => ⟨fun _ L2 => c_144_22 (by omega) L2 ?_, fun z => absurd K.2.2.2.2.2.2 z⟩⟩⟩)
  rw [a50]; exact ⟨rfl, rfl⟩
theorem bh (hd : 17 ≤ d) (D : LvD p T e c G n sl dp lo i0 i A h s neg q f) (hc : ¬ (hv f = true ∧ hv q = true)) {Q : Option AV → AH → Prop} (H1 : tkK T i = 142 → ∀ h', LvB p T e c G n sl dp lo (i + 1) (A + 1) h' s neg (xMul q f) → Fq (ZW A) h h' → Q (some (jI 0)) h') (H2 : tkK T i = 143 ∨ tkK T i = 145 → ∀ h', LvB p T e c G n sl dp lo (i + 1) (A + 3) h' (xPart neg s (xMul q f)) (decide (tkK T i = 145)) xOne → Fq (ZW A) h h' → Q (some (jI 0)) h') (H3 : ¬ tkK T i = 142 → ¬ tkK T i = 143 → ¬ tkK T i = 145 → ∀ h', LvE p T e c G n sl dp lo i (A + 2) h' (xPart neg s (xMul q f)) → Fq (ZW A) h h' → WF d 144 116 [jP 141] [] h' Q) : WF d 144 0 [jP 141] [] h Q := by
  obtain ⟨S, K, a33, ab, ⟨m, m2, cs, cq, cf⟩, a47, a48, a49, a52, a51, a50⟩ := D
  have L := S.1.1
  have i4 := e4i S.1 K
  have l1 := cR_lt cs
  have l2 := cR_lt cq
  have l3 := cR_lt cf
  have hq0 := bI_r (hv q)
  have hf0 := bI_r (hv f)
  suffices key : ∀ x, x = bI (hv q || hv f) → Ly p (wi h 141 48 x) → WF d 144 47 [jP 141] [] (wi h 141 48 x) Q by
    have o1 := bI_or (hv q) (hv f)
    refine c_144_0 (by omega) L ⟨fun z => ⟨fun z2 => ⟨fun _ => key 0 ?_, fun z3 => absurd z z3⟩, fun z2 => key 1 ?_⟩, fun z => ⟨fun z2 => ⟨fun _ => ⟨fun z3 => absurd z3 z, fun _ => key 1 ?_⟩, fun z3 => absurd z2 z3⟩, fun z2 => ?_⟩⟩
    · rw [o1, if_pos (a48.symm.trans z2)]; exact (a51.symm.trans z).symm
    · rw [o1, if_neg (fun y => z2 (a48.trans y))]
    · rw [o1, if_pos (a48.symm.trans z2)]; omega
    · exfalso
      refine hc ⟨?_, ?_⟩
      · cases hb : hv f
        · rw [hb] at a51; exact absurd a51 z
        · rfl
      · cases hb : hv q
        · rw [hb] at a48; exact absurd a48 z2
        · rfl
  intro x hx L1
  have F1 : Fq (ZW A) h (wi h 141 48 x) := Fq.wi (by omega)
  have K1 : RtR T e i (wi h 141 48 x) := K.fq (Fq.wi (Z := fun a k => a = 141 ∧ k = 48) (by omega)) (fun k _ _ => by omega)
  have b33 : ji (wi h 141 48 x) 141 33 = (A : Int) := by rw [ji_wi, if_neg (by omega)]; exact a33
  refine c_144_47 (by omega) L1 ?_
  rw [b33, Int.toNat_natCast]
  refine ⟨by omega, by omega, fun L2 => ?_⟩
  have FE : Fq (ZE A) (wi h 141 48 x) (emH (wi h 141 48 x) A 6 0 0 0) := emH_F
  have F2 : Fq (ZW A) h (emH (wi h 141 48 x) A 6 0 0 0) := F1.trans (FE.mono (fun a k z => by omega))
  have K2 := K1.fq FE (fun k _ _ => by omega)
  have e0 : ji (emH (wi h 141 48 x) A 6 0 0 0) 160 A = 6 := emH_0
  have e33 : ji (emH (wi h 141 48 x) A 6 0 0 0) 141 33 = ((A + 1 : Nat) : Int) := emH_33
  have e47 : ji (emH (wi h 141 48 x) A 6 0 0 0) 141 47 = (if neg = true then -1 else 1) := by rw [emH_i (by omega) (by omega), ji_wi, if_neg (by omega)]; exact a47
  have e48 : ji (emH (wi h 141 48 x) A 6 0 0 0) 141 48 = bI (hv (xMul q f)) := by rw [emH_i (by omega) (by omega), ji_wi, if_pos ⟨rfl, rfl⟩, hv_mul]; exact hx
  have e49 : ji (emH (wi h 141 48 x) A 6 0 0 0) 141 49 = bI (hv s) := by rw [emH_i (by omega) (by omega), ji_wi, if_neg (by omega)]; exact a49
  have e52 : jl (emH (wi h 141 48 x) A 6 0 0 0) 141 52 = w64 (wke (dS c) s + wke (dS c) (xMul q f)) := by rw [emH_l, jl_wi, a52, wke_mul]; congr 1; omega
  change WF d 144 56 [jP 141] [] (emH (wi h 141 48 x) A 6 0 0 0) Q
  change Ly p (emH (wi h 141 48 x) A 6 0 0 0) at L2
  generalize emH (wi h 141 48 x) A 6 0 0 0 = g at *
  have S2 := S.fW F2
  have cd : ∃ y, cR g s lo y ∧ cR g (xMul q f) y (A + 1) := ⟨m, cR_mono cs (fun a k z1 z2 z3 z4 => F2.i (by omega)), m2, A, rfl, cR_mono cq (fun a k z1 z2 z3 z4 => F2.i (by omega)), cR_mono cf (fun a k z1 z2 z3 z4 => F2.i (by omega)), e0⟩
  clear F1 K1 b33 FE a47 a48 a49 a52 a51 a50 a33 cs cq cf hx
  refine c_144_56 (by omega) L2 ⟨fun c1 => ?_, fun c1 => ?_⟩
  · have c1 : tkK T i = 142 := K2.2.1.symm.trans c1
    obtain ⟨h3, hE3, L3, G3, K3⟩ := t_118 (d := d) (by omega) S2.1 K2 (by rw [c1]; decide)
    have F3 : Fq (ZW A) h h3 := F2.trans (G3.mono (fun a k z => by omega))
    refine ⟨h3, hE3, L3, c_144_70 (by omega) L3 (H1 c1 h3 ⟨S2.fF G3.toF, K3, (G3.i (by omega)).trans e33, by omega, ?_, (G3.i (by omega)).trans e47, (G3.i (by omega)).trans e48, (G3.i (by omega)).trans e49, (G3.l (by omega)).trans e52⟩ F3)⟩
    obtain ⟨y, y1, y2⟩ := cd
    exact ⟨y, cR_mono y1 (fun a k z1 z2 z3 z4 => G3.i (by omega)), cR_mono y2 (fun a k z1 z2 z3 z4 => G3.i (by omega))⟩
  · have c1 : ¬ tkK T i = 142 := fun z => c1 (K2.2.1.trans z)
    rw [e33, Int.toNat_natCast]
    suffices key : ∀ y, y = (if neg = true then (8 : Int) else 7) → Ly p (emH g (A + 1) y 0 0 0) → WF d 144 93 [jP 141] [] (emH g (A + 1) y 0 0 0) Q by
      refine ⟨fun z => ⟨by omega, by omega, fun L3 => key 8 ?_ L3⟩, fun z => ⟨by omega, by omega, fun L3 => key 7 ?_ L3⟩⟩
      · cases hb : neg
        · rw [hb, if_neg (by decide)] at e47; omega
        · rfl
      · cases hb : neg
        · rfl
        · rw [hb, if_pos rfl] at e47; omega
    intro y hy L3
    have FE : Fq (ZE (A + 1)) g (emH g (A + 1) y 0 0 0) := emH_F
    have F3 : Fq (ZW A) h (emH g (A + 1) y 0 0 0) := F2.trans (FE.mono (fun a k z => by omega))
    have K3 := K2.fq FE (fun k _ _ => by omega)
    have u33 : ji (emH g (A + 1) y 0 0 0) 141 33 = ((A + 2 : Nat) : Int) := by rw [emH_33]; omega
    have u48 : ji (emH g (A + 1) y 0 0 0) 141 48 = bI (hv (xMul q f)) := (FE.i (by omega)).trans e48
    have u49 : ji (emH g (A + 1) y 0 0 0) 141 49 = bI (hv s) := (FE.i (by omega)).trans e49
    have u52 : jl (emH g (A + 1) y 0 0 0) 141 52 = w64 (wke (dS c) (xPart neg s (xMul q f))) := by rw [emH_l, e52, wke_part]
    have uc : cR (emH g (A + 1) y 0 0 0) (xPart neg s (xMul q f)) lo (A + 2) := by
      obtain ⟨m', y1, y2⟩ := cd
      have y1 := cR_mono (h' := emH g (A + 1) y 0 0 0) y1 (fun a k z1 z2 z3 z4 => FE.i (by have := cR_lt y2; omega))
      have y2 := cR_mono (h' := emH g (A + 1) y 0 0 0) y2 (fun a k z1 z2 z3 z4 => FE.i (by omega))
      have y3 : ji (emH g (A + 1) y 0 0 0) 160 (A + 1) = y := emH_0
      cases neg with
      | true => exact ⟨m', A + 1, rfl, y1, y2, by rw [y3, hy]; rfl⟩
      | false => exact ⟨m', A + 1, rfl, y1, y2, by rw [y3, hy]; rfl⟩
    generalize emH g (A + 1) y 0 0 0 = g3 at *
    have S3 := S.fW F3
    suffices key : ∀ z, z = bI (hv (xPart neg s (xMul q f))) → Ly p (wi g3 141 49 z) → WF d 144 116 [jP 141] [] (wi g3 141 49 z) Q by
      have o1 := bI_or (hv s) (hv (xMul q f))
      have r1 := bI_r (hv (xMul q f))
      refine c_144_93 (by omega) L3 ⟨fun z => ⟨fun z2 => key 0 ?_, fun z2 => key 1 ?_⟩, fun z => key 1 ?_⟩
      · rw [hv_part, o1, if_pos (u49.symm.trans z)]; exact (u48.symm.trans z2).symm
      · rw [hv_part, o1, if_pos (u49.symm.trans z)]; omega
      · rw [hv_part, o1, if_neg (fun y => z (u49.trans y))]
    intro z hz L4
    have FW : Fq (fun a k => a = 141 ∧ k = 49) g3 (wi g3 141 49 z) := Fq.wi (by omega)
    have F4 : Fq (ZW A) h (wi g3 141 49 z) := F3.trans (FW.mono (fun a k z => by omega))
    have K4 := K3.fq FW (fun k _ _ => by omega)
    have E4 : LvE p T e c G n sl dp lo i (A + 2) (wi g3 141 49 z) (xPart neg s (xMul q f)) := ⟨S.fW F4, K4, (FW.i (by omega)).trans u33, by omega, cR_mono uc (fun a k z1 z2 z3 z4 => FW.i (by omega)), by rw [ji_wi, if_pos ⟨rfl, rfl⟩]; exact hz, (FW.l (by omega)).trans u52⟩
    generalize wi g3 141 49 z = g4 at *
    by_cases cc : ¬ (tkK T i = 143 ∨ tkK T i = 145)
    · exact H3 c1 (fun z => cc (Or.inl z)) (fun z => cc (Or.inr z)) g4 E4 F4
    have cc := Decidable.not_not.mp cc
    suffices key : ∀ z, z = (if decide (tkK T i = 145) = true then (-1 : Int) else 1) → Ly p (wi g4 141 47 z) → WF d 144 155 [jP 141] [] (wi g4 141 47 z) Q by
      refine c_144_116 (by omega) L4 ⟨fun z => ⟨fun _ => key 1 ?_, fun z2 => absurd z z2⟩, fun z => ⟨fun z2 => ⟨fun z3 => absurd z3 z, fun _ => key (-1) ?_⟩, fun z2 => ?_⟩⟩
      · have z : tkK T i = 143 := K4.2.1.symm.trans z
        rw [decide_eq_false (by omega)]; rfl
      · have z2 : tkK T i = 145 := K4.2.1.symm.trans z2
        rw [decide_eq_true z2]; rfl
      · exfalso
        rcases cc with cc | cc
        · exact z (K4.2.1.trans cc)
        · exact z2 (K4.2.1.trans cc)
    intro z hz L5
    have FV : Fq (fun a k => a = 141 ∧ k = 47) g4 (wi g4 141 47 z) := Fq.wi (by omega)
    have F5 : Fq (ZW A) h (wi g4 141 47 z) := F4.trans (FV.mono (fun a k z => by omega))
    obtain ⟨E1, E2, E3, E4b, E5, E6, E7⟩ := E4
    obtain ⟨h6, hE6, L6, G6, K6⟩ := t_118 (d := d) (by omega) (S.fW F5).1 (K4.fq FV (fun k _ _ => by omega)) (by omega)
    have F6 : Fq (ZW A) h h6 := F5.trans (G6.mono (fun a k z => by omega))
    have v33 : ji h6 141 33 = ((A + 2 : Nat) : Int) := by rw [G6.i (by omega), FV.i (by omega)]; exact E3
    have hm := m_138 (d := d) (A := A + 2) (by omega) L6 v33 (by omega)
    have FB : Fq (ZW A) h6 (wi (emH h6 (A + 2) 1 0 0 0) 141 48 0) := (emH_F.mono (fun a k z => by omega)).trans (Fq.wi (by omega))
    refine c_144_155 (by omega) L5 ⟨h6, hE6, L6, c_144_159 (by omega) L6 ⟨_, hm, L6.fq FB (fun a k z => by omega), c_144_163 (by omega) (L6.fq FB (fun a k z => by omega)) (H2 cc _ ⟨S.fW (F6.trans FB), ?_, ?_, by omega, ⟨A + 2, ?_, rfl, ?_⟩, ?_, ?_, ?_, ?_⟩ (F6.trans FB))⟩⟩
    · exact (K6.fq (emH_F (A := A + 2)) (fun k _ _ => by omega)).fq (Fq.wi (Z := fun a k => a = 141 ∧ k = 48) (by omega)) (fun k _ _ => by omega)
    · rw [ji_wi, if_neg (by omega), emH_33]; omega
    · exact cR_mono E5 (fun a k z1 z2 z3 z4 => by rw [ji_wi, if_neg (by omega), emH_i (by omega) (by omega), G6.i (by omega), FV.i (by omega)])
    · rw [ji_wi, if_neg (by omega), emH_0]
    · rw [ji_wi, if_neg (by omega), emH_i (by omega) (by omega), G6.i (by omega), ji_wi, if_pos ⟨rfl, rfl⟩]; exact hz
    · rw [ji_wi, if_pos ⟨rfl, rfl⟩]; rfl
    · rw [ji_wi, if_neg (by omega), emH_i (by omega) (by omega), G6.i (by omega), FV.i (by omega)]; exact E6
    · rw [jl_wi, emH_l, G6.l (by omega), FV.l (by omega), E7]
      congr 1
      show _ = wke (dS c) _ + 0
      omega
end RBH
