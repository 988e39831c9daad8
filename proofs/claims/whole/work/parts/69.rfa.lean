/-! THE REFERENCE: a factor -/
section RFA
variable {p : Lpar} {d : Nat} {h h' h0 h1 g : AH} {T : Txt} {e i i0 k A dp lo : Nat} {c : Dc} {G : NmL} {n : Nat → Nat} {sl : List Int} {s q f : Ex} {neg : Bool}
/-- a factor begins -/
def FcI (p : Lpar) (T : Txt) (e : Nat) (c : Dc) (G : NmL) (n : Nat → Nat) (sl : List Int) (dp lo i A : Nat) (h : AH) (s : Ex) (neg : Bool) (q : Ex) : Prop := LvB p T e c G n sl dp lo i A h s neg q ∧ ji h 141 50 = (tkP T i : Int) ∧ ji h 141 51 = 0
theorem fac_0 (hd : 9 ≤ d) (B : LvB p T e c G n sl dp lo i A h s neg q) {Q : Option AV → AH → Prop} (H : ∀ h', FcI p T e c G n sl dp lo i A h' s neg q → Fq (ZV dp 0 A) h h' → WF d 140 13 [jP 141, jU, jU, jU, jU] [] h' Q) : WF d 140 0 [jP 141, jU, jU, jU, jU] [] h Q := by
  obtain ⟨S, K, a33, ab, ⟨m, cs, cq⟩, a47, a48, a49, a52⟩ := B
  have L := S.1.1
  refine c_140_0 (by omega) L (fun L1 => c_140_8 (by omega) L1 (fun L2 => ?_))
  rw [K.2.2.1] at L2 ⊢
  have F : Fq (fun a k => a = 141 ∧ (k = 50 ∨ k = 51)) h (wi (wi h 141 50 (tkP T i : Int)) 141 51 0) := (Fq.wi (by omega)).trans (Fq.wi (by omega))
  refine H _ ⟨⟨S.fq F (fun a k z => by omega) (fun k z => by omega) (fun a k z => by omega), K.fq F (fun k _ _ => by omega), (F.i (by omega)).trans a33, ab, ⟨m, cR_mono cs (fun a k _ _ _ _ => F.i (by omega)), cR_mono cq (fun a k _ _ _ _ => F.i (by omega))⟩, (F.i (by omega)).trans a47, (F.i (by omega)).trans a48, (F.i (by omega)).trans a49, (F.l (by omega)).trans a52⟩, ?_, ?_⟩ (F.mono (fun a k z => by omega))
  · rw [ji_wi, if_neg (by omega), ji_wi, if_pos ⟨rfl, rfl⟩]
  · rw [ji_wi, if_pos ⟨rfl, rfl⟩]
/-- a factor that is no sum -/
def P140 (p : Lpar) (T : Txt) (e : Nat) (c : Dc) (G : NmL) (n : Nat → Nat) (sl : List Int) (dp lo i : Nat) (h : AH) (s : Ex) (neg : Bool) (q : Ex) (R : Er (Ex × Nat)) (w : Option AV) (h' : AH) : Prop := ∃ v, w = some (jI v) ∧ Ly p h' ∧ (∃ A, Fq (ZV dp 0 A) h h' ∧ lo ≤ A) ∧ Rs R (fun x => ji h' 141 6 = (x : Int)) (fun r => v = 1 ∧ ∃ A, LvD p T e c G n sl dp lo i r.2 A h' s neg q r.1)
theorem fac_num (hd : 17 ≤ d) (B : LvB p T e c G n sl dp lo i A h s neg q) (c2 : tkK T i = 2) : ∃ w h', jE d 140 [jP 141] h w h' ∧ P140 p T e c G n sl dp lo i h s neg q (.ok (xNum (tkV T i), i + 1)) w h' := by
  obtain ⟨d, rfl⟩ : ∃ d', d = d' + 1 := ⟨d - 1, by omega⟩
  refine jE_of (as := [jP 141]) (Nat.le_of_ble_eq_true rfl) (fac_0 (by omega) B (fun h1 B1 F1 => ?_))
  obtain ⟨⟨S, K, a33, ab, ⟨m, cs, cq⟩, a47, a48, a49, a52⟩, a50, a51⟩ := B1
  have L := S.1.1
  have i4 := e4i S.1 K
  have l1 := cR_lt cs
  have l2 := cR_lt cq
  refine c_140_13 (by omega) L ⟨fun _ => ?_, fun z => absurd (K.2.1.trans c2) z⟩
  rw [a33, Int.toNat_natCast, K.2.2.2.2.2.1 c2]
  refine ⟨by omega, by omega, fun L2 => c_140_32 (by omega) L2 (fun L3 => ?_)⟩
  have FE : Fq (ZE A) h1 (emH h1 A 2 (tkV T i) 0 0) := emH_F
  have e0 : ji (emH h1 A 2 (tkV T i) 0 0) 160 A = 2 := emH_0
  have e1 : ji (emH h1 A 2 (tkV T i) 0 0) 161 A = tkV T i := emH_1
  have e33 : ji (emH h1 A 2 (tkV T i) 0 0) 141 33 = ((A + 1 : Nat) : Int) := by rw [emH_33]; omega
  have e52 : jl (emH h1 A 2 (tkV T i) 0 0) 141 52 = w64 (wke (dS c) s + wke (dS c) q) := emH_l.trans a52
  change Ly p (wl (emH h1 A 2 (tkV T i) 0 0) 141 52 (w64 ((jl (emH h1 A 2 (tkV T i) 0 0) 141 52) + 1))) at L3
  change WF d 140 42 _ [] (wl (emH h1 A 2 (tkV T i) 0 0) 141 52 (w64 ((jl (emH h1 A 2 (tkV T i) 0 0) 141 52) + 1))) _
  rw [e52, w64_a] at L3 ⊢
  generalize emH h1 A 2 (tkV T i) 0 0 = g at *
  have FW : Fq (fun a k => a = 141 ∧ k = 52) g (wl g 141 52 (w64 (wke (dS c) s + wke (dS c) q + 1))) := Fq.wl (by omega)
  have w52 : jl (wl g 141 52 (w64 (wke (dS c) s + wke (dS c) q + 1))) 141 52 = w64 (wke (dS c) s + wke (dS c) q + 1) := by rw [jl_wl, if_pos ⟨rfl, rfl⟩]
  have FWi : ∀ x k, ji (wl g 141 52 (w64 (wke (dS c) s + wke (dS c) q + 1))) x k = ji g x k := fun _ _ => rfl
  generalize wl g 141 52 (w64 (wke (dS c) s + wke (dS c) q + 1)) = g2 at *
  have F3 : Fq (ZV dp 0 A) h1 g2 := (FE.mono (fun a k z => by omega)).trans (FW.mono (fun a k z => by omega))
  have F3w : Fq (ZW A) h1 g2 := (FE.mono (fun a k z => by omega)).trans (FW.mono (fun a k z => by omega))
  obtain ⟨h4, hE4, L4, G4, K4⟩ := t_118 (d := d) (by omega) (S.fW F3w).1 ((K.fq FE (fun k _ _ => by omega)).fq FW (fun k _ _ => by omega)) (by rw [c2]; decide)
  have q4 : ∀ x k, ¬ (x = 141 ∧ 2 ≤ k ∧ k ≤ 5) → ¬ ZE A x k → ji h4 x k = ji h1 x k := fun x k z1 z2 => by rw [G4.i z1, FWi, FE.i z2]
  refine c_140_42 (by omega) L3 ⟨h4, hE4, L4, c_140_46 (by omega) L4 ⟨1, rfl, L4, ⟨A, (F1.trans F3).trans (G4.mono (fun a k z => by omega)), by omega⟩, rfl, A + 1, (S.fW F3w).fF G4.toF, K4, ?_, by show A + 1 + 5 ≤ 4 * (i + 1); omega, ⟨m, A, cR_mono cs (fun a k z1 z2 z3 z4 => q4 a k (by omega) (by omega)), cR_mono cq (fun a k z1 z2 z3 z4 => q4 a k (by omega) (by omega)), rfl, ?_, ?_⟩, ?_, ?_, ?_, ?_, ?_, ?_⟩⟩
  · rw [G4.i (by omega), FWi]; exact e33
  · rw [G4.i (by omega), FWi]; exact e0
  · rw [G4.i (by omega), FWi]; exact e1
  · exact (q4 _ _ (by omega) (by omega)).trans a47
  · exact (q4 _ _ (by omega) (by omega)).trans a48
  · exact (q4 _ _ (by omega) (by omega)).trans a49
  · exact (G4.l (by omega)).trans w52
  · exact (q4 _ _ (by omega) (by omega)).trans a51
  · exact (q4 _ _ (by omega) (by omega)).trans a50
theorem nam_w {S : List (Int × Int)} {C : Cx} {r : Ex × Nat} (h : pNamed T C G sl i = .ok r) : wke S r.1 = 1 := by
  unfold pNamed at h
  split at h
  · cases h; rfl
  split at h
  · obtain ⟨a, _, h⟩ := xb_ok h; cases h; rfl
  split at h
  · obtain ⟨a, _, h⟩ := xb_ok h; cases h; rfl
  · cases h
theorem fac_nam (hd : 19 ≤ d) (B : LvB p T e c G n sl dp lo i A h s neg q) (O : okX (dC c) G sl) (c1 : tkK T i = 1) : ∃ w h', jE d 140 [jP 141] h w h' ∧ P140 p T e c G n sl dp lo i h s neg q (pNamed T (dC c) G sl i) w h' := by
  obtain ⟨d, rfl⟩ : ∃ d', d = d' + 1 := ⟨d - 1, by omega⟩
  refine jE_of (as := [jP 141]) (Nat.le_of_ble_eq_true rfl) (fac_0 (by omega) B (fun h1 B1 F1 => ?_))
  obtain ⟨⟨S, K, a33, ab, ⟨m, cs, cq⟩, a47, a48, a49, a52⟩, a50, a51⟩ := B1
  have L := S.1.1
  have i4 := e4i S.1 K
  have l1 := cR_lt cs
  have l2 := cR_lt cq
  obtain ⟨w, h2, hE2, rfl, L2, F2, R2⟩ := t_143 (d := d) (by omega) S K O c1 a33 (by omega) a52 a51
  refine c_140_13 (by omega) L ⟨fun z => absurd (K.2.1.symm.trans z) (by omega), fun _ => ⟨fun _ => ⟨h2, hE2, L2, c_140_60 (by omega) L2 ⟨1, rfl, L2, ⟨A, F1.trans (F2.mono (fun a k z => by omega)), by omega⟩, ?_⟩⟩, fun z => absurd (K.2.1.trans c1) z⟩⟩
  cases hP : pNamed T (dC c) G sl i with
  | error x => rw [hP] at R2; exact R2
  | ok r =>
  rw [hP] at R2
  obtain ⟨r1, r2, r3, r4, r5, r6⟩ := R2
  have hw := nam_w (S := dS c) hP
  exact ⟨rfl, A + 1, S.fH F2, r1, r3, by omega, ⟨m, A, cR_mono cs (fun a k z1 z2 z3 z4 => F2.i (by omega)), cR_mono cq (fun a k z1 z2 z3 z4 => F2.i (by omega)), r4⟩, (F2.i (by omega)).trans a47, (F2.i (by omega)).trans a48, (F2.i (by omega)).trans a49, r6.trans (by rw [hw]), r5, (F2.i (by omega)).trans a50⟩
end RFA
