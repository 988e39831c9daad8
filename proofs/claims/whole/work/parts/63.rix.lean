/-! THE REFERENCE: indices -/
def AsM (h : AH) (sl : List Int) : Prop := ∀ k, k < sl.length → ji h 159 k = sl.getD k (-1)
def n4 (n : Nat → Nat) (m : Nat) (t : Nat) : Nat := if t = 4 then m else n t
/-- names, the sets of the indices around -/
def SxM (h : AH) (G : NmL) (n : Nat → Nat) (sl : List Int) : Prop := NmM h G (n4 n sl.length) ∧ AsM h sl
abbrev ZX (a k : Nat) : Prop := ZF a k ∨ (a = 141 ∧ k = 30) ∨ a = 158 ∨ a = 159
section RIX
variable {p : Lpar} {d : Nat} {h h' h0 h1 g : AH} {T : Txt} {e i k A : Nat} {c : Dc} {G : NmL} {n : Nat → Nat} {sl : List Int}
theorem pInd1_eq : pInd1 T G sl i = xb (pNew T G i) fun a => xb (pTake T 18 a.2) fun j => xb (pSetN T G j) fun r => .ok (G ++ [(a.1, 4, (sl.length : Int))], sl ++ [r.1], r.2) := by
  unfold pInd1 pNew
  by_cases c : tkK T i = 1 ∧ (lkNm G (tkN T i)).1 = -1
  · rw [if_pos c, if_pos c, xb_pure]
    refine congrArg _ (funext fun j => ?_)
    unfold pSetN
    by_cases c2 : (lkT G T j).1 = 0
    · rw [if_pos c2, if_pos c2]; rfl
    · rw [if_neg c2, if_neg c2]; rfl
  · rw [if_neg c, if_neg c]; rfl
theorem SxM.fq {Z : Nat → Nat → Prop} (M : SxM h G n sl) (f : Fq Z h h') (z1 : ∀ k, (k = 7 ∨ k = 11 ∨ k = 15 ∨ k = 20 ∨ k = 30) → ¬ Z 141 k) (z2 : ∀ a k, (a = 143 ∨ a = 146 ∨ a = 149 ∨ a = 153 ∨ a = 158 ∨ a = 159) → ¬ Z a k) : SxM h' G n sl := ⟨M.1.fq f z1 (fun a k z => z2 a k (by omega)), fun k hk => (f.i (z2 _ _ (by omega))).trans (M.2 k hk)⟩
theorem SxM.fF (M : SxM h G n sl) (f : Fq ZF h h') : SxM h' G n sl := M.fq f (fun k z => by omega) (fun a k z => by omega)
theorem RT.fX (R : RT p T e h) (f : Fq ZX h h') : RT p T e h' := R.fq f (fun a k z => by omega) (by omega) (fun k => by omega)
theorem Fq.toX (F : Fq ZF h g) : Fq ZX h g := F.mono (fun a k z => by omega)
theorem SxM.add (M : SxM h G n sl) (hl : sl.length < 18) {l : List Int} (hn : okN l) (hf : (lkNm G l).1 = -1) {x : Int} : SxM (wi (wi (wi h 158 sl.length (c27 l)) 159 sl.length x) 141 30 ((sl.length : Int) + 1)) (G ++ [(l, 4, (sl.length : Int))]) n (sl ++ [x]) := by
  obtain ⟨M, As⟩ := M
  have hs : ∀ a k, ¬ (a = 158 ∧ k = sl.length) → ¬ (a = 159 ∧ k = sl.length) → ¬ (a = 141 ∧ k = 30) → ji (wi (wi (wi h 158 sl.length (c27 l)) 159 sl.length x) 141 30 ((sl.length : Int) + 1)) a k = ji h a k := fun a k z1 z2 z3 => by rw [ji_wi, if_neg z3, ji_wi, if_neg z2, ji_wi, if_neg z1]
  have m0 := M.1
  have mb := M.2.2.1
  have e4 : n4 n sl.length 4 = sl.length := rfl
  have el : (sl ++ [x]).length = sl.length + 1 := by rw [List.length_append]; rfl
  refine ⟨?_, fun k hk => ?_⟩
  · have q := NmM.add (s := 4) (n := n4 n sl.length) (n' := n4 n (sl ++ [x]).length) (h' := wi (wi (wi h 158 sl.length (c27 l)) 159 sl.length x) 141 30 ((sl.length : Int) + 1)) M hn hf (by decide) (by show (sl ++ [x]).length = sl.length + 1; exact el) (fun t ht => by unfold n4; rw [if_neg ht, if_neg ht]) ⟨mb.1, mb.2.1, mb.2.2.1, mb.2.2.2.1, by show (sl ++ [x]).length ≤ 18; omega⟩ ⟨(hs _ _ (by omega) (by omega) (by omega)).trans m0.1, (hs _ _ (by omega) (by omega) (by omega)).trans m0.2.1, (hs _ _ (by omega) (by omega) (by omega)).trans m0.2.2.1, (hs _ _ (by omega) (by omega) (by omega)).trans m0.2.2.2.1, by rw [ji_wi, if_pos ⟨rfl, rfl⟩]; show _ = ((sl ++ [x]).length : Int); rw [el]; rfl⟩ (fun a k z1 z2 => hs _ _ (fun z => z2 ⟨z.1, z.2⟩) (by omega) (by omega)) (by
      show ji _ 158 sl.length = _
      rw [ji_wi, if_neg (by omega), ji_wi, if_neg (by omega), ji_wi, if_pos ⟨rfl, rfl⟩])
    exact q
  · rw [el] at hk
    rw [getD_snoc]
    by_cases ck : k < sl.length
    · rw [if_pos ck, hs _ _ (by omega) (by omega) (by omega)]; exact As k ck
    · rw [if_neg ck, if_pos (by omega), show k = sl.length by omega, ji_wi, if_neg (by omega), ji_wi, if_pos ⟨rfl, rfl⟩]
theorem ind_step (hd : 18 ≤ d) (R : RT p T e h) (K : RtR T e i h) (M : SxM h G n sl) (hl : sl.length < 18) {v1 : Nat} (hv : v1 ≤ 1) {z3 z4 : AV} {Q : Option AV → AH → Prop} (HE : ∀ h' q, pInd1 T G sl i = .error q → Ly p h' → Fq ZX h h' → ji h' 141 6 = (q : Int) → Q (some (jI (v1 : Int))) h') (HO : ∀ h' r, pInd1 T G sl i = .ok r → Ly p h' → Fq ZX h h' → RtR T e r.2.2 h' → SxM h' r.1 n r.2.1 → (v1 = 1 → Q (some (jI 2)) h') ∧ (v1 = 0 → (tkK T r.2.2 = 144 → ∀ h2 y3 y4, Ly p h2 → Fq ZL h' h2 → RtR T e (r.2.2 + 1) h2 → WF d 132 4 [jP 141, jI 1, jI 1, y3, y4] [] h2 Q) ∧ (¬ tkK T r.2.2 = 144 → Q (some (jI 1)) h'))) : WF d 132 4 [jP 141, jI (v1 : Int), jI 1, z3, z4] [] h Q := by
  have L := R.1
  have cs := M.1.1.1
  have mb := M.1.2.2.1.1
  obtain ⟨x4, h1, hE1, L1, F1, S1⟩ := t_124 (d := d) (s := .ok i) (by omega) R K M.1
  have S1 : RV T e (pNew T G i) (fun r => r.2) (fun r => x4 = c27 r.1) h1 := S1
  refine c_132_4 (by omega) L ⟨fun z => absurd z (by decide), fun _ => ⟨x4, h1, hE1, L1, ?_⟩⟩
  rcases S1.cs with ⟨q, hr, h6⟩ | ⟨a, hr, va, K1⟩
  · refine ⟨0, h1, e_120 (by omega) L1 (nq h6), L1, -1, h1, e_125 (by omega) L1 (nq h6) ((F1.i (by omega)).trans cs) mb, L1, fun z => absurd z (nq h6), fun _ => HE h1 q ?_ L1 F1.toX h6⟩
    rw [pInd1_eq, hr]; rfl
  have na := pNew_ok hr
  by_cases c1 : ¬ tkK T a.2 = 18
  · have L2 : Ly p (wi h1 141 6 (tkP T a.2 : Int)) := L1.wi (by decide)
    have q6 : ¬ ji (wi h1 141 6 (tkP T a.2 : Int)) 141 6 = -1 := by rw [w6_r]; omega
    refine ⟨0, _, n_120 (by omega) L1 K1 c1, L2, -1, _, e_125 (by omega) L2 q6 (n := n4 n sl.length 0) (by rw [ji_wi, if_neg (by omega), F1.i (by omega)]; exact cs) mb, L2, fun z => absurd z q6, fun _ => HE _ (tkP T a.2) ?_ L2 (F1.trans f6).toX w6_r⟩
    rw [pInd1_eq, hr, xb_pure, take_n c1]; rfl
  have c1 := Decidable.not_not.mp c1
  obtain ⟨h2, hE2, L2, G2, K2⟩ := y_120 (d := d) (k := 18) (by omega) (R.fF F1) K1 c1 (by decide)
  have F2 := F1.trans G2.toF
  obtain ⟨x12, h3, hE3, L3, G3, S3⟩ := t_125 (d := d) (s := .ok (a.2 + 1)) (by omega) (R.fF F2) K2 (M.fF F2).1
  have F3 := F2.trans G3
  have S3 : RV T e (pSetN T G (a.2 + 1)) (fun r => r.2) (fun r => x12 = r.1) h3 := S3
  refine ⟨1, h2, hE2, L2, x12, h3, hE3, L3, ?_⟩
  rcases S3.cs with ⟨q, hr2, h6⟩ | ⟨r, hr2, vr, K3⟩
  · refine ⟨fun z => absurd z (nq h6), fun _ => HE h3 q ?_ L3 F3.toX h6⟩
    rw [pInd1_eq, hr, xb_pure, take_y c1, xb_pure, hr2]; rfl
  have M3 := M.fF F3
  have e30 : ji h3 141 30 = (sl.length : Int) := M3.1.1.2.2.2.2
  have eI : pInd1 T G sl i = .ok (G ++ [(a.1, 4, (sl.length : Int))], sl ++ [r.1], r.2) := by rw [pInd1_eq, hr, xb_pure, take_y c1, xb_pure, hr2]; rfl
  rw [e30, Int.toNat_natCast, w32_i (x := (sl.length : Int) + 1) (by omega) (by omega), w32_i (x := (v1 : Int) + 1) (by omega) (by omega)]
  refine ⟨fun _ => ⟨by omega, by omega, by omega, by omega, ?_⟩, fun z => absurd K3.2.2.2.2.2.2 z⟩
  have M4 := M3.add hl na.1 na.2.1 (x := x12)
  rw [← va] at M4
  have F4 : Fq ZX h3 (wi (wi (wi h3 158 sl.length x4) 159 sl.length x12) 141 30 ((sl.length : Int) + 1)) := ((Fq.wi (by omega)).trans (Fq.wi (by omega))).trans (Fq.wi (by omega))
  have K4 : RtR T e r.2 (wi (wi (wi h3 158 sl.length x4) 159 sl.length x12) 141 30 ((sl.length : Int) + 1)) := K3.fq (((Fq.wi (Z := fun a k => a = 158 ∨ a = 159 ∨ (a = 141 ∧ k = 30)) (by omega)).trans (Fq.wi (by omega))).trans (Fq.wi (by omega))) (fun k z1 z2 => by omega)
  rw [vr] at M4 F4 K4 ⊢
  generalize wi (wi (wi h3 158 sl.length x4) 159 sl.length r.1) 141 30 ((sl.length : Int) + 1) = g at M4 F4 K4 ⊢
  have F5 := F3.toX.trans F4
  refine ⟨fun z L4 => c_132_4 (by omega) L4 ⟨fun _ => ?_, fun z2 => absurd rfl z2⟩, fun z => ⟨fun z2 L4 => ?_, fun z2 L4 => c_132_4 (by omega) L4 ⟨fun _ => ?_, fun z3 => absurd rfl z3⟩⟩⟩
  · have q := (HO g _ eI L4 F5 K4 M4).1 (by omega)
    rw [show (v1 : Int) + 1 = 2 by omega]; exact q
  · have c2 : tkK T r.2 = 144 := K3.2.1.symm.trans z2
    obtain ⟨h5, hE5, L5, G5, K5⟩ := t_118 (d := d) (by omega) (R.fX F5) K4 (by rw [c2]; decide)
    refine ⟨h5, hE5, L5, ?_⟩
    have q := ((HO g _ eI L4 F5 K4 M4).2 (by omega)).1 c2 h5 (jI x4) (jI r.1) L5 G5 K5
    rw [show (v1 : Int) + 1 = 1 by omega]; exact q
  · have c2 : ¬ tkK T r.2 = 144 := fun y => z2 (K3.2.1.trans y)
    have q := ((HO g _ eI L4 F5 K4 M4).2 (by omega)).2 c2
    rw [show (v1 : Int) + 1 = 1 by omega]; exact q
def P132 (p : Lpar) (T : Txt) (e i : Nat) (G : NmL) (n : Nat → Nat) (sl : List Int) (h : AH) (w : Option AV) (h' : AH) : Prop := ∃ v : Nat, w = some (jI (v : Int)) ∧ v ≤ 2 ∧ Ly p h' ∧ Fq ZX h h' ∧ Rs (pInd T G sl i) (fun q => ji h' 141 6 = (q : Int)) (fun r => v + sl.length = r.2.1.length ∧ RtR T e r.2.2 h' ∧ SxM h' r.1 n r.2.1)
theorem t_132 (hd : 19 ≤ d) (R : RT p T e h) (K : RtR T e i h) (M : SxM h G n sl) (hl : sl.length ≤ 16) : ∃ w h', jE d 132 [jP 141] h w h' ∧ P132 p T e i G n sl h w h' := by
  obtain ⟨d, rfl⟩ : ∃ d', d = d' + 1 := ⟨d - 1, by omega⟩
  have i1 : ∀ {G sl i r}, pInd1 T G sl i = .ok r → r.2.1.length = sl.length + 1 := fun {G sl i r} hr => by
    rw [pInd1_eq] at hr
    obtain ⟨a, _, hr⟩ := xb_ok hr
    obtain ⟨b, _, hr⟩ := xb_ok hr
    obtain ⟨q, _, hr⟩ := xb_ok hr
    cases hr
    show (sl ++ [q.1]).length = _
    rw [List.length_append]; rfl
  refine jE_of (as := [jP 141]) (Nat.le_of_ble_eq_true rfl) (c_132_0 (by omega) R.1 ?_)
  refine ind_step (v1 := 0) (by omega) R K M (by omega) (by omega) (fun h' q hq L' F' h6 => ⟨0, rfl, by omega, L', F', ?_⟩) (fun h' r hr L' F' K' M' => ⟨fun z => absurd z (by decide), fun _ => ⟨fun c1 h2 y3 y4 L2 G2 K2 => ?_, fun c1 => ⟨1, rfl, by omega, L', F', ?_⟩⟩⟩)
  · unfold pInd; rw [hq]; exact h6
  · have l1 := i1 hr
    have F2 := F'.trans G2.toF.toX
    refine ind_step (v1 := 1) (by omega) (R.fX F2) K2 (M'.fF G2.toF) (by omega) (by omega) (fun h3 q hq L3 F3 h6 => ⟨1, rfl, by omega, L3, F2.trans F3, ?_⟩) (fun h3 r2 hr2 L3 F3 K3 M3 => ⟨fun _ => ⟨2, rfl, by omega, L3, F2.trans F3, ?_⟩, fun z => absurd z (by decide)⟩)
    · unfold pInd; rw [hr, xb_pure, if_pos c1, hq]; exact h6
    · have l2 := i1 hr2
      unfold pInd; rw [hr, xb_pure, if_pos c1, hr2]
      exact ⟨by omega, K3, M3⟩
  · have l1 := i1 hr
    unfold pInd; rw [hr, xb_pure, if_neg c1]
    exact ⟨by omega, K', M'⟩
end RIX
