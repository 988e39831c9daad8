/-! THE REFERENCE: ( and sum -/
section ROP
variable {p : Lpar} {d : Nat} {h h' h0 h1 g : AH} {T : Txt} {e i i0 i1 k A A1 dp lo m : Nat} {c : Dc} {G : NmL} {n : Nat → Nat} {sl : List Int} {s q f : Ex} {neg lp : Bool} {W : Int}
theorem fac_bad (hd : 17 ≤ d) (B : LvB p T e c G n sl dp lo i A h s neg q) (n1 : ¬ tkK T i = 1) (n2 : ¬ tkK T i = 2) (hb : (¬ tkK T i = 140 ∧ ¬ tkK T i = 17) ∨ dp = 8) : ∃ w h', jE d 140 [jP 141] h w h' ∧ P140 p T e c G n sl dp lo i h s neg q (.error (tkP T i)) w h' := by
  obtain ⟨d, rfl⟩ : ∃ d', d = d' + 1 := ⟨d - 1, by omega⟩
  refine jE_of (as := [jP 141]) (Nat.le_of_ble_eq_true rfl) (fac_0 (by omega) B (fun h1 B1 F1 => ?_))
  obtain ⟨⟨S, K, a33, ab, ⟨m, cs, cq⟩, a47, a48, a49, a52⟩, a50, a51⟩ := B1
  have L := S.1.1
  have l1 := cR_lt cs
  have l2 := cR_lt cq
  have a38 := S.2.2.2
  have k2 := K.2.1
  have k6 := K.2.2.2.2.2.2
  have bad : Ly p (wi h1 141 6 (ji h1 141 3)) → WF d 140 98 [jP 141, jU, jU, jU, jU] [] (wi h1 141 6 (ji h1 141 3)) (P140 p T e c G n sl dp lo i h s neg q (.error (tkP T i))) := fun L2 => c_140_98 (by omega) L2 ⟨2, rfl, L2, ⟨A, F1.trans (Fq.wi (by omega)), by omega⟩, w6_r.trans K.2.2.1⟩
  refine c_140_13 (by omega) L ⟨fun z => absurd (k2.symm.trans z) n2, fun _ => ⟨fun z => absurd (k2.symm.trans z) n1, fun _ => ⟨fun z => ⟨fun _ => ⟨fun _ => bad, fun z2 => absurd k6 z2⟩, fun z2 => ?_⟩, fun z => ⟨fun z2 => ⟨fun _ => ⟨fun _ => bad, fun z2 => absurd k6 z2⟩, fun z3 => ?_⟩, fun z2 => ⟨fun _ => bad, fun z2 => absurd k6 z2⟩⟩⟩⟩⟩
  · have z : tkK T i = 17 := k2.symm.trans z
    omega
  · have z2 : tkK T i = 140 := k2.symm.trans z2
    omega
theorem e_132 (hd : 13 ≤ d) (L : Ly p h) (hq : ¬ ji h 141 6 = -1) {n : Nat} (hn : ji h 141 7 = (n : Int)) (hn2 : n ≤ 6) : jE d 132 [jP 141] h (some (jI 0)) h := by
  obtain ⟨d, rfl⟩ : ∃ d', d = d' + 1 := ⟨d - 1, by omega⟩
  exact jE_eq (Nat.le_of_ble_eq_true rfl) (c_132_0 (by omega) L (c_132_4 (by omega) L ⟨fun z => absurd z (by decide), fun _ => ⟨-1, h, e_124 (by omega) L hq, L, 0, h, e_120 (by omega) L hq, L, -1, h, e_125 (by omega) L hq hn hn2, L, fun z => absurd z hq, fun _ => ⟨rfl, rfl⟩⟩⟩))
theorem pInd1_i {r : NmL × List Int × Nat} (hr : pInd1 T G sl i = .ok r) : i + 3 ≤ r.2.2 ∧ sl.length + 1 ≤ r.2.1.length := by
  rw [pInd1_eq] at hr
  obtain ⟨a, h1, hr⟩ := xb_ok hr
  obtain ⟨b, h2, hr⟩ := xb_ok hr
  obtain ⟨q, h3, hr⟩ := xb_ok hr
  have q1 := (pNew_ok h1).2.2
  have q2 := (take_ok h2).2
  have q3 : q.2 = b + 1 := by
    unfold pSetN at h3
    split at h3
    · cases h3; rfl
    · cases h3
  cases hr
  refine ⟨by show i + 3 ≤ q.2; omega, ?_⟩
  show sl.length + 1 ≤ (sl ++ [q.1]).length
  rw [List.length_append]; exact Nat.le_refl _
theorem pInd_i {r : NmL × List Int × Nat} (hr : pInd T G sl i = .ok r) : i + 3 ≤ r.2.2 ∧ sl.length + 1 ≤ r.2.1.length := by
  unfold pInd at hr
  obtain ⟨a, h1, hr⟩ := xb_ok hr
  have q1 := pInd1_i h1
  split at hr
  · have q2 := pInd1_i hr; omega
  · cases hr; exact q1
/-- what is saved; then the sum inside begins -/
theorem op_196 (hd : 18 ≤ d) (S : SmC p T e c G n sl dp h) (K : RtR T e i1 h) (hdp : dp < 8) (a33 : ji h 141 33 = (A1 : Int)) (hA : A1 + 4 ≤ 4 * i1) (a47 : ji h 141 47 = (if neg = true then -1 else 1)) (a48 : ji h 141 48 = bI (hv q)) (a49 : ji h 141 49 = bI (hv s)) (a50 : ji h 141 50 = (tkP T i : Int)) (a52 : jl h 141 52 = w64 W) {v4 : Int} {Q : Option AV → AH → Prop} (H : ∀ h', LvB p T e c G n sl (dp + 1) A1 (sgi T i1) (A1 + 2) h' xZero (sgn T i1) xOne → StF T h' dp lp neg q s i W m A → Fq (ZV dp 0 A1) h h' → Q (some (jI 0)) h') : WF d 140 196 [jP 141, jI (bI lp), jI (m : Int), jI (A : Int), jI v4] [] h Q := by
  have L := S.1.1
  have a38 := S.2.2.2
  have r1 := bI_r lp
  have r2 := bI_r (hv q)
  have r3 := bI_r (hv s)
  refine c_140_196 (by omega) L ?_
  rw [a38, Int.toNat_natCast]
  refine ⟨by omega, by omega, r1, fun L1 => c_140_206 (by omega) L1 ?_⟩
  have F1 : Fq (fun a k => 164 ≤ a ∧ a ≤ 171 ∧ k = dp) h (wi h 164 dp (bI lp)) := (Fq.wi (by omega))
  have w164 : ji (wi h 164 dp (bI lp)) 164 dp = (bI lp) := by rw [ji_wi, if_pos ⟨rfl, rfl⟩]
  generalize wi h 164 dp (bI lp) = g1 at *
  rw [F1.i (by omega), a38, Int.toNat_natCast, F1.i (by omega), a47]
  refine ⟨by omega, by omega, fun L2 => c_140_219 (by omega) L2 ?_⟩
  have F2 : Fq (fun a k => 164 ≤ a ∧ a ≤ 171 ∧ k = dp) h (wi g1 165 dp (if neg = true then -1 else 1)) := F1.trans (Fq.wi (by omega))
  have w165 : ji (wi g1 165 dp (if neg = true then -1 else 1)) 165 dp = (if neg = true then -1 else 1) := by rw [ji_wi, if_pos ⟨rfl, rfl⟩]
  have w164 : ji (wi g1 165 dp (if neg = true then -1 else 1)) 164 dp = (bI lp) := by rw [ji_wi, if_neg (by omega)]; exact w164
  generalize wi g1 165 dp (if neg = true then -1 else 1) = g2 at *
  rw [F2.i (by omega), a38, Int.toNat_natCast, F2.i (by omega), a48]
  refine ⟨by omega, by omega, r2, fun L3 => c_140_232 (by omega) L3 ?_⟩
  have F3 : Fq (fun a k => 164 ≤ a ∧ a ≤ 171 ∧ k = dp) h (wi g2 166 dp (bI (hv q))) := F2.trans (Fq.wi (by omega))
  have w166 : ji (wi g2 166 dp (bI (hv q))) 166 dp = (bI (hv q)) := by rw [ji_wi, if_pos ⟨rfl, rfl⟩]
  have w164 : ji (wi g2 166 dp (bI (hv q))) 164 dp = (bI lp) := by rw [ji_wi, if_neg (by omega)]; exact w164
  have w165 : ji (wi g2 166 dp (bI (hv q))) 165 dp = (if neg = true then -1 else 1) := by rw [ji_wi, if_neg (by omega)]; exact w165
  generalize wi g2 166 dp (bI (hv q)) = g3 at *
  rw [F3.i (by omega), a38, Int.toNat_natCast, F3.i (by omega), a49]
  refine ⟨by omega, by omega, r3, fun L4 => c_140_245 (by omega) L4 ?_⟩
  have F4 : Fq (fun a k => 164 ≤ a ∧ a ≤ 171 ∧ k = dp) h (wi g3 167 dp (bI (hv s))) := F3.trans (Fq.wi (by omega))
  have w167 : ji (wi g3 167 dp (bI (hv s))) 167 dp = (bI (hv s)) := by rw [ji_wi, if_pos ⟨rfl, rfl⟩]
  have w164 : ji (wi g3 167 dp (bI (hv s))) 164 dp = (bI lp) := by rw [ji_wi, if_neg (by omega)]; exact w164
  have w165 : ji (wi g3 167 dp (bI (hv s))) 165 dp = (if neg = true then -1 else 1) := by rw [ji_wi, if_neg (by omega)]; exact w165
  have w166 : ji (wi g3 167 dp (bI (hv s))) 166 dp = (bI (hv q)) := by rw [ji_wi, if_neg (by omega)]; exact w166
  generalize wi g3 167 dp (bI (hv s)) = g4 at *
  rw [F4.i (by omega), a38, Int.toNat_natCast, F4.i (by omega), a50]
  refine ⟨by omega, by omega, fun L5 => c_140_258 (by omega) L5 ?_⟩
  have F5 : Fq (fun a k => 164 ≤ a ∧ a ≤ 171 ∧ k = dp) h (wi g4 168 dp (tkP T i : Int)) := F4.trans (Fq.wi (by omega))
  have w168 : ji (wi g4 168 dp (tkP T i : Int)) 168 dp = (tkP T i : Int) := by rw [ji_wi, if_pos ⟨rfl, rfl⟩]
  have w164 : ji (wi g4 168 dp (tkP T i : Int)) 164 dp = (bI lp) := by rw [ji_wi, if_neg (by omega)]; exact w164
  have w165 : ji (wi g4 168 dp (tkP T i : Int)) 165 dp = (if neg = true then -1 else 1) := by rw [ji_wi, if_neg (by omega)]; exact w165
  have w166 : ji (wi g4 168 dp (tkP T i : Int)) 166 dp = (bI (hv q)) := by rw [ji_wi, if_neg (by omega)]; exact w166
  have w167 : ji (wi g4 168 dp (tkP T i : Int)) 167 dp = (bI (hv s)) := by rw [ji_wi, if_neg (by omega)]; exact w167
  generalize wi g4 168 dp (tkP T i : Int) = g5 at *
  rw [F5.i (by omega), a38, Int.toNat_natCast, F5.l (by omega), a52]
  refine ⟨by omega, by omega, fun L6 => c_140_271 (by omega) L6 ?_⟩
  have F6 : Fq (fun a k => 164 ≤ a ∧ a ≤ 171 ∧ k = dp) h (wl g5 169 dp (w64 W)) := F5.trans (Fq.wl (by omega))
  have w169 : jl (wl g5 169 dp (w64 W)) 169 dp = (w64 W) := by rw [jl_wl, if_pos ⟨rfl, rfl⟩]
  have w164 : ji (wl g5 169 dp (w64 W)) 164 dp = (bI lp) := by rw [ji_wl]; exact w164
  have w165 : ji (wl g5 169 dp (w64 W)) 165 dp = (if neg = true then -1 else 1) := by rw [ji_wl]; exact w165
  have w166 : ji (wl g5 169 dp (w64 W)) 166 dp = (bI (hv q)) := by rw [ji_wl]; exact w166
  have w167 : ji (wl g5 169 dp (w64 W)) 167 dp = (bI (hv s)) := by rw [ji_wl]; exact w167
  have w168 : ji (wl g5 169 dp (w64 W)) 168 dp = (tkP T i : Int) := by rw [ji_wl]; exact w168
  generalize wl g5 169 dp (w64 W) = g6 at *
  rw [F6.i (by omega), a38, Int.toNat_natCast]
  refine ⟨by omega, by omega, fun L7 => c_140_281 (by omega) L7 ?_⟩
  have F7 : Fq (fun a k => 164 ≤ a ∧ a ≤ 171 ∧ k = dp) h (wi g6 170 dp (m : Int)) := F6.trans (Fq.wi (by omega))
  have w170 : ji (wi g6 170 dp (m : Int)) 170 dp = (m : Int) := by rw [ji_wi, if_pos ⟨rfl, rfl⟩]
  have w164 : ji (wi g6 170 dp (m : Int)) 164 dp = (bI lp) := by rw [ji_wi, if_neg (by omega)]; exact w164
  have w165 : ji (wi g6 170 dp (m : Int)) 165 dp = (if neg = true then -1 else 1) := by rw [ji_wi, if_neg (by omega)]; exact w165
  have w166 : ji (wi g6 170 dp (m : Int)) 166 dp = (bI (hv q)) := by rw [ji_wi, if_neg (by omega)]; exact w166
  have w167 : ji (wi g6 170 dp (m : Int)) 167 dp = (bI (hv s)) := by rw [ji_wi, if_neg (by omega)]; exact w167
  have w168 : ji (wi g6 170 dp (m : Int)) 168 dp = (tkP T i : Int) := by rw [ji_wi, if_neg (by omega)]; exact w168
  have w169 : jl (wi g6 170 dp (m : Int)) 169 dp = (w64 W) := by rw [jl_wi]; exact w169
  generalize wi g6 170 dp (m : Int) = g7 at *
  rw [F7.i (by omega), a38, Int.toNat_natCast]
  refine ⟨by omega, by omega, fun L8 => c_140_291 (by omega) L8 ?_⟩
  have F8 : Fq (fun a k => 164 ≤ a ∧ a ≤ 171 ∧ k = dp) h (wi g7 171 dp (A : Int)) := F7.trans (Fq.wi (by omega))
  have w171 : ji (wi g7 171 dp (A : Int)) 171 dp = (A : Int) := by rw [ji_wi, if_pos ⟨rfl, rfl⟩]
  have w164 : ji (wi g7 171 dp (A : Int)) 164 dp = (bI lp) := by rw [ji_wi, if_neg (by omega)]; exact w164
  have w165 : ji (wi g7 171 dp (A : Int)) 165 dp = (if neg = true then -1 else 1) := by rw [ji_wi, if_neg (by omega)]; exact w165
  have w166 : ji (wi g7 171 dp (A : Int)) 166 dp = (bI (hv q)) := by rw [ji_wi, if_neg (by omega)]; exact w166
  have w167 : ji (wi g7 171 dp (A : Int)) 167 dp = (bI (hv s)) := by rw [ji_wi, if_neg (by omega)]; exact w167
  have w168 : ji (wi g7 171 dp (A : Int)) 168 dp = (tkP T i : Int) := by rw [ji_wi, if_neg (by omega)]; exact w168
  have w169 : jl (wi g7 171 dp (A : Int)) 169 dp = (w64 W) := by rw [jl_wi]; exact w169
  have w170 : ji (wi g7 171 dp (A : Int)) 170 dp = (m : Int) := by rw [ji_wi, if_neg (by omega)]; exact w170
  generalize wi g7 171 dp (A : Int) = g8 at *
  rw [F8.i (by omega), a38, w32_i (x := (dp : Int) + 1) (by omega) (by omega)]
  intro L9
  have S8 : SmC p T e c G n sl dp g8 := S.fq F8 (fun a k z => by omega) (fun k z => by omega) (fun a k z => by omega)
  have F9 : Fq (fun a k => a = 141 ∧ k = 38) g8 (wi g8 141 38 ((dp : Int) + 1)) := Fq.wi (by omega)
  have S9 : SmC p T e c G n sl (dp + 1) (wi g8 141 38 ((dp : Int) + 1)) := ⟨S8.1.fq F9 (fun a k z => by omega) (by omega) (fun k => by omega), S8.2.1.fq F9 (fun k z => by omega) (fun a k z => by omega), S8.2.2.1.cg (fun a k z => F9.i (by omega)), by rw [ji_wi, if_pos ⟨rfl, rfl⟩]; omega⟩
  have K9 : RtR T e i1 (wi g8 141 38 ((dp : Int) + 1)) := (K.fq F8 (fun k _ _ => by omega)).fq F9 (fun k _ _ => by omega)
  have a33' : ji (wi g8 141 38 ((dp : Int) + 1)) 141 33 = (A1 : Int) := by rw [F9.i (by omega), F8.i (by omega)]; exact a33
  obtain ⟨w, h2, hE2, rfl, B2, G2⟩ := m_137 (d := d) (by omega) S9 K9 a33' hA
  have fs : ∀ a, 164 ≤ a → a ≤ 171 → ji h2 a dp = ji g8 a dp ∧ jl h2 a dp = jl g8 a dp := fun a z1 z2 => ⟨by rw [G2.i (by omega), F9.i (by omega)], by rw [G2.l (by omega), F9.l (by omega)]⟩
  refine c_140_301 (by omega) L9 ⟨h2, hE2, B2.1.1.1, c_140_305 (by omega) B2.1.1.1 (H h2 B2 ⟨(fs 164 (by omega) (by omega)).1.trans w164, (fs 165 (by omega) (by omega)).1.trans w165, (fs 166 (by omega) (by omega)).1.trans w166, (fs 167 (by omega) (by omega)).1.trans w167, (fs 168 (by omega) (by omega)).1.trans w168, (fs 169 (by omega) (by omega)).2.trans w169, (fs 170 (by omega) (by omega)).1.trans w170, (fs 171 (by omega) (by omega)).1.trans w171⟩ ?_)⟩
  exact ((F8.mono (fun a k z => by omega)).trans (F9.mono (fun a k z => by omega))).trans (G2.mono (fun a k z => by omega))
def pOpen (T : Txt) (G : NmL) (sl : List Int) (i : Nat) : Er (NmL × List Int × Nat) := if tkK T i = 140 then .ok (G, sl, i + 1) else xb (pTake T 140 (i + 1)) fun j => xb (pInd T G sl j) fun r => xb (pTake T 158 r.2.2) fun j => .ok (r.1, r.2.1, j)
def lpB (T : Txt) (i : Nat) : Bool := decide (tkK T i = 17)
def POp (p : Lpar) (T : Txt) (e : Nat) (c : Dc) (G : NmL) (n : Nat → Nat) (sl : List Int) (dp lo i A : Nat) (h : AH) (s : Ex) (neg : Bool) (q : Ex) (w : Option AV) (h' : AH) : Prop := ∃ v, w = some (jI v) ∧ Ly p h' ∧ Fq (ZV dp 0 A) h h' ∧ Rs (pOpen T G sl i) (fun x => ji h' 141 6 = (x : Int)) (fun r => v = 0 ∧ ∃ A1, A1 = A + (if lpB T i = true then 1 else 0) ∧ LvB p T e c r.1 n r.2.1 (dp + 1) A1 (sgi T r.2.2) (A1 + 2) h' xZero (sgn T r.2.2) xOne ∧ StF T h' dp (lpB T i) neg q s i (wke (dS c) s + wke (dS c) q) sl.length A ∧ (lpB T i = true → ji h' 160 A = 9 ∧ ji h' 161 A = (sl.length : Int) ∧ ji h' 162 A = r.2.1.getD sl.length (-1) ∧ ji h' 163 A = r.2.1.getD (sl.length + 1) (-1)))
theorem fac_open (hd : 21 ≤ d) (B : LvB p T e c G n sl dp lo i A h s neg q) (hdp : dp < 8) (hsl : sl.length ≤ 16) (hk : tkK T i = 140 ∨ tkK T i = 17) : ∃ w h', jE d 140 [jP 141] h w h' ∧ POp p T e c G n sl dp lo i A h s neg q w h' := by
  obtain ⟨d, rfl⟩ : ∃ d', d = d' + 1 := ⟨d - 1, by omega⟩
  refine jE_of (as := [jP 141]) (Nat.le_of_ble_eq_true rfl) (fac_0 (by omega) B (fun h1 B1 F1 => ?_))
  obtain ⟨⟨S, K, a33, ab, cc, a47, a48, a49, a52⟩, a50, a51⟩ := B1
  have L := S.1.1
  have a38 := S.2.2.2
  have k2 := K.2.1
  have i4 := e4i S.1 K
  obtain ⟨h2, hE2, L2, G2, K2⟩ := t_118 (d := d) (by omega) S.1 K (by omega)
  have F2 : Fq ZF h1 h2 := G2.toF
  have S2 := S.fF F2
  have b33 : ji h2 141 33 = (A : Int) := (G2.i (by omega)).trans a33
  have b30 : ji h2 141 30 = (sl.length : Int) := S2.2.1.1.1.2.2.2.2
  have b47 := (G2.i (a := 141) (k := 47) (by omega)).trans a47
  have b48 := (G2.i (a := 141) (k := 48) (by omega)).trans a48
  have b49 := (G2.i (a := 141) (k := 49) (by omega)).trans a49
  have b50 := (G2.i (a := 141) (k := 50) (by omega)).trans a50
  have b52 := (G2.l (a := 141) (k := 52) (by omega)).trans a52
  have FV2 : Fq (ZV dp 0 A) h h2 := F1.trans (F2.mono (fun a k z => by omega))
  clear a33 a47 a48 a49 a50 a52 a51 cc F1
  by_cases c1 : tkK T i = 140
  · have eO : pOpen T G sl i = .ok (G, sl, i + 1) := by unfold pOpen; rw [if_pos c1]
    have el : lpB T i = false := by unfold lpB; exact decide_eq_false (by omega)
    refine c_140_13 (by omega) L ⟨fun z => by omega, fun _ => ⟨fun z => by omega, fun _ => ⟨fun z => by omega, fun _ => ⟨fun _ => ⟨fun z => by omega, fun _ => ⟨fun z => by omega, fun _ => c_140_115 (by omega) L ⟨h2, hE2, L2, c_140_119 (by omega) L2 (c_140_124 (by omega) L2 (c_140_129 (by omega) L2 (c_140_132 (by omega) L2 ⟨fun _ => ?_, fun z => absurd rfl z⟩)))⟩⟩⟩, fun z => by omega⟩⟩⟩⟩
    rw [b30, b33]
    refine op_196 (lp := false) (by omega) S2 K2 hdp b33 (by omega) b47 b48 b49 b50 b52 (fun h' B' St' F' => ⟨0, rfl, B'.1.1.1, FV2.trans F', ?_⟩)
    rw [eO, el]
    exact ⟨rfl, A, rfl, B', St', fun z => absurd z (by decide)⟩
  have c17 : tkK T i = 17 := by omega
  have el : lpB T i = true := by unfold lpB; exact decide_eq_true c17
  have eO : pOpen T G sl i = xb (pTake T 140 (i + 1)) fun j => xb (pInd T G sl j) fun r => xb (pTake T 158 r.2.2) fun j => .ok (r.1, r.2.1, j) := by unfold pOpen; rw [if_neg c1]
  refine c_140_13 (by omega) L ⟨fun z => by omega, fun _ => ⟨fun z => by omega, fun _ => ⟨fun _ => ⟨fun z => by omega, fun _ => ⟨fun _ => c_140_115 (by omega) L ⟨h2, hE2, L2, c_140_119 (by omega) L2 (c_140_124 (by omega) L2 (c_140_129 (by omega) L2 (c_140_132 (by omega) L2 ⟨fun z => absurd z (by decide), fun _ => ?_⟩)))⟩, fun z => absurd (k2.trans c17) z⟩⟩, fun z => absurd (k2.trans c17) z⟩⟩⟩
  rw [b30, b33]
  -- in a fault, at 156
  have f156 : ∀ {g : AH} {x : Nat} {v4 : Int}, Ly p g → ji g 141 6 = (x : Int) → Fq (ZV dp 0 A) h g → pOpen T G sl i = .error x → WF d 140 156 [jP 141, jI 1, jI (sl.length : Int), jI (A : Int), jI v4] [] g (POp p T e c G n sl dp lo i A h s neg q) := fun Lg h6 Fg hx => c_140_156 (by omega) Lg ⟨fun z => absurd z (nq h6), fun _ => ⟨2, rfl, Lg, Fg, by rw [hx]; exact h6⟩⟩
  have f149 : ∀ {g : AH} {x : Nat} {v4 : Int}, Ly p g → ji g 141 6 = (x : Int) → Fq (ZV dp 0 A) h g → pOpen T G sl i = .error x → WF d 140 149 [jP 141, jI 1, jI (sl.length : Int), jI (A : Int), jI v4] [] g (POp p T e c G n sl dp lo i A h s neg q) := fun {g x v4} Lg h6 Fg hx => c_140_149 (by omega) Lg ⟨0, g, e_121 (by omega) Lg (nq h6), Lg, f156 Lg h6 Fg hx⟩
  by_cases c2 : ¬ tkK T (i + 1) = 140
  · have L3 : Ly p (wi h2 141 6 (tkP T (i + 1) : Int)) := L2.wi (by decide)
    have ex : pOpen T G sl i = .error (tkP T (i + 1)) := by rw [eO, take_n c2]; rfl
    refine ⟨0, _, n_121 (by omega) L2 K2 c2 (by decide), L3, c_140_143 (by omega) L3 ⟨0, _, e_132 (by omega) L3 (nq w6_r) (n := n4 n sl.length 0) (by rw [ji_wi, if_neg (by omega)]; exact S2.2.1.1.1.1) S2.2.1.1.2.2.1.1, L3, f149 L3 w6_r (FV2.trans (Fq.wi (by omega))) ex⟩⟩
  have c2 := Decidable.not_not.mp c2
  obtain ⟨h3, hE3, L3, G3, K3⟩ := y_121 (d := d) (x := 40) (by omega) S2.1 K2 c2 (by decide) (by decide)
  have F3 := F2.trans G3.toF
  have S3 := S.fF F3
  refine ⟨1, h3, hE3, L3, ?_⟩
  rw [take_y c2, xb_pure] at eO
  obtain ⟨w, h4, hE4, v4, rfl, hv4, L4, F4, R4⟩ := t_132 (d := d) (by omega) S3.1 K3 S3.2.1 hsl
  have FV4 : Fq (ZV dp 0 A) h h4 := (FV2.trans (G3.mono (fun a k z => by omega))).trans (F4.mono (fun a k z => by omega))
  refine c_140_143 (by omega) L3 ⟨_, h4, hE4, L4, ?_⟩
  cases hI : pInd T G sl (i + 1 + 1) with
  | error x =>
    rw [hI] at R4 eO
    exact f149 L4 R4 FV4 eO
  | ok r =>
    rw [hI, xb_pure] at eO
    rw [hI] at R4
    obtain ⟨hvl, K4, M4⟩ := R4
    have d33 : ji h4 141 33 = (A : Int) := by rw [F4.i (by omega), G3.i (by omega)]; exact b33
    by_cases c3 : ¬ tkK T r.2.2 = 158
    · have L5 : Ly p (wi h4 141 6 (tkP T r.2.2 : Int)) := L4.wi (by decide)
      exact c_140_149 (by omega) L4 ⟨0, _, n_121 (by omega) L4 K4 c3 (by decide), L5, f156 L5 w6_r (FV4.trans (Fq.wi (by omega))) (by rw [eO, take_n c3]; rfl)⟩
    have c3 := Decidable.not_not.mp c3
    have R4' : RT p T e h4 := S3.1.fX F4
    obtain ⟨h5, hE5, L5, G5, K5⟩ := y_121 (d := d) (x := 58) (by omega) R4' K4 c3 (by decide) (by decide)
    have F5 : Fq ZX h3 h5 := F4.trans G5.toF.toX
    rw [take_y c3] at eO
    have S5 : SmC p T e c r.1 n r.2.1 dp h5 := ⟨R4'.fF G5.toF, M4.fF G5.toF, S3.2.2.1.cg (fun a k z => F5.i (by omega)), (F5.i (by omega)).trans S3.2.2.2⟩
    have FV5 : Fq (ZV dp 0 A) h h5 := FV4.trans (G5.mono (fun a k z => by omega))
    have e33 : ji h5 141 33 = (A : Int) := (G5.i (by omega)).trans d33
    have pk := pInd_i hI
    have k6 := K5.2.2.2.2.2.2
    have s18 : r.2.1.length ≤ 18 := M4.1.2.2.1.2.2.2.2
    have x0 : ji h5 159 sl.length = r.2.1.getD sl.length (-1) := by rw [G5.i (by omega)]; exact M4.2 _ (by omega)
    refine c_140_149 (by omega) L4 ⟨1, h5, hE5, L5, ?_⟩
    -- the act LOOP
    suffices key : ∀ y, y = r.2.1.getD (sl.length + 1) (-1) → Ly p (emH h5 A 9 (sl.length : Int) (r.2.1.getD sl.length (-1)) y) → WF d 140 196 [jP 141, jI 1, jI (sl.length : Int), jI (A : Int), jI (v4 : Int)] [] (emH h5 A 9 (sl.length : Int) (r.2.1.getD sl.length (-1)) y) (POp p T e c G n sl dp lo i A h s neg q) by
      refine c_140_156 (by omega) L5 ⟨fun _ => ?_, fun z => absurd k6 z⟩
      rw [e33, Int.toNat_natCast, Int.toNat_natCast, x0]
      refine ⟨by omega, by omega, fun z => ⟨by omega, by omega, fun L6 => key (-1) ?_ L6⟩, fun z => ?_⟩
      · rw [getD_len _ _ (by omega)]
      · rw [w32_i (by omega) (by omega), show ((sl.length : Int) + 1).toNat = sl.length + 1 by omega]
        refine ⟨by omega, by omega, by omega, by omega, fun L6 => key _ ?_ L6⟩
        rw [G5.i (by omega)]; exact M4.2 _ (by omega)
    intro y hy L6
    have FE : Fq (ZE A) h5 (emH h5 A 9 (sl.length : Int) (r.2.1.getD sl.length (-1)) y) := emH_F
    have e0 : ji (emH h5 A 9 (sl.length : Int) (r.2.1.getD sl.length (-1)) y) 160 A = 9 := emH_0
    have e1 : ji (emH h5 A 9 (sl.length : Int) (r.2.1.getD sl.length (-1)) y) 161 A = (sl.length : Int) := emH_1
    have e2 : ji (emH h5 A 9 (sl.length : Int) (r.2.1.getD sl.length (-1)) y) 162 A = r.2.1.getD sl.length (-1) := emH_2
    have e3 : ji (emH h5 A 9 (sl.length : Int) (r.2.1.getD sl.length (-1)) y) 163 A = r.2.1.getD (sl.length + 1) (-1) := emH_3.trans hy
    have f33 : ji (emH h5 A 9 (sl.length : Int) (r.2.1.getD sl.length (-1)) y) 141 33 = ((A + 1 : Nat) : Int) := by rw [emH_33]; omega
    generalize emH h5 A 9 (sl.length : Int) (r.2.1.getD sl.length (-1)) y = g at *
    have q5 : ∀ k, 47 ≤ k → k ≤ 52 → ji g 141 k = ji h2 141 k ∧ jl g 141 k = jl h2 141 k := fun k z1 z2 => ⟨by rw [FE.i (by omega), G5.i (by omega), F4.i (by omega), G3.i (by omega)], by rw [FE.l (by omega), G5.l (by omega), F4.l (by omega), G3.l (by omega)]⟩
    refine op_196 (lp := true) (by omega) (S5.fq FE (fun a k z => by omega) (fun k z => by omega) (fun a k z => by omega)) (K5.fq FE (fun k _ _ => by omega)) hdp f33 (by omega) ((q5 47 (by omega) (by omega)).1.trans b47) ((q5 48 (by omega) (by omega)).1.trans b48) ((q5 49 (by omega) (by omega)).1.trans b49) ((q5 50 (by omega) (by omega)).1.trans b50) ((q5 52 (by omega) (by omega)).2.trans b52) (fun h' B' St' F' => ⟨0, rfl, B'.1.1.1, (FV5.trans (FE.mono (fun a k z => by omega))).trans (F'.mono (fun a k z => by omega)), ?_⟩)
    rw [eO, el]
    exact ⟨rfl, A + 1, rfl, B', St', fun _ => ⟨(F'.i (by omega)).trans e0, (F'.i (by omega)).trans e1, (F'.i (by omega)).trans e2, (F'.i (by omega)).trans e3⟩⟩
end ROP
