/-! THE REFERENCE: sums, what stands -/
def emH (h : AH) (A : Nat) (o a b c : Int) : AH := wi (wi (wi (wi (wi h 160 A o) 161 A a) 162 A b) 163 A c) 141 33 ((A : Int) + 1)
def bI (b : Bool) : Int := if b = true then 1 else 0
theorem bI_r (b : Bool) : bI b = 0 ∨ bI b = 1 := by cases b; exact Or.inl rfl; exact Or.inr rfl
theorem bI_0 (b : Bool) : bI b = 0 ↔ b = false := by cases b <;> decide
section RSM
variable {p : Lpar} {d : Nat} {h h' h0 h1 g : AH} {T : Txt} {e i k A dp lo : Nat} {c : Dc} {G : NmL} {n : Nat → Nat} {sl : List Int} {o a b f : Int}
theorem emH_i {x y : Nat} (z1 : ¬ (160 ≤ x ∧ x ≤ 163 ∧ y = A)) (z2 : ¬ (x = 141 ∧ y = 33)) : ji (emH h A o a b f) x y = ji h x y := by
  unfold emH; rw [ji_wi, if_neg z2, ji_wi, if_neg (by omega), ji_wi, if_neg (by omega), ji_wi, if_neg (by omega), ji_wi, if_neg (by omega)]
theorem emH_33 : ji (emH h A o a b f) 141 33 = (A : Int) + 1 := by unfold emH; rw [ji_wi, if_pos ⟨rfl, rfl⟩]
theorem emH_3 : ji (emH h A o a b f) 163 A = f := by unfold emH; rw [ji_wi, if_neg (by omega), ji_wi, if_pos ⟨rfl, rfl⟩]
theorem emH_2 : ji (emH h A o a b f) 162 A = b := by unfold emH; rw [ji_wi, if_neg (by omega), ji_wi, if_neg (by omega), ji_wi, if_pos ⟨rfl, rfl⟩]
theorem emH_1 : ji (emH h A o a b f) 161 A = a := by unfold emH; rw [ji_wi, if_neg (by omega), ji_wi, if_neg (by omega), ji_wi, if_neg (by omega), ji_wi, if_pos ⟨rfl, rfl⟩]
theorem emH_0 : ji (emH h A o a b f) 160 A = o := by unfold emH; rw [ji_wi, if_neg (by omega), ji_wi, if_neg (by omega), ji_wi, if_neg (by omega), ji_wi, if_neg (by omega), ji_wi, if_pos ⟨rfl, rfl⟩]
theorem emH_l {x y : Nat} : jl (emH h A o a b f) x y = jl h x y := by unfold emH; rw [jl_wi, jl_wi, jl_wi, jl_wi, jl_wi]
abbrev ZE (A : Nat) (a k : Nat) : Prop := (160 ≤ a ∧ a ≤ 163 ∧ k = A) ∨ (a = 141 ∧ k = 33)
theorem emH_F : Fq (ZE A) h (emH h A o a b f) := by
  unfold emH
  exact ((((Fq.wi (by omega)).trans (Fq.wi (by omega))).trans (Fq.wi (by omega))).trans (Fq.wi (by omega))).trans (Fq.wi (by omega))
/-- what a sum, at depth dp, with m indices around, from act lo on, may change -/
abbrev ZV (dp m lo : Nat) (a k : Nat) : Prop := (a = 141 ∧ ((2 ≤ k ∧ k ≤ 6) ∨ k = 30 ∨ k = 33 ∨ k = 38 ∨ (47 ≤ k ∧ k ≤ 52))) ∨ ((a = 158 ∨ a = 159) ∧ m ≤ k) ∨ (160 ≤ a ∧ a ≤ 163 ∧ lo ≤ k) ∨ (164 ≤ a ∧ a ≤ 171 ∧ dp ≤ k)
def SmC (p : Lpar) (T : Txt) (e : Nat) (c : Dc) (G : NmL) (n : Nat → Nat) (sl : List Int) (dp : Nat) (h : AH) : Prop := RT p T e h ∧ SxM h G n sl ∧ RTb h c ∧ ji h 141 38 = (dp : Int)
theorem RT.fV {m : Nat} (R : RT p T e h) (f : Fq (ZV dp m lo) h h') : RT p T e h' := R.fq f (fun a k z => by omega) (by omega) (fun k => by omega)
theorem RTb.fV {m : Nat} (R : RTb h c) (f : Fq (ZV dp m lo) h h') : RTb h' c := R.cg (fun a k z => f.i (by omega))
theorem Fq.vP {m : Nat} (f : Fq (ZV dp m lo) h h') : Fq ZP h h' := f.mono (fun a k z => by omega)
/-- a frame that leaves tokens, names and depth -/
theorem SmC.fq {Z : Nat → Nat → Prop} (S : SmC p T e c G n sl dp h) (f : Fq Z h h') (z0 : ∀ a k, Z a k → 141 ≤ a) (z1 : ∀ k, (k = 1 ∨ k = 7 ∨ k = 11 ∨ k = 15 ∨ k = 20 ∨ k = 30 ∨ k = 38) → ¬ Z 141 k) (z2 : ∀ a k, (a = 142 ∨ (143 ≤ a ∧ a ≤ 153) ∨ a = 158 ∨ a = 159) → ¬ Z a k) : SmC p T e c G n sl dp h' := by
  obtain ⟨s1, s2, s3, s4⟩ := S
  exact ⟨s1.fq f (fun a k z => by have := z0 a k z; omega) (z1 1 (by omega)) (fun k => z2 142 k (by omega)), s2.fq f (fun k z => z1 k (by omega)) (fun a k z => z2 a k (by omega)), s3.cg (fun a k z => f.i (z2 a k (by omega))), (f.i (z1 38 (by omega))).trans s4⟩
def LvB (p : Lpar) (T : Txt) (e : Nat) (c : Dc) (G : NmL) (n : Nat → Nat) (sl : List Int) (dp lo i A : Nat) (h : AH) (s : Ex) (neg : Bool) (q : Ex) : Prop := SmC p T e c G n sl dp h ∧ RtR T e i h ∧ ji h 141 33 = (A : Int) ∧ A + 2 ≤ 4 * i ∧ (∃ m, cR h s lo m ∧ cR h q m A) ∧ ji h 141 47 = (if neg = true then -1 else 1) ∧ ji h 141 48 = bI (hv q) ∧ ji h 141 49 = bI (hv s) ∧ jl h 141 52 = w64 (wke (dS c) s + wke (dS c) q)
/-- behind a factor that began at token i0 -/
def LvD (p : Lpar) (T : Txt) (e : Nat) (c : Dc) (G : NmL) (n : Nat → Nat) (sl : List Int) (dp lo i0 i A : Nat) (h : AH) (s : Ex) (neg : Bool) (q f : Ex) : Prop := SmC p T e c G n sl dp h ∧ RtR T e i h ∧ ji h 141 33 = (A : Int) ∧ A + 5 ≤ 4 * i ∧ (∃ m m2, cR h s lo m ∧ cR h q m m2 ∧ cR h f m2 A) ∧ ji h 141 47 = (if neg = true then -1 else 1) ∧ ji h 141 48 = bI (hv q) ∧ ji h 141 49 = bI (hv s) ∧ jl h 141 52 = w64 (wke (dS c) s + wke (dS c) q + wke (dS c) f) ∧ ji h 141 51 = bI (hv f) ∧ ji h 141 50 = (tkP T i0 : Int)
theorem w64_a (x y : Int) : w64 (w64 x + y) = w64 (x + y) := by unfold w64; omega
theorem e4i (R : RT p T e h) (K : RtR T e i h) : i ≤ 400 := Nat.le_trans K.1 R.2.2.2.1
/-- beginPart -/
theorem m_138 (hd : 2 ≤ d) (L : Ly p h) (hA : ji h 141 33 = (A : Int)) (hb : A < 2000) : jE d 138 [jP 141] h none (wi (emH h A 1 0 0 0) 141 48 0) := by
  obtain ⟨d, rfl⟩ : ∃ d', d = d' + 1 := ⟨d - 1, by omega⟩
  have q := m_136 (d := d) (o := 1) (a := 0) (b := 0) (c := 0) (by omega) L (by omega) (by omega)
  rw [hA, Int.toNat_natCast] at q
  exact jE_eq (Nat.le_of_ble_eq_true rfl) (c_138_0 (Nat.zero_le _) L ⟨_, q, L.fq (emH_F (A := A)) (fun a k z => by omega), fun _ => ⟨rfl, rfl⟩⟩)
abbrev ZG (A : Nat) (a k : Nat) : Prop := (a = 141 ∧ ((2 ≤ k ∧ k ≤ 5) ∨ k = 33 ∨ (47 ≤ k ∧ k ≤ 52))) ∨ (160 ≤ a ∧ a ≤ 163 ∧ A ≤ k)
theorem SmC.fG (S : SmC p T e c G n sl dp h) (f : Fq (ZG A) h h') : SmC p T e c G n sl dp h' := S.fq f (fun a k z => by omega) (fun k z => by omega) (fun a k z => by omega)
theorem Fq.gV {m : Nat} (f : Fq (ZG A) h h') (hl : lo ≤ A) : Fq (ZV dp m lo) h h' := f.mono (fun a k z => by omega)
/-- beginSum -/
def sgn (T : Txt) (i : Nat) : Bool := decide (tkK T i = 145)
def sgi (T : Txt) (i : Nat) : Nat := if tkK T i = 145 then i + 1 else i
theorem sumW_eq {fac : Nat → Er (Ex × Nat)} : sumW T fac i = loopW T fac 400 xZero (sgn T i) xOne (sgi T i) := by
  unfold sumW sgn sgi
  by_cases c : tkK T i = 145
  · rw [if_pos c, if_pos c, decide_eq_true c]
  · rw [if_neg c, if_neg c, decide_eq_false c]
theorem bs_end (S : SmC p T e c G n sl dp g) (K : RtR T e i g) (h33 : ji g 141 33 = (A : Int) + 1) (hA : A + 4 ≤ 4 * i) (hz : ji g 160 A = 0) (h49 : ji g 141 49 = 0) (h52 : jl g 141 52 = 0) {neg : Bool} (h47 : ji g 141 47 = (if neg = true then -1 else 1)) : LvB p T e c G n sl dp A i (A + 2) (wi (emH g (A + 1) 1 0 0 0) 141 48 0) xZero neg xOne := by
  have F : Fq (ZG A) g (wi (emH g (A + 1) 1 0 0 0) 141 48 0) := (emH_F.mono (fun a k z => by omega)).trans (Fq.wi (by omega))
  refine ⟨S.fG F, ?_, ?_, by omega, ⟨A + 1, ⟨rfl, ?_⟩, rfl, ?_⟩, ?_, ?_, ?_, ?_⟩
  · exact (K.fq (emH_F (A := A + 1)) (fun k _ _ => by omega)).fq (Fq.wi (Z := fun a k => a = 141 ∧ k = 48) (by omega)) (fun k _ _ => by omega)
  · rw [ji_wi, if_neg (by omega), emH_33]; omega
  · rw [ji_wi, if_neg (by omega), emH_i (by omega) (by omega)]; exact hz
  · rw [ji_wi, if_neg (by omega), emH_0]
  · rw [ji_wi, if_neg (by omega), emH_i (by omega) (by omega)]; exact h47
  · rw [ji_wi, if_pos ⟨rfl, rfl⟩]; rfl
  · rw [ji_wi, if_neg (by omega), emH_i (by omega) (by omega)]; exact h49
  · rw [jl_wi, emH_l, h52]; rfl
theorem m_137 (hd : 17 ≤ d) (S : SmC p T e c G n sl dp h) (K : RtR T e i h) (h33 : ji h 141 33 = (A : Int)) (hA : A + 4 ≤ 4 * i) : ∃ w h', jE d 137 [jP 141] h w h' ∧ (w = none ∧ LvB p T e c G n sl dp A (sgi T i) (A + 2) h' xZero (sgn T i) xOne ∧ Fq (ZG A) h h') := by
  obtain ⟨d, rfl⟩ : ∃ d', d = d' + 1 := ⟨d - 1, by omega⟩
  have L := S.1.1
  have i4 := e4i S.1 K
  refine jE_of (as := [jP 141]) (Nat.le_of_ble_eq_true rfl) (c_137_0 (by omega) L ?_)
  rw [h33, Int.toNat_natCast]
  have F0 : Fq (ZE A) h (wi (wi (wi (wi (wi h 160 A 0) 161 A 0) 162 A 0) 163 A 0) 141 33 ((A : Int) + 1)) := emH_F (o := 0) (a := 0) (b := 0) (f := 0)
  have z0 : ji (wi (wi (wi (wi (wi h 160 A 0) 161 A 0) 162 A 0) 163 A 0) 141 33 ((A : Int) + 1)) 160 A = 0 := emH_0 (o := 0) (a := 0) (b := 0) (f := 0)
  have z33 : ji (wi (wi (wi (wi (wi h 160 A 0) 161 A 0) 162 A 0) 163 A 0) 141 33 ((A : Int) + 1)) 141 33 = (A : Int) + 1 := emH_33 (o := 0) (a := 0) (b := 0) (f := 0)
  generalize wi (wi (wi (wi (wi h 160 A 0) 161 A 0) 162 A 0) 163 A 0) 141 33 ((A : Int) + 1) = g0 at *
  have F1 : Fq (ZG A) h (wi (wl (wi g0 141 49 0) 141 52 0) 141 47 1) := (((F0.mono (fun a k z => by omega)).trans (Fq.wi (by omega))).trans (Fq.wl (by omega))).trans (Fq.wi (by omega))
  have K1 : RtR T e i (wi (wl (wi g0 141 49 0) 141 52 0) 141 47 1) := (((K.fq F0 (fun k _ _ => by omega)).fq (Fq.wi (Z := fun a k => a = 141 ∧ k = 49) (by omega)) (fun k _ _ => by omega)).fq (Fq.wl (Z := fun a k => a = 141 ∧ k = 52) (by omega)) (fun k _ _ => by omega)).fq (Fq.wi (Z := fun a k => a = 141 ∧ k = 47) (by omega)) (fun k _ _ => by omega)
  have y33 : ji (wi (wl (wi g0 141 49 0) 141 52 0) 141 47 1) 141 33 = (A : Int) + 1 := by rw [ji_wi, if_neg (by omega), ji_wl, ji_wi, if_neg (by omega)]; exact z33
  have y0 : ji (wi (wl (wi g0 141 49 0) 141 52 0) 141 47 1) 160 A = 0 := by rw [ji_wi, if_neg (by omega), ji_wl, ji_wi, if_neg (by omega)]; exact z0
  have y49 : ji (wi (wl (wi g0 141 49 0) 141 52 0) 141 47 1) 141 49 = 0 := by rw [ji_wi, if_neg (by omega), ji_wl, ji_wi, if_pos ⟨rfl, rfl⟩]
  have y47 : ji (wi (wl (wi g0 141 49 0) 141 52 0) 141 47 1) 141 47 = 1 := by rw [ji_wi, if_pos ⟨rfl, rfl⟩]
  have y52 : jl (wi (wl (wi g0 141 49 0) 141 52 0) 141 47 1) 141 52 = 0 := by rw [jl_wi, jl_wl, if_pos ⟨rfl, rfl⟩]
  generalize wi (wl (wi g0 141 49 0) 141 52 0) 141 47 1 = g1 at *
  have S1 := S.fG F1
  have F3 : ∀ {x : AH} {o a b f : Int} {y : Int}, Fq (ZG A) x (wi (emH x (A + 1) o a b f) 141 48 y) := (emH_F.mono (fun a k z => by omega)).trans (Fq.wi (by omega))
  refine ⟨by omega, by omega, fun c1 L1 => ?_, fun c1 L1 => ?_⟩
  · have c1 : tkK T i = 145 := K.2.1.symm.trans c1
    obtain ⟨h2, hE2, L2, G2, K2⟩ := t_118 (d := d) (by omega) S1.1 K1 (by rw [c1]; decide)
    have F2 : Fq (ZG A) g1 (wi h2 141 47 (-1)) := (G2.mono (fun a k z => by omega)).trans (Fq.wi (by omega))
    refine ⟨h2, hE2, L2, fun L3 => ?_⟩
    have q33 : ji (wi h2 141 47 (-1)) 141 33 = ((A + 1 : Nat) : Int) := by rw [ji_wi, if_neg (by omega), G2.i (by omega), y33]; rfl
    have hm := m_138 (d := d) (A := A + 1) (by omega) L3 q33 (by omega)
    have e1 : sgi T i = i + 1 := by unfold sgi; rw [if_pos c1]
    have e2 : sgn T i = true := by unfold sgn; exact decide_eq_true c1
    refine ⟨_, hm, L3.fq (F3 (o := 1) (a := 0) (b := 0) (f := 0) (y := 0)) (fun a k z => by omega), rfl, ?_, (F1.trans F2).trans F3⟩
    rw [e1, e2]
    exact bs_end (S1.fG F2) (K2.fq (Fq.wi (Z := fun a k => a = 141 ∧ k = 47) (by omega)) (fun k _ _ => by omega)) (by rw [ji_wi, if_neg (by omega), G2.i (by omega)]; exact y33) (by omega) (by rw [ji_wi, if_neg (by omega), G2.i (by omega)]; exact y0) (by rw [ji_wi, if_neg (by omega), G2.i (by omega)]; exact y49) (by rw [jl_wi, G2.l (by omega)]; exact y52) (by rw [ji_wi, if_pos ⟨rfl, rfl⟩]; rfl)
  · have c1 : ¬ tkK T i = 145 := fun z => c1 (K.2.1.trans z)
    have hm := m_138 (d := d) (A := A + 1) (by omega) L1 (by rw [y33]; rfl) (by omega)
    have e1 : sgi T i = i := by unfold sgi; rw [if_neg c1]
    have e2 : sgn T i = false := by unfold sgn; exact decide_eq_false c1
    refine ⟨_, hm, L1.fq (F3 (o := 1) (a := 0) (b := 0) (f := 0) (y := 0)) (fun a k z => by omega), rfl, ?_, F1.trans F3⟩
    rw [e1, e2]
    exact bs_end S1 K1 y33 hA y0 y49 y52 y47
theorem m_142 (hd : 1 ≤ d) (L : Ly p h) (B : RTb h c) (hS : okS (dS c)) {a b : Int} (ha : 0 ≤ a ∧ a < ((dS c).length : Int)) (hb : 0 ≤ b ∧ b < ((dS c).length : Int)) : jE d 142 [jP 141, jI a, jI b] h (some (jI (if wiO (dS c) a b = true then 1 else 0))) h := by
  obtain ⟨d, rfl⟩ := Nat.exists_eq_add_of_le' hd
  have hl := hS.1
  have a1 := fsO_r hS a
  have b1 := fsO_r hS b
  have a2 := szO_r hS a
  have b2 := szO_r hS b
  have ra := B.1 a.toNat (by omega)
  have rb := B.1 b.toNat (by omega)
  have sa : szO (dS c) a = ((dS c).getD a.toNat (0, 0)).2 := by unfold szO; rw [if_neg (by omega)]
  have sb : szO (dS c) b = ((dS c).getD b.toNat (0, 0)).2 := by unfold szO; rw [if_neg (by omega)]
  have hw : wiO (dS c) a b = true ↔ (0 ≤ a ∧ a < ((dS c).length : Int) ∧ 0 ≤ b ∧ b < ((dS c).length : Int) ∧ (szO (dS c) a = 0 ∨ (fsO (dS c) b ≤ fsO (dS c) a ∧ fsO (dS c) a + szO (dS c) a ≤ fsO (dS c) b + szO (dS c) b))) := by unfold wiO; exact decide_eq_true_iff
  refine jE_eq (Nat.le_of_ble_eq_true rfl) (c_142_0 (Nat.zero_le _) L ?_)
  rw [ra.1, ra.2, rb.1, rb.2, ← sa, ← sb]
  show 0 ≤ a ∧ a < 6 ∧ (szO (dS c) a = 0 → _) ∧ (¬ szO (dS c) a = 0 → 0 ≤ a ∧ a < 6 ∧ 0 ≤ b ∧ b < 6 ∧ (fsO (dS c) a < fsO (dS c) b → _) ∧ (¬ fsO (dS c) a < fsO (dS c) b → _))
  refine ⟨by omega, by omega, fun z => ⟨by rw [if_pos (hw.mpr (by omega))], rfl⟩, fun z => ⟨by omega, by omega, by omega, by omega, fun z2 => ⟨by rw [if_neg (fun y => by have := hw.mp y; omega)], rfl⟩, fun z2 => ?_⟩⟩
  show 0 ≤ a ∧ a < 6 ∧ 0 ≤ a ∧ a < 6 ∧ 0 ≤ b ∧ b < 6 ∧ 0 ≤ b ∧ b < 6 ∧ (w32 (fsO (dS c) b + szO (dS c) b) < w32 (fsO (dS c) a + szO (dS c) a) → _) ∧ (¬ w32 (fsO (dS c) b + szO (dS c) b) < w32 (fsO (dS c) a + szO (dS c) a) → _)
  rw [w32_i (x := fsO (dS c) b + szO (dS c) b) (by omega) (by omega), w32_i (x := fsO (dS c) a + szO (dS c) a) (by omega) (by omega)]
  exact ⟨by omega, by omega, by omega, by omega, by omega, by omega, by omega, by omega, fun z3 => ⟨by rw [if_neg (fun y => by have := hw.mp y; omega)], rfl⟩, fun z3 => ⟨by rw [if_pos (hw.mpr (by omega))], rfl⟩⟩
theorem e_141 (hd : 10 ≤ d) (L : Ly p h) (hq : ¬ ji h 141 6 = -1) {v : Int} : jE d 141 [jP 141, jI v] h (some (jI 0)) h := by
  obtain ⟨d, rfl⟩ : ∃ d', d = d' + 1 := ⟨d - 1, by omega⟩
  exact jE_eq (Nat.le_of_ble_eq_true rfl) (c_141_0 (by omega) L ⟨fun z => absurd z hq, fun _ => ⟨fun z => absurd z hq, fun _ => ⟨fun z => absurd z hq, fun _ => ⟨rfl, rfl⟩⟩⟩⟩)
/-- a place -/
theorem t_141 (hd : 16 ≤ d) (S : SmC p T e c G n sl dp h) (K : RtR T e i h) (O : okX (dC c) G sl) {set : Int} (hs : 0 ≤ set ∧ set < ((dS c).length : Int)) : ∃ w h', jE d 141 [jP 141, jI set] h w h' ∧ ∃ v, w = some (jI v) ∧ Ly p h' ∧ Fq ZF h h' ∧ RV T e (pPlace T (dC c) G sl set i) (fun r => r.2) (fun r => v = r.1) h' := by
  obtain ⟨d, rfl⟩ : ∃ d', d = d' + 1 := ⟨d - 1, by omega⟩
  obtain ⟨R, M, B, _⟩ := S
  have L := R.1
  have hS := O.2.1
  have hl : (dS c).length ≤ 6 := hS.1
  have h3 : ¬ ji h 141 3 = -1 := by rw [K.2.2.1]; omega
  have k6 := K.2.2.2.2.2.2
  refine jE_of (as := [jP 141, jI set]) (Nat.le_of_ble_eq_true rfl) (c_141_0 (by omega) L ⟨fun _ => ?_, fun z => absurd k6 z⟩)
  have bad : ∀ {y : Int}, pPlace T (dC c) G sl set i = .error (tkP T i) → ((ji h 141 6) = -1 → ((ji h 141 3) = -1 → (Ly p (wi h 141 6 (ji h 141 3)) → ∃ h64, jE d 118 [jP 141] (wi h 141 6 (ji h 141 3)) none h64 ∧ Ly p h64 ∧ (∃ v, (some (jI y)) = some (jI v) ∧ Ly p h64 ∧ Fq ZF h h64 ∧ RV T e (pPlace T (dC c) G sl set i) (fun r => r.2) (fun r => v = r.1) h64))) ∧ (¬ ((ji h 141 3) = -1) → (Ly p (wi h 141 6 (ji h 141 3)) → (∃ v, (some (jI y)) = some (jI v) ∧ Ly p (wi h 141 6 (ji h 141 3)) ∧ Fq ZF h (wi h 141 6 (ji h 141 3)) ∧ RV T e (pPlace T (dC c) G sl set i) (fun r => r.2) (fun r => v = r.1) (wi h 141 6 (ji h 141 3)))))) := fun hb _ => ⟨fun z => absurd z h3, fun _ L2 => ⟨_, rfl, L2, f6, by rw [hb]; exact w6_r.trans K.2.2.1⟩⟩
  refine ⟨fun c2 => ?_, fun c2 => ⟨fun _ => ⟨fun c1 => ?_, fun c1 => ⟨bad ?_, fun z => absurd k6 z⟩⟩, fun z => absurd k6 z⟩⟩
  · have c2 : tkK T i = 2 := K.2.1.symm.trans c2
    have b2 := (tkG_all T i).1 c2
    have rs := B.1 set.toNat (by omega)
    have f1 := fsO_r hS set
    have s1 := szO_r hS set
    have ss : ji h 145 set.toNat = szO (dC c).1 set := by rw [rs.2]; unfold szO; rw [if_neg (show ¬ (set < 0 ∨ ((dS c).length : Int) ≤ set) by omega)]
    have sf : ji h 144 set.toNat = fsO (dC c).1 set := rs.1
    have eP : pPlace T (dC c) G sl set i = if ofO (dC c).1 set (tkV T i) = -1 then .error (tkP T i) else .ok (tkV T i, i + 1) := by unfold pPlace; rw [if_pos c2]
    have eo : ofO (dC c).1 set (tkV T i) = -1 ↔ ¬ (fsO (dC c).1 set ≤ tkV T i ∧ tkV T i ≤ fsO (dC c).1 set + szO (dC c).1 set - 1) := by
      unfold ofO
      rw [if_neg (show ¬ (set < 0 ∨ ((dS c).length : Int) ≤ set) by omega)]
      split
      · constructor
        · intro _; omega
        · intro _; rfl
      · constructor
        · intro _; omega
        · intro _; omega
    rw [K.2.2.2.2.2.1 c2, sf, ss, w32_i (x := fsO (dC c).1 set + szO (dC c).1 set) (by omega) (by omega), w32_i (x := fsO (dC c).1 set + szO (dC c).1 set - 1) (by omega) (by omega)]
    refine ⟨by omega, by omega, by omega, by omega, by omega, by omega, fun z => ⟨fun _ => ?_, fun z2 => absurd k6 z2⟩, fun z => ⟨bad (by rw [eP, if_pos (eo.mpr z)]), fun z2 => absurd k6 z2⟩⟩
    obtain ⟨h2, hE2, L2, G2, K2⟩ := t_118 (d := d) (by omega) R K (by rw [c2]; decide)
    refine ⟨h2, hE2, L2, _, rfl, L2, G2.toF, ?_⟩
    rw [eP, if_neg (fun y => eo.mp y z)]
    exact ⟨rfl, K2⟩
  · have c1 : tkK T i = 1 := K.2.1.symm.trans c1
    have hN := (tkG_all T i).2 c1
    have lr := lk_r M.1 (tkN T i)
    have eL : lkT G T i = lkNm G (tkN T i) := by unfold lkT; rw [if_pos c1]
    have n4' : sl.length ≤ 18 := M.1.2.2.1.2.2.2.2
    have eP : pPlace T (dC c) G sl set i = if (lkT G T i).1 = 4 ∧ wiO (dC c).1 (sl.getD (lkT G T i).2.toNat (-1)) set = true then .ok (-1 - (lkT G T i).2, i + 1) else .error (tkP T i) := by unfold pPlace; rw [if_neg (by omega)]
    rw [eL] at eP
    refine ⟨_, h, t_123 (by omega) L M.1 hN 4 (by decide) 158 rfl L.t158 (by rw [L.n158]; exact Nat.le_trans n4' (by decide)) M.1.1.2.2.2.2 (K.2.2.2.2.1 c1), L, fun z => ⟨bad ?_, fun z2 => absurd k6 z2⟩, fun z => ?_⟩
    · rw [eP, if_neg (fun y => by rw [if_pos (show (lkNm G (tkN T i)).1 = ((4 : Nat) : Int) from y.1)] at z; omega)]
    · have y : (lkNm G (tkN T i)).1 = 4 := by
        by_cases y : (lkNm G (tkN T i)).1 = ((4 : Nat) : Int)
        · exact y
        · rw [if_neg y] at z; exact absurd rfl z
      have hk := O.lk (T := T) (i := i) (by rw [eL]; omega)
      rw [eL] at hk
      have hsl := hk.2.2.2.2.2.2.1 y
      have hx := O.2.2.2.2.2.2.2.1 _ (getD_mem (l := sl) (k := (lkNm G (tkN T i)).2.toNat) (by omega) (-1))
      rw [if_pos (show (lkNm G (tkN T i)).1 = ((4 : Nat) : Int) from y), M.2 _ (by omega)]
      refine ⟨by omega, by omega, _, h, m_142 (by omega) L B hS hx hs, L, fun z2 => ⟨bad ?_, fun z3 => absurd k6 z3⟩, fun z2 => ⟨fun _ => ?_, fun z3 => absurd k6 z3⟩⟩
      · rw [eP, if_neg (fun y2 => by rw [if_pos (show wiO (dS c) _ _ = true from y2.2)] at z2; omega)]
      · obtain ⟨h2, hE2, L2, G2, K2⟩ := t_118 (d := d) (by omega) R K (by rw [c1]; decide)
        refine ⟨h2, hE2, L2, _, rfl, L2, G2.toF, ?_⟩
        have y2 : wiO (dS c) (sl.getD (lkNm G (tkN T i)).2.toNat (-1)) set = true := by
          by_cases y2 : wiO (dS c) (sl.getD (lkNm G (tkN T i)).2.toNat (-1)) set = true
          · exact y2
          · rw [if_neg y2] at z2; exact absurd rfl z2
        rw [eP, if_pos ⟨y, y2⟩]
        exact ⟨w32_i (by omega) (by omega), K2⟩
  · unfold pPlace lkT
    rw [if_neg (fun z => c2 (K.2.1.trans z)), if_neg (fun z => c1 (K.2.1.trans z)), if_neg (fun z => absurd z.1 (by decide))]
end RSM
