/-! THE REFERENCE: tables and columns in a sum, products, plus and minus -/
theorem sp_of {S O : List (Int × Int)} {sl : List Int} {nu : Nat → Int} {k q r : Int} (hS : okS S) (hO : okO S O) (h0 : 0 ≤ k) (h1 : k < (O.length : Int)) (hp : psOK S sl (thS O k) q r) (I : InS S sl nu) : spO S O k (plV nu q) (plV nu r) = stO S O k.toNat + (ofO S (thS O k).1 (plV nu q) * szO S (thS O k).2 + ofO S (thS O k).2 (plV nu r)) ∧ 0 ≤ ofO S (thS O k).1 (plV nu q) * szO S (thS O k).2 + ofO S (thS O k).2 (plV nu r) ∧ ofO S (thS O k).1 (plV nu q) * szO S (thS O k).2 + ofO S (thS O k).2 (plV nu r) < szO S (thS O k).1 * szO S (thS O k).2 := by
  have ho := hO.2 _ (getD_mem (l := O) (k := k.toNat) (by omega) (-1, -1))
  have ho : ((thS O k).1 = -1 ∧ (thS O k).2 = -1) ∨ (0 ≤ (thS O k).1 ∧ (thS O k).1 < (S.length : Int) ∧ ((thS O k).2 = -1 ∨ (0 ≤ (thS O k).2 ∧ (thS O k).2 < (S.length : Int)))) := ho
  have z1 : ∀ s x : Int, s = -1 → ofO S s x = 0 := fun s x hs => by unfold ofO; rw [if_pos (by omega)]
  have n12 : ¬ ofO S (thS O k).1 (plV nu q) = -1 ∧ ¬ ofO S (thS O k).2 (plV nu r) = -1 := by
    unfold psOK at hp
    by_cases z : (thS O k).1 = -1
    · rw [z1 _ _ z, z1 _ _ (by omega)]; omega
    · rw [if_neg z] at hp
      have f1 := pl_of hp.1 I (by omega) (by omega)
      refine ⟨by omega, ?_⟩
      have hp2 := hp.2
      by_cases y : (thS O k).2 = -1
      · rw [z1 _ _ y]; omega
      · rw [if_neg y] at hp2
        have f2 := pl_of hp2 I (by omega) (by omega)
        omega
  have eS : spO S O k (plV nu q) (plV nu r) = stO S O k.toNat + ofO S (thS O k).1 (plV nu q) * szO S (thS O k).2 + ofO S (thS O k).2 (plV nu r) := by
    unfold spO
    rw [if_neg (by omega), if_neg (by omega)]
  rw [eS]
  clear eS hp ho
  generalize (thS O k) = o at *
  have r1 := (ofO_r hS o.1 (plV nu q)).2.2 n12.1
  have r2 := (ofO_r hS o.2 (plV nu r)).2.2 n12.2
  have s2 := szO_r hS o.2
  generalize ofO S o.1 (plV nu q) = x at *
  generalize ofO S o.2 (plV nu r) = y at *
  have m1 : 0 ≤ x * szO S o.2 := Int.mul_nonneg (by omega) (by omega)
  have m2 : (x + 1) * szO S o.2 ≤ szO S o.1 * szO S o.2 := Int.mul_le_mul_of_nonneg_right (by omega) (by omega)
  rw [Int.add_mul, Int.one_mul] at m2
  exact ⟨by omega, by omega, by omega⟩
/-- wraps to, out of sight -/
def E32 (x y : Int) : Prop := w32 x = y
section RGC
variable {p : Lpar} {d : Nat} {h h' g : AH} {c : Dc} {b k m lo n md : Nat} {v v1 v2 x q r : Int} {Q : Option AV → AH → Prop} {sl : List Int} {nu f f2 : Nat → Int}
abbrev ofK (S O : List (Int × Int)) (nu : Nat → Int) (x q r : Int) : Int := ofO S (thS O x).1 (plV nu q) * szO S (thS O x).2 + ofO S (thS O x).2 (plV nu r)
theorem g_4v (C : GoC p c h) (x0 : 0 ≤ x) (x1 : x < ((dT c).length : Int)) (hp : psOK (dS c) sl (thS (dT c) x) q r) (I : InS (dS c) sl nu) : E32 (w32 (64 * x) + ofK (dS c) (dT c) nu x q r) ((64 * x.toNat + (ofK (dS c) (dT c) nu x q r).toNat : Nat) : Int) ∧ 64 * x.toNat + (ofK (dS c) (dT c) nu x q r).toNat < 384 ∧ ji h 148 (64 * x.toNat + (ofK (dS c) (dT c) nu x q r).toNat) = (if spO (dS c) (dT c) x (plV nu q) (plV nu r) < 0 then 0 else (dV c).getD (spO (dS c) (dT c) x (plV nu q) (plV nu r)).toNat 0) := by
  obtain ⟨_, hS, hT, l6, hX, l7, _⟩ := C.2.2.1.1
  have hS : okS (dS c) := hS
  have hT : okO (dS c) (dT c) := hT
  have l6 : (dT c).length ≤ 6 := l6
  obtain ⟨e1, e2, e3⟩ := sp_of hS hT x0 x1 hp I
  have s64 := sz2_r hS (thS (dT c) x).1 (thS (dT c) x).2
  have B := C.2.1.2.2.1 x.toNat
  have t0 : 0 ≤ stO (dS c) (dT c) x.toNat := (tot_r hS _).1
  rw [e1]
  unfold ofK
  generalize ofO (dS c) (thS (dT c) x).1 (plV nu q) * szO (dS c) (thS (dT c) x).2 + ofO (dS c) (thS (dT c) x).2 (plV nu r) = o at *
  refine ⟨?_, by omega, ?_⟩
  · show w32 _ = _
    rw [w32_i (x := 64 * x) (by omega) (by omega), w32_i (by omega) (by omega)]; omega
  · rw [if_neg (by omega), show (stO (dS c) (dT c) x.toNat + o).toNat = (stO (dS c) (dT c) x.toNat).toNat + o.toNat by omega]
    refine B o.toNat (by omega) ?_
    have e3 : o < szO (dS c) ((dT c).getD x.toNat (-1, -1)).1 * szO (dS c) ((dT c).getD x.toNat (-1, -1)).2 := e3
    omega
theorem dv_r (hD : okD c) (i : Nat) : -9999 ≤ (dV c).getD i 0 ∧ (dV c).getD i 0 ≤ 9999 := by
  have q := hD.2.2.2.2.2.2.1.2
  by_cases z : i < (dV c).length
  · exact q _ (getD_mem z 0)
  · rw [List.getD_eq_getElem?_getD, List.getElem?_eq_none (by omega)]; show -9999 ≤ (0 : Int) ∧ (0 : Int) ≤ 9999; omega
theorem i2x (x0 : 0 ≤ x) (x1 : x < 7) : w32 (2 * x) = ((2 * x.toNat : Nat) : Int) ∧ w32 (((2 * x.toNat : Nat) : Int) + 1) = ((2 * x.toNat + 1 : Nat) : Int) := by
  rw [w32_i (by omega) (by omega), w32_i (by omega) (by omega)]; omega
theorem th_ok {S O : List (Int × Int)} (hO : okO S O) (x0 : 0 ≤ x) (x1 : x < (O.length : Int)) : ((thS O x).1 = -1 ∧ (thS O x).2 = -1) ∨ (0 ≤ (thS O x).1 ∧ (thS O x).1 < (S.length : Int) ∧ ((thS O x).2 = -1 ∨ (0 ≤ (thS O x).2 ∧ (thS O x).2 < (S.length : Int)))) := hO.2 _ (getD_mem (l := O) (k := x.toNat) (by omega) (-1, -1))
theorem g_4 (hd : 12 ≤ d) (C : GoC p c h) (h54 : ji h 141 54 = (b : Int)) (hb : b < 40) (hk : lo < 2000) (hV : (lo : Int) < v2) (e : ji h 160 lo = 4) (e1 : ji h 161 lo = x) (e2 : ji h 162 lo = q) (e3 : ji h 163 lo = r) (x0 : 0 ≤ x) (x1 : x < ((dT c).length : Int)) (hp : psOK (dS c) sl (thS (dT c) x) q r) (I : InS (dS c) sl nu) (N : NuR h sl.length nu) (hl : sl.length ≤ 18) (K : ∀ h', GoC p c h' → Fq (ZGo b m) h h' → StK h' b (fun j => if j = 40 then (if spO (dS c) (dT c) x (plV nu q) (plV nu r) < 0 then 0 else (dV c).getD (spO (dS c) (dT c) x (plV nu q) (plV nu r)).toNat 0) else 0) → ji h' 141 54 = ((b + 1 : Nat) : Int) → Gw d v1 v2 Q (lo + 1) h') : Gw d v1 v2 Q lo h := by
  obtain ⟨_, hS, hT, l6, hX, l7, _⟩ := C.2.2.1.1
  have hS : okS (dS c) := hS
  have hT : okO (dS c) (dT c) := hT
  have l6 : (dT c).length ≤ 6 := l6
  obtain ⟨w1, w2, w3⟩ := g_4v C x0 x1 hp I
  have rv := dv_r C.2.2.1 (spO (dS c) (dT c) x (plV nu q) (plV nu r)).toNat
  have B := C.2.1.2.1 x.toNat (by omega)
  have b1 : ji h 147 (2 * x.toNat) = (thS (dT c) x).1 := B.1
  have b2 : ji h 147 (2 * x.toNat + 1) = (thS (dT c) x).2 := B.2
  have hE := m_148 (d := d) (o := thS (dT c) x) (q := q) (r := r) hd C.1 C.2.1 hS N hl I (th_ok hT x0 x1) hp
  rw [← w3] at K
  have hr : w64 (ji h 148 (64 * x.toNat + (ofK (dS c) (dT c) nu x q r).toNat)) = ji h 148 (64 * x.toNat + (ofK (dS c) (dT c) nu x q r).toNat) := by
    rw [w3]
    by_cases z : spO (dS c) (dT c) x (plV nu q) (plV nu r) < 0
    · rw [if_pos z, w64_z]
    · rw [if_neg z]; exact w64_s (by omega) (by omega)
  obtain ⟨h1, hE1, L1, C1, F1, q54, S1⟩ := g_push (d := d) (by omega) C h54 hb hr
  refine ga_4 (by omega) C.1 hk hV e (c_151_121 (by omega) C.1 ?_)
  rw [Int.toNat_natCast, e1, e2, e3, (i2x x0 (by omega)).1, (i2x x0 (by omega)).2, Int.toNat_natCast, Int.toNat_natCast, b1, b2]
  refine ⟨by omega, by omega, by omega, by omega, by omega, by omega, by omega, by omega, by omega, by omega, by omega, by omega, by omega, by omega, _, h, hE, C.1, ?_⟩
  rw [show w32 (w32 (64 * x) + (ofO (dS c) (thS (dT c) x).1 (plV nu q) * szO (dS c) (thS (dT c) x).2 + ofO (dS c) (thS (dT c) x).2 (plV nu r))) = ((64 * x.toNat + (ofK (dS c) (dT c) nu x q r).toNat : Nat) : Int) from w1, Int.toNat_natCast]
  exact ⟨by omega, by omega, h1, hE1, L1, c_151_185 (by omega) L1 (g_go (by omega) L1 (K h1 C1 (zk_go F1) S1 q54))⟩
theorem g_5v (C : GoC p c h) (hb : b < 40) (x0 : 0 ≤ x) (x1 : x < ((dX c).length : Int)) (hp : psOK (dS c) sl (thS (dX c) x) q r) (I : InS (dS c) sl nu) : ∃ j : Nat, j < 40 ∧ spO (dS c) (dX c) x (plV nu q) (plV nu r) = (j : Int) ∧ E32 (w32 (((41 * b : Nat) : Int) + ji h 174 x.toNat) + ofK (dS c) (dX c) nu x q r) ((41 * b + j : Nat) : Int) := by
  obtain ⟨_, hS, hT, l6, hX, l7, _⟩ := C.2.2.1.1
  have hS : okS (dS c) := hS
  have hX : okO (dS c) (dX c) := hX
  obtain ⟨e1, e2, e3⟩ := sp_of hS hX x0 x1 hp I
  have t0 : 0 ≤ stO (dS c) (dX c) x.toNat := (tot_r hS _).1
  have t1 := stO_succ (S := dS c) (O := dX c) (k := x.toNat) (by omega)
  have t2 := stO_mono (S := dS c) (O := dX c) hS (j := x.toNat + 1) (k := (dX c).length) (by omega) (Nat.le_refl _)
  rw [stO_len] at t2
  have t3 := C.2.2.2.1
  have t1 : stO (dS c) (dX c) (x.toNat + 1) = stO (dS c) (dX c) x.toNat + szO (dS c) (thS (dX c) x).1 * szO (dS c) (thS (dX c) x).2 := t1
  rw [e1, C.2.2.2.2 x.toNat (by omega)]
  unfold ofK
  generalize ofO (dS c) (thS (dX c) x).1 (plV nu q) * szO (dS c) (thS (dX c) x).2 + ofO (dS c) (thS (dX c) x).2 (plV nu r) = o at *
  refine ⟨(stO (dS c) (dX c) x.toNat + o).toNat, by omega, by omega, ?_⟩
  show w32 _ = _
  rw [w32_i (x := ((41 * b : Nat) : Int) + stO (dS c) (dX c) x.toNat) (by omega) (by omega), w32_i (by omega) (by omega)]; omega
theorem g_5 (hd : 12 ≤ d) (C : GoC p c h) (h54 : ji h 141 54 = (b : Int)) (hb : b < 40) (hk : lo < 2000) (hV : (lo : Int) < v2) (e : ji h 160 lo = 5) (e1 : ji h 161 lo = x) (e2 : ji h 162 lo = q) (e3 : ji h 163 lo = r) (x0 : 0 ≤ x) (x1 : x < ((dX c).length : Int)) (hp : psOK (dS c) sl (thS (dX c) x) q r) (I : InS (dS c) sl nu) (N : NuR h sl.length nu) (hl : sl.length ≤ 18) (K : ∀ h', GoC p c h' → Fq (ZGo b m) h h' → StK h' b (fun j => if j < 40 ∧ (j : Int) = spO (dS c) (dX c) x (plV nu q) (plV nu r) then 1 else 0) → ji h' 141 54 = ((b + 1 : Nat) : Int) → Gw d v1 v2 Q (lo + 1) h') : Gw d v1 v2 Q lo h := by
  obtain ⟨_, hS, hT, l6, hX, l7, _⟩ := C.2.2.1.1
  have hS : okS (dS c) := hS
  have hX : okO (dS c) (dX c) := hX
  have l7 : (dX c).length ≤ 6 := l7
  obtain ⟨h1, hE1, L1, C1, F1, q54, S1⟩ := g_push (d := d) (v := 0) (by omega) C h54 hb w64_z
  obtain ⟨j, j1, j2, j3⟩ := g_5v C1 hb x0 x1 hp I
  have B := C1.2.1.2.2.2.1 x.toNat (by omega)
  have b1 : ji h1 150 (2 * x.toNat) = (thS (dX c) x).1 := B.1
  have b2 : ji h1 150 (2 * x.toNat + 1) = (thS (dX c) x).2 := B.2
  have N1 : NuR h1 sl.length nu := fun s hs => (F1.i (by omega)).trans (N s hs)
  have hE := m_148 (d := d) (o := thS (dX c) x) (q := q) (r := r) hd C1.1 C1.2.1 hS N1 hl I (th_ok hX x0 x1) hp
  have s : ∀ a k, 160 ≤ a → a ≤ 163 → ji h1 a k = ji h a k := fun a k z1 z2 => F1.i (by omega)
  refine ga_5 (by omega) C.1 hk hV e (c_151_188 (by omega) C.1 ⟨h1, hE1, L1, c_151_193 (by omega) L1 ?_⟩)
  rw [Int.toNat_natCast, s 161 _ (by omega) (by omega), s 162 _ (by omega) (by omega), s 163 _ (by omega) (by omega), e1, e2, e3, (i2x x0 (by omega)).1, (i2x x0 (by omega)).2, Int.toNat_natCast, Int.toNat_natCast, b1, b2, q54, w32_i (x := ((b + 1 : Nat) : Int) - 1) (by omega) (by omega), w32_i (x := 41 * (((b + 1 : Nat) : Int) - 1)) (by omega) (by omega), show 41 * (((b + 1 : Nat) : Int) - 1) = ((41 * b : Nat) : Int) by omega]
  refine ⟨by omega, by omega, x0, by omega, by omega, by omega, by omega, by omega, by omega, by omega, by omega, by omega, by omega, by omega, by omega, by omega, _, h1, hE, L1, ?_⟩
  rw [show w32 (w32 (((41 * b : Nat) : Int) + ji h1 174 x.toNat) + (ofO (dS c) (thS (dX c) x).1 (plV nu q) * szO (dS c) (thS (dX c) x).2 + ofO (dS c) (thS (dX c) x).2 (plV nu r))) = ((41 * b + j : Nat) : Int) from j3, Int.toNat_natCast]
  refine ⟨by omega, by omega, fun L2 => c_151_265 (by omega) L2 ?_⟩
  have F2 : Fq (ZK b) h1 (wl h1 172 (41 * b + j) 1) := Fq.wl (by omega)
  refine g_go (by omega) L2 (K _ (C1.fq (m := 0) (zk_go F2)) (zk_go (F1.trans F2)) (fun i hi => ?_) (by rw [ji_wl]; exact q54))
  rw [jl_wl, j2]
  show _ = w64 (if i < 40 ∧ (i : Int) = (j : Int) then 1 else 0)
  by_cases z : i = j
  · rw [if_pos ⟨rfl, by omega⟩, if_pos ⟨by omega, by omega⟩, w64_one]
  · rw [if_neg (by omega), if_neg (by omega), S1 i hi]
    show w64 (if i = 40 then 0 else 0) = _
    by_cases y : i = 40
    · rw [if_pos y]
    · rw [if_neg y]
theorem g_6 (hd : 10 ≤ d) (C : GoC p c h) (h54 : ji h 141 54 = ((b + 2 : Nat) : Int)) (hb : b + 2 ≤ 40) (S1 : StK h b f) (S2 : StK h (b + 1) f2) (hk : lo < 2000) (hV : (lo : Int) < v2) (e : ji h 160 lo = 6) (K : ∀ h', GoC p c h' → Fq (ZK b) h h' → StK h' b (mulL f f2) → ji h' 141 54 = ((b + 1 : Nat) : Int) → Gw d v1 v2 Q (lo + 1) h') : Gw d v1 v2 Q lo h := by
  obtain ⟨h1, hE1, L1, F1, q54, T1⟩ := m_149 (d := d) hd C.1 h54 hb S1 S2
  exact ga_6 (by omega) C.1 hk hV e (c_151_268 (by omega) C.1 ⟨h1, hE1, L1, c_151_272 (by omega) L1 (g_go (by omega) L1 (K h1 (C.fq (m := 0) (zk_go F1)) F1 T1 q54))⟩)
theorem g_7 (hd : 10 ≤ d) (C : GoC p c h) (h54 : ji h 141 54 = ((b + 2 : Nat) : Int)) (hb : b + 2 ≤ 40) (S1 : StK h b f) (S2 : StK h (b + 1) f2) (hk : lo < 2000) (hV : (lo : Int) < v2) (e : ji h 160 lo = 7) (K : ∀ h', GoC p c h' → Fq (ZK b) h h' → StK h' b (fun j => f j + 1 * f2 j) → ji h' 141 54 = ((b + 1 : Nat) : Int) → Gw d v1 v2 Q (lo + 1) h') : Gw d v1 v2 Q lo h := by
  obtain ⟨h1, hE1, L1, F1, q54, T1⟩ := m_150 (d := d) (v := 1) hd C.1 h54 hb S1 S2
  exact ga_7 (by omega) C.1 hk hV e (c_151_275 (by omega) C.1 ⟨h1, hE1, L1, c_151_280 (by omega) L1 (g_go (by omega) L1 (K h1 (C.fq (m := 0) (zk_go F1)) F1 T1 q54))⟩)
theorem g_8 (hd : 10 ≤ d) (C : GoC p c h) (h54 : ji h 141 54 = ((b + 2 : Nat) : Int)) (hb : b + 2 ≤ 40) (S1 : StK h b f) (S2 : StK h (b + 1) f2) (hk : lo < 2000) (hV : (lo : Int) < v2) (e : ji h 160 lo = 8) (K : ∀ h', GoC p c h' → Fq (ZK b) h h' → StK h' b (fun j => f j + (-1) * f2 j) → ji h' 141 54 = ((b + 1 : Nat) : Int) → Gw d v1 v2 Q (lo + 1) h') : Gw d v1 v2 Q lo h := by
  obtain ⟨h1, hE1, L1, F1, q54, T1⟩ := m_150 (d := d) (v := -1) hd C.1 h54 hb S1 S2
  exact ga_8 (by omega) C.1 hk hV e (c_151_283 (by omega) C.1 ⟨h1, hE1, L1, c_151_290 (by omega) L1 (g_go (by omega) L1 (K h1 (C.fq (m := 0) (zk_go F1)) F1 T1 q54))⟩)
end RGC
