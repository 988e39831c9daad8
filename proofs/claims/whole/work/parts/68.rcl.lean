/-! THE REFERENCE: a ) -/
def clB (g : AH) (a51 a50 a47 a48 a49 W : Int) : AH := wl (wi (wi (wi (wi (wi g 141 51 a51) 141 50 a50) 141 47 a47) 141 48 a48) 141 49 a49) 141 52 W
section CLB
variable {g : AH} {a51 a50 a47 a48 a49 W : Int}
theorem clB_i {x k : Nat} (z : ¬ (x = 141 ∧ 47 ≤ k ∧ k ≤ 51)) : ji (clB g a51 a50 a47 a48 a49 W) x k = ji g x k := by unfold clB; rw [ji_wl, ji_wi, if_neg (by omega), ji_wi, if_neg (by omega), ji_wi, if_neg (by omega), ji_wi, if_neg (by omega), ji_wi, if_neg (by omega)]
theorem clB_l {x k : Nat} (z : ¬ (x = 141 ∧ k = 52)) : jl (clB g a51 a50 a47 a48 a49 W) x k = jl g x k := by unfold clB; rw [jl_wl, if_neg z, jl_wi, jl_wi, jl_wi, jl_wi, jl_wi]
theorem clB_52 : jl (clB g a51 a50 a47 a48 a49 W) 141 52 = W := by unfold clB; rw [jl_wl, if_pos ⟨rfl, rfl⟩]
theorem clB_51 : ji (clB g a51 a50 a47 a48 a49 W) 141 51 = a51 := by unfold clB; rw [ji_wl, ji_wi, if_neg (by omega), ji_wi, if_neg (by omega), ji_wi, if_neg (by omega), ji_wi, if_neg (by omega), ji_wi, if_pos ⟨rfl, rfl⟩]
theorem clB_50 : ji (clB g a51 a50 a47 a48 a49 W) 141 50 = a50 := by unfold clB; rw [ji_wl, ji_wi, if_neg (by omega), ji_wi, if_neg (by omega), ji_wi, if_neg (by omega), ji_wi, if_pos ⟨rfl, rfl⟩]
theorem clB_47 : ji (clB g a51 a50 a47 a48 a49 W) 141 47 = a47 := by unfold clB; rw [ji_wl, ji_wi, if_neg (by omega), ji_wi, if_neg (by omega), ji_wi, if_pos ⟨rfl, rfl⟩]
theorem clB_48 : ji (clB g a51 a50 a47 a48 a49 W) 141 48 = a48 := by unfold clB; rw [ji_wl, ji_wi, if_neg (by omega), ji_wi, if_pos ⟨rfl, rfl⟩]
theorem clB_49 : ji (clB g a51 a50 a47 a48 a49 W) 141 49 = a49 := by unfold clB; rw [ji_wl, ji_wi, if_pos ⟨rfl, rfl⟩]
theorem clB_F : Fq (fun a k => a = 141 ∧ 47 ≤ k ∧ k ≤ 52) g (clB g a51 a50 a47 a48 a49 W) := by
  unfold clB
  exact (((((Fq.wi (by omega)).trans (Fq.wi (by omega))).trans (Fq.wi (by omega))).trans (Fq.wi (by omega))).trans (Fq.wi (by omega))).trans (Fq.wl (by omega))
end CLB
def StF (T : Txt) (h : AH) (dp : Nat) (lp neg : Bool) (q s : Ex) (i0 : Nat) (W : Int) (m at' : Nat) : Prop := ji h 164 dp = bI lp ∧ ji h 165 dp = (if neg = true then -1 else 1) ∧ ji h 166 dp = bI (hv q) ∧ ji h 167 dp = bI (hv s) ∧ ji h 168 dp = (tkP T i0 : Int) ∧ jl h 169 dp = w64 W ∧ ji h 170 dp = (m : Int) ∧ ji h 171 dp = (at' : Int)
abbrev ZC (A : Nat) (a k : Nat) : Prop := (a = 141 ∧ (k = 30 ∨ k = 33 ∨ k = 38 ∨ (47 ≤ k ∧ k ≤ 52))) ∨ (160 ≤ a ∧ a ≤ 163 ∧ k = A)
/-- the indices of a sum, and how often it stands -/
def ssOK (S : List (Int × Int)) (ss : List Int) : Prop := (∃ a, ss = [a] ∧ 0 ≤ a ∧ a < (S.length : Int)) ∨ ∃ a b, ss = [a, b] ∧ 0 ≤ a ∧ a < (S.length : Int) ∧ 0 ≤ b ∧ b < (S.length : Int)
theorem w64_dv (x y : Int) : w64 x = w64 y ↔ (x - y) % 18446744073709551616 = 0 := by unfold w64; omega
theorem w64_m (x y : Int) : w64 (w64 x * y) = w64 (x * y) := by
  rw [w64_dv]
  have h : (w64 x - x) % 18446744073709551616 = 0 := by unfold w64; omega
  have h1 : w64 x * y - x * y = (w64 x - x) * y := by rw [Int.sub_mul]
  rw [h1]
  exact Int.emod_eq_zero_of_dvd (Int.dvd_trans (Int.dvd_of_emod_eq_zero h) (Int.dvd_mul_right _ _))
theorem w64_a2 (x y : Int) : w64 (x + w64 y) = w64 (x + y) := by unfold w64; omega
theorem w64_2 (a b : Int) : w64 (w64 (w64 a + 1) + b) = w64 (a + 1 + b) := by unfold w64; omega
theorem w64_3 (a b : Int) : w64 (w64 (w64 a + 1) + w64 b) = w64 (a + 1 + b) := by unfold w64; omega
section RCL
variable {p : Lpar} {d : Nat} {h h' h0 h1 g : AH} {T : Txt} {e i i0 k A dp lo at' : Nat} {c : Dc} {G gg : NmL} {n : Nat → Nat} {sl ss : List Int} {s q x : Ex} {neg lp : Bool} {W : Int}
def P145 (p : Lpar) (T : Txt) (e : Nat) (c : Dc) (G : NmL) (n : Nat → Nat) (sl ss : List Int) (dp A i0 at' : Nat) (lp neg : Bool) (s q x : Ex) (W : Int) (h : AH) (w : Option AV) (h' : AH) : Prop := w = none ∧ Ly p h' ∧ Fq (ZC A) h h' ∧ SmC p T e c G n sl dp h' ∧ ji h' 141 33 = ((A + (if lp = true then 1 else 0) : Nat) : Int) ∧ (lp = true → ji h' 160 A = 10 ∧ ji h' 161 A = (at' : Int)) ∧ ji h' 141 47 = (if neg = true then -1 else 1) ∧ ji h' 141 48 = bI (hv q) ∧ ji h' 141 49 = bI (hv s) ∧ ji h' 141 51 = bI (hv x) ∧ ji h' 141 50 = (tkP T i0 : Int) ∧ jl h' 141 52 = w64 (W + 1 + wke (dS c) x * (szO (dS c) (ss.getD 0 (-1)) * szO (dS c) (ss.getD 1 (-1))))
/-- the state outside comes back -/
theorem cl_smc (S : SmC p T e c (G ++ gg) n (sl ++ ss) (dp + 1) h) (hM : okM G (n4 n sl.length)) (F : Fq (ZC A) h h') (h30 : ji h' 141 30 = (sl.length : Int)) (h38 : ji h' 141 38 = (dp : Int)) : SmC p T e c G n sl dp h' := by
  obtain ⟨s1, ⟨⟨⟨c1, c2, c3, c4, c5⟩, ne, _⟩, as⟩, s3, s4⟩ := S
  refine ⟨s1.fq F (fun a k z => by omega) (by omega) (fun k => by omega), ⟨⟨⟨(F.i (by omega)).trans c1, (F.i (by omega)).trans c2, (F.i (by omega)).trans c3, (F.i (by omega)).trans c4, h30⟩, fun e he => ?_, hM⟩, fun k hk => ?_⟩, s3.cg (fun a k z => F.i (by omega)), h38⟩
  · have := nmA_r e.2.1
    rw [F.i (by omega)]
    exact ne e (List.mem_append.mpr (Or.inl he))
  · rw [F.i (by omega)]
    have := as k (by rw [List.length_append]; omega)
    rw [getD_app _ _ _ hk] at this
    exact this
theorem m_145 (hd : 10 ≤ d) (S : SmC p T e c (G ++ gg) n (sl ++ ss) (dp + 1) h) (hM : okM G (n4 n sl.length)) (F : StF T h dp lp neg q s i0 W sl.length at') (a33 : ji h 141 33 = (A : Int)) (hA : A < 1999) (a49 : ji h 141 49 = bI (hv x)) (a52 : jl h 141 52 = w64 (wke (dS c) x)) (hlp : (lp = false ∧ ss = []) ∨ (lp = true ∧ ssOK (dS c) ss)) (hdp : dp < 9) (hS : okS (dS c)) : ∃ w h', jE d 145 [jP 141] h w h' ∧ P145 p T e c G n sl ss dp A i0 at' lp neg s q x W h w h' := by
  obtain ⟨d, rfl⟩ : ∃ d', d = d' + 1 := ⟨d - 1, by omega⟩
  have L := S.1.1
  have S0 := S
  obtain ⟨R, M, B, a38⟩ := S
  obtain ⟨f1, f2, f3, f4, f5, f6', f7, f8⟩ := F
  have hl := hS.1
  refine jE_of (as := [jP 141]) (Nat.le_of_ble_eq_true rfl) (c_145_0 (by omega) L ?_)
  rw [a38, show w32 (((dp + 1 : Nat) : Int) - 1) = (dp : Int) by rw [w32_i (by omega) (by omega)]; omega, Int.toNat_natCast, f1, f2, f3, f4, f5, f6', f7, f8, a33, a49, a52, Int.toNat_natCast, w64_3, w32_i (x := (A : Int) + 1 - 1) (by omega) (by omega), show (A : Int) + 1 - 1 = (A : Int) by omega, Int.toNat_natCast]
  have r1 := bI_r (hv x)
  have r2 := bI_r (hv q)
  have r3 := bI_r (hv s)
  have a30 : ji h 141 30 = ((sl ++ ss).length : Int) := M.1.1.2.2.2.2
  refine ⟨by omega, by omega, fun z => ?_, fun z => ?_⟩
  · obtain ⟨z1, z2⟩ : lp = false ∧ ss = [] := by
      rcases hlp with y | y
      · exact y
      · rw [y.1] at z; exact absurd z (by decide)
    subst z1 z2
    refine ⟨r1, by omega, by omega, by omega, by omega, by omega, by omega, r2, by omega, by omega, r3, by omega, by omega, fun L2 => ?_⟩
    change P145 p T e c G n sl [] dp A i0 at' false neg s q x W h none (clB (wi h 141 38 (dp : Int)) (bI (hv x)) (tkP T i0 : Int) (if neg = true then -1 else 1) (bI (hv q)) (bI (hv s)) (w64 (W + 1 + wke (dS c) x)))
    have FB : Fq (ZC A) h (clB (wi h 141 38 (dp : Int)) (bI (hv x)) (tkP T i0 : Int) (if neg = true then -1 else 1) (bI (hv q)) (bI (hv s)) (w64 (W + 1 + wke (dS c) x))) := (Fq.wi (by omega)).trans (clB_F.mono (fun a k z => by omega))
    have e38 : ji (clB (wi h 141 38 (dp : Int)) (bI (hv x)) (tkP T i0 : Int) (if neg = true then -1 else 1) (bI (hv q)) (bI (hv s)) (w64 (W + 1 + wke (dS c) x))) 141 38 = (dp : Int) := by rw [clB_i (by omega), ji_wi, if_pos ⟨rfl, rfl⟩]
    have e30 : ji (clB (wi h 141 38 (dp : Int)) (bI (hv x)) (tkP T i0 : Int) (if neg = true then -1 else 1) (bI (hv q)) (bI (hv s)) (w64 (W + 1 + wke (dS c) x))) 141 30 = (sl.length : Int) := by rw [clB_i (by omega), ji_wi, if_neg (by omega), a30, List.append_nil]
    refine ⟨rfl, L2, FB, cl_smc S0 hM FB e30 e38, ?_, fun z => absurd z (by decide), clB_47, clB_48, clB_49, clB_51, clB_50, ?_⟩
    · rw [clB_i (by omega), ji_wi, if_neg (by omega)]; exact a33
    · rw [clB_52]
      congr 1
      show _ = W + 1 + wke (dS c) x * (szO (dS c) (-1) * szO (dS c) (-1))
      rw [szO_no (Or.inl (by decide))]; omega
  · obtain ⟨z1, z2⟩ : lp = true ∧ ssOK (dS c) ss := by
      rcases hlp with y | y
      · rw [y.1] at z; exact absurd rfl z
      · exact y
    subst z1
    refine ⟨by omega, by omega, by omega, by omega, by omega, by omega, by omega, by omega, fun L2 => ?_⟩
    have FG : Fq (ZC A) h (wi (emH (wi h 141 38 (dp : Int)) A 10 (at' : Int) 0 0) 163 A ((A : Int) + 1)) := ((Fq.wi (by omega)).trans (emH_F.mono (fun a k z => by omega))).trans (Fq.wi (by omega))
    have g38 : ji (wi (emH (wi h 141 38 (dp : Int)) A 10 (at' : Int) 0 0) 163 A ((A : Int) + 1)) 141 38 = (dp : Int) := by rw [ji_wi, if_neg (by omega), emH_i (by omega) (by omega), ji_wi, if_pos ⟨rfl, rfl⟩]
    have g33 : ji (wi (emH (wi h 141 38 (dp : Int)) A 10 (at' : Int) 0 0) 163 A ((A : Int) + 1)) 141 33 = ((A + 1 : Nat) : Int) := by rw [ji_wi, if_neg (by omega), emH_33]; omega
    have gA0 : ji (wi (emH (wi h 141 38 (dp : Int)) A 10 (at' : Int) 0 0) 163 A ((A : Int) + 1)) 160 A = 10 := by rw [ji_wi, if_neg (by omega), emH_0]
    have gA1 : ji (wi (emH (wi h 141 38 (dp : Int)) A 10 (at' : Int) 0 0) 163 A ((A : Int) + 1)) 161 A = (at' : Int) := by rw [ji_wi, if_neg (by omega), emH_1]
    have g30 : ji (wi (emH (wi h 141 38 (dp : Int)) A 10 (at' : Int) 0 0) 163 A ((A : Int) + 1)) 141 30 = ((sl ++ ss).length : Int) := by rw [ji_wi, if_neg (by omega), emH_i (by omega) (by omega), ji_wi, if_neg (by omega)]; exact a30
    have g49 : ji (wi (emH (wi h 141 38 (dp : Int)) A 10 (at' : Int) 0 0) 163 A ((A : Int) + 1)) 141 49 = bI (hv x) := by rw [ji_wi, if_neg (by omega), emH_i (by omega) (by omega), ji_wi, if_neg (by omega)]; exact a49
    change Ly p (wi (emH (wi h 141 38 (dp : Int)) A 10 (at' : Int) 0 0) 163 A ((A : Int) + 1)) at L2
    change WF d 145 72 _ [] (wi (emH (wi h 141 38 (dp : Int)) A 10 (at' : Int) 0 0) 163 A ((A : Int) + 1)) _
    generalize wi (emH (wi h 141 38 (dp : Int)) A 10 (at' : Int) 0 0) 163 A ((A : Int) + 1) = g at *
    have hx := fun (k : Nat) (hk : k < ss.length) => show ji g 159 (sl.length + k) = ss.getD k (-1) by
      rw [FG.i (by omega), M.2 _ (by rw [List.length_append]; omega), List.getD_eq_getElem?_getD, List.getElem?_append_right (by omega), show sl.length + k - sl.length = k by omega, ← List.getD_eq_getElem?_getD]
    have hsz : ∀ {y : Int}, 0 ≤ y → y < ((dS c).length : Int) → ji g 145 y.toNat = szO (dS c) y := fun {y} y0 y1 => by
      rw [FG.i (by omega), (B.1 y.toNat (by omega)).2]; unfold szO; rw [if_neg (by omega)]
    -- the end of the loop
    have fin : ∀ v1 v4, ((sl ++ ss).length : Int) ≤ v4 → w64 (W + 1 + v1) = w64 (W + 1 + wke (dS c) x * (szO (dS c) (ss.getD 0 (-1)) * szO (dS c) (ss.getD 1 (-1)))) → WF d 145 72 [jP 141, jL v1, jU, jI (sl.length : Int), jI v4] [] g (P145 p T e c G n sl ss dp A i0 at' true neg s q x W h) := fun v1 v4 h4 hw => by
      refine c_145_72 (by omega) L2 ⟨fun _ => ?_, fun z => absurd (by rw [g30]; exact h4) z⟩
      rw [g33, g38, g30, Int.toNat_natCast, w32_i (x := ((A + 1 : Nat) : Int) - 1) (by omega) (by omega), show ((A + 1 : Nat) : Int) - 1 = (A : Int) by omega, Int.toNat_natCast, g49, show ji g 168 dp = (tkP T i0 : Int) from (FG.i (by omega)).trans f5, show ji g 165 dp = (if neg = true then -1 else 1) from (FG.i (by omega)).trans f2, show ji g 166 dp = bI (hv q) from (FG.i (by omega)).trans f3, show ji g 167 dp = bI (hv s) from (FG.i (by omega)).trans f4, show jl g 169 dp = w64 W from (FG.l (by omega)).trans f6', w64_2, hw]
      refine ⟨by omega, by omega, r1, by omega, by omega, by omega, by omega, by omega, by omega, r2, by omega, by omega, r3, by omega, by omega, fun L3 => ?_⟩
      have FA : Fq (ZC A) h (wi (wi g 162 A (w32 (((sl ++ ss).length : Int) - (sl.length : Int)))) 141 30 (sl.length : Int)) := (FG.trans (Fq.wi (by omega))).trans (Fq.wi (by omega))
      have q30 : ji (wi (wi g 162 A (w32 (((sl ++ ss).length : Int) - (sl.length : Int)))) 141 30 (sl.length : Int)) 141 30 = (sl.length : Int) := by rw [ji_wi, if_pos ⟨rfl, rfl⟩]
      have qs : ∀ y k, ¬ (y = 162 ∧ k = A) → ¬ (y = 141 ∧ k = 30) → ji (wi (wi g 162 A (w32 (((sl ++ ss).length : Int) - (sl.length : Int)))) 141 30 (sl.length : Int)) y k = ji g y k := fun y k z1 z2 => by rw [ji_wi, if_neg z2, ji_wi, if_neg z1]
      change P145 p T e c G n sl ss dp A i0 at' true neg s q x W h none (clB (wi (wi g 162 A (w32 (((sl ++ ss).length : Int) - (sl.length : Int)))) 141 30 (sl.length : Int)) (bI (hv x)) (tkP T i0 : Int) (if neg = true then -1 else 1) (bI (hv q)) (bI (hv s)) _)
      change Ly p (clB (wi (wi g 162 A (w32 (((sl ++ ss).length : Int) - (sl.length : Int)))) 141 30 (sl.length : Int)) (bI (hv x)) (tkP T i0 : Int) (if neg = true then -1 else 1) (bI (hv q)) (bI (hv s)) _) at L3
      generalize wi (wi g 162 A (w32 (((sl ++ ss).length : Int) - (sl.length : Int)))) 141 30 (sl.length : Int) = g2 at *
      have FB := FA.trans ((clB_F (g := g2) (a51 := bI (hv x)) (a50 := (tkP T i0 : Int)) (a47 := if neg = true then -1 else 1) (a48 := bI (hv q)) (a49 := bI (hv s)) (W := w64 (W + 1 + wke (dS c) x * (szO (dS c) (ss.getD 0 (-1)) * szO (dS c) (ss.getD 1 (-1)))))).mono (Y := ZC A) (fun a k z => by omega))
      refine ⟨rfl, L3, FB, cl_smc S0 hM FB (by rw [clB_i (by omega)]; exact q30) (by rw [clB_i (by omega), qs _ _ (by omega) (by omega)]; exact g38), ?_, fun _ => ⟨?_, ?_⟩, clB_47, clB_48, clB_49, clB_51, clB_50, clB_52⟩
      · rw [clB_i (by omega), qs _ _ (by omega) (by omega)]; exact g33
      · rw [clB_i (by omega), qs _ _ (by omega) (by omega)]; exact gA0
      · rw [clB_i (by omega), qs _ _ (by omega) (by omega)]; exact gA1
    have ml : ∀ {y : Int} {m : Int}, w64 (W + 1 + w64 (w64 y * m)) = w64 (W + 1 + y * m) := fun {y m} => by rw [w64_a2]; rw [w64_dv]; have := (w64_dv (w64 y * m) (y * m)).mp (w64_m y m); omega
    have l18 : (sl ++ ss).length ≤ 18 := M.1.2.2.1.2.2.2.2
    rcases z2 with ⟨a, rfl, a0, a1⟩ | ⟨a, b, rfl, a0, a1, b0, b1⟩
    · have l1 : (sl ++ [a]).length = sl.length + 1 := by rw [List.length_append]; rfl
      have h0 := hx 0 (by show 0 < 1; decide)
      have h0 : ji g 159 sl.length = a := h0
      refine c_145_72 (by omega) L2 ⟨fun z => by rw [g30] at z; omega, fun _ => ?_⟩
      rw [Int.toNat_natCast, h0, hsz a0 a1, w32_i (by omega) (by omega)]
      refine ⟨by omega, by omega, by omega, by omega, fin _ _ (by omega) ?_⟩
      rw [ml]
      congr 1
      show _ = W + 1 + wke (dS c) x * (szO (dS c) a * szO (dS c) (-1))
      rw [szO_no (S := dS c) (s := -1) (Or.inl (by decide)), Int.mul_one]
    · have l1 : (sl ++ [a, b]).length = sl.length + 2 := by rw [List.length_append]; rfl
      have h0 := hx 0 (by show 0 < 2; decide)
      have h0 : ji g 159 sl.length = a := h0
      have h1 := hx 1 (by show 1 < 2; decide)
      have h1 : ji g 159 (sl.length + 1) = b := h1
      refine c_145_72 (by omega) L2 ⟨fun z => by rw [g30] at z; omega, fun _ => ?_⟩
      rw [Int.toNat_natCast, h0, hsz a0 a1, w32_i (by omega) (by omega)]
      refine ⟨by omega, by omega, by omega, by omega, c_145_72 (by omega) L2 ⟨fun z => by rw [g30] at z; omega, fun _ => ?_⟩⟩
      rw [show ((sl.length : Int) + 1).toNat = sl.length + 1 by omega, h1, hsz b0 b1, w32_i (by omega) (by omega)]
      refine ⟨by omega, by omega, by omega, by omega, fin _ _ (by omega) ?_⟩
      rw [ml]
      have q1 : w64 (w64 (wke (dS c) x) * szO (dS c) a * szO (dS c) b) = w64 (wke (dS c) x * (szO (dS c) a * szO (dS c) b)) := by rw [Int.mul_assoc]; exact w64_m _ _
      show _ = w64 (W + 1 + wke (dS c) x * (szO (dS c) a * szO (dS c) b))
      rw [← w64_a2, q1, w64_a2]
end RCL
