/-! THE REFERENCE: print -/
section RPQ
variable {p : Lpar} {d : Nat} {h h0 h' g : AH} {c : Dc} {T : Txt} {pt : Nat → Int} {W : List Int} {r : Int} {row : Nat}
theorem end_186 (hd : 12 ≤ d) (S : Rst p T c pt h) (hr : row < (tot (dS c) (dR c)).toNat) (G : PM p W h g) (hl : W.length + 21 ≤ 1551) {v2 v3 : Int} : WF d 186 157 [jP 141, jI (row : Int), jI v2, jI v3] [] g (fun w h' => w = some (jI ((W ++ endL (w64 (-(rowL c row 40)))).length : Int)) ∧ PM p (W ++ endL (w64 (-(rowL c row 40)))) h h') := by
  have r40 := S.2.2.1.2.2.1
  have e193 : ∀ {W' : List Int} {g' : AH}, PM p W' h g' → jl g' 193 (41 * row + 40) = w64 (-(rowL c row 40)) := fun G' => ((S.pm G').2.2.2.2.2.1.2 row hr).2.2.2.2.2
  have hv := w64_r (-(rowL c row 40))
  generalize w64 (-(rowL c row 40)) = v at e193 hv ⊢
  have cn := jcmp_n (a := v) (b := 0)
  have l19 := szL_19 hv
  have tail : ∀ (V : List Int) (g' : AH), PM p V h g' → V.length + 20 ≤ 1551 → WF d 186 180 [jP 141, jI (row : Int), jI v2, jI v3] [] g' (fun w h' => w = some (jI ((V ++ (szL v ++ [59])).length : Int)) ∧ PM p (V ++ (szL v ++ [59])) h h') := by
    intro V g' G' hV
    obtain ⟨g2, E2, G2⟩ := m_184 (d := d) (v := v) (by omega) G'.1 G'.2.1 hv (by omega)
    have T2 : PM p (V ++ szL v) h g2 := PM.tr G'.2.2 G2
    have l2 : (V ++ szL v).length ≤ V.length + 19 := by rw [List.length_append]; omega
    refine c_186_180 (by omega) G'.1 ?_
    rw [w32_i (x := 41 * (row : Int)) (by omega) (by omega), w32_i (x := 41 * (row : Int) + 40) (by omega) (by omega), show Int.toNat (41 * (row : Int) + 40) = 41 * row + 40 by omega, e193 G']
    refine ⟨by omega, by omega, g2, E2, G2.1, c_186_196 (by omega) G2.1 (sayM T2 (by omega) (fun g3 G3 _ => c_186_202 (by omega) G3.1 ?_))⟩
    rw [G3.2.1.1, ← List.append_assoc]
    exact ⟨rfl, G3⟩
  unfold endL
  refine c_186_157 (by omega) G.1 ?_
  rw [w32_i (x := 41 * (row : Int)) (by omega) (by omega), w32_i (x := 41 * (row : Int) + 40) (by omega) (by omega), show Int.toNat (41 * (row : Int) + 40) = 41 * row + 40 by omega, e193 G]
  refine ⟨by omega, by omega, fun z => ?_, fun z => ?_⟩
  · rw [if_neg (by omega), List.nil_append]
    exact tail W g G (by omega)
  · rw [if_pos (by omega)]
    have l1 := len1 W 45
    refine sayM G (by omega) (fun g1 G1 _ => ?_)
    have q := tail (W ++ [45]) g1 G1 (by omega)
    rw [show W ++ ([45] ++ szL v ++ [59]) = W ++ [45] ++ (szL v ++ [59]) by simp only [List.append_assoc]]
    exact q
theorem rel_186 (hd : 12 ≤ d) (S : Rst p T c pt h) (hr : row < (tot (dS c) (dR c)).toNat) (G : PM p W h g) (hl : W.length + 25 ≤ 1551) {v2 v3 : Int} : WF d 186 110 [jP 141, jI (row : Int), jI v2, jI v3] [] g (fun w h' => w = some (jI ((W ++ relL ((dL c).getD (owO (dS c) (dR c) row).toNat zL).1 ++ endL (w64 (-(rowL c row 40)))).length : Int)) ∧ PM p (W ++ relL ((dL c).getD (owO (dS c) (dR c) row).toNat zL).1 ++ endL (w64 (-(rowL c row 40)))) h h') := by
  have r40 := S.2.2.1.2.2.1
  have e192 : ∀ {W' : List Int} {g' : AH}, PM p W' h g' → ji g' 192 row = ((dL c).getD (owO (dS c) (dR c) row).toNat zL).1 := fun G' => ((S.pm G').2.2.2.2.2.1.2 row hr).2.2.2.1
  generalize ((dL c).getD (owO (dS c) (dR c) row).toNat zL).1 = q at e192 ⊢
  have tail : ∀ (V : List Int) (g' : AH), PM p V h g' → V.length + 23 ≤ 1551 → WF d 186 145 [jP 141, jI (row : Int), jI v2, jI v3] [] g' (fun w h' => w = some (jI ((V ++ [61] ++ [32] ++ endL (w64 (-(rowL c row 40)))).length : Int)) ∧ PM p (V ++ [61] ++ [32] ++ endL (w64 (-(rowL c row 40)))) h h') := by
    intro V g' G' hV
    have l1 := len1 V 61
    have l2 := len1 (V ++ [61]) 32
    refine c_186_145 (by omega) G'.1 (sayM G' (by omega) (fun g1 G1 _ => c_186_151 (by omega) G1.1 (sayM G1 (by omega) (fun g2 G2 _ => ?_))))
    exact end_186 hd S hr G2 (by omega)
  have l1 := len1 W 32
  refine c_186_110 (by omega) G.1 (sayM G (by omega) (fun g1 G1 _ => c_186_116 (by omega) G1.1 ?_))
  rw [Int.toNat_natCast, e192 G1]
  unfold relL
  refine ⟨by omega, by omega, fun z => ?_, fun z => ⟨by omega, by omega, fun y => ?_, fun y => ?_⟩⟩
  · rw [if_neg (by omega), if_pos z]
    have k := tail (W ++ [32]) g1 G1 (by omega)
    rw [show W ++ [32, 61, 32] = W ++ [32] ++ [61] ++ [32] by simp only [List.append_assoc]; rfl]
    exact k
  · rw [if_neg (by omega), if_neg z]
    have l2 := len1 (W ++ [32]) 62
    refine sayM G1 (by omega) (fun g2 G2 _ => ?_)
    have k := tail (W ++ [32] ++ [62]) g2 G2 (by omega)
    rw [show W ++ [32, 62, 61, 32] = W ++ [32] ++ [62] ++ [61] ++ [32] by simp only [List.append_assoc]; rfl]
    exact k
  · rw [if_pos (by omega)]
    have l2 := len1 (W ++ [32]) 60
    refine sayM G1 (by omega) (fun g2 G2 _ => ?_)
    have k := tail (W ++ [32] ++ [60]) g2 G2 (by omega)
    rw [show W ++ [32, 60, 61, 32] = W ++ [32] ++ [60] ++ [61] ++ [32] by simp only [List.append_assoc]; rfl]
    exact k
theorem m_186 (hd : 15 ≤ d) (S : Rst p T c pt h) (H : okS2 (dS c)) (P : PapM W h) : ∃ h', jE d 186 [jP 141, jI r] h (some (jI (aPrint c r))) h' ∧ PM p (wPrint c r W) h h' := by
  suffices hh : ∃ w h', jE d 186 [jP 141, jI r] h w h' ∧ w = some (jI (aPrint c r)) ∧ PM p (wPrint c r W) h h' by
    obtain ⟨w, h', hE, rfl, q⟩ := hh
    exact ⟨h', hE, q⟩
  obtain ⟨d, rfl⟩ : ∃ d', d = d' + 1 := ⟨d - 1, by omega⟩
  have O := S.2.2.1
  unfold aPrint wPrint
  refine jE_of (as := [jP 141, jI r]) (Nat.le_of_ble_eq_true rfl) (c_186_0 (by omega) S.1 ⟨_, h, m_168 (by omega) S, S.1, fun z => ?_, fun z => ?_⟩)
  · have nz := bz0 z
    rw [if_neg nz, if_neg nz]
    exact ⟨rfl, S.1, P, Fq.refl⟩
  have zr := bz1 z
  rw [if_pos zr, if_pos zr]
  obtain ⟨row, rfl⟩ : ∃ row : Nat, r = (row : Int) := ⟨r.toNat, by omega⟩
  rw [Int.toNat_natCast]
  obtain ⟨rm1, rm2, rm3⟩ := pr_room (row := row) O.1 H O.2.1
  have r40 := O.2.2.1
  intro L1
  have G1 : PM p [] h (wi h 141 81 0) := ⟨L1, ⟨by rw [ji_wi, if_pos ⟨rfl, rfl⟩]; rfl, Nat.zero_le _, fun k hk => absurd hk (Nat.not_lt_zero k)⟩, Fq.wi (Or.inl ⟨rfl, rfl⟩)⟩
  generalize wi h 141 81 0 = g1 at L1 G1 ⊢
  have S1 := S.pm G1
  have ln := nm_4 O.1 3 (owO (dS c) (dR c) row)
  have lR : (dR c).length ≤ 10 := O.1.2.1.1
  have e189 : ji g1 189 row = owO (dS c) (dR c) row := (S1.2.2.2.2.2.1.2 row (by omega)).1
  obtain ⟨_, _, r3, r4, _, _⟩ := owO_r (ow_in zr)
  have nm := S1.nm (s := 3) (k := owO (dS c) (dR c) row) (by decide) (by decide) r3 r4
  obtain ⟨g2, E2, G2⟩ := m_183 (d := d) (by omega) G1.1 G1.2.1 (S1.okF 3 (owO (dS c) (dR c) row)) (by show 0 + _ ≤ _; omega)
  have l2 : ([] ++ nmF (dN c) 3 (owO (dS c) (dR c) row)).length ≤ 4 := ln
  have T2 := PM.tr G1.2.2 G2
  refine c_186_17 (by omega) G1.1 ?_
  rw [Int.toNat_natCast, e189, w32_i (x := 30 + owO (dS c) (dR c) row) (by omega) (by omega), show Int.toNat (30 + owO (dS c) (dR c) row) = 10 * Int.toNat 3 + (owO (dS c) (dR c) row).toNat by show _ = 10 * 3 + _; omega, nm]
  refine ⟨by omega, by omega, by omega, by omega, g2, E2, G2.1, c_186_35 (by omega) G2.1 (sayM T2 (by omega) (fun g3 G3 _ => c_186_41 (by omega) G3.1 ?_))⟩
  have l3 := len1 ([] ++ nmF (dN c) 3 (owO (dS c) (dR c) row)) 58
  refine sayM G3 (by omega) (fun g4 G4 _ => c_186_47 (by omega) G4.1 (c_186_49 (by omega) G4.1 ?_))
  have G4 : PM p (hdL c row) h g4 := by
    have e : hdL c row = [] ++ nmF (dN c) 3 (owO (dS c) (dR c) row) ++ [58] ++ [32] := by unfold hdL; simp only [List.append_assoc, List.nil_append]; rfl
    rw [e]; exact G4
  have lh : (hdL c row).length ≤ 6 := by
    unfold hdL
    rw [List.length_append]
    show _ + 2 ≤ 6
    omega
  have t40 := O.2.1
  refine tms_186 (row := row) (by omega) S H (by omega) (tot (dS c) (dX c)).toNat 0 (hdL c row) true g4 (by omega) G4 (by rw [if_pos rfl]; omega) (fun g5 G5 => ?_)
  have G5 : PM p ((tmsW c row).1 ++ zrL (tmsW c row).2) h g5 := G5
  exact rel_186 (by omega) S (by omega) G5 (by rw [List.length_append]; omega)
end RPQ
