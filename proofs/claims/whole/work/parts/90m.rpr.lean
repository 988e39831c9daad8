/-! THE REFERENCE: a row is printed -/
section RPR
variable {p : Lpar} {d : Nat} {h h0 h' g : AH} {c : Dc} {T : Txt} {pt : Nat → Int} {W : List Int} {v : Int} {x row : Nat}
theorem Rst.pm (S : Rst p T c pt h) (G : PM p W h g) : Rst p T c pt g := by
  obtain ⟨_, X, O, K, ⟨e1, C⟩, ⟨e2, W⟩, Gg⟩ := S
  have F := G.2.2
  exact ⟨G.1, X.fq F (by omega) (fun k => by omega), O, K.cg (fun a k z1 z2 => F.i (by omega)), ⟨(F.i (by omega)).trans e1, C.fq F (fun i k z => by omega)⟩, ⟨(F.i (by omega)).trans e2, W.fq F (fun i k y hy z => by omega)⟩, Gg.fq F (by omega) (by omega) (fun k => by omega)⟩
theorem len1 (W : List Int) (y : Int) : (W ++ [y]).length = W.length + 1 := by rw [List.length_append]; rfl
theorem ix_185 (hd : 11 ≤ d) (S : Rst p T c pt h) (H : okS2 (dS c)) (G : PM p W h g) (hx : x < (tot (dS c) (dX c)).toNat) (hl : W.length + 11 ≤ 1551) {v4 : Int} : WF d 185 92 [jP 141, jI (x : Int), jL v, jU, jI v4] [] g (fun w h' => w = none ∧ PM p (W ++ ixL (fN (dS c) (dX c) x) (sN (dS c) (dX c) x)) h h') := by
  have t40 := S.2.2.1.2.1
  have O := S.2.2.1.1
  have q := fs_4 O H (O.1.2.2.2.2.1) (x : Int)
  have e184 : ∀ {W' : List Int} {g' : AH}, PM p W' h g' → ji g' 184 x = fN (dS c) (dX c) x ∧ ji g' 185 x = sN (dS c) (dX c) x := fun G' => ⟨((S.pm G').2.2.2.2.1.2 x hx).2.1, ((S.pm G').2.2.2.2.1.2 x hx).2.2.1⟩
  generalize fN (dS c) (dX c) x = a at q e184 ⊢
  generalize sN (dS c) (dX c) x = b at q e184 ⊢
  unfold ixL
  refine c_185_92 (by omega) G.1 ?_
  rw [Int.toNat_natCast, (e184 G).1]
  refine ⟨by omega, by omega, fun z => c_185_152 (by omega) G.1 ⟨rfl, ?_⟩, fun z => ?_⟩
  · rw [if_pos z, List.append_nil]; exact G
  rw [if_neg z]
  have la := szL_4 (v := a) (by omega) (by omega)
  refine sayM G (by omega) (fun g1 G1 _ => c_185_108 (by omega) G1.1 ?_)
  have l1 := len1 W 91
  obtain ⟨g2, E2, G2⟩ := m_184 (d := d) (v := a) (by omega) G1.1 G1.2.1 (by unfold r64; omega) (by omega)
  have l2 : (W ++ [91] ++ szL a).length ≤ W.length + 5 := by rw [List.length_append, l1]; omega
  have T2 : PM p (W ++ [91] ++ szL a) h g2 := PM.tr G1.2.2 G2
  rw [Int.toNat_natCast, (e184 G1).1]
  refine ⟨by omega, by omega, g2, E2, G2.1, c_185_119 (by omega) G2.1 ?_⟩
  rw [Int.toNat_natCast, (e184 T2).2]
  refine ⟨by omega, by omega, fun y => c_185_146 (by omega) G2.1 (sayM T2 (by omega) (fun g3 G3 _ => c_185_152 (by omega) G3.1 ⟨rfl, ?_⟩)), fun y => ?_⟩
  · rw [if_pos y, List.append_nil, ← List.append_assoc, ← List.append_assoc]
    exact G3
  · have lb := szL_4 (v := b) (by omega) (by omega)
    refine sayM T2 (by omega) (fun g3 G3 _ => c_185_135 (by omega) G3.1 ?_)
    have l3 := len1 (W ++ [91] ++ szL a) 44
    obtain ⟨g4, E4, G4⟩ := m_184 (d := d) (v := b) (by omega) G3.1 G3.2.1 (by unfold r64; omega) (by omega)
    have T4 : PM p (W ++ [91] ++ szL a ++ [44] ++ szL b) h g4 := PM.tr G3.2.2 G4
    have l4 : (W ++ [91] ++ szL a ++ [44] ++ szL b).length ≤ W.length + 10 := by rw [List.length_append]; omega
    rw [Int.toNat_natCast, (e184 G3).2]
    refine ⟨by omega, by omega, g4, E4, G4.1, c_185_146 (by omega) G4.1 (sayM T4 (by omega) (fun g5 G5 _ => c_185_152 (by omega) G5.1 ⟨rfl, ?_⟩))⟩
    rw [if_neg y, show W ++ ([91] ++ szL a ++ ([44] ++ szL b) ++ [93]) = W ++ [91] ++ szL a ++ [44] ++ szL b ++ [93] by simp only [List.append_assoc]]
    exact G5
theorem nm_185 (hd : 12 ≤ d) (S : Rst p T c pt h) (H : okS2 (dS c)) (G : PM p W h g) (hx : x < (tot (dS c) (dX c)).toNat) (hl : W.length + 15 ≤ 1551) {v4 : Int} : WF d 185 74 [jP 141, jI (x : Int), jL v, jU, jI v4] [] g (fun w h' => w = none ∧ PM p (W ++ (nmF (dN c) 2 (owO (dS c) (dX c) x) ++ ixL (fN (dS c) (dX c) x) (sN (dS c) (dX c) x))) h h') := by
  have Sg := S.pm G
  have t40 := S.2.2.1.2.1
  have O := S.2.2.1.1
  have lX : (dX c).length ≤ 6 := O.1.2.2.2.2.2.1
  have ln := nm_4 O 2 (owO (dS c) (dX c) x)
  have e183 : ji g 183 x = owO (dS c) (dX c) x := (Sg.2.2.2.2.1.2 x hx).1
  have no := ow_in (S := dS c) (O := dX c) (x := (x : Int)) ⟨by omega, by omega⟩
  obtain ⟨_, _, r3, r4, _, _⟩ := owO_r no
  have nm := Sg.nm (s := 2) (k := owO (dS c) (dX c) x) (by decide) (by decide) r3 r4
  obtain ⟨g1, E1, G1⟩ := m_183 (d := d) (by omega) G.1 G.2.1 (Sg.okF 2 (owO (dS c) (dX c) x)) (by omega)
  have T1 := PM.tr G.2.2 G1
  refine c_185_74 (by omega) G.1 ?_
  rw [Int.toNat_natCast, e183, w32_i (x := 20 + owO (dS c) (dX c) x) (by omega) (by omega), show Int.toNat (20 + owO (dS c) (dX c) x) = 10 * Int.toNat 2 + (owO (dS c) (dX c) x).toNat by show _ = 10 * 2 + _; omega, nm]
  refine ⟨by omega, by omega, by omega, by omega, g1, E1, G1.1, ?_⟩
  rw [← List.append_assoc]
  exact ix_185 (by omega) S H T1 hx (by rw [List.length_append]; omega)
theorem fc_185 (hd : 12 ≤ d) (S : Rst p T c pt h) (H : okS2 (dS c)) (G : PM p W h g) (hx : x < (tot (dS c) (dX c)).toNat) (hv : r64 v) (hl : W.length + 35 ≤ 1551) {v4 : Int} : WF d 185 49 [jP 141, jI (x : Int), jL v, jU, jI v4] [] g (fun w h' => w = none ∧ PM p (W ++ (fcL v ++ (nmF (dN c) 2 (owO (dS c) (dX c) x) ++ ixL (fN (dS c) (dX c) x) (sN (dS c) (dX c) x)))) h h') := by
  unfold fcL
  have l19 := szL_19 hv
  refine c_185_49 (by omega) G.1 ⟨fun z => ?_, fun z => ⟨fun y => ?_, fun y => ?_⟩⟩
  · rw [if_pos (Or.inl (jcmp_0.mp z)), List.nil_append]
    exact nm_185 hd S H G hx (by omega)
  · rw [if_pos (Or.inr (jcmp_0.mp y)), List.nil_append]
    exact nm_185 hd S H G hx (by omega)
  · rw [if_neg (fun u => u.elim (fun u => z (jcmp_0.mpr u)) (fun u => y (jcmp_0.mpr u)))]
    obtain ⟨g1, E1, G1⟩ := m_184 (d := d) (v := v) (by omega) G.1 G.2.1 hv (by omega)
    have l1 : (W ++ szL v).length ≤ W.length + 19 := by rw [List.length_append]; omega
    have T1 : PM p (W ++ szL v) h g1 := PM.tr G.2.2 G1
    refine ⟨g1, E1, G1.1, c_185_68 (by omega) G1.1 (sayM T1 (by omega) (fun g2 G2 _ => ?_))⟩
    have l2 := len1 (W ++ szL v) 42
    have e : ∀ R : List Int, W ++ (szL v ++ [42] ++ R) = W ++ szL v ++ [42] ++ R := fun R => by simp only [List.append_assoc]
    rw [e]
    exact nm_185 hd S H G2 hx (by omega)
theorem m_185 (hd : 13 ≤ d) (S : Rst p T c pt h) (H : okS2 (dS c)) (P : PapM W h) (hx : x < (tot (dS c) (dX c)).toNat) (hv : r64 v) (hl : W.length + 38 ≤ 1551) {f : Bool} : ∃ h', jE d 185 [jP 141, jI (x : Int), jL v, jI (if f = true then 1 else 0)] h none h' ∧ PM p (W ++ tmL c x f v) h h' := by
  suffices hh : ∃ w h', jE d 185 [jP 141, jI (x : Int), jL v, jI (if f = true then 1 else 0)] h w h' ∧ w = none ∧ PM p (W ++ tmL c x f v) h h' by
    obtain ⟨w, h', hE, rfl, q⟩ := hh
    exact ⟨h', hE, q⟩
  obtain ⟨d, rfl⟩ : ∃ d', d = d' + 1 := ⟨d - 1, by omega⟩
  have cn := jcmp_n (a := v) (b := 0)
  have eT : W ++ tmL c x f v = W ++ sgL f v ++ (fcL v ++ (nmF (dN c) 2 (owO (dS c) (dX c) x) ++ ixL (fN (dS c) (dX c) x) (sN (dS c) (dX c) x))) := by unfold tmL; simp only [List.append_assoc]
  rw [eT]
  have G : PM p W h h := ⟨S.1, P, Fq.refl⟩
  refine jE_of (as := [jP 141, jI (x : Int), jL v, jI (if f = true then 1 else 0)]) (Nat.le_of_ble_eq_true rfl) (c_185_0 (by omega) S.1 ?_)
  cases f with
  | false =>
    refine ⟨fun _ => sayM G (by omega) (fun g1 G1 _ => c_185_11 (by omega) G1.1 ?_), fun z => absurd rfl z⟩
    have l1 := len1 W 32
    refine ⟨fun z => sayM G1 (by omega) (fun g2 G2 _ => ?_), fun z => sayM G1 (by omega) (fun g2 G2 _ => ?_)⟩
    · have l2 := len1 (W ++ [32]) 43
      have e : sgL false v = [32, 43, 32] := by unfold sgL; rw [if_neg (by decide), if_neg (by omega)]
      rw [e]
      refine c_185_28 (by omega) G2.1 (sayM G2 (by omega) (fun g3 G3 _ => c_185_34 (by omega) G3.1 ?_))
      have l3 := len1 (W ++ [32] ++ [43]) 32
      rw [show W ++ [32, 43, 32] = W ++ [32] ++ [43] ++ [32] by simp only [List.append_assoc]; rfl]
      exact fc_185 (by omega) S H G3 hx hv (by omega)
    · have l2 := len1 (W ++ [32]) 45
      have e : sgL false v = [32, 45, 32] := by unfold sgL; rw [if_neg (by decide), if_pos (by omega)]
      rw [e]
      refine c_185_28 (by omega) G2.1 (sayM G2 (by omega) (fun g3 G3 _ => c_185_34 (by omega) G3.1 ?_))
      have l3 := len1 (W ++ [32] ++ [45]) 32
      rw [show W ++ [32, 45, 32] = W ++ [32] ++ [45] ++ [32] by simp only [List.append_assoc]; rfl]
      exact fc_185 (by omega) S H G3 hx hv (by omega)
  | true =>
    refine ⟨fun z => absurd z (by decide), fun _ => ⟨fun z => ?_, fun z => ?_⟩⟩
    · have e : sgL true v = [] := by unfold sgL; rw [if_pos rfl, if_neg (by omega)]
      rw [e, List.append_nil]
      exact fc_185 (by omega) S H G hx hv (by omega)
    · have e : sgL true v = [45] := by unfold sgL; rw [if_pos rfl, if_pos (by omega)]
      rw [e]
      have l1 := len1 W 45
      exact sayM G (by omega) (fun g1 G1 _ => fc_185 (by omega) S H G1 hx hv (by omega))
theorem tms_186 (hd : 14 ≤ d) (S : Rst p T c pt h) (H : okS2 (dS c)) (hr : row < (tot (dS c) (dR c)).toNat) {Q : Option AV → AH → Prop} : ∀ (s x : Nat) (W : List Int) (f : Bool) (g : AH), (tot (dS c) (dX c)).toNat = x + s → PM p W h g → W.length + 38 * s + (if f = true then 1 else 0) ≤ 1527 → (∀ g', PM p ((tmsF c row s x W f).1 ++ zrL (tmsF c row s x W f).2) h g' → WF d 186 110 [jP 141, jI (row : Int), jI (if (tmsF c row s x W f).2 = true then 1 else 0), jI ((tot (dS c) (dX c)).toNat : Int)] [] g' Q) → WF d 186 51 [jP 141, jI (row : Int), jI (if f = true then 1 else 0), jI (x : Int)] [] g Q := by
  have t40 := S.2.2.1.2.1
  have r40 := S.2.2.1.2.2.1
  have t0 := S.t0.1
  have O := S.2.2.1.1
  intro s
  induction s with
  | zero =>
    intro x W f g hx G hl K
    have Sg := S.pm G
    have e5 : ji g 141 65 = tot (dS c) (dX c) := Sg.2.2.2.2.1.1
    have ex : ((tot (dS c) (dX c)).toNat : Int) = (x : Int) := by omega
    refine c_186_51 (by omega) G.1 ⟨fun _ => ?_, fun z => by omega⟩
    rw [ex] at K
    cases f with
    | false =>
      refine ⟨fun _ => ?_, fun z => absurd rfl z⟩
      have q := K g (by show PM p (W ++ []) h g; rw [List.append_nil]; exact G)
      exact q
    | true =>
      rw [if_pos rfl] at hl
      exact ⟨fun z => absurd z (by decide), fun _ => sayM G (by omega) (fun g1 G1 _ => K g1 G1)⟩
  | succ s ih =>
    intro x W f g hx G hl K
    have Sg := S.pm G
    have e5 : ji g 141 65 = tot (dS c) (dX c) := Sg.2.2.2.2.1.1
    have ev := (Sg.2.2.2.2.2.1.2 row hr).2.2.2.2.1 x (by omega)
    refine c_186_51 (by omega) G.1 ⟨fun z => by omega, fun _ => ?_⟩
    rw [w32_i (x := 41 * (row : Int)) (by omega) (by omega), w32_i (x := 41 * (row : Int) + (x : Int)) (by omega) (by omega), show Int.toNat (41 * (row : Int) + (x : Int)) = 41 * row + x by omega, ev]
    by_cases z : w64 (rowL c row x) = 0
    · have eF : tmsF c row (s + 1) x W f = tmsF c row s (x + 1) W f := by
        show (if w64 (rowL c row x) = 0 then _ else _) = _
        rw [if_pos z]
      rw [eF] at K
      refine ⟨by omega, by omega, fun _ => c_186_94 (by omega) G.1 ?_, fun y => absurd (jcmp_0.mpr z) y⟩
      rw [w32_i (x := (x : Int) + 1) (by omega) (by omega)]
      exact ih (x + 1) W f g (by omega) G (by omega) K
    · have eF : tmsF c row (s + 1) x W f = tmsF c row s (x + 1) (W ++ tmL c x f (w64 (rowL c row x))) false := by
        show (if w64 (rowL c row x) = 0 then _ else _) = _
        rw [if_neg z]
      rw [eF] at K
      have lt := tmL_len (x := x) O H (w64_r (rowL c row x)) f
      have lt2 : (tmL c x f (w64 (rowL c row x))).length ≤ 38 := by
        cases f
        · rw [if_neg (by decide)] at lt; exact lt
        · rw [if_pos rfl] at lt; omega
      obtain ⟨g1, E1, G1⟩ := m_185 (d := d) (x := x) (f := f) (by omega) Sg H G.2.1 (by omega) (w64_r (rowL c row x)) (by omega)
      refine ⟨by omega, by omega, fun y => absurd (jcmp_0.mp y) z, fun _ => ⟨by omega, by omega, g1, E1, G1.1, c_186_92 (by omega) G1.1 (c_186_94 (by omega) G1.1 ?_)⟩⟩
      rw [w32_i (x := (x : Int) + 1) (by omega) (by omega)]
      exact ih (x + 1) _ false g1 (by omega) (PM.tr G.2.2 G1) (by rw [List.length_append, if_neg (by decide)]; omega) K
end RPR
