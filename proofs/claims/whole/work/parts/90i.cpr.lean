/-! THE CLASS: a row is printed -/
section CPR
variable {p : Lpar} {d : Nat} {h h0 h' g : AH} {c : Dc} {T : Txt} {pt : Nat → Int} {W w : List Int} {v r : Int} {x row : Nat}
theorem Cst.pa (S : Cst p T c pt h) (G : PA p W h g) : Cst p T c pt g := by
  have hD' := S.1.iD
  unfold isD at hD'
  have hN : NF = 197 := rfl
  have hx := S.1.nx
  have F := G.2.2.1
  refine Cst.mv S G.1 S.2.2.1 rfl ⟨S.2.1.1, ?_, fun k hk => ?_⟩ F (fun a z => by omega)
  · rw [F.ji (by omega) (by omega)]; exact S.2.1.2.1
  · rw [F.ji (by omega) (by omega)]; exact S.2.1.2.2 k hk
theorem ix_104 (hd : 9 ≤ d) (G : PA p W h g) {a b : Int} (ha : a = -1 ∨ (0 ≤ a ∧ a ≤ 9999)) (hb : b = -1 ∨ (0 ≤ b ∧ b ≤ 9999)) (hl : W.length + 11 ≤ 1551) {v3 v4 : Int} : WF d 104 134 [jP 32, jL v, jU, jI v3, jI v4, jI a, jI b] [] g (fun w h' => w = none ∧ PA p (W ++ ixL a b) h h') := by
  unfold ixL
  refine c_104_134 hd G.1 ⟨fun z => c_104_193 hd G.1 ⟨rfl, ?_⟩, fun z => ?_⟩
  · rw [if_pos z, List.append_nil]; exact G
  rw [if_neg z]
  have la := szL_4 (v := a) (by omega) (by omega)
  obtain ⟨g1, E1, G1⟩ := m_2p (d := d) (v := 91) (by omega) G.1 G.2.1 (by omega) (by omega) (by omega)
  have l1 : (W ++ [91]).length = W.length + 1 := by rw [List.length_append]; rfl
  obtain ⟨g2, E2, G2⟩ := m_5 (d := d) (v := a) (by omega) G1.1 G1.2.1 (by unfold r64; omega) (by omega)
  have l2 : (W ++ [91] ++ szL a).length ≤ W.length + 5 := by rw [List.length_append, l1]; omega
  have T2 : PA p (W ++ [91] ++ szL a) h g2 := PA.tr G.2.2 (PA.tr G1.2.2 G2)
  refine ⟨g1, E1, G1.1, c_104_149 hd G1.1 ⟨g2, E2, G2.1, c_104_159 hd G2.1 ⟨fun y => ?_, fun y => ?_⟩⟩⟩
  · obtain ⟨g3, E3, G3⟩ := m_2p (d := d) (v := 93) (by omega) G2.1 G2.2.1 (by omega) (by omega) (by omega)
    refine c_104_184 hd G2.1 ⟨g3, E3, G3.1, c_104_193 hd G3.1 ⟨rfl, ?_⟩⟩
    rw [if_pos y, List.append_nil, ← List.append_assoc, ← List.append_assoc]
    exact PA.tr T2.2.2 G3
  · have lb := szL_4 (v := b) (by omega) (by omega)
    obtain ⟨g3, E3, G3⟩ := m_2p (d := d) (v := 44) (by omega) G2.1 G2.2.1 (by omega) (by omega) (by omega)
    have l3 : (W ++ [91] ++ szL a ++ [44]).length ≤ W.length + 6 := by rw [List.length_append]; show _ + 1 ≤ _; omega
    obtain ⟨g4, E4, G4⟩ := m_5 (d := d) (v := b) (by omega) G3.1 G3.2.1 (by unfold r64; omega) (by omega)
    have l4 : (W ++ [91] ++ szL a ++ [44] ++ szL b).length ≤ W.length + 10 := by rw [List.length_append]; omega
    obtain ⟨g5, E5, G5⟩ := m_2p (d := d) (v := 93) (by omega) G4.1 G4.2.1 (by omega) (by omega) (by omega)
    refine ⟨g3, E3, G3.1, c_104_174 hd G3.1 ⟨g4, E4, G4.1, c_104_184 hd G4.1 ⟨g5, E5, G5.1, c_104_193 hd G5.1 ⟨rfl, ?_⟩⟩⟩⟩
    rw [if_neg y]
    have q := PA.tr T2.2.2 (PA.tr G3.2.2 (PA.tr G4.2.2 G5))
    rw [show W ++ ([91] ++ szL a ++ ([44] ++ szL b) ++ [93]) = W ++ [91] ++ szL a ++ [44] ++ szL b ++ [93] by simp only [List.append_assoc]]
    exact q
theorem nm_104 (hd : 9 ≤ d) (S : Cst p T c pt h) (H : okS2 (dS c)) (G : PA p W h g) (hl : W.length + 15 ≤ 1551) {v4 : Int} {z5 z6 : AV} : WF d 104 79 [jP 32, jL v, jU, jI (x : Int), jI v4, z5, z6] [] g (fun w h' => w = none ∧ PA p (W ++ (nmF (dN c) 2 (owO (dS c) (dX c) x) ++ ixL (fN (dS c) (dX c) x) (sN (dS c) (dX c) x))) h h') := by
  have Sg := S.pa G
  have O := S.2.2.2.2.2.2.1.1
  have q := fs_4 O H (O.1.2.2.2.2.1) (x : Int)
  have ln := nm_4 O 2 (owO (dS c) (dX c) x)
  obtain ⟨g1, E1, G1⟩ := m_4 (d := d) (by omega) G.1 G.2.1 (Sg.okF 2 (owO (dS c) (dX c) x)) (by omega)
  have T1 := PA.tr G.2.2 G1
  have S1 := Sg.pa G1
  refine c_104_79 hd G.1 ⟨_, g, Sg.owX (by omega), G.1, _, g, Sg.nameOf (by omega), G.1, g1, E1, G1.1, c_104_108 hd G1.1 ⟨_, g1, S1.fnX (by omega), G1.1, c_104_121 hd G1.1 ⟨_, g1, S1.snX (by omega), G1.1, ?_⟩⟩⟩
  rw [← List.append_assoc]
  exact ix_104 hd T1 q.1 q.2 (by rw [List.length_append]; omega)
theorem fc_104 (hd : 9 ≤ d) (S : Cst p T c pt h) (H : okS2 (dS c)) (G : PA p W h g) (hv : r64 v) (hl : W.length + 35 ≤ 1551) {v4 : Int} {z5 z6 : AV} : WF d 104 48 [jP 32, jL v, jU, jI (x : Int), jI v4, z5, z6] [] g (fun w h' => w = none ∧ PA p (W ++ (fcL v ++ (nmF (dN c) 2 (owO (dS c) (dX c) x) ++ ixL (fN (dS c) (dX c) x) (sN (dS c) (dX c) x)))) h h') := by
  unfold fcL
  have l19 := szL_19 hv
  refine c_104_48 hd G.1 ⟨fun z => ?_, fun z => ⟨fun y => ?_, fun y => ?_⟩⟩
  · rw [if_pos (Or.inl (jcmp_0.mp z)), List.nil_append]
    exact nm_104 hd S H G (by omega)
  · rw [if_pos (Or.inr (jcmp_0.mp y)), List.nil_append]
    exact nm_104 hd S H G (by omega)
  · rw [if_neg (fun u => u.elim (fun u => z (jcmp_0.mpr u)) (fun u => y (jcmp_0.mpr u)))]
    obtain ⟨g1, E1, G1⟩ := m_5 (d := d) (v := v) (by omega) G.1 G.2.1 hv (by omega)
    have l1 : (W ++ szL v).length ≤ W.length + 19 := by rw [List.length_append]; omega
    obtain ⟨g2, E2, G2⟩ := m_2p (d := d) (v := 42) (by omega) G1.1 G1.2.1 (by omega) (by omega) (by omega)
    have l2 : (W ++ szL v ++ [42]).length ≤ W.length + 20 := by rw [List.length_append]; show _ + 1 ≤ _; omega
    refine ⟨g1, E1, G1.1, c_104_70 hd G1.1 ⟨g2, E2, G2.1, ?_⟩⟩
    have e : ∀ R : List Int, W ++ (szL v ++ [42] ++ R) = W ++ szL v ++ [42] ++ R := fun R => by simp only [List.append_assoc]
    rw [e]
    exact nm_104 hd S H (PA.tr G.2.2 (PA.tr G1.2.2 G2)) (by omega)
theorem m_104 (hd : 10 ≤ d) (S : Cst p T c pt h) (H : okS2 (dS c)) (P : Pap W h) (hv : r64 v) (hl : W.length + 38 ≤ 1551) {f : Bool} : ∃ h', jE d 104 [jP 32, jL v, jI (x : Int), jI (if f = true then 1 else 0)] h none h' ∧ PA p (W ++ tmL c x f v) h h' := by
  suffices hh : ∃ w h', jE d 104 [jP 32, jL v, jI (x : Int), jI (if f = true then 1 else 0)] h w h' ∧ w = none ∧ PA p (W ++ tmL c x f v) h h' by
    obtain ⟨w, h', hE, rfl, q⟩ := hh
    exact ⟨h', hE, q⟩
  obtain ⟨d, rfl⟩ : ∃ d', d = d' + 1 := ⟨d - 1, by omega⟩
  have cn := jcmp_n (a := v) (b := 0)
  have eT : W ++ tmL c x f v = W ++ sgL f v ++ (fcL v ++ (nmF (dN c) 2 (owO (dS c) (dX c) x) ++ ixL (fN (dS c) (dX c) x) (sN (dS c) (dX c) x))) := by unfold tmL; simp only [List.append_assoc]
  rw [eT]
  have st : ∀ (i : Nat) (hi : i < 9) (s : List Int), sBy.getD i [] = s → s.length ≤ 3 → (∀ y ∈ s, 0 ≤ y ∧ y ≤ 255) → ∃ h', jE d 3 [jP 35, jP (i + 4)] h none h' ∧ PA p (W ++ s) h h' := fun i hi s es ls bs => by
    have q := m_3 (d := d) (by omega) S.1 P hi (by rw [es]; omega) (by rw [es]; exact bs)
    rw [es] at q
    exact q
  refine jE_of (as := [jP 32, jL v, jI (x : Int), jI (if f = true then 1 else 0)]) (Nat.le_of_ble_eq_true rfl) (c_104_0 (by omega) S.1 ?_)
  cases f with
  | false =>
    refine ⟨fun _ => ⟨fun z => ?_, fun z => ?_⟩, fun z => absurd rfl z⟩
    · have e : sgL false v = [32, 43, 32] := by unfold sgL; rw [if_neg (by decide), if_neg (by omega)]
      rw [e]
      obtain ⟨g, E, G⟩ := st 5 (by decide) [32, 43, 32] rfl (by decide) (by decide)
      exact ⟨g, E, G.1, fc_104 (by omega) S H G hv (by rw [List.length_append]; show _ + 3 + 35 ≤ _; omega)⟩
    · have e : sgL false v = [32, 45, 32] := by unfold sgL; rw [if_neg (by decide), if_pos (by omega)]
      rw [e]
      obtain ⟨g, E, G⟩ := st 4 (by decide) [32, 45, 32] rfl (by decide) (by decide)
      exact ⟨g, E, G.1, fc_104 (by omega) S H G hv (by rw [List.length_append]; show _ + 3 + 35 ≤ _; omega)⟩
  | true =>
    refine ⟨fun z => absurd z (by decide), fun _ => ⟨fun z => ?_, fun z => ?_⟩⟩
    · have e : sgL true v = [] := by unfold sgL; rw [if_pos rfl, if_neg (by omega)]
      rw [e]
      obtain ⟨g, E, G⟩ := st 3 (by decide) [] rfl (by decide) (by decide)
      exact ⟨g, E, G.1, c_104_25 (by omega) G.1 (fc_104 (by omega) S H G hv (by rw [List.length_append]; show _ + 0 + 35 ≤ _; omega))⟩
    · have e : sgL true v = [45] := by unfold sgL; rw [if_pos rfl, if_pos (by omega)]
      rw [e]
      obtain ⟨g, E, G⟩ := st 2 (by decide) [45] rfl (by decide) (by decide)
      exact ⟨g, E, G.1, c_104_25 (by omega) G.1 (fc_104 (by omega) S H G hv (by rw [List.length_append]; show _ + 1 + 35 ≤ _; omega))⟩
theorem m_105 (hd : 10 ≤ d) (L : Ly p h) (P : Pap W h) (hv : r64 v) (hl : W.length + 21 ≤ 1551) : ∃ h', jE d 105 [jP 32, jL v] h none h' ∧ PA p (W ++ endL v) h h' := by
  suffices hh : ∃ w h', jE d 105 [jP 32, jL v] h w h' ∧ w = none ∧ PA p (W ++ endL v) h h' by
    obtain ⟨w, h', hE, rfl, q⟩ := hh
    exact ⟨h', hE, q⟩
  obtain ⟨d, rfl⟩ : ∃ d', d = d' + 1 := ⟨d - 1, by omega⟩
  have cn := jcmp_n (a := v) (b := 0)
  have l19 := szL_19 hv
  refine jE_of (as := [jP 32, jL v]) (Nat.le_of_ble_eq_true rfl) (c_105_0 (by omega) L ⟨fun z => ?_, fun z => ?_⟩)
  · have e : W ++ endL v = W ++ szL v ++ [59] := by unfold endL; rw [if_neg (by omega), List.nil_append, ← List.append_assoc]
    rw [e]
    obtain ⟨g1, E1, G1⟩ := m_5 (d := d) (v := v) (by omega) L P hv (by omega)
    obtain ⟨g2, E2, G2⟩ := m_2p (d := d) (v := 59) (by omega) G1.1 G1.2.1 (by rw [List.length_append]; omega) (by omega) (by omega)
    exact ⟨g1, E1, G1.1, g2, E2, G2.1, rfl, PA.tr G1.2.2 G2⟩
  · have e : W ++ endL v = W ++ [45] ++ szL v ++ [59] := by unfold endL; rw [if_pos (by omega)]; simp only [List.append_assoc]
    rw [e]
    obtain ⟨g0, E0, G0⟩ := m_2p (d := d) (v := 45) (by omega) L P (by omega) (by omega) (by omega)
    have l0 : (W ++ [45]).length = W.length + 1 := by rw [List.length_append]; rfl
    obtain ⟨g1, E1, G1⟩ := m_5 (d := d) (v := v) (by omega) G0.1 G0.2.1 hv (by omega)
    obtain ⟨g2, E2, G2⟩ := m_2p (d := d) (v := 59) (by omega) G1.1 G1.2.1 (by rw [List.length_append]; omega) (by omega) (by omega)
    exact ⟨g0, E0, G0.1, g1, E1, G1.1, g2, E2, G2.1, rfl, PA.tr G0.2.2 (PA.tr G1.2.2 G2)⟩
end CPR
