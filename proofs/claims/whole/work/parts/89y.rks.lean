/-! THE REFERENCE: all rows are kept -/
theorem w64_sub (x y : Int) : w64 (w64 x - w64 y) = w64 (x - y) := by unfold w64; omega
section RKS
variable {p : Lpar} {d r x row A : Nat} {h h' g g0 : AH} {c : Dc} {Q : Option AV → AH → Prop} {a b : Int} {z5 : AV} {f f2 : Nat → Int}
abbrev Z193 (row : Nat) (i k : Nat) : Prop := (i = 193 ∧ 41 * row ≤ k ∧ k ≤ 41 * row + 40) ∨ (i = 141 ∧ k = 72)
/-- the factors of a row -/
theorem row_159c (hd : 9 ≤ d) (L : Ly p g) (e72 : ji g 141 72 = (row : Int)) (hc : row < 40) (hx : x ≤ 64) (K0 : StK g 0 f) (K1 : StK g 1 f2) (K : ∀ g' y5, Ly p g' → Fq (Z193 row) g g' → (∀ j, j < 40 → jl g' 193 (41 * row + j) = w64 (f j - f2 j)) → jl g' 193 (41 * row + 40) = w64 (f2 40 - f 40) → ji g' 141 72 = ((row + 1 : Nat) : Int) → WF d 159 38 [jP 141, jI (r : Int), jI a, jI b, jI ((x + 1 : Nat) : Int), jI y5] [] g' Q) : WF d 159 220 [jP 141, jI (r : Int), jI a, jI b, jI (x : Int), z5] [] g Q := by
  have key : ∀ (s i : Nat) (gg : AH), 40 = i + s → Ly p gg → Fq (Z193 row) g gg → ji gg 141 72 = (row : Int) → (∀ j, j < i → jl gg 193 (41 * row + j) = w64 (f j - f2 j)) → WF d 159 223 [jP 141, jI (r : Int), jI a, jI b, jI (x : Int), jI (i : Int)] [] gg Q := by
    intro s
    induction s with
    | zero =>
      intro i gg hi L F e A
      have p1 : jl gg 172 81 = w64 (f2 40) := (F.l (by omega)).trans (K1 40 (by omega))
      have p2 : jl gg 172 40 = w64 (f 40) := (F.l (by omega)).trans (K0 40 (by omega))
      refine c_159_223 hd L ⟨fun _ => ?_, fun z => by omega⟩
      rw [e, w32_i (x := 41 * (row : Int)) (by omega) (by omega), w32_i (x := 41 * (row : Int) + 40) (by omega) (by omega), show 41 * (row : Int) + 40 = ((41 * row + 40 : Nat) : Int) by omega, Int.toNat_natCast, show Int.toNat 81 = 81 from rfl, show Int.toNat 40 = 40 from rfl, p1, p2, w64_sub]
      refine ⟨by omega, by omega, fun L2 => c_159_299 hd L2 ?_⟩
      rw [ji_wl, e, w32_i (x := (row : Int) + 1) (by omega) (by omega)]
      refine fun L3 => c_159_309 hd L3 ?_
      rw [w32_i (x := (x : Int) + 1) (by omega) (by omega)]
      refine K _ _ L3 ((F.trans (Fq.wl (by omega))).trans (Fq.wi (by omega))) (fun j hj => ?_) ?_ ?_
      · rw [jl_wi, jl_wl, if_neg (by omega)]; exact A j (by omega)
      · rw [jl_wi, jl_wl, if_pos ⟨rfl, rfl⟩]
      · rw [ji_wi, if_pos ⟨rfl, rfl⟩]; omega
    | succ s ih =>
      intro i gg hi L F e A
      have p1 : jl gg 172 (41 + i) = w64 (f2 i) := (F.l (by omega)).trans (K1 i (by omega))
      have p2 : jl gg 172 i = w64 (f i) := by
        have q := K0 i (by omega)
        rw [show 41 * 0 + i = i by omega] at q
        exact (F.l (by omega)).trans q
      refine c_159_223 hd L ⟨fun z => by omega, fun _ => ?_⟩
      rw [e, w32_i (x := 41 * (row : Int)) (by omega) (by omega), w32_i (x := 41 * (row : Int) + (i : Int)) (by omega) (by omega), w32_i (x := 41 + (i : Int)) (by omega) (by omega), show 41 * (row : Int) + (i : Int) = ((41 * row + i : Nat) : Int) by omega, show 41 + (i : Int) = ((41 + i : Nat) : Int) by omega, Int.toNat_natCast, Int.toNat_natCast, Int.toNat_natCast, p1, p2, w64_sub]
      refine ⟨by omega, by omega, by omega, by omega, by omega, by omega, fun L2 => c_159_263 hd L2 ?_⟩
      rw [w32_i (x := (i : Int) + 1) (by omega) (by omega)]
      refine ih (i + 1) _ (by omega) L2 (F.trans (Fq.wl (by omega))) (by rw [ji_wl]; exact e) (fun j hj => ?_)
      rw [jl_wl]
      by_cases ej : j = i
      · rw [if_pos ⟨rfl, by omega⟩, ej]
      · rw [if_neg (by omega)]; exact A j (by omega)
  exact c_159_220 hd L (key 40 0 g (by omega) L Fq.refl e72 (fun j hj => absurd hj (Nat.not_lt_zero j)))
theorem KpW.fq {Z : Nat → Nat → Prop} {m : Nat} (W : KpW g c m) (F : Fq Z g h) (hz : ∀ i k y, y < m → Z i k → ¬ ((189 ≤ i ∧ i ≤ 192) ∧ k = y) ∧ ¬ (i = 193 ∧ 41 * y ≤ k ∧ k ≤ 41 * y + 40)) : KpW h c m := by
  intro y hy
  obtain ⟨w1, w2, w3, w4, w5, w6⟩ := W y hy
  have s : ∀ i, 189 ≤ i → i ≤ 192 → ji h i y = ji g i y := fun i h1 h2 => F.i (fun z => (hz i y y hy z).1 ⟨⟨h1, h2⟩, rfl⟩)
  have t : ∀ j, j ≤ 40 → jl h 193 (41 * y + j) = jl g 193 (41 * y + j) := fun j hj => F.l (fun z => (hz 193 (41 * y + j) y hy z).2 ⟨rfl, by omega, by omega⟩)
  exact ⟨(s 189 (by omega) (by omega)).trans w1, (s 190 (by omega) (by omega)).trans w2, (s 191 (by omega) (by omega)).trans w3, (s 192 (by omega) (by omega)).trans w4, fun j hj => (t j (by omega)).trans (w5 j hj), (t 40 (by omega)).trans w6⟩
/-- the rows of one RULE -/
theorem l_159b (hd : 16 ≤ d) (hr : r < (dR c).length) : ∀ (s x : Nat) (g : AH) (z5 : AV), szO (dS c) ((dR c).getD r (-1, -1)).1 * szO (dS c) ((dR c).getD r (-1, -1)).2 = ((x + s : Nat) : Int) → RkS p c A g → ji g 141 72 = stO (dS c) (dR c) r + (x : Int) → KpW g c ((stO (dS c) (dR c) r).toNat + x) → Fq ZKr g0 g → (∀ g' y4 y5, RkS p c A g' → Fq ZKr g0 g' → ji g' 141 72 = stO (dS c) (dR c) (r + 1) → KpW g' c (stO (dS c) (dR c) (r + 1)).toNat → WF d 159 7 [jP 141, jI ((r + 1 : Nat) : Int), jI ((dR c).getD r (-1, -1)).1, jI ((dR c).getD r (-1, -1)).2, jI y4, y5] [] g' Q) → WF d 159 38 [jP 141, jI (r : Int), jI ((dR c).getD r (-1, -1)).1, jI ((dR c).getD r (-1, -1)).2, jI (x : Int), z5] [] g Q := by
  intro s
  induction s with
  | zero =>
    intro x g z5 hx S e W F K
    have O := S.1.2.2.1
    have hS : okS (dS c) := O.1.2.1
    have lR : (dR c).length ≤ 10 := O.2.1.1
    have t0 : 0 ≤ stO (dS c) (dR c) r := (tot_r hS _).1
    have t1 := stO_succ (S := dS c) hr
    refine c_159_38 (by omega) S.1.1 ⟨_, g, m_155 (by omega) S.1.1 S.1.2.1 O S.2.1 hr, S.1.1, fun _ => ?_, fun z => by omega⟩
    rw [w32_i (x := (r : Int) + 1) (by omega) (by omega)]
    refine K g _ z5 S F (by omega) ?_
    rw [show (stO (dS c) (dR c) (r + 1)).toNat = (stO (dS c) (dR c) r).toNat + x by omega]
    exact W
  | succ s ih =>
    intro x g z5 hx S e W F K
    have O := S.1.2.2.1
    have hS : okS (dS c) := O.1.2.1
    have lR : (dR c).length ≤ 10 := O.2.1.1
    have lL : (dL c).length = (dR c).length := O.2.2.2.1
    have t40 := S.2.2.2.2.2
    have ho := O.2.1.2 _ (getD_mem hr (-1, -1))
    have sz := sz2_r hS ((dR c).getD r (-1, -1)).1 ((dR c).getD r (-1, -1)).2
    have hxl : (x : Int) < szO (dS c) ((dR c).getD r (-1, -1)).1 * szO (dS c) ((dR c).getD r (-1, -1)).2 := by omega
    obtain ⟨o1, o2, o3, o4, o5, o6⟩ := ow_of hS O.2.1 hr hxl
    obtain ⟨row, hrow⟩ : ∃ row : Nat, (row : Int) = stO (dS c) (dR c) r + (x : Int) := ⟨(stO (dS c) (dR c) r + (x : Int)).toNat, by omega⟩
    have hI := in_row O hr hxl hrow
    rw [← hrow] at o1 o2 o3 o4 e
    rw [show (stO (dS c) (dR c) r).toNat + x = row by omega] at W
    refine c_159_38 (by omega) S.1.1 ⟨_, g, m_155 (by omega) S.1.1 S.1.2.1 O S.2.1 hr, S.1.1, fun z => by omega, fun _ => ?_⟩
    rw [e, Int.toNat_natCast]
    refine ⟨by omega, by omega, fun L1 => ?_⟩
    have F1 : Fq (fun i k => i = 189 ∧ k = row) g (wi g 189 row (r : Int)) := Fq.wi ⟨rfl, rfl⟩
    have e1 : ji (wi g 189 row (r : Int)) 189 row = (r : Int) := by rw [ji_wi, if_pos ⟨rfl, rfl⟩]
    generalize wi g 189 row (r : Int) = g1 at L1 F1 e1 ⊢
    have S1 : RkS p c A g1 := S.fq (F1.mono (fun a k z => by omega))
    have rel := (S1.2.1.2.1 r (by omega)).1
    refine row_159a (by omega) L1 S1.1.2.1 hS ((F1.i (by omega)).trans e) (by omega) rel (by omega) (by omega) (by omega) o6 (by omega) (fun g2 L2 F2 f2 f3 f4 => ?_)
    have S2 : RkS p c A g2 := S1.fq (F2.mono (fun a k z => by omega))
    rw [← o2] at f2
    rw [← o3] at f3
    have e2 : ji g2 141 72 = (row : Int) := (F2.i (by omega)).trans ((F1.i (by omega)).trans e)
    refine row_159b hd S2 hr e2 (by omega) hI f2 f3 (fun g3 S3 F3 k0 k1 => ?_)
    have e3 : ji g3 141 72 = (row : Int) := (F3.i (by omega)).trans e2
    refine row_159c (by omega) S3.1.1 e3 (by omega) (by omega) k0 k1 (fun g4 y5 L4 F4 h1 h2 h3 => ?_)
    have S4 : RkS p c A g4 := S3.fq (F4.mono (fun a k z => by omega))
    have W4 : KpW g4 c row := (((W.fq F1 (fun i k y hy z => by omega)).fq F2 (fun i k y hy z => by omega)).fq F3 (fun i k y hy z => by omega)).fq F4 (fun i k y hy z => by omega)
    refine ih (x + 1) g4 _ (by omega) S4 (by omega) ?_ ((((F.trans (F1.mono (fun a k z => by omega))).trans (F2.mono (fun a k z => by omega))).trans (F3.mono (fun a k z => by omega))).trans (F4.mono (fun a k z => by omega))) K
    rw [show (stO (dS c) (dR c) r).toNat + (x + 1) = row + 1 by omega]
    intro y hy
    by_cases ey : y = row
    · subst ey
      have j : ∀ i, 189 ≤ i → i ≤ 192 → ji g4 i y = ji g2 i y := fun i z1 z2 => (F4.i (by omega)).trans (F3.i (by omega))
      have eR : ∀ q, rowL c y q = lin c ((dL c).getD r zL).2.1 (rnu c y) q - lin c ((dL c).getD r zL).2.2 (rnu c y) q := fun q => by
        unfold rowL; rw [o1, Int.toNat_natCast]
      refine ⟨?_, ?_, ?_, ?_, fun q hq => ?_, ?_⟩
      · rw [j 189 (by omega) (by omega), F2.i (by omega), e1, o1]
      · rw [j 190 (by omega) (by omega)]; exact f2
      · rw [j 191 (by omega) (by omega)]; exact f3
      · rw [j 192 (by omega) (by omega), o1, Int.toNat_natCast]; exact f4
      · rw [h1 q hq, eR]
      · rw [h2, eR]
        congr 1
        omega
    · exact W4 y (by omega)
theorem l_159a (hd : 16 ≤ d) : ∀ (s r : Nat) (g : AH) (z2 z3 z4 z5 : AV), (dR c).length = r + s → RkS p c A g → ji g 141 72 = stO (dS c) (dR c) r → KpW g c (stO (dS c) (dR c) r).toNat → Fq ZKr g0 g → (∀ g', RkS p c A g' → Fq ZKr g0 g' → ji g' 141 72 = tot (dS c) (dR c) → KpW g' c (tot (dS c) (dR c)).toNat → Q none g') → WF d 159 7 [jP 141, jI (r : Int), z2, z3, z4, z5] [] g Q := by
  intro s
  induction s with
  | zero =>
    intro r g z2 z3 z4 z5 hr S e W F K
    have q := stO_len (dS c) (dR c)
    rw [show (dR c).length = r by omega] at q
    refine c_159_7 (by omega) S.1.1 ?_
    rw [S.2.2.2.2.1]
    refine ⟨fun _ => K g S F (by rw [e, q]) (by rw [← q]; exact W), fun z => by omega⟩
  | succ s ih =>
    intro r g z2 z3 z4 z5 hr S e W F K
    have O := S.1.2.2.1
    have lR : (dR c).length ≤ 10 := O.2.1.1
    have hS : okS (dS c) := O.1.2.1
    have q := S.2.1.1 r (by omega)
    refine c_159_7 (by omega) S.1.1 ?_
    rw [S.2.2.2.2.1, w32_i (x := 2 * (r : Int)) (by omega) (by omega), show 2 * (r : Int) = ((2 * r : Nat) : Int) by omega, Int.toNat_natCast, q.1]
    refine ⟨fun z => by omega, fun _ => ⟨by omega, by omega, c_159_24 (by omega) S.1.1 ?_⟩⟩
    rw [w32_i (x := 2 * (r : Int)) (by omega) (by omega), w32_i (x := 2 * (r : Int) + 1) (by omega) (by omega), show 2 * (r : Int) + 1 = ((2 * r + 1 : Nat) : Int) by omega, Int.toNat_natCast, q.2]
    refine ⟨by omega, by omega, c_159_35 (by omega) S.1.1 ?_⟩
    have sz := sz2_r hS ((dR c).getD r (-1, -1)).1 ((dR c).getD r (-1, -1)).2
    refine l_159b hd (by omega) (szO (dS c) ((dR c).getD r (-1, -1)).1 * szO (dS c) ((dR c).getD r (-1, -1)).2).toNat 0 g z5 (by omega) S (by rw [e]; omega) W F (fun g' y4 y5 S' F' e' W' => ?_)
    exact ih (r + 1) g' _ _ _ _ (by omega) S' e' W' F' K
theorem m_159 (hd : 17 ≤ d) (S : RkS p c A h) : ∃ h', jE d 159 [jP 141] h none h' ∧ RkS p c A h' ∧ Fq ZKr h h' ∧ ji h' 141 72 = tot (dS c) (dR c) ∧ KpW h' c (tot (dS c) (dR c)).toNat := by
  suffices hh : ∃ w h', jE d 159 [jP 141] h w h' ∧ w = none ∧ RkS p c A h' ∧ Fq ZKr h h' ∧ ji h' 141 72 = tot (dS c) (dR c) ∧ KpW h' c (tot (dS c) (dR c)).toNat by
    obtain ⟨w, h', hE, rfl, q⟩ := hh
    exact ⟨h', hE, q⟩
  obtain ⟨d, rfl⟩ : ∃ d', d = d' + 1 := ⟨d - 1, by omega⟩
  refine jE_of (as := [jP 141]) (Nat.le_of_ble_eq_true rfl) (c_159_0 (by omega) S.1.1 (fun L1 => c_159_5 (by omega) L1 ?_))
  have F1 : Fq ZKr h (wi h 141 72 0) := Fq.wi (by omega)
  have e1 : ji (wi h 141 72 0) 141 72 = 0 := by rw [ji_wi, if_pos ⟨rfl, rfl⟩]
  generalize wi h 141 72 0 = g at L1 F1 e1 ⊢
  exact l_159a (by omega) (dR c).length 0 g _ _ _ _ (by omega) (S.fq F1) e1 (fun x hx => absurd hx (Nat.not_lt_zero x)) F1 (fun g' S' F' e' W' => ⟨rfl, S', F', e', W'⟩)
end RKS
