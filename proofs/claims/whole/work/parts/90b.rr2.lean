/-! THE REFERENCE: its state, read -/
def okM2 (c : Dc) : Prop := okD c ∧ tot (dS c) (dX c) ≤ 40 ∧ tot (dS c) (dR c) ≤ 40 ∧ 0 ≤ dWk c ∧ dWk c ≤ 20000
def KpG (h : AH) (c : Dc) : Prop := ji h 141 78 = dG c ∧ (¬ dG c = 0 → ∀ j, j ≤ 40 → jl h 194 j = w64 (lin c (dE c) (fun _ => 0) j)) ∧ jl h 141 80 = dWk c
def Rst (p : Lpar) (T : Txt) (c : Dc) (pt : Nat → Int) (h : AH) : Prop := Ly p h ∧ TxM T h ∧ okM2 c ∧ KpT h c ∧ (ji h 141 65 = tot (dS c) (dX c) ∧ KpC h c pt (tot (dS c) (dX c)).toNat) ∧ (ji h 141 72 = tot (dS c) (dR c) ∧ KpW h c (tot (dS c) (dR c)).toNat) ∧ KpG h c
abbrev ZRd (a k : Nat) : Prop := 141 ≤ a ∧ a ≤ 194 ∧ ¬ (a = 141 ∧ 81 ≤ k)
/-- what read leaves of an old model -/
abbrev ZRo (a k : Nat) : Prop := (a = 141 ∧ (k ≤ 52)) ∨ (142 ≤ a ∧ a ≤ 174)
section RR2
variable {p p' : Lpar} {d A : Nat} {h h' g g0 : AH} {c : Dc} {T T' : Txt} {pt : Nat → Int} {Q : Option AV → AH → Prop} {v1 v2 v3 : Int}
theorem nmA_or (s : Int) : nmA s = 143 ∨ nmA s = 146 ∨ nmA s = 149 ∨ nmA s = 153 ∨ nmA s = 158 := by
  unfold nmA
  split
  · exact Or.inl rfl
  split
  · exact Or.inr (Or.inl rfl)
  split
  · exact Or.inr (Or.inr (Or.inl rfl))
  split
  · exact Or.inr (Or.inr (Or.inr (Or.inl rfl)))
  · exact Or.inr (Or.inr (Or.inr (Or.inr rfl)))
theorem NmM.fq2 {Z : Nat → Nat → Prop} {G : NmL} {n : Nat → Nat} (M : NmM g G n) (F : Fq Z g h) (hz : ∀ a k, Z a k → ¬ (a = 141 ∧ (k = 7 ∨ k = 11 ∨ k = 15 ∨ k = 20 ∨ k = 30)) ∧ ¬ (a = 143 ∨ a = 146 ∨ a = 149 ∨ a = 153 ∨ a = 158)) : NmM h G n := by
  obtain ⟨⟨n0, n1, n2, n3, n4⟩, ne, om⟩ := M
  have s : ∀ k, (k = 7 ∨ k = 11 ∨ k = 15 ∨ k = 20 ∨ k = 30) → ji h 141 k = ji g 141 k := fun k hk => F.i (fun z => (hz 141 k z).1 ⟨rfl, hk⟩)
  exact ⟨⟨(s _ (by omega)).trans n0, (s _ (by omega)).trans n1, (s _ (by omega)).trans n2, (s _ (by omega)).trans n3, (s _ (by omega)).trans n4⟩, fun x hx => (F.i (fun z => (hz _ _ z).2 (nmA_or _))).trans (ne x hx), om⟩
theorem KpC.fq {Z : Nat → Nat → Prop} {m : Nat} (C : KpC g c pt m) (F : Fq Z g h) (hz : ∀ i k, Z i k → ¬ (183 ≤ i ∧ i ≤ 188)) : KpC h c pt m := by
  intro x hx
  obtain ⟨c1, c2, c3, c4, c5, c6⟩ := C x hx
  have s : ∀ i, 183 ≤ i → i ≤ 188 → ji h i x = ji g i x := fun i h1 h2 => F.i (fun z => hz i x z ⟨h1, h2⟩)
  exact ⟨(s _ (by omega) (by omega)).trans c1, (s _ (by omega) (by omega)).trans c2, (s _ (by omega) (by omega)).trans c3, (s _ (by omega) (by omega)).trans c4, (s _ (by omega) (by omega)).trans c5, (s _ (by omega) (by omega)).trans c6⟩
theorem KpG.fq {Z : Nat → Nat → Prop} (G : KpG g c) (F : Fq Z g h) (z1 : ¬ Z 141 78) (z2 : ¬ Z 141 80) (z3 : ∀ k, ¬ Z 194 k) : KpG h c := ⟨(F.i z1).trans G.1, fun z j hj => (F.l (z3 j)).trans (G.2.1 z j hj), (F.l z2).trans G.2.2⟩
theorem Rst.old (S : Rst p T c pt g) (F : Fq ZRo g h) (L : Ly p h) (e : ji h 141 1 = 0) : Rst p (0, T'.2) c pt h := by
  obtain ⟨_, _, O, K, ⟨e1, C⟩, ⟨e2, W⟩, G⟩ := S
  exact ⟨L, ⟨e, fun k hk => absurd hk (Nat.not_lt_zero k)⟩, O, K.cg (fun a k z1 z2 => F.i (by omega)), ⟨(F.i (by omega)).trans e1, C.fq F (fun i k z => by omega)⟩, ⟨(F.i (by omega)).trans e2, W.fq F (fun i k y hy z => by omega)⟩, G.fq F (by omega) (by omega) (fun k => by omega)⟩
/-- the prices -/
theorem l_156c (hd : 9 ≤ d) {f : Nat → Int} (K0 : StK g 0 f) : ∀ (s i : Nat) (gg : AH), 41 = i + s → Ly p gg → Fq (fun a _ => a = 194) g gg → (∀ j, j < i → jl gg 194 j = w64 (f j)) → (∀ g', Ly p g' → Fq (fun a _ => a = 194) g g' → (∀ j, j ≤ 40 → jl g' 194 j = w64 (f j)) → Q (some (jI (ji g' 141 72))) g') → WF d 156 219 [jP 141, jI v1, jI v2, jL v3, jU, jI (i : Int)] [] gg Q := by
  intro s
  induction s with
  | zero =>
    intro i gg hi L F A K
    exact c_156_219 hd L ⟨fun _ => K gg L F (fun j hj => A j (by omega)), fun z => by omega⟩
  | succ s ih =>
    intro i gg hi L F A K
    have p2 : jl gg 172 i = w64 (f i) := by
      have q := K0 i (by omega)
      rw [show 41 * 0 + i = i by omega] at q
      exact (F.l (by omega)).trans q
    refine c_156_219 hd L ⟨fun z => by omega, fun _ => ?_⟩
    rw [Int.toNat_natCast, p2]
    refine ⟨by omega, by omega, by omega, by omega, fun L2 => c_156_240 hd L2 ?_⟩
    rw [w32_i (x := (i : Int) + 1) (by omega) (by omega)]
    refine ih (i + 1) _ (by omega) L2 (F.trans (Fq.wl rfl)) (fun j hj => ?_) K
    rw [jl_wl]
    by_cases ej : j = i
    · rw [if_pos ⟨rfl, ej⟩, ej]
    · rw [if_neg (fun q => ej q.2)]; exact A j (by omega)
/-- all is kept -/
theorem rd_171 (hd : 18 ≤ d) (S : RkS p c A g) (M : NmM g (dN c) (cnt c)) (O : okM2 c) (e80 : jl g 141 80 = dWk c) (X0 : ji g 141 1 = 0) {v5 : Int} (K : ∀ g', Fq ZRd g g' → Rst p (0, T.2) c (lowP c) g' → Q (some (jI (tot (dS c) (dR c)))) g') : WF d 156 171 [jP 141, jI (tot (dS c) (dX c)), jI v2, jL v3, jU, jI v5] [] g Q := by
  obtain ⟨h1, hE1, L1, F1, K1⟩ := m_157 (d := d) (by omega) S.1.1 M S.1.2.1 O.1 S.1.2.2.2.2
  have S1 : RkS p c A h1 := by
    obtain ⟨⟨C1, C2, C3, C4, C5⟩, R, hA, sh, e, t⟩ := S
    exact ⟨⟨L1, C2.cg (fun a k z => F1.i (by omega)), C3, C4, fun k hk => (F1.i (by omega)).trans (C5 k hk)⟩, R.cg (Nat.le_refl _) (fun a k z => F1.i (by omega)) (fun a k z => F1.l (by omega)), hA, sh, (F1.i (by omega)).trans e, t⟩
  have e15 : ji h1 141 15 = ((dX c).length : Int) := (F1.i (by omega)).trans M.1.2.2.1
  obtain ⟨h2, hE2, L2, F2, e65, K2⟩ := m_158 (d := d) (v1 := tot (dS c) (dX c)) (by omega) L1 S1.1.2.1 O.1 O.2.1 e15 S1.1.2.2.2.2
  have S2 : RkS p c A h2 := by
    obtain ⟨⟨C1, C2, C3, C4, C5⟩, R, hA, sh, e, t⟩ := S1
    exact ⟨⟨L2, C2.cg (fun a k z => F2.i (by omega)), C3, C4, fun k hk => (F2.i (by omega)).trans (C5 k hk)⟩, R.cg (Nat.le_refl _) (fun a k z => F2.i (by omega)) (fun a k z => F2.l (by omega)), hA, sh, (F2.i (by omega)).trans e, t⟩
  obtain ⟨h3, hE3, S3, F3, e72, K3⟩ := m_159 (d := d) (by omega) S2
  have F13 : Fq ZRd g h3 := ((F1.mono (fun a k z => by omega)).trans (F2.mono (fun a k z => by omega))).trans (F3.mono (fun a k z => by omega))
  refine c_156_171 (by omega) S.1.1 ⟨h1, hE1, L1, c_156_175 (by omega) L1 ⟨h2, hE2, L2, c_156_180 (by omega) L2 ⟨h3, hE3, S3.1.1, c_156_184 (by omega) S3.1.1 ?_⟩⟩⟩
  have e26 : ji h3 141 26 = dG c := S3.2.1.2.2.1
  rw [e26]
  intro L4
  have F4 : Fq (fun a k => a = 141 ∧ k = 78) h3 (wi h3 141 78 (dG c)) := Fq.wi ⟨rfl, rfl⟩
  have e78 : ji (wi h3 141 78 (dG c)) 141 78 = dG c := by rw [ji_wi, if_pos ⟨rfl, rfl⟩]
  generalize wi h3 141 78 (dG c) = h4 at L4 F4 e78 ⊢
  have T4 : KpT h4 c := K1.cg (fun a k z1 z2 => (F4.i (by omega)).trans ((F3.i (by omega)).trans (F2.i (by omega))))
  have C4 : KpC h4 c (lowP c) (tot (dS c) (dX c)).toNat := (K2.fq F3 (fun i k z => by omega)).fq F4 (fun i k z => by omega)
  have W4 : KpW h4 c (tot (dS c) (dR c)).toNat := K3.fq F4 (fun i k y hy z => by omega)
  have e65' : ji h4 141 65 = tot (dS c) (dX c) := (F4.i (by omega)).trans ((F3.i (by omega)).trans e65)
  have e72' : ji h4 141 72 = tot (dS c) (dR c) := (F4.i (by omega)).trans e72
  have e80' : jl h4 141 80 = dWk c := (F4.l (by omega)).trans ((F3.l (by omega)).trans ((F2.l (by omega)).trans ((F1.l (by omega)).trans e80)))
  have e1' : ji h4 141 1 = 0 := (F4.i (by omega)).trans ((F3.i (by omega)).trans ((F2.i (by omega)).trans ((F1.i (by omega)).trans X0)))
  have e26' : ji h4 141 26 = dG c := (F4.i (by omega)).trans e26
  have F14 : Fq ZRd g h4 := F13.trans (F4.mono (fun a k z => by omega))
  have hg := O.1.2.2.2.2.2.2.2.2.2.1
  refine c_156_192 (by omega) L4 ?_
  rw [e26']
  refine ⟨fun z => ?_, fun z => ?_⟩
  · rw [e72']
    exact K h4 F14 ⟨L4, ⟨e1', fun k hk => absurd hk (Nat.not_lt_zero k)⟩, O, T4, ⟨e65', C4⟩, ⟨e72', W4⟩, e78, fun y => absurd (by omega) y, e80'⟩
  · have hg0 : ¬ dG c = 0 := by omega
    intro L5
    have F5 : Fq (fun a k => a = 141 ∧ k = 54) h4 (wi h4 141 54 0) := Fq.wi ⟨rfl, rfl⟩
    have e54 : ji (wi h4 141 54 0) 141 54 = ((0 : Nat) : Int) := by rw [ji_wi, if_pos ⟨rfl, rfl⟩]; rfl
    generalize wi h4 141 54 0 = h5 at L5 F5 e54 ⊢
    have S5 : RkS p c A h5 := by
      obtain ⟨⟨C1, C2, C3, C4, C5⟩, R, hA, sh, e, t⟩ := S3
      have i5 : ∀ a k, ¬ (a = 141 ∧ (k = 54 ∨ k = 78)) → ji h5 a k = ji h3 a k := fun a k z => (F5.i (by omega)).trans (F4.i (by omega))
      have l5 : ∀ a k, ¬ (a = 141 ∧ (k = 54 ∨ k = 78)) → jl h5 a k = jl h3 a k := fun a k z => (F5.l (by omega)).trans (F4.l (by omega))
      exact ⟨⟨L5, C2.cg (fun a k z => i5 a k (by omega)), C3, C4, fun k hk => (i5 _ _ (by omega)).trans (C5 k hk)⟩, R.cg (Nat.le_refl _) (fun a k z => i5 a k (by omega)) (fun a k z => l5 a k (by omega)), hA, sh, (i5 _ _ (by omega)).trans e, t⟩
    obtain ⟨_, ca, cb, hA, q4, q5, c1⟩ := S5.2.1.2.2.2 hg0
    have hA2 := S5.2.2.1
    obtain ⟨h6, hE6, C6, F6, K6, _⟩ := m_151 (d := d) (b := 0) (sl := []) (nu := fun _ => 0) (by omega) (S5.2.2.2.1.2 hg0) O.1.2.2.2.2.2.2.2.2.2.2.1 (by decide) S5.1 c1 (fun s hs => absurd hs (Nat.not_lt_zero s)) (fun s hs => absurd hs (Nat.not_lt_zero s)) e54 (by omega) (by omega)
    refine c_156_204 (by omega) L5 ?_
    rw [q4, q5]
    refine ⟨h6, hE6, C6.1, c_156_216 (by omega) C6.1 ?_⟩
    refine l_156c (by omega) K6 41 0 h6 (by omega) C6.1 Fq.refl (fun j hj => absurd hj (Nat.not_lt_zero j)) (fun g' L' F' P' => ?_)
    have i6 : ∀ a k, ¬ (a = 172 ∨ a = 173 ∨ a = 194 ∨ (a = 141 ∧ k = 54)) → ji g' a k = ji h4 a k := fun a k z => (F'.i (by omega)).trans ((F6.i (by omega)).trans (F5.i (by omega)))
    have l6 : ∀ a k, ¬ (a = 172 ∨ a = 173 ∨ a = 194 ∨ (a = 141 ∧ k = 54)) → jl g' a k = jl h4 a k := fun a k z => (F'.l (by omega)).trans ((F6.l (by omega)).trans (F5.l (by omega)))
    rw [i6 141 72 (by omega), e72']
    have F46 : Fq (fun a k => a = 172 ∨ a = 173 ∨ a = 194 ∨ (a = 141 ∧ k = 54)) h4 g' := ((F5.mono (fun a k z => by omega)).trans (F6.mono (fun a k z => by omega))).trans (F'.mono (fun a k z => by omega))
    refine K g' (F14.trans (F46.mono (fun a k z => by omega))) ⟨L', ⟨(i6 _ _ (by omega)).trans e1', fun k hk => absurd hk (Nat.not_lt_zero k)⟩, O, T4.cg (fun a k z1 z2 => i6 a k (by omega)), ⟨(i6 _ _ (by omega)).trans e65', C4.fq F46 (fun i k z => by omega)⟩, ⟨(i6 _ _ (by omega)).trans e72', W4.fq F46 (fun i k y hy z => by omega)⟩, (i6 _ _ (by omega)).trans e78, fun _ j hj => P' j hj, (l6 _ _ (by omega)).trans e80'⟩
def RdR (p : Lpar) (T : Txt) (c : Dc) (pt : Nat → Int) (h : AH) (v : Int) (h' : AH) : Prop := Fq ZRd h h' ∧ Rs (pText T 400 D0 0) (fun q => v = -10 - (q : Int) ∧ Rst p (0, T.2) c pt h') (fun c' => (tooL c' ∧ v = -100004 ∧ Rst p (0, T.2) c pt h') ∨ (¬ tooL c' ∧ v = tot (dS c') (dR c') ∧ Rst p (0, T.2) c' (lowP c') h'))
theorem m_156 (hd : 28 ≤ d) (S : Rst p T c pt h) (hT : okT T) : ∃ v h', jE d 156 [jP 141] h (some (jI v)) h' ∧ RdR p T c pt h v h' := by
  suffices hh : ∃ w h', jE d 156 [jP 141] h w h' ∧ ∃ v, w = some (jI v) ∧ RdR p T c pt h v h' by
    obtain ⟨w, h', hE, v, rfl, q⟩ := hh
    exact ⟨v, h', hE, q⟩
  obtain ⟨d, rfl⟩ : ∃ d', d = d' + 1 := ⟨d - 1, by omega⟩
  obtain ⟨e, he, he4⟩ := stop_ex T
  have he4 : e ≤ 400 := Nat.le_trans he4 hT.1
  obtain ⟨w, h1, hE1, rfl, L1, F1, R1⟩ := q_135 (d := d) (by omega) ⟨S.1, hT, he, he4, S.2.1⟩
  refine jE_of (as := [jP 141]) (Nat.le_of_ble_eq_true rfl) (c_156_0 (by omega) S.1 ⟨h1, hE1, L1, c_156_4 (by omega) L1 (fun L2 => ?_)⟩)
  have F2 : Fq (fun a k => a = 141 ∧ k = 1) h1 (wi h1 141 1 0) := Fq.wi ⟨rfl, rfl⟩
  have X0 : ji (wi h1 141 1 0) 141 1 = 0 := by rw [ji_wi, if_pos ⟨rfl, rfl⟩]
  generalize wi h1 141 1 0 = g at L2 F2 X0 ⊢
  have F02 : Fq ZRo h g := (F1.mono (fun a k z => by omega)).trans (F2.mono (fun a k z => by omega))
  have e6 : ji g 141 6 = ji h1 141 6 := F2.i (by omega)
  cases hR : pText T 400 D0 0 with
  | error q =>
    rw [hR] at R1
    have R1 : ji h1 141 6 = (q : Int) := R1
    have hq := eb_text hT 400 D0 0 q hR
    refine c_156_9 (by omega) L2 ?_
    rw [e6, R1]
    refine ⟨fun z => by omega, fun _ => ⟨_, rfl, F02.mono (fun a k z => by omega), ?_⟩⟩
    rw [hR]
    exact ⟨by rw [w32_i (by omega) (by omega)], S.old F02 L2 X0⟩
  | ok c' =>
    rw [hR] at R1
    obtain ⟨r6, O, j, hj, M, B, A, a33, hA, R⟩ := R1
    have sh : shD c' := text_sh 400 D0 0 shD0 hR
    have B2 : RTb g c' := B.cg (fun a k z => F2.i (by omega))
    have R2 : RRl g c' A := R.cg (Nat.le_refl _) (fun a k z => F2.i (by omega)) (fun a k z => F2.l (by omega))
    have e15 : ji g 141 15 = ((dX c').length : Int) := (F2.i (by omega)).trans M.1.2.2.1
    have e20 : ji g 141 20 = ((dR c').length : Int) := (F2.i (by omega)).trans M.1.2.2.2.1
    have M2 : NmM g (dN c') (cnt c') := M.fq2 F2 (fun a k z => by omega)
    refine c_156_9 (by omega) L2 ?_
    rw [e6, r6]
    refine ⟨fun _ => c_156_27 (by omega) L2 ?_, fun z => absurd rfl z⟩
    refine l_156a (g0 := g) (by omega) O (dX c').length 0 g (by omega) L2 B2 e15 (fun k hk => absurd hk (Nat.not_lt_zero k)) Fq.refl (fun g3 L3 F3 A3 => ?_)
    have B3 : RTb g3 c' := B2.cg (fun a k z => F3.i (by omega))
    have R3 : RRl g3 c' A := R2.cg (Nat.le_refl _) (fun a k z => F3.i (by omega)) (fun a k z => F3.l (by omega))
    have e203 : ji g3 141 20 = ((dR c').length : Int) := (F3.i (by omega)).trans e20
    have F03 : Fq ZRo h g3 := F02.trans (F3.mono (fun a k z => by omega))
    have X03 : ji g3 141 1 = 0 := (F3.i (by omega)).trans X0
    have big : ∀ _ : Nat, tooL c' → ∃ v, some (jI (-100004)) = some (jI v) ∧ RdR p T c pt h v g3 := fun _ t => by
      refine ⟨_, rfl, F03.mono (fun a k z => by omega), ?_⟩
      rw [hR]
      exact Or.inl ⟨t, rfl, S.old F03 L3 X03⟩
    have hS' : okS (dS c') := O.1.2.1
    have key : ∀ gw : Int, gw = (if dG c' = 0 then 0 else wke (dS c') (dE c')) → WF d 156 98 [jP 141, jI (tot (dS c') (dX c')), jI 0, jL gw, jU, jU] [] g3 (fun w h' => ∃ v, w = some (jI v) ∧ RdR p T c pt h v h') := by
      intro gw hgw
      have eW : gw + rWe (dS c') (dR c') (dL c') = dWe c' := by unfold dWe; rw [← hgw]; omega
      refine c_156_98 (by omega) L3 ?_
      have q := l_156b (d := d) (v1 := tot (dS c') (dX c')) (gw := gw) (Q := fun w h' => ∃ v, w = some (jI v) ∧ RdR p T c pt h v h') (by omega) O B3 L3 R3 e203 (fun v5 => ?_) (dR c').length 0 (by omega)
      · have gb : w64 (gw + sumN 0 (fun k => wkK c' k * rwK c' k)) = gw := by
          show w64 (gw + 0) = gw
          rw [Int.add_zero]
          refine w64_id ?_
          unfold r64
          rw [hgw]
          by_cases z : dG c' = 0
          · rw [if_pos z]; omega
          · rw [if_neg z]
            have := wkG_b O R3 sh (by omega) z
            omega
        rw [gb] at q
        exact q
      · refine ⟨fun z => big 0 (Or.inl z), fun zX => ⟨fun z => big 0 (Or.inr (Or.inl z)), fun zR => ?_⟩⟩
        rw [eW, dWe_b O R3 sh (by omega) (by omega)]
        have cmp := jcmp_p (a := dWe c') (b := 20000)
        refine ⟨fun z => ?_, fun z => big 0 (Or.inr (Or.inr ?_))⟩
        · have w2 : dWe c' ≤ 20000 := by omega
          have ew : dWk c' = dWe c' := by
            rcases dWk_or hS' with y | y
            · exact y
            · omega
          have nt : ¬ tooL c' := fun t => by unfold tooL at t; omega
          have w0 : 0 ≤ dWk c' := by
            rw [ew]
            unfold dWe
            have := (rWe_nn hS' (dR c') (dL c')).1
            have := wke_nn hS' (dE c')
            split <;> omega
          have O2 : okM2 c' := ⟨O, by omega, by omega, w0, by omega⟩
          rw [← ew]
          intro L4
          have F4 : Fq (fun a k => a = 141 ∧ k = 80) g3 (wl g3 141 80 (dWk c')) := Fq.wl ⟨rfl, rfl⟩
          have e80 : jl (wl g3 141 80 (dWk c')) 141 80 = dWk c' := by rw [jl_wl, if_pos ⟨rfl, rfl⟩]
          generalize wl g3 141 80 (dWk c') = g4 at L4 F4 e80 ⊢
          have S4 : RkS p c' A g4 := ⟨⟨L4, B3.cg (fun a k z => F4.i (by omega)), O, O2.2.1, fun k hk => (F4.i (by omega)).trans (A3 k hk)⟩, R3.cg (Nat.le_refl _) (fun a k z => F4.i (by omega)) (fun a k z => F4.l (by omega)), by omega, sh, (F4.i (by omega)).trans e203, O2.2.2.1⟩
          have M4 : NmM g4 (dN c') (cnt c') := (M2.fq2 F3 (fun a k z => by omega)).fq2 F4 (fun a k z => by omega)
          refine rd_171 (T := T) (by omega) S4 M4 O2 e80 ((F4.i (by omega)).trans X03) (fun g' F' S' => ?_)
          refine ⟨_, rfl, ((F03.mono (fun a k z => by omega)).trans (F4.mono (fun a k z => by omega))).trans F', ?_⟩
          rw [hR]
          exact Or.inr ⟨nt, rfl, S'⟩
        · have w2 : 20000 < dWe c' := by omega
          rcases dWk_or hS' with y | y
          · rw [y]; exact w2
          · exact y.1
    refine c_156_82 (by omega) L3 ?_
    have e26 : ji g3 141 26 = dG c' := R3.2.2.1
    have hg := O.2.2.2.2.2.2.2.2.2.1
    rw [e26]
    refine ⟨fun z => key 0 (by rw [if_pos (by omega)]), fun z => ?_⟩
    rw [(R3.2.2.2 (by omega)).1]
    exact key _ (by rw [if_neg (by omega)])
end RR2
