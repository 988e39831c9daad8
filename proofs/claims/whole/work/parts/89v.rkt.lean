/-! THE REFERENCE: the things that are kept -/
def KpT (h : AH) (c : Dc) : Prop := (∀ s, s < 4 → ji h 175 s = (cnt c s : Int)) ∧ (∀ e ∈ dN c, e.2.1 ≤ 3 → ji h 176 (10 * e.2.1.toNat + e.2.2.toNat) = c27 e.1) ∧ (∀ k, k < (dS c).length → ji h 177 k = ((dS c).getD k (0, 0)).1 ∧ ji h 178 k = ((dS c).getD k (0, 0)).2) ∧ (∀ k, k < (dT c).length → ji h 179 (2 * k) = ((dT c).getD k (-1, -1)).1 ∧ ji h 179 (2 * k + 1) = ((dT c).getD k (-1, -1)).2) ∧ (∀ k j : Nat, k < (dT c).length → (j : Int) < szO (dS c) ((dT c).getD k (-1, -1)).1 * szO (dS c) ((dT c).getD k (-1, -1)).2 → ji h 180 (64 * k + j) = (dV c).getD ((stO (dS c) (dT c) k).toNat + j) 0) ∧ (∀ k, k < (dX c).length → ji h 181 (2 * k) = ((dX c).getD k (-1, -1)).1 ∧ ji h 181 (2 * k + 1) = ((dX c).getD k (-1, -1)).2 ∧ ji h 182 k = stO (dS c) (dX c) k)
def sx (g : AH) (a i : Nat) : Int := if i < 6 then ji g a i else 0
section RKT
variable {p : Lpar} {d i : Nat} {h h' g g0 : AH} {c : Dc} {Q : Option AV → AH → Prop} {z1 : AV}
theorem KpT.cg (B : KpT h c) (hs : ∀ a k, 175 ≤ a → a ≤ 182 → ji h' a k = ji h a k) : KpT h' c := by
  obtain ⟨b1, b2, b3, b4, b5, b6⟩ := B
  exact ⟨fun s hs' => (hs _ _ (by omega) (by omega)).trans (b1 s hs'), fun e he h3 => (hs _ _ (by omega) (by omega)).trans (b2 e he h3), fun k hk => ⟨(hs _ _ (by omega) (by omega)).trans (b3 k hk).1, (hs _ _ (by omega) (by omega)).trans (b3 k hk).2⟩, fun k hk => ⟨(hs _ _ (by omega) (by omega)).trans (b4 k hk).1, (hs _ _ (by omega) (by omega)).trans (b4 k hk).2⟩, fun k j hk hj => (hs _ _ (by omega) (by omega)).trans (b5 k j hk hj), fun k hk => ⟨(hs _ _ (by omega) (by omega)).trans (b6 k hk).1, (hs _ _ (by omega) (by omega)).trans (b6 k hk).2.1, (hs _ _ (by omega) (by omega)).trans (b6 k hk).2.2⟩⟩
theorem l_157D (hd : 9 ≤ d) : ∀ (s i : Nat) (g : AH), 384 = i + s → Ly p g → Fq (fun a _ => a = 180) g0 g → (∀ k, k < i → ji g 180 k = ji g0 148 k) → (∀ h', Ly p h' → Fq (fun a _ => a = 180) g0 h' → (∀ k, k < 384 → ji h' 180 k = ji g0 148 k) → Q none h') → WF d 157 231 [jP 141, jI (i : Int)] [] g Q := by
  intro s
  induction s with
  | zero =>
    intro i g hi L F A K
    exact c_157_231 hd L ⟨fun _ => K g L F (by rw [hi]; exact A), fun z => by omega⟩
  | succ s ih =>
    intro i g hi L F A K
    refine c_157_231 hd L ⟨fun z => by omega, fun _ => ⟨by omega, by omega, by omega, by omega, fun L2 => c_157_250 hd L2 ?_⟩⟩
    rw [w32_i (x := (i : Int) + 1) (by omega) (by omega)]
    refine ih (i + 1) _ (by omega) L2 (F.trans (Fq.wi rfl)) (fun k hk => ?_) K
    rw [Int.toNat_natCast, ji_wi]
    by_cases e : k = i
    · rw [if_pos ⟨rfl, e⟩, F.i (by omega), e]
    · rw [if_neg (fun q => e q.2)]; exact A k (by omega)
theorem l_157C (hd : 9 ≤ d) : ∀ (s i : Nat) (g : AH), 12 = i + s → Ly p g → Fq (fun a _ => a = 179 ∨ a = 181) g0 g → (∀ k, k < i → ji g 179 k = ji g0 147 k ∧ ji g 181 k = ji g0 150 k) → (∀ h', Ly p h' → Fq (fun a _ => a = 179 ∨ a = 181) g0 h' → (∀ k, k < 12 → ji h' 179 k = ji g0 147 k ∧ ji h' 181 k = ji g0 150 k) → WF d 157 231 [jP 141, jI 0] [] h' Q) → WF d 157 193 [jP 141, jI (i : Int)] [] g Q := by
  intro s
  induction s with
  | zero =>
    intro i g hi L F A K
    exact c_157_193 hd L ⟨fun _ => K g L F (by rw [hi]; exact A), fun z => by omega⟩
  | succ s ih =>
    intro i g hi L F A K
    refine c_157_193 hd L ⟨fun z => by omega, fun _ => ⟨by omega, by omega, by omega, by omega, fun L2 => c_157_211 hd L2 ⟨by omega, by omega, by omega, by omega, fun L3 => c_157_223 hd L3 ?_⟩⟩⟩
    rw [w32_i (x := (i : Int) + 1) (by omega) (by omega)]
    refine ih (i + 1) _ (by omega) L3 ((F.trans (Fq.wi (Or.inl rfl))).trans (Fq.wi (Or.inr rfl))) (fun k hk => ?_) K
    rw [Int.toNat_natCast, ji_wi, if_neg (by omega), ji_wi, ji_wi, ji_wi, if_neg (show ¬ (150 = 179 ∧ i = i) by omega)]
    by_cases e : k = i
    · rw [if_pos ⟨rfl, e⟩, if_pos ⟨rfl, e⟩, F.i (by omega), F.i (by omega), e]; exact ⟨rfl, rfl⟩
    · rw [if_neg (fun q => e q.2), if_neg (fun q => e q.2), ji_wi, if_neg (by omega)]; exact A k (by omega)
theorem l_157B (hd : 9 ≤ d) : ∀ (s i : Nat) (g : AH), 6 = i + s → Ly p g → Fq (fun a _ => a = 177 ∨ a = 178 ∨ a = 182) g0 g → (∀ k, k < i → ji g 177 k = ji g0 144 k ∧ ji g 178 k = ji g0 145 k ∧ ji g 182 k = ji g0 174 k) → (∀ h', Ly p h' → Fq (fun a _ => a = 177 ∨ a = 178 ∨ a = 182) g0 h' → (∀ k, k < 6 → ji h' 177 k = ji g0 144 k ∧ ji h' 178 k = ji g0 145 k ∧ ji h' 182 k = ji g0 174 k) → WF d 157 193 [jP 141, jI 0] [] h' Q) → WF d 157 143 [jP 141, jI (i : Int)] [] g Q := by
  intro s
  induction s with
  | zero =>
    intro i g hi L F A K
    exact c_157_143 hd L ⟨fun _ => K g L F (by rw [hi]; exact A), fun z => by omega⟩
  | succ s ih =>
    intro i g hi L F A K
    refine c_157_143 hd L ⟨fun z => by omega, fun _ => ⟨by omega, by omega, by omega, by omega, fun L2 => ?_⟩⟩
    rw [Int.toNat_natCast, F.i (a := 144) (by omega)] at L2 ⊢
    have F2 : Fq (fun a _ => a = 177 ∨ a = 178 ∨ a = 182) g0 (wi g 177 i (ji g0 144 i)) := F.trans (Fq.wi (by omega))
    have A2 : ∀ k, k < i → ji (wi g 177 i (ji g0 144 i)) 177 k = ji g0 144 k ∧ ji (wi g 177 i (ji g0 144 i)) 178 k = ji g0 145 k ∧ ji (wi g 177 i (ji g0 144 i)) 182 k = ji g0 174 k := fun k hk => by
      rw [ji_wi, if_neg (by omega), ji_wi, if_neg (by omega), ji_wi, if_neg (by omega)]; exact A k hk
    have e1 : ji (wi g 177 i (ji g0 144 i)) 177 i = ji g0 144 i := by rw [ji_wi, if_pos ⟨rfl, rfl⟩]
    generalize wi g 177 i (ji g0 144 i) = g1 at L2 F2 A2 e1 ⊢
    refine c_157_161 hd L2 ⟨by omega, by omega, by omega, by omega, fun L3 => ?_⟩
    rw [Int.toNat_natCast, F2.i (a := 145) (by omega)] at L3 ⊢
    refine c_157_173 hd L3 ⟨by omega, by omega, by omega, by omega, fun L4 => c_157_185 hd L4 ?_⟩
    rw [Int.toNat_natCast, w32_i (x := (i : Int) + 1) (by omega) (by omega)]
    refine ih (i + 1) _ (by omega) L4 ((F2.trans (Fq.wi (by omega))).trans (Fq.wi (by omega))) (fun k hk => ?_) K
    rw [ji_wi, if_neg (by omega), ji_wi, if_neg (by omega), ji_wi, if_neg (by omega), ji_wi, ji_wi]
    by_cases e : k = i
    · subst e
      rw [if_pos ⟨rfl, rfl⟩, if_pos ⟨rfl, rfl⟩, ji_wi, if_neg (by omega), F2.i (a := 174) (by omega)]
      exact ⟨e1, rfl, rfl⟩
    · rw [if_neg (by omega), if_neg (by omega), ji_wi, if_neg (by omega)]; exact A2 k (by omega)
theorem a_157 (hd : 9 ≤ d) (L : Ly p g) (hi : i < 10) (H : Ly p (wi g 176 i (sx g 143 i)) → WF d 157 70 [jP 141, jI (i : Int)] [] (wi g 176 i (sx g 143 i)) Q) : WF d 157 42 [jP 141, jI (i : Int)] [] g Q := by
  refine c_157_42 hd L ⟨fun z => by omega, fun _ => ⟨fun z => ⟨by omega, by omega, ?_⟩, fun z => ⟨by omega, by omega, by omega, by omega, ?_⟩⟩⟩
  · rw [Int.toNat_natCast]; unfold sx at H; rw [if_neg (by omega)] at H; exact H
  · rw [Int.toNat_natCast]; unfold sx at H; rw [if_pos (by omega)] at H; exact H
theorem b_157 (hd : 9 ≤ d) (L : Ly p g) (hi : i < 10) (H : Ly p (wi g 176 (10 + i) (sx g 146 i)) → WF d 157 95 [jP 141, jI (i : Int)] [] (wi g 176 (10 + i) (sx g 146 i)) Q) : WF d 157 70 [jP 141, jI (i : Int)] [] g Q := by
  refine c_157_70 hd L ?_
  rw [w32_i (x := 10 + (i : Int)) (by omega) (by omega), show 10 + (i : Int) = ((10 + i : Nat) : Int) by omega, Int.toNat_natCast, Int.toNat_natCast]
  refine ⟨fun z => ⟨by omega, by omega, ?_⟩, fun z => ⟨by omega, by omega, by omega, by omega, ?_⟩⟩
  · unfold sx at H; rw [if_neg (by omega)] at H; exact H
  · unfold sx at H; rw [if_pos (by omega)] at H; exact H
theorem c_157 (hd : 9 ≤ d) (L : Ly p g) (hi : i < 10) (H : Ly p (wi g 176 (20 + i) (sx g 149 i)) → WF d 157 120 [jP 141, jI (i : Int)] [] (wi g 176 (20 + i) (sx g 149 i)) Q) : WF d 157 95 [jP 141, jI (i : Int)] [] g Q := by
  refine c_157_95 hd L ?_
  rw [w32_i (x := 20 + (i : Int)) (by omega) (by omega), show 20 + (i : Int) = ((20 + i : Nat) : Int) by omega, Int.toNat_natCast, Int.toNat_natCast]
  refine ⟨fun z => ⟨by omega, by omega, ?_⟩, fun z => ⟨by omega, by omega, by omega, by omega, ?_⟩⟩
  · unfold sx at H; rw [if_neg (by omega)] at H; exact H
  · unfold sx at H; rw [if_pos (by omega)] at H; exact H
theorem d_157 (hd : 9 ≤ d) (L : Ly p g) (hi : i < 10) (H : Ly p (wi g 176 (30 + i) (ji g 153 i)) → WF d 157 42 [jP 141, jI ((i + 1 : Nat) : Int)] [] (wi g 176 (30 + i) (ji g 153 i)) Q) : WF d 157 120 [jP 141, jI (i : Int)] [] g Q := by
  refine c_157_120 hd L ?_
  rw [w32_i (x := 30 + (i : Int)) (by omega) (by omega), show 30 + (i : Int) = ((30 + i : Nat) : Int) by omega, Int.toNat_natCast, Int.toNat_natCast]
  refine ⟨by omega, by omega, by omega, by omega, fun L2 => c_157_135 hd L2 ?_⟩
  rw [w32_i (x := (i : Int) + 1) (by omega) (by omega)]
  exact H L2
theorem l_157A (hd : 9 ≤ d) : ∀ (s i : Nat) (g : AH), 10 = i + s → Ly p g → Fq (fun a _ => a = 176) g0 g → (∀ k, k < i → ji g 176 k = sx g0 143 k ∧ ji g 176 (10 + k) = sx g0 146 k ∧ ji g 176 (20 + k) = sx g0 149 k ∧ ji g 176 (30 + k) = ji g0 153 k) → (∀ h', Ly p h' → Fq (fun a _ => a = 176) g0 h' → (∀ k, k < 10 → ji h' 176 k = sx g0 143 k ∧ ji h' 176 (10 + k) = sx g0 146 k ∧ ji h' 176 (20 + k) = sx g0 149 k ∧ ji h' 176 (30 + k) = ji g0 153 k) → WF d 157 143 [jP 141, jI 0] [] h' Q) → WF d 157 42 [jP 141, jI (i : Int)] [] g Q := by
  intro s
  induction s with
  | zero =>
    intro i g hi L F A K
    exact c_157_42 hd L ⟨fun _ => K g L F (fun k hk => A k (by omega)), fun z => by omega⟩
  | succ s ih =>
    intro i g hi L F A K
    have sxe : ∀ {g : AH} (a : Nat), Fq (fun a _ => a = 176) g0 g → ¬ a = 176 → sx g a i = sx g0 a i := fun {g} a F z => by unfold sx; rw [F.i z]
    refine a_157 hd L (by omega) (fun L1 => ?_)
    rw [sxe 143 F (by omega)] at L1 ⊢
    have F1 : Fq (fun a _ => a = 176) g0 (wi g 176 i (sx g0 143 i)) := F.trans (Fq.wi rfl)
    refine b_157 hd L1 (by omega) (fun L2 => ?_)
    rw [sxe 146 F1 (by omega)] at L2 ⊢
    have F2 : Fq (fun a _ => a = 176) g0 (wi (wi g 176 i (sx g0 143 i)) 176 (10 + i) (sx g0 146 i)) := F1.trans (Fq.wi rfl)
    have A2 : ∀ k, k < i + 1 → ji (wi (wi g 176 i (sx g0 143 i)) 176 (10 + i) (sx g0 146 i)) 176 k = sx g0 143 k ∧ ji (wi (wi g 176 i (sx g0 143 i)) 176 (10 + i) (sx g0 146 i)) 176 (10 + k) = sx g0 146 k ∧ (k < i → ji (wi (wi g 176 i (sx g0 143 i)) 176 (10 + i) (sx g0 146 i)) 176 (20 + k) = sx g0 149 k ∧ ji (wi (wi g 176 i (sx g0 143 i)) 176 (10 + i) (sx g0 146 i)) 176 (30 + k) = ji g0 153 k) := fun k hk => by
      refine ⟨?_, ?_, fun hk2 => ⟨?_, ?_⟩⟩
      · rw [ji_wi, if_neg (by omega), ji_wi]
        by_cases e : k = i
        · rw [if_pos ⟨rfl, e⟩, e]
        · rw [if_neg (by omega)]; exact (A k (by omega)).1
      · rw [ji_wi]
        by_cases e : k = i
        · rw [if_pos ⟨rfl, by omega⟩, e]
        · rw [if_neg (by omega), ji_wi, if_neg (by omega)]; exact (A k (by omega)).2.1
      · rw [ji_wi, if_neg (by omega), ji_wi, if_neg (by omega)]; exact (A k hk2).2.2.1
      · rw [ji_wi, if_neg (by omega), ji_wi, if_neg (by omega)]; exact (A k hk2).2.2.2
    generalize wi (wi g 176 i (sx g0 143 i)) 176 (10 + i) (sx g0 146 i) = g2 at L2 F2 A2 ⊢
    refine c_157 hd L2 (by omega) (fun L3 => ?_)
    rw [sxe 149 F2 (by omega)] at L3 ⊢
    have F3 : Fq (fun a _ => a = 176) g0 (wi g2 176 (20 + i) (sx g0 149 i)) := F2.trans (Fq.wi rfl)
    refine d_157 hd L3 (by omega) (fun L4 => ?_)
    rw [F3.i (a := 153) (by omega)] at L4 ⊢
    refine ih (i + 1) _ (by omega) L4 (F3.trans (Fq.wi rfl)) (fun k hk => ?_) K
    refine ⟨?_, ?_, ?_, ?_⟩
    · rw [ji_wi, if_neg (by omega), ji_wi, if_neg (by omega)]; exact (A2 k hk).1
    · rw [ji_wi, if_neg (by omega), ji_wi, if_neg (by omega)]; exact (A2 k hk).2.1
    · rw [ji_wi, if_neg (by omega), ji_wi]
      by_cases e : k = i
      · rw [if_pos ⟨rfl, by omega⟩, e]
      · rw [if_neg (by omega)]; exact ((A2 k hk).2.2 (by omega)).1
    · rw [ji_wi]
      by_cases e : k = i
      · rw [if_pos ⟨rfl, by omega⟩, e]
      · rw [if_neg (by omega), ji_wi, if_neg (by omega)]; exact ((A2 k hk).2.2 (by omega)).2
abbrev ZKt (a _k : Nat) : Prop := 175 ≤ a ∧ a ≤ 182
theorem m_157 (hd : 11 ≤ d) (L : Ly p h) (M : NmM h (dN c) (cnt c)) (B : RTb h c) (O : okD c) (A : ∀ k, k < (dX c).length → ji h 174 k = stO (dS c) (dX c) k) : ∃ h', jE d 157 [jP 141] h none h' ∧ Ly p h' ∧ Fq ZKt h h' ∧ KpT h' c := by
  suffices hh : ∃ w h', jE d 157 [jP 141] h w h' ∧ w = none ∧ Ly p h' ∧ Fq ZKt h h' ∧ KpT h' c by
    obtain ⟨w, h', hE, rfl, q⟩ := hh
    exact ⟨h', hE, q⟩
  obtain ⟨d, rfl⟩ : ∃ d', d = d' + 1 := ⟨d - 1, by omega⟩
  obtain ⟨⟨n0, n1, n2, n3, _⟩, ne, m0, m1, _⟩ := M
  refine jE_of (as := [jP 141]) (Nat.le_of_ble_eq_true rfl) (c_157_0 (by omega) L (fun L1 => c_157_10 (by omega) L1 (fun L2 => c_157_20 (by omega) L2 (fun L3 => c_157_30 (by omega) L3 (fun L4 => c_157_40 (by omega) L4 ?_)))))
  rw [ji_wi, if_neg (by omega)] at L2 L3 L4 ⊢
  rw [ji_wi, if_neg (by omega), ji_wi, if_neg (by omega)] at L3 L4 ⊢
  rw [ji_wi, if_neg (by omega), ji_wi, if_neg (by omega), ji_wi, if_neg (by omega)] at L4 ⊢
  rw [n0, n1, n2, n3] at L4 ⊢
  have t : ∀ k : Nat, Int.toNat (k : Int) = k := fun k => Int.toNat_natCast k
  have F4 : Fq (fun a _ => a = 175) h (wi (wi (wi (wi h 175 (Int.toNat 0) (cnt c 0 : Int)) 175 (Int.toNat 1) (cnt c 1 : Int)) 175 (Int.toNat 2) (cnt c 2 : Int)) 175 (Int.toNat 3) (cnt c 3 : Int)) := (((Fq.wi (Z := fun a _ => a = 175) rfl).trans (Fq.wi rfl)).trans (Fq.wi rfl)).trans (Fq.wi rfl)
  have K4 : ∀ s, s < 4 → ji (wi (wi (wi (wi h 175 (Int.toNat 0) (cnt c 0 : Int)) 175 (Int.toNat 1) (cnt c 1 : Int)) 175 (Int.toNat 2) (cnt c 2 : Int)) 175 (Int.toNat 3) (cnt c 3 : Int)) 175 s = (cnt c s : Int) := fun s hs => by
    rw [show Int.toNat 0 = 0 from rfl, show Int.toNat 1 = 1 from rfl, show Int.toNat 2 = 2 from rfl, show Int.toNat 3 = 3 from rfl]
    rcases (by omega : s = 0 ∨ s = 1 ∨ s = 2 ∨ s = 3) with rfl | rfl | rfl | rfl
    · rw [ji_wi, if_neg (by omega), ji_wi, if_neg (by omega), ji_wi, if_neg (by omega), ji_wi, if_pos ⟨rfl, rfl⟩]
    · rw [ji_wi, if_neg (by omega), ji_wi, if_neg (by omega), ji_wi, if_pos ⟨rfl, rfl⟩]
    · rw [ji_wi, if_neg (by omega), ji_wi, if_pos ⟨rfl, rfl⟩]
    · rw [ji_wi, if_pos ⟨rfl, rfl⟩]
  generalize wi (wi (wi (wi h 175 (Int.toNat 0) (cnt c 0 : Int)) 175 (Int.toNat 1) (cnt c 1 : Int)) 175 (Int.toNat 2) (cnt c 2 : Int)) 175 (Int.toNat 3) (cnt c 3 : Int) = g at L4 F4 K4 ⊢
  refine l_157A (by omega) 10 0 g (by omega) L4 Fq.refl (fun k hk => absurd hk (Nat.not_lt_zero k)) (fun gA LA FA KA => ?_)
  refine l_157B (by omega) 6 0 gA (by omega) LA Fq.refl (fun k hk => absurd hk (Nat.not_lt_zero k)) (fun gB LB FB KB => ?_)
  refine l_157C (by omega) 12 0 gB (by omega) LB Fq.refl (fun k hk => absurd hk (Nat.not_lt_zero k)) (fun gC LC FC KC => ?_)
  refine l_157D (by omega) 384 0 gC (by omega) LC Fq.refl (fun k hk => absurd hk (Nat.not_lt_zero k)) (fun gD LD FD KD => ?_)
  have src : ∀ a k, ¬ (175 ≤ a ∧ a ≤ 182) → ji gC a k = ji h a k ∧ ji gB a k = ji h a k ∧ ji gA a k = ji h a k ∧ ji g a k = ji h a k := fun a k z => by
    have e1 : ji g a k = ji h a k := F4.i (by omega)
    have e2 : ji gA a k = ji h a k := (FA.i (by omega)).trans e1
    have e3 : ji gB a k = ji h a k := (FB.i (by omega)).trans e2
    exact ⟨(FC.i (by omega)).trans e3, e3, e2, e1⟩
  have l6 : (dS c).length ≤ 6 := O.1.2.1.1
  have lT : (dT c).length ≤ 6 := O.1.2.2.2.1
  have lX : (dX c).length ≤ 6 := O.1.2.2.2.2.2.1
  have hS : okS (dS c) := O.1.2.1
  refine ⟨rfl, LD, ((((F4.mono (fun a k z => by omega)).trans (FA.mono (fun a k z => by omega))).trans (FB.mono (fun a k z => by omega))).trans (FC.mono (fun a k z => by omega))).trans (FD.mono (fun a k z => by omega)), ?_⟩
  refine ⟨fun s hs => ?_, fun e he h3 => ?_, fun k hk => ?_, fun k hk => ?_, fun k j hk hj => ?_, fun k hk => ?_⟩
  · rw [FD.i (by omega), FC.i (by omega), FB.i (by omega), FA.i (by omega)]; exact K4 s hs
  · rw [FD.i (by omega), FC.i (by omega), FB.i (by omega)]
    have r := m1 e he
    have q := ne e he
    have r5 := r.2.2.2.2
    rcases (by omega : e.2.1 = 0 ∨ e.2.1 = 1 ∨ e.2.1 = 2 ∨ e.2.1 = 3) with z | z | z | z
    · rw [z] at q r5 ⊢
      have r5 : e.2.2 < ((dS c).length : Int) := r5
      have k1 := (KA e.2.2.toNat (by omega)).1
      unfold sx at k1
      rw [if_pos (by omega), (src 143 _ (by omega)).2.2.2] at k1
      rw [show 10 * Int.toNat 0 + e.2.2.toNat = e.2.2.toNat by show 10 * 0 + _ = _; omega, k1]; exact q
    · rw [z] at q r5 ⊢
      have r5 : e.2.2 < ((dT c).length : Int) := r5
      have k1 := (KA e.2.2.toNat (by omega)).2.1
      unfold sx at k1
      rw [if_pos (by omega), (src 146 _ (by omega)).2.2.2] at k1
      rw [show 10 * Int.toNat 1 + e.2.2.toNat = 10 + e.2.2.toNat by show 10 * 1 + _ = _; omega, k1]; exact q
    · rw [z] at q r5 ⊢
      have r5 : e.2.2 < ((dX c).length : Int) := r5
      have k1 := (KA e.2.2.toNat (by omega)).2.2.1
      unfold sx at k1
      rw [if_pos (by omega), (src 149 _ (by omega)).2.2.2] at k1
      rw [show 10 * Int.toNat 2 + e.2.2.toNat = 20 + e.2.2.toNat by show 10 * 2 + _ = _; omega, k1]; exact q
    · rw [z] at q r5 ⊢
      have r5 : e.2.2 < ((dR c).length : Int) := r5
      have lR : (dR c).length ≤ 10 := O.2.1.1
      have k1 := (KA e.2.2.toNat (by omega)).2.2.2
      rw [(src 153 _ (by omega)).2.2.2] at k1
      rw [show 10 * Int.toNat 3 + e.2.2.toNat = 30 + e.2.2.toNat by show 10 * 3 + _ = _; omega, k1]; exact q
  · rw [FD.i (by omega), FC.i (by omega), FD.i (by omega), FC.i (by omega), (KB k (by omega)).1, (KB k (by omega)).2.1, (src 144 _ (by omega)).2.2.1, (src 145 _ (by omega)).2.2.1]; exact B.1 k hk
  · rw [FD.i (by omega), FD.i (by omega), (KC (2 * k) (by omega)).1, (KC (2 * k + 1) (by omega)).1, (src 147 _ (by omega)).2.1, (src 147 _ (by omega)).2.1]; exact B.2.1 k hk
  · have z := sz2_r hS ((dT c).getD k (-1, -1)).1 ((dT c).getD k (-1, -1)).2
    rw [KD (64 * k + j) (by omega), (src 148 _ (by omega)).1]; exact B.2.2.1 k j hk hj
  · rw [FD.i (by omega), FD.i (by omega), FD.i (by omega), FC.i (a := 182) (by omega), (KC (2 * k) (by omega)).2, (KC (2 * k + 1) (by omega)).2, (KB k (by omega)).2.2, (src 150 _ (by omega)).2.1, (src 150 _ (by omega)).2.1, (src 174 _ (by omega)).2.2.1]
    exact ⟨(B.2.2.2.1 k hk).1, (B.2.2.2.1 k hk).2, A k hk⟩
end RKT
