/-! THE REFERENCE: a sum over indices goes on -/
section RAG
variable {p : Lpar} {d : Nat} {h h' g : AH} {c : Dc} {b lo m k1 i a b2 : Nat} {s s1 s2 : Int} {f f2 : Nat → Int} {Q : Option AV → AH → Prop}
/-- one index is counted -/
theorem n_154 (hd : 9 ≤ d) (L : Ly p g) (B : RTb g c) (hS : okS (dS c)) (hs : 0 ≤ s ∧ s < ((dS c).length : Int)) (hk : k1 + i < 20) (hl : lo < 2000) (ha : ji g 173 (k1 + i) = fsO (dS c) s + (a : Int)) (al : (a : Int) < szO (dS c) s) (H1 : ((a + 1 : Nat) : Int) < szO (dS c) s → ∀ g', Ly p g' → Fq (fun x k => x = 173 ∧ k = k1 + i) g g' → ji g' 173 (k1 + i) = fsO (dS c) s + ((a + 1 : Nat) : Int) → Q (some (jI ((lo + 1 : Nat) : Int))) g') (H2 : ¬ ((a + 1 : Nat) : Int) < szO (dS c) s → ∀ g', Ly p g' → Fq (fun x k => x = 173 ∧ k = k1 + i) g g' → ji g' 173 (k1 + i) = fsO (dS c) s → WF d 154 36 [jP 141, jI (m : Int), jI (lo : Int), jI (k1 : Int), jI ((i : Int) + -1), jI s] [] g' Q) (hi : i ≤ 1) : WF d 154 63 [jP 141, jI (m : Int), jI (lo : Int), jI (k1 : Int), jI (i : Int), jI s] [] g Q := by
  have hl6 := hS.1
  have fr := fsO_r hS s
  have sr := szO_r hS s
  have ek : w32 ((k1 : Int) + (i : Int)) = ((k1 + i : Nat) : Int) := by rw [w32_i (by omega) (by omega)]; omega
  refine c_154_63 (by omega) L ?_
  rw [ek, Int.toNat_natCast, ha, w32_i (x := fsO (dS c) s + (a : Int) + 1) (by omega) (by omega)]
  refine ⟨by omega, by omega, by omega, by omega, fun L2 => c_154_76 (by omega) L2 ?_⟩
  have F : Fq (fun x k => x = 173 ∧ k = k1 + i) g (wi g 173 (k1 + i) (fsO (dS c) s + (a : Int) + 1)) := Fq.wi ⟨rfl, rfl⟩
  have e0 : ji (wi g 173 (k1 + i) (fsO (dS c) s + (a : Int) + 1)) 173 (k1 + i) = fsO (dS c) s + (a : Int) + 1 := by rw [ji_wi, if_pos ⟨rfl, rfl⟩]
  generalize wi g 173 (k1 + i) (fsO (dS c) s + (a : Int) + 1) = g1 at L2 F e0 ⊢
  have B2 : RTb g1 c := B.cg (fun a k y => F.i (by omega))
  obtain ⟨q1, q2⟩ := set_at B2 hs.1 hs.2
  rw [ek, Int.toNat_natCast, e0, q1, q2, w32_i (x := fsO (dS c) s + szO (dS c) s) (by omega) (by omega)]
  refine ⟨by omega, by omega, hs.1, by omega, hs.1, by omega, fun z => ⟨hs.1, by omega, by omega, by omega, fun L3 => c_154_123 (by omega) L3 ?_⟩, fun z => ?_⟩
  · rw [w32_i (x := (i : Int) + -1) (by omega) (by omega)]
    exact H2 (by omega) _ L3 (F.trans (Fq.wi ⟨rfl, rfl⟩)) (by rw [ji_wi, if_pos ⟨rfl, rfl⟩])
  · rw [w32_i (x := (lo : Int) + 1) (by omega) (by omega)]
    exact H1 (by omega) g1 L2 F (by rw [e0]; omega)
def R154 (p : Lpar) (c : Dc) (b lo m k1 a b2 : Nat) (s1 s2 : Int) (f f2 : Nat → Int) (h : AH) (v : Nat) (h' : AH) : Prop := Ly p h' ∧ StK h' b (fun j => f j + f2 j) ∧ ji h' 141 54 = ((b + 1 : Nat) : Int) ∧ Fq (ZGo b k1) h h' ∧ (if ((b2 + 1 : Nat) : Int) < szO (dS c) s2 then v = lo + 1 ∧ PosL c k1 s1 s2 a (b2 + 1) h' else if ((a + 1 : Nat) : Int) < szO (dS c) s1 then v = lo + 1 ∧ PosL c k1 s1 s2 (a + 1) 0 h' else v = m + 1)
theorem m_154 (hd : 11 ≤ d) (L : Ly p h) (B : RTb h c) (hS : okS (dS c)) (h54 : ji h 141 54 = ((b + 2 : Nat) : Int)) (hb : b + 2 ≤ 40) (S1 : StK h b f) (S2 : StK h (b + 1) f2) (a1 : ji h 161 lo = (k1 : Int)) (a2 : ji h 162 lo = s1) (a3 : ji h 163 lo = s2) (e2 : ji h 161 m = (lo : Int)) (hl : lo < m) (hm : m < 2000) (o1 : 0 ≤ s1 ∧ s1 < ((dS c).length : Int)) (o2 : s2 = -1 ∨ (0 ≤ s2 ∧ s2 < ((dS c).length : Int))) (hk : k1 ≤ 16) (P : PosL c k1 s1 s2 a b2 h) (ha : (a : Int) < szO (dS c) s1) (hb2 : (b2 : Int) < szO (dS c) s2) : ∃ (v : Nat) (h' : AH), jE d 154 [jP 141, jI (m : Int)] h (some (jI (v : Int))) h' ∧ R154 p c b lo m k1 a b2 s1 s2 f f2 h v h' := by
  suffices hh : ∃ w h', jE d 154 [jP 141, jI (m : Int)] h w h' ∧ ∃ v : Nat, w = some (jI (v : Int)) ∧ R154 p c b lo m k1 a b2 s1 s2 f f2 h v h' by
    obtain ⟨w, h', hE, v, rfl, q⟩ := hh
    exact ⟨v, h', hE, q⟩
  obtain ⟨d, rfl⟩ : ∃ d', d = d' + 1 := ⟨d - 1, by omega⟩
  obtain ⟨h1, hE1, L1, F1, q54, T1⟩ := m_150 (d := d) (v := 1) (by omega) L h54 hb S1 S2
  have T1 : StK h1 b (fun j => f j + f2 j) := T1.cg (fun j _ => by show f j + 1 * f2 j = f j + f2 j; rw [Int.one_mul])
  have s : ∀ a k, ¬ a = 172 → ¬ a = 141 → ji h1 a k = ji h a k := fun a k z1 z2 => F1.i (by omega)
  have B1 : RTb h1 c := B.cg (fun a k y => s a k (by omega) (by omega))
  have G1 : Fq (ZGo b k1) h h1 := F1.mono (fun a k y => Or.inl y)
  have P1 : PosL c k1 s1 s2 a b2 h1 := ⟨(s _ _ (by omega) (by omega)).trans P.1, fun z => (s _ _ (by omega) (by omega)).trans (P.2 z)⟩
  have fin : ∀ (v : Nat) (g' : AH), Ly p g' → Fq (Z173 k1) h1 g' → (if ((b2 + 1 : Nat) : Int) < szO (dS c) s2 then v = lo + 1 ∧ PosL c k1 s1 s2 a (b2 + 1) g' else if ((a + 1 : Nat) : Int) < szO (dS c) s1 then v = lo + 1 ∧ PosL c k1 s1 s2 (a + 1) 0 g' else v = m + 1) → ∃ v' : Nat, some (jI (v : Int)) = some (jI (v' : Int)) ∧ R154 p c b lo m k1 a b2 s1 s2 f f2 h v' g' := fun v g' L' F' q => ⟨v, rfl, L', fun j hj => by rw [F'.l (by omega)]; exact T1 j hj, (F'.i (by omega)).trans q54, G1.trans (F'.mono (fun a k y => Or.inr y)), q⟩
  have first : ¬ ((b2 + 1 : Nat) : Int) < szO (dS c) s2 → ∀ (g : AH) (z5 : AV), Ly p g → Fq (Z173 k1) h1 g → ji g 173 k1 = fsO (dS c) s1 + (a : Int) → (¬ s2 = -1 → ji g 173 (k1 + 1) = fsO (dS c) s2) → WF d 154 36 [jP 141, jI (m : Int), jI (lo : Int), jI (k1 : Int), jI 0, z5] [] g (fun w h' => ∃ v : Nat, w = some (jI (v : Int)) ∧ R154 p c b lo m k1 a b2 s1 s2 f f2 h v h') := by
    intro zb g z5 L2 F2 x1 x2
    have B2 : RTb g c := B1.cg (fun a k y => F2.i (by omega))
    have g2 : ji g 162 lo = s1 := (F2.i (by omega)).trans ((s _ _ (by omega) (by omega)).trans a2)
    refine c_154_36 (by omega) L2 ⟨fun z => by omega, fun _ => ⟨fun _ => ⟨by omega, by omega, ?_⟩, fun z => absurd rfl z⟩⟩
    rw [Int.toNat_natCast, g2]
    refine n_154 (i := 0) (a := a) (by omega) L2 B2 hS o1 (by omega) (by omega) x1 ha (fun y g' L' F' x' => ?_) (fun y g' L' F' x' => ?_) (by omega)
    · refine fin (lo + 1) g' L' (F2.trans (F'.mono (fun a k z => by omega))) ?_
      rw [if_neg zb, if_pos y]
      exact ⟨rfl, x', fun z => by rw [F'.i (by omega), x2 z]; omega⟩
    · refine c_154_36 (by omega) L' ⟨fun _ => ?_, fun z => by omega⟩
      rw [w32_i (x := (m : Int) + 1) (by omega) (by omega)]
      refine fin (m + 1) g' L' (F2.trans (F'.mono (fun a k z => by omega))) ?_
      rw [if_neg zb, if_neg y]
  have l1 : ji h1 161 m = (lo : Int) := (s _ _ (by omega) (by omega)).trans e2
  have l2 : ji h1 161 lo = (k1 : Int) := (s _ _ (by omega) (by omega)).trans a1
  have l3 : ji h1 163 lo = s2 := (s _ _ (by omega) (by omega)).trans a3
  refine jE_of (as := [jP 141, jI (m : Int)]) (Nat.le_of_ble_eq_true rfl) (c_154_0 (by omega) L ⟨h1, hE1, L1, c_154_5 (by omega) L1 ⟨by omega, by omega, ?_⟩⟩)
  rw [Int.toNat_natCast, l1]
  refine c_154_12 (by omega) L1 ⟨by omega, by omega, ?_⟩
  rw [Int.toNat_natCast, l2]
  refine c_154_19 (by omega) L1 ⟨by omega, by omega, ?_⟩
  rw [Int.toNat_natCast, l3]
  refine ⟨fun z => ?_, fun z => ?_⟩
  · have z1 : szO (dS c) s2 = 1 := by unfold szO; rw [if_pos (by omega)]
    exact first (by omega) h1 _ L1 Fq.refl P1.1 (fun y => absurd z y)
  · have o3 : 0 ≤ s2 ∧ s2 < ((dS c).length : Int) := by omega
    refine c_154_36 (by omega) L1 ⟨fun z => by omega, fun _ => ⟨fun z => by omega, fun _ => ⟨by omega, by omega, ?_⟩⟩⟩
    rw [Int.toNat_natCast, l3]
    refine n_154 (i := 1) (a := b2) (by omega) L1 B1 hS o3 (by omega) (by omega) (P1.2 z) hb2 (fun y g' L' F' x' => ?_) (fun y g' L' F' x' => ?_) (by omega)
    · refine fin (lo + 1) g' L' (F'.mono (fun a k z => by omega)) ?_
      rw [if_pos y]
      exact ⟨rfl, by rw [F'.i (by omega)]; exact P1.1, fun _ => x'⟩
    · exact first y g' _ L' (F'.mono (fun a k z => by omega)) (by rw [F'.i (by omega)]; exact P1.1) (fun _ => x')
end RAG
