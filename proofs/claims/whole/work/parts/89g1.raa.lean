/-! THE REFERENCE: a sum over indices goes on -/
section RAA
variable {p : Lpar} {d : Nat} {h h' g : AH} {c : Dc} {b lo m k1 a b2 : Nat} {s1 s2 : Int} {f f2 : Nat → Int} {Q : Option AV → AH → Prop}
abbrev nxt4 (c : Dc) (lo m k1 a b2 : Nat) (s1 s2 : Int) (v : Nat) (h' : AH) : Prop := if ((b2 + 1 : Nat) : Int) < szO (dS c) s2 then v = lo + 1 ∧ PosL c k1 s1 s2 a (b2 + 1) h' else if ((a + 1 : Nat) : Int) < szO (dS c) s1 then v = lo + 1 ∧ PosL c k1 s1 s2 (a + 1) 0 h' else v = m + 1
def R154 (p : Lpar) (c : Dc) (b lo m k1 a b2 : Nat) (s1 s2 : Int) (f f2 : Nat → Int) (h : AH) (v : Nat) (h' : AH) : Prop := Ly p h' ∧ StK h' b (fun j => f j + f2 j) ∧ ji h' 141 54 = ((b + 1 : Nat) : Int) ∧ Fq (ZGo b k1) h h' ∧ nxt4 c lo m k1 a b2 s1 s2 v h'
theorem RTb.f3 (B : RTb h c) (F : Fq (Z173 k1) h g) : RTb g c := B.cg (fun a k y => F.i (by omega))
/-- the first index is counted -/
theorem f_154 (hd : 9 ≤ d) (L : Ly p g) (B : RTb g c) (hS : okS (dS c)) {z5 : AV} (a2 : ji g 162 lo = s1) (hl : lo < 2000) (hm : m < 2000) (o1 : 0 ≤ s1 ∧ s1 < ((dS c).length : Int)) (hk : k1 ≤ 16) (ha : (a : Int) < szO (dS c) s1) (x1 : ji g 173 k1 = fsO (dS c) s1 + (a : Int)) (x2 : ¬ s2 = -1 → ji g 173 (k1 + 1) = fsO (dS c) s2) (zb : ¬ ((b2 + 1 : Nat) : Int) < szO (dS c) s2) (K : ∀ (v : Nat) (g' : AH), Ly p g' → Fq (Z173 k1) g g' → nxt4 c lo m k1 a b2 s1 s2 v g' → Q (some (jI (v : Int))) g') : WF d 154 36 [jP 141, jI (m : Int), jI (lo : Int), jI (k1 : Int), jI 0, z5] [] g Q := by
  obtain ⟨q1, q2⟩ := set_at B o1.1 o1.2
  have l6 := hS.1
  have r1 := fsO_r hS s1
  have r2 := szO_r hS s1
  have o6 : 0 ≤ s1 ∧ s1 < 6 := by omega
  refine c_154_36 hd L ⟨fun z => absurd z (by decide), fun _ => ⟨fun _ => ⟨by omega, by omega, ?_⟩, fun z => absurd rfl z⟩⟩
  rw [Int.toNat_natCast, a2]
  refine n_154 (i := 0) (n := k1) (a := a) hd L q1 q2 x1 o6 (by omega) (by omega) hl r1 r2 ha (by omega) (fun g' y L' F' x' => ?_) (fun g' y L' F' x' => ?_)
  · refine K (lo + 1) g' L' (F'.mono (fun a k z => ⟨z.1, by omega⟩)) ?_
    unfold nxt4
    rw [if_neg zb, if_pos y]
    exact ⟨rfl, x', fun z => by rw [F'.i (by omega), x2 z]; omega⟩
  · refine c_154_36 hd L' ⟨fun _ => ?_, fun z => absurd (by decide) z⟩
    rw [w32_i (x := (m : Int) + 1) (by omega) (by omega)]
    refine K (m + 1) g' L' (F'.mono (fun a k z => ⟨z.1, by omega⟩)) ?_
    unfold nxt4
    rw [if_neg zb, if_neg y]
theorem m_154 (hd : 11 ≤ d) (L : Ly p h) (B : RTb h c) (hS : okS (dS c)) (h54 : ji h 141 54 = ((b + 2 : Nat) : Int)) (hb : b + 2 ≤ 40) (S1 : StK h b f) (S2 : StK h (b + 1) f2) (a1 : ji h 161 lo = (k1 : Int)) (a2 : ji h 162 lo = s1) (a3 : ji h 163 lo = s2) (e2 : ji h 161 m = (lo : Int)) (hl : lo < m) (hm : m < 2000) (o1 : 0 ≤ s1 ∧ s1 < ((dS c).length : Int)) (o2 : s2 = -1 ∨ (0 ≤ s2 ∧ s2 < ((dS c).length : Int))) (hk : k1 ≤ 16) (P : PosL c k1 s1 s2 a b2 h) (ha : (a : Int) < szO (dS c) s1) (hb2 : (b2 : Int) < szO (dS c) s2) : ∃ (v : Nat) (h' : AH), jE d 154 [jP 141, jI (m : Int)] h (some (jI (v : Int))) h' ∧ R154 p c b lo m k1 a b2 s1 s2 f f2 h v h' := by
  suffices hh : ∃ w h', jE d 154 [jP 141, jI (m : Int)] h w h' ∧ ∃ v : Nat, w = some (jI (v : Int)) ∧ R154 p c b lo m k1 a b2 s1 s2 f f2 h v h' by
    obtain ⟨w, h', hE, v, rfl, q⟩ := hh
    exact ⟨v, h', hE, q⟩
  obtain ⟨d, rfl⟩ : ∃ d', d = d' + 1 := ⟨d - 1, by omega⟩
  obtain ⟨h1, hE1, L1, F1, q54, T1⟩ := m_150 (d := d) (v := 1) (by omega) L h54 hb S1 S2
  have T1 : StK h1 b (fun j => f j + f2 j) := T1.cg (fun j _ => by show f j + 1 * f2 j = f j + f2 j; rw [Int.one_mul])
  have s : ∀ a k, ¬ a = 172 → ¬ a = 141 → ji h1 a k = ji h a k := fun a k z1 z2 => F1.i (by omega)
  have B1 : RTb h1 c := B.cg (fun a k y => s a k (by omega) (by omega))
  have G1 : Fq (ZGo b k1) h h1 := F1.mono (fun a k y => Or.inl y)
  have P1 : PosL c k1 s1 s2 a b2 h1 := ⟨(s _ _ (by omega) (by omega)).trans P.1, fun z => (s _ _ (by omega) (by omega)).trans (P.2 z)⟩
  have l1 : ji h1 161 m = (lo : Int) := (s _ _ (by omega) (by omega)).trans e2
  have l2 : ji h1 161 lo = (k1 : Int) := (s _ _ (by omega) (by omega)).trans a1
  have l3 : ji h1 163 lo = s2 := (s _ _ (by omega) (by omega)).trans a3
  have l4 : ji h1 162 lo = s1 := (s _ _ (by omega) (by omega)).trans a2
  have fin : ∀ (v : Nat) (g' : AH), Ly p g' → Fq (Z173 k1) h1 g' → nxt4 c lo m k1 a b2 s1 s2 v g' → ∃ v' : Nat, some (jI (v : Int)) = some (jI (v' : Int)) ∧ R154 p c b lo m k1 a b2 s1 s2 f f2 h v' g' := fun v g' L' F' q => ⟨v, rfl, L', fun j hj => by rw [F'.l (by omega)]; exact T1 j hj, (F'.i (by omega)).trans q54, G1.trans (F'.mono (fun a k y => Or.inr y)), q⟩
  clear S1 S2 T1 G1 F1 e2 a1 a2 a3 s h54 q54 B P
  refine jE_of (as := [jP 141, jI (m : Int)]) (Nat.le_of_ble_eq_true rfl) (c_154_0 (by omega) L ⟨h1, hE1, L1, c_154_5 (by omega) L1 ⟨by omega, by omega, ?_⟩⟩)
  rw [Int.toNat_natCast, l1]
  refine c_154_12 (by omega) L1 ⟨by omega, by omega, ?_⟩
  rw [Int.toNat_natCast, l2]
  refine c_154_19 (by omega) L1 ⟨by omega, by omega, ?_⟩
  rw [Int.toNat_natCast, l3]
  refine ⟨fun z => ?_, fun z => ?_⟩
  · have z1 : szO (dS c) s2 = 1 := by unfold szO; rw [if_pos (by omega)]
    exact f_154 (by omega) L1 B1 hS l4 (by omega) hm o1 hk ha P1.1 (fun y => absurd z y) (by omega) fin
  · have o3 : 0 ≤ s2 ∧ s2 < ((dS c).length : Int) := by omega
    obtain ⟨q1, q2⟩ := set_at B1 o3.1 o3.2
    have l6 := hS.1
    have r1 := fsO_r hS s2
    have r2 := szO_r hS s2
    have o6 : 0 ≤ s2 ∧ s2 < 6 := by omega
    refine c_154_36 (by omega) L1 ⟨fun z => absurd z (by decide), fun _ => ⟨fun z => absurd z (by decide), fun _ => ⟨by omega, by omega, ?_⟩⟩⟩
    rw [Int.toNat_natCast, l3]
    refine n_154 (i := 1) (n := k1 + 1) (a := b2) (by omega) L1 q1 q2 (P1.2 z) o6 (by omega) (by omega) (by omega) r1 r2 hb2 (by omega) (fun g' y L' F' x' => ?_) (fun g' y L' F' x' => ?_)
    · refine fin (lo + 1) g' L' (F'.mono (fun a k z => ⟨z.1, by omega⟩)) ?_
      unfold nxt4
      rw [if_pos y]
      exact ⟨rfl, by rw [F'.i (by omega)]; exact P1.1, fun _ => x'⟩
    · have F2 : Fq (Z173 k1) h1 g' := F'.mono (fun a k z => ⟨z.1, by omega⟩)
      exact f_154 (by omega) L' (B1.f3 F2) hS ((F'.i (by omega)).trans l4) (by omega) hm o1 hk ha (by rw [F'.i (by omega)]; exact P1.1) (fun _ => x') y (fun v g2 L2 G2 q => fin v g2 L2 (F2.trans G2) q)
end RAA
