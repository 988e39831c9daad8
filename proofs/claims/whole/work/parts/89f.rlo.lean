/-! THE REFERENCE: a sum over indices begins -/
/-- the indices stand at a, b -/
def PosL (c : Dc) (k1 : Nat) (s1 s2 : Int) (a b : Nat) (h : AH) : Prop := ji h 173 k1 = fsO (dS c) s1 + (a : Int) ∧ (¬ s2 = -1 → ji h 173 (k1 + 1) = fsO (dS c) s2 + (b : Int))
abbrev Z173 (k1 : Nat) (a k : Nat) : Prop := a = 173 ∧ k1 ≤ k
abbrev ZGo (b m : Nat) (a k : Nat) : Prop := ((a = 172 ∧ 41 * b ≤ k) ∨ (a = 141 ∧ k = 54)) ∨ (a = 173 ∧ m ≤ k)
theorem w64_z : w64 0 = 0 := w64_id (by unfold r64; omega)
theorem w64_one : w64 1 = 1 := w64_id (by unfold r64; omega)
section RLO
variable {p : Lpar} {d : Nat} {h h' g : AH} {c : Dc} {b lo m k1 : Nat} {s s1 s2 : Int} {l : Ex} {Q : Option AV → AH → Prop}
theorem set_at (B : RTb g c) (h0 : 0 ≤ s) (h1 : s < ((dS c).length : Int)) : ji g 144 s.toNat = fsO (dS c) s ∧ ji g 145 s.toNat = szO (dS c) s := by
  have q := B.1 s.toNat (by omega)
  refine ⟨q.1, ?_⟩
  unfold szO; rw [if_neg (by omega)]; exact q.2
theorem many_at (B : RTb g c) (o : s = -1 ∨ (0 ≤ s ∧ s < ((dS c).length : Int))) : (if s = -1 then 1 else ji g 145 s.toNat) = szO (dS c) s := by
  by_cases z : s = -1
  · rw [if_pos z]; unfold szO; rw [if_pos (by omega)]
  · rw [if_neg z]; exact (set_at B (by omega) (by omega)).2
theorem n_152b (hd : 9 ≤ d) (L : Ly p g) (B : RTb g c) (hl6 : (dS c).length ≤ 6) (hl : lo < 2000) (a1 : ji g 161 lo = (k1 : Int)) (o2 : s2 = -1 ∨ (0 ≤ s2 ∧ s2 < ((dS c).length : Int))) (hk : k1 ≤ 16) (x0 : ji g 173 k1 = fsO (dS c) s1) (H : ∀ g', Ly p g' → Fq (Z173 k1) g g' → PosL c k1 s1 s2 0 0 g' → Q (some (jI ((lo + 1 : Nat) : Int))) g') : WF d 152 56 [jP 141, jI (lo : Int), jI s1, jI s2] [] g Q := by
  have w32k : w32 ((lo : Int) + 1) = ((lo + 1 : Nat) : Int) := by rw [w32_i (by omega) (by omega)]; omega
  refine c_152_56 (by omega) L ⟨fun y => c_152_80 (by omega) L ?_, fun y => ?_⟩
  · rw [w32k]
    exact H g L Fq.refl ⟨by rw [x0]; omega, fun z => absurd y z⟩
  · have x3 : w32 ((k1 : Int) + 1) = ((k1 + 1 : Nat) : Int) := by rw [w32_i (by omega) (by omega)]; omega
    rw [Int.toNat_natCast, a1, x3, Int.toNat_natCast, (set_at B (s := s2) (by omega) (by omega)).1]
    refine ⟨by omega, by omega, by omega, by omega, by omega, by omega, fun L3 => c_152_80 (by omega) L3 ?_⟩
    rw [w32k]
    exact H _ L3 (Fq.wi ⟨rfl, by omega⟩) ⟨by rw [ji_wi, if_neg (by omega), x0]; omega, fun _ => by rw [ji_wi, if_pos ⟨rfl, rfl⟩]; omega⟩
theorem n_152 (hd : 9 ≤ d) (L : Ly p g) (B : RTb g c) (hS : okS (dS c)) (hl : lo < 2000) (a1 : ji g 161 lo = (k1 : Int)) (o1 : 0 ≤ s1 ∧ s1 < ((dS c).length : Int)) (o2 : s2 = -1 ∨ (0 ≤ s2 ∧ s2 < ((dS c).length : Int))) (hk : k1 ≤ 16) (HZ : szO (dS c) s1 * szO (dS c) s2 = 0 → ∃ x h9, jE d 153 [jP 141, jI (lo : Int)] g (some (jI x)) h9 ∧ Ly p h9 ∧ Q (some (jI x)) h9) (HN : ¬ szO (dS c) s1 * szO (dS c) s2 = 0 → ∀ g', Ly p g' → Fq (Z173 k1) g g' → PosL c k1 s1 s2 0 0 g' → Q (some (jI ((lo + 1 : Nat) : Int))) g') : WF d 152 19 [jP 141, jI (lo : Int), jI s1, jI s2] [] g Q := by
  have hl6 := hS.1
  have m1 := sz2_r hS s1 s2
  refine c_152_19 (by omega) L ?_
  rw [many_at B (Or.inr o1), many_at B o2, w32_i (x := szO (dS c) s1 * szO (dS c) s2) (by omega) (by omega), Int.toNat_natCast, a1, Int.toNat_natCast, (set_at B o1.1 o1.2).1]
  refine ⟨Or.inr ⟨o1.1, by omega⟩, by omega, HZ, fun z => ⟨by omega, by omega, o1.1, by omega, by omega, by omega, fun L2 => ?_⟩⟩
  have F : Fq (Z173 k1) g (wi g 173 k1 (fsO (dS c) s1)) := Fq.wi ⟨rfl, Nat.le_refl _⟩
  exact n_152b hd L2 (B.cg (fun a k y => F.i (by omega))) hl6 hl (by rw [ji_wi, if_neg (by omega)]; exact a1) o2 hk (by rw [ji_wi, if_pos ⟨rfl, rfl⟩]) (fun g' L' F' P' => HN z g' L' (F.trans F') P')
def R152 (p : Lpar) (c : Dc) (b lo m k1 : Nat) (s1 s2 : Int) (h : AH) (v : Nat) (h' : AH) : Prop := Ly p h' ∧ StK h' b (fun _ => 0) ∧ ji h' 141 54 = ((b + 1 : Nat) : Int) ∧ Fq (ZGo b k1) h h' ∧ ((szO (dS c) s1 * szO (dS c) s2 = 0 ∧ v = m + 1) ∨ (¬ szO (dS c) s1 * szO (dS c) s2 = 0 ∧ v = lo + 1 ∧ PosL c k1 s1 s2 0 0 h'))
theorem m_152 (hd : 13 ≤ d) (L : Ly p h) (B : RTb h c) (hS : okS (dS c)) (h54 : ji h 141 54 = (b : Int)) (hb : b < 40) (a1 : ji h 161 lo = (k1 : Int)) (a2 : ji h 162 lo = s1) (a3 : ji h 163 lo = s2) (hx : cR h l (lo + 1) m) (e1 : ji h 160 m = 10) (e2 : ji h 161 m = (lo : Int)) (hm : m < 2000) (o1 : 0 ≤ s1 ∧ s1 < ((dS c).length : Int)) (o2 : s2 = -1 ∨ (0 ≤ s2 ∧ s2 < ((dS c).length : Int))) (hk : k1 ≤ 16) : ∃ (v : Nat) (h' : AH), jE d 152 [jP 141, jI (lo : Int)] h (some (jI (v : Int))) h' ∧ R152 p c b lo m k1 s1 s2 h v h' := by
  suffices hh : ∃ w h', jE d 152 [jP 141, jI (lo : Int)] h w h' ∧ ∃ v : Nat, w = some (jI (v : Int)) ∧ R152 p c b lo m k1 s1 s2 h v h' by
    obtain ⟨w, h', hE, v, rfl, q⟩ := hh
    exact ⟨v, h', hE, q⟩
  obtain ⟨d, rfl⟩ : ∃ d', d = d' + 1 := ⟨d - 1, by omega⟩
  have lt := cR_lt hx
  obtain ⟨h1, hE1, L1, F1, q54, q0, q40⟩ := m_146 (d := d) (v := 0) (by omega) L h54 hb
  have S1 : StK h1 b (fun _ => 0) := fun j hj => by
    by_cases z : j = 40
    · rw [z, q40, w64_z]
    · rw [q0 j (by omega), w64_z]
  have s : ∀ a k, ¬ a = 172 → ¬ a = 141 → ji h1 a k = ji h a k := fun a k z1 z2 => F1.i (by omega)
  have c1 : cR h1 l (lo + 1) m := cR_mono hx (fun a k y1 y2 _ _ => s a k (by omega) (by omega))
  have B1 : RTb h1 c := B.cg (fun a k y => s a k (by omega) (by omega))
  refine jE_of (as := [jP 141, jI (lo : Int)]) (Nat.le_of_ble_eq_true rfl) (c_152_0 (by omega) L ⟨h1, hE1, L1, c_152_5 (by omega) L1 ⟨by omega, by omega, c_152_12 (by omega) L1 ⟨by omega, by omega, ?_⟩⟩⟩)
  rw [Int.toNat_natCast, s 162 lo (by omega) (by omega), s 163 lo (by omega) (by omega), a2, a3]
  have G1 : Fq (ZGo b k1) h h1 := F1.mono (fun a k y => Or.inl y)
  refine n_152 (by omega) L1 B1 hS (by omega) ((s _ _ (by omega) (by omega)).trans a1) o1 o2 hk (fun z => ?_) (fun z g' L' F' P' => ?_)
  · exact ⟨_, h1, m_153 (by omega) L1 c1 ((s _ _ (by omega) (by omega)).trans e1) ((s _ _ (by omega) (by omega)).trans e2) hm, L1, m + 1, rfl, L1, S1, q54, G1, Or.inl ⟨z, rfl⟩⟩
  · exact ⟨lo + 1, rfl, L', fun j hj => by rw [F'.l (by omega)]; exact S1 j hj, (F'.i (by omega)).trans q54, G1.trans (F'.mono (fun a k y => Or.inr y)), Or.inr ⟨z, rfl, P'⟩⟩
end RLO
