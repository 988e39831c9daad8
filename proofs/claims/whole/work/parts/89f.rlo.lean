/-! THE REFERENCE: a sum over indices begins -/
section RLO
variable {p : Lpar} {d : Nat} {h h' : AH} {c : Dc} {b lo m k1 : Nat} {s1 s2 : Int} {l : Ex}
def P152 (p : Lpar) (c : Dc) (b lo m k1 : Nat) (s1 s2 : Int) (h : AH) (w : Option AV) (h' : AH) : Prop := ∃ v : Nat, w = some (jI (v : Int)) ∧ Ly p h' ∧ StK h' b (fun _ => 0) ∧ ji h' 141 54 = ((b + 1 : Nat) : Int) ∧ (szO (dS c) s1 * szO (dS c) s2 = 0 → v = m + 1 ∧ Fq (ZK b) h h') ∧ (¬ szO (dS c) s1 * szO (dS c) s2 = 0 → v = lo + 1 ∧ Fq (fun a k => ZK b a k ∨ (a = 173 ∧ k1 ≤ k)) h h' ∧ ji h' 173 k1 = fsO (dS c) s1 ∧ (¬ s2 = -1 → ji h' 173 (k1 + 1) = fsO (dS c) s2))
theorem m_152 (hd : 13 ≤ d) (L : Ly p h) (B : RTb h c) (hS : okS (dS c)) (h54 : ji h 141 54 = (b : Int)) (hb : b < 40) (a1 : ji h 161 lo = (k1 : Int)) (a2 : ji h 162 lo = s1) (a3 : ji h 163 lo = s2) (hx : cR h l (lo + 1) m) (e1 : ji h 160 m = 10) (e2 : ji h 161 m = (lo : Int)) (hm : m < 2000) (o1 : 0 ≤ s1 ∧ s1 < ((dS c).length : Int)) (o2 : s2 = -1 ∨ (0 ≤ s2 ∧ s2 < ((dS c).length : Int))) (hk : k1 ≤ 16) : ∃ w h', jE d 152 [jP 141, jI (lo : Int)] h w h' ∧ P152 p c b lo m k1 s1 s2 h w h' := by
  obtain ⟨d, rfl⟩ : ∃ d', d = d' + 1 := ⟨d - 1, by omega⟩
  have hl := hS.1
  have lt := cR_lt hx
  obtain ⟨h1, hE1, L1, F1, q54, q0, q40⟩ := m_146 (d := d) (v := 0) (by omega) L h54 hb
  have S1 : StK h1 b (fun _ => 0) := fun j hj => by
    by_cases z : j = 40
    · rw [z, q40]; rfl
    · rw [q0 j (by omega)]; rfl
  have s : ∀ a k, ¬ a = 172 → ¬ a = 141 → ji h1 a k = ji h a k := fun a k z1 z2 => F1.i (by omega)
  have sz : ∀ x : Int, 0 ≤ x → x < ((dS c).length : Int) → ji h1 145 x.toNat = szO (dS c) x ∧ ji h1 144 x.toNat = fsO (dS c) x := fun x h0 h2 => by
    have q := B.1 x.toNat (by omega)
    refine ⟨?_, (s _ _ (by omega) (by omega)).trans q.1⟩
    unfold szO; rw [if_neg (by omega)]; exact (s _ _ (by omega) (by omega)).trans q.2
  have n1 : (if s1 = -1 then 1 else ji h1 145 s1.toNat) = szO (dS c) s1 := by rw [if_neg (by omega)]; exact (sz s1 o1.1 o1.2).1
  have n2 : (if s2 = -1 then 1 else ji h1 145 s2.toNat) = szO (dS c) s2 := by
    by_cases z : s2 = -1
    · rw [if_pos z]; unfold szO; rw [if_pos (by omega)]
    · rw [if_neg z]; exact (sz s2 (by omega) (by omega)).1
  have z1 := szO_r hS s1
  have z2 := szO_r hS s2
  have m1 : szO (dS c) s1 * szO (dS c) s2 ≤ 8 * 8 := Int.mul_le_mul (by omega) (by omega) (by omega) (by omega)
  have m2 : 0 ≤ szO (dS c) s1 * szO (dS c) s2 := Int.mul_nonneg (by omega) (by omega)
  have c1 : cR h1 l (lo + 1) m := cR_mono hx (fun a k y1 y2 _ _ => s a k (by omega) (by omega))
  refine jE_of (as := [jP 141, jI (lo : Int)]) (Nat.le_of_ble_eq_true rfl) (c_152_0 (by omega) L ⟨h1, hE1, L1, c_152_5 (by omega) L1 ⟨by omega, by omega, c_152_12 (by omega) L1 ⟨by omega, by omega, ?_⟩⟩⟩)
  rw [Int.toNat_natCast, s 162 _ (by omega) (by omega), s 163 _ (by omega) (by omega), a2, a3]
  refine c_152_19 (by omega) L1 ?_
  rw [n1, n2, w32_i (x := szO (dS c) s1 * szO (dS c) s2) (by omega) (by omega), Int.toNat_natCast, s 161 _ (by omega) (by omega), a1, Int.toNat_natCast, (sz s1 o1.1 o1.2).2]
  refine ⟨Or.inr ⟨o1.1, by omega⟩, by omega, fun z => ⟨_, h1, m_153 (by omega) L1 c1 ((s _ _ (by omega) (by omega)).trans e1) ((s _ _ (by omega) (by omega)).trans e2) hm, L1, m + 1, rfl, L1, S1, q54, fun _ => ⟨rfl, F1⟩, fun y => absurd z y⟩, fun z => ⟨by omega, by omega, o1.1, by omega, by omega, by omega, fun L2 => ?_⟩⟩
  have G1 : Fq (fun a k => ZK b a k ∨ (a = 173 ∧ k1 ≤ k)) h (wi h1 173 k1 (fsO (dS c) s1)) := (F1.mono (fun a k y => Or.inl y)).trans (Fq.wi (by omega))
  have w32k : w32 ((lo : Int) + 1) = ((lo + 1 : Nat) : Int) := by rw [w32_i (by omega) (by omega)]; rfl
  refine c_152_56 (by omega) L2 ⟨fun y => c_152_80 (by omega) L2 ?_, fun y => ?_⟩
  · rw [w32k]
    exact ⟨lo + 1, rfl, L2, fun j hj => S1 j hj, by rw [ji_wi, if_neg (by omega)]; exact q54, fun y2 => absurd y2 z, fun _ => ⟨rfl, G1, by rw [ji_wi, if_pos ⟨rfl, rfl⟩], fun y2 => absurd y y2⟩⟩
  · have x1 : ji (wi h1 173 k1 (fsO (dS c) s1)) 161 lo = (k1 : Int) := by rw [ji_wi, if_neg (by omega), s _ _ (by omega) (by omega)]; exact a1
    have x2 : ji (wi h1 173 k1 (fsO (dS c) s1)) 144 s2.toNat = fsO (dS c) s2 := by rw [ji_wi, if_neg (by omega)]; exact (sz s2 (by omega) (by omega)).2
    have x3 : w32 ((k1 : Int) + 1) = ((k1 + 1 : Nat) : Int) := by rw [w32_i (by omega) (by omega)]; rfl
    rw [Int.toNat_natCast, x1, x2, x3, Int.toNat_natCast]
    refine ⟨by omega, by omega, by omega, by omega, by omega, by omega, fun L3 => c_152_80 (by omega) L3 ?_⟩
    rw [w32k]
    exact ⟨lo + 1, rfl, L3, fun j hj => S1 j hj, by rw [ji_wi, if_neg (by omega), ji_wi, if_neg (by omega)]; exact q54, fun y2 => absurd y2 z, fun _ => ⟨rfl, G1.trans (Fq.wi (by omega)), by rw [ji_wi, if_neg (by omega), ji_wi, if_pos ⟨rfl, rfl⟩], fun _ => by rw [ji_wi, if_pos ⟨rfl, rfl⟩]⟩⟩
end RLO
