/-! THE REFERENCE: places -/
def InS (S : List (Int × Int)) (sl : List Int) (nu : Nat → Int) : Prop := ∀ s, s < sl.length → 0 ≤ sl.getD s (-1) ∧ sl.getD s (-1) < (S.length : Int) ∧ fsO S (sl.getD s (-1)) ≤ nu s ∧ nu s < fsO S (sl.getD s (-1)) + szO S (sl.getD s (-1))
def NuR (h : AH) (m : Nat) (nu : Nat → Int) : Prop := ∀ s, s < m → ji h 173 s = nu s
section RPL
variable {p : Lpar} {d : Nat} {h h' : AH} {c : Dc} {S : List (Int × Int)} {sl : List Int} {nu : Nat → Int} {o : Int × Int} {q r set : Int} {m : Nat}
theorem pl_of (hp : plOK S sl set q) (I : InS S sl nu) (h0 : 0 ≤ set) (h1 : set < (S.length : Int)) : ofO S set (plV nu q) = plV nu q - fsO S set ∧ fsO S set ≤ plV nu q ∧ plV nu q < fsO S set + szO S set := by
  have key : fsO S set ≤ plV nu q ∧ plV nu q < fsO S set + szO S set := by
    rcases hp with ⟨y1, y2, y3⟩ | ⟨y1, y2, y3⟩
    · unfold plV
      rw [if_pos y1]
      unfold ofO at y3
      rw [if_neg (by omega)] at y3
      by_cases z : q < fsO S set ∨ szO S set ≤ q - fsO S set
      · rw [if_pos z] at y3; exact absurd rfl y3
      · omega
    · unfold plV
      rw [if_neg (by omega)]
      have := I (-1 - q).toNat (by omega)
      unfold wiO at y3
      have y3 := of_decide_eq_true y3
      omega
  refine ⟨?_, key⟩
  unfold ofO
  rw [if_neg (by omega), if_neg (by omega)]
theorem m_147p (hd : 10 ≤ d) (L : Ly p h) (N : NuR h m nu) (hm : m ≤ 18) (hq : 0 ≤ q ∧ q ≤ 9999 ∨ (q < 0 ∧ -1 - q < (m : Int))) : jE d 147 [jP 141, jI q] h (some (jI (plV nu q))) h := by
  have e : (if 0 ≤ q then q else ji h 173 (-1 - q).toNat) = plV nu q := by
    unfold plV
    by_cases z : 0 ≤ q
    · rw [if_pos z, if_pos z]
    · rw [if_neg z, if_neg z]; exact N _ (by omega)
  have w := m_147 (d := d) (q := q) (by omega) L (by omega)
  rw [e] at w
  exact w
theorem m_148 (hd : 12 ≤ d) (L : Ly p h) (B : RTb h c) (hS : okS (dS c)) (N : NuR h sl.length nu) (hm : sl.length ≤ 18) (I : InS (dS c) sl nu) (ho : (o.1 = -1 ∧ o.2 = -1) ∨ (0 ≤ o.1 ∧ o.1 < ((dS c).length : Int) ∧ (o.2 = -1 ∨ (0 ≤ o.2 ∧ o.2 < ((dS c).length : Int))))) (hp : psOK (dS c) sl o q r) : jE d 148 [jP 141, jI o.1, jI o.2, jI q, jI r] h (some (jI (ofO (dS c) o.1 (plV nu q) * szO (dS c) o.2 + ofO (dS c) o.2 (plV nu r)))) h := by
  obtain ⟨d, rfl⟩ : ∃ d', d = d' + 1 := ⟨d - 1, by omega⟩
  have hl := hS.1
  have pp := ps_pl hp
  have at' : ∀ s : Int, 0 ≤ s → s < ((dS c).length : Int) → ji h 144 s.toNat = fsO (dS c) s ∧ ji h 145 s.toNat = szO (dS c) s ∧ (0 ≤ fsO (dS c) s ∧ fsO (dS c) s ≤ 9999) := fun s h0 h1 => by
    have b := B.1 s.toNat (by omega)
    have e := hS.2 _ (getD_mem (l := dS c) (k := s.toNat) (by omega) (0, 0))
    refine ⟨b.1, ?_, ?_⟩
    · unfold szO; rw [if_neg (by omega)]; exact b.2
    · unfold fsO; omega
  have z1 : ∀ s : Int, s = -1 → szO (dS c) s = 1 ∧ ∀ x, ofO (dS c) s x = 0 := fun s hs => ⟨by unfold szO; rw [if_pos (by omega)], fun x => by unfold ofO; rw [if_pos (by omega)]⟩
  refine jE_eq (Nat.le_of_ble_eq_true rfl) (c_148_0 (by omega) L ⟨fun z => ?_, fun z => ?_⟩)
  · have z2 : o.2 = -1 := by omega
    refine ⟨fun _ => ⟨?_, rfl⟩, fun y => absurd z2 y⟩
    rw [(z1 _ z).2, (z1 _ z2).1, (z1 _ z2).2]; rfl
  · obtain ⟨o1, o2, o3⟩ : 0 ≤ o.1 ∧ o.1 < ((dS c).length : Int) ∧ (o.2 = -1 ∨ (0 ≤ o.2 ∧ o.2 < ((dS c).length : Int))) := by
      rcases ho with y | y
      · exact absurd y.1 z
      · exact y
    unfold psOK at hp
    rw [if_neg z] at hp
    have s8 := szO_r hS o.1
    have f1 := pl_of hp.1 I o1 o2
    obtain ⟨a1, a2, a3⟩ := at' o.1 o1 o2
    refine ⟨_, h, m_147p (by omega) L N hm pp.1, L, o1, by omega, fun y => ?_, fun y => ?_⟩
    · refine ⟨?_, rfl⟩
      rw [a1, (z1 _ y).1, (z1 _ y).2, f1.1, w32_i (by omega) (by omega), Int.mul_one, Int.add_zero]
    · obtain ⟨p1, p2⟩ : 0 ≤ o.2 ∧ o.2 < ((dS c).length : Int) := by omega
      have hp2 := hp.2
      rw [if_neg y] at hp2
      have f2 := pl_of hp2 I p1 p2
      have s9 := szO_r hS o.2
      obtain ⟨b1, b2, b3⟩ := at' o.2 p1 p2
      refine ⟨p1, by omega, _, h, m_147p (by omega) L N hm pp.2, L, p1, by omega, ?_, rfl⟩
      rw [a1, b1, b2, f1.1, f2.1, w32_i (x := plV nu q - fsO (dS c) o.1) (by omega) (by omega)]
      have m1 : (plV nu q - fsO (dS c) o.1) * szO (dS c) o.2 ≤ 8 * 8 := Int.mul_le_mul (by omega) (by omega) (by omega) (by omega)
      have m2 : 0 ≤ (plV nu q - fsO (dS c) o.1) * szO (dS c) o.2 := Int.mul_nonneg (by omega) (by omega)
      rw [w32_i (x := (plV nu q - fsO (dS c) o.1) * szO (dS c) o.2) (by omega) (by omega), w32_i (x := (plV nu q - fsO (dS c) o.1) * szO (dS c) o.2 + plV nu r) (by omega) (by omega), w32_i (by omega) (by omega), Int.add_sub_assoc]
end RPL
