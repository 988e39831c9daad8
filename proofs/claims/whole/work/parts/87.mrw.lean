/-! THE CLASS: one row is made -/
def rnu (c : Dc) (row : Nat) (s : Nat) : Int := if s = 0 then fN (dS c) (dR c) row else sN (dS c) (dR c) row
def rowL (c : Dc) (row j : Nat) : Int := lin c ((dL c).getD (owO (dS c) (dR c) row).toNat zL).2.1 (rnu c row) j - lin c ((dL c).getD (owO (dS c) (dR c) row).toNat zL).2.2 (rnu c row) j
section MRW
variable {p : Lpar} {d : Nat} {h h' h0 h1 h2 g : AH} {c : Dc} {row : Nat}
theorem w64_neg (x : Int) : w64 (-(w64 x)) = w64 (-x) := by unfold w64; omega
theorem slR_l (o : Int × Int) : (slR o).length ≤ 2 := by
  unfold slR
  split
  · exact Nat.zero_le 2
  split
  · show 1 ≤ 2; omega
  · exact Nat.le_refl 2
theorem m_14 (hd : 45 ≤ d) (M : MkC p c h) (hr : (row : Int) < tot (dS c) (dR c)) (h40 : row < 40) : ∃ h', jE d 14 [jP 95, jI (row : Int)] h none h' ∧ MkC p c h' ∧ Fw (fun a k => a = 97 + row ∨ (a = 95 ∧ k = 8) ∨ a = 140 ∨ (a = 137 ∧ k = row)) h h' ∧ (∀ j, j < 40 → jl h' (97 + row) j = w64 (rowL c row j)) ∧ jl h' 137 row = w64 (-(rowL c row 40)) := by
  obtain ⟨d, rfl⟩ : ∃ d', d = d' + 1 := ⟨d - 1, by omega⟩
  suffices hh : ∃ w h', jE (d + 1) 14 [jP 95, jI (row : Int)] h w h' ∧ w = none ∧ MkC p c h' ∧ Fw (fun a k => a = 97 + row ∨ (a = 95 ∧ k = 8) ∨ a = 140 ∨ (a = 137 ∧ k = row)) h h' ∧ (∀ j, j < 40 → jl h' (97 + row) j = w64 (rowL c row j)) ∧ jl h' 137 row = w64 (-(rowL c row 40)) by
    obtain ⟨w, h', hE, rfl, q⟩ := hh
    exact ⟨h', hE, q⟩
  have L := M.1
  have B := M.2.1
  have O := M.2.2.1
  have cn := O.cnt
  have hW : isW (97 + row) := Or.inl ⟨by omega, by omega⟩
  have hT : isTh (pM p) (pM p + 22) 10 := ⟨L.iM, Or.inr (Or.inr ⟨rfl, rfl⟩)⟩
  have hk : ¬ owO (dS c) (dR c) (row : Int) = -1 := by
    unfold owO
    rw [if_neg (by omega)]
    omega
  obtain ⟨r1, r2, r3, r4, r5, r6⟩ := owO_r hk
  have oL := O.2.2.2.1
  have ob := O.2.2.2.2.2.2.2.2.1 (owO (dS c) (dR c) (row : Int)).toNat (by omega)
  have fb := fN_b (S := dS c) (O := dR c) O.1.2.1 cn.2.2.2 (row : Int)
  refine jE_of (as := [jP 95, jI (row : Int)]) (Nat.le_of_ble_eq_true rfl) (c_14_0 (by omega) L ⟨_, h, m_61 (S := dS c) (by omega) L L.iM hT O.1.2.1 B.2.2.2.1 O.2.1 cn.2.2.2, L, c_14_12 (by omega) L ⟨fun z => absurd z hk, fun _ => ⟨_, h, m_62 (S := dS c) (by omega) L L.iM hT B.1 O.1.2.1 B.2.2.2.1 O.2.1 cn.2.2.2, L, fun L1 => ?_⟩⟩⟩)
  have F1 : Fq (fun a _ => a = 140) h (wi h 140 (Int.toNat 0) (fN (dS c) (dR c) row)) := Fq.wi rfl
  have M1 : MkC p c (wi h 140 (Int.toNat 0) (fN (dS c) (dR c) row)) := M.fm (F1.fm.mono (fun a k z => by omega))
  refine c_14_35 (by omega) L1 ⟨_, _, m_63 (S := dS c) (by omega) L1 L1.iM hT M1.2.1.1 O.1.2.1 M1.2.1.2.2.2.1 O.2.1 cn.2.2.2, L1, fun L2 => ?_⟩
  have F2 : Fq (fun a _ => a = 140) h (wi (wi h 140 (Int.toNat 0) (fN (dS c) (dR c) row)) 140 (Int.toNat 1) (sN (dS c) (dR c) row)) := F1.trans (Fq.wi rfl)
  have e0 : ji (wi (wi h 140 (Int.toNat 0) (fN (dS c) (dR c) row)) 140 (Int.toNat 1) (sN (dS c) (dR c) row)) 140 0 = fN (dS c) (dR c) row := by rw [ji_wi, if_neg (by decide), ji_wi, if_pos ⟨rfl, rfl⟩]
  have e1 : ji (wi (wi h 140 (Int.toNat 0) (fN (dS c) (dR c) row)) 140 (Int.toNat 1) (sN (dS c) (dR c) row)) 140 1 = sN (dS c) (dR c) row := by rw [ji_wi, if_pos ⟨rfl, rfl⟩]
  generalize wi (wi h 140 (Int.toNat 0) (fN (dS c) (dR c) row)) 140 (Int.toNat 1) (sN (dS c) (dR c) row) = g2 at *
  obtain ⟨h3, hE3, L3, j7, A3, F3⟩ := m_15 (d := d) (by omega) L2 hW
  refine c_14_52 (by omega) L2 ⟨by omega, by omega, ?_⟩
  rw [Int.toNat_natCast]
  refine ⟨h3, hE3, L3, ?_⟩
  have F03 : Fw (fun a k => a = 97 + row ∨ (a = 95 ∧ k = 8) ∨ a = 140 ∨ (a = 137 ∧ k = row)) h h3 := (F2.fm.mono (fun a k z => by omega)).trans (F3.mono (fun a k z => by omega))
  have M3 : MkC p c h3 := M.fm (F03.mono (fun a k z => by omega))
  have E3 := M3.ev hW j7
  have N3 : NuM h3 (slR ((dR c).getD (owO (dS c) (dR c) (row : Int)).toNat (-1, -1))).length (rnu c row) := by
    intro s hs
    have := slR_l ((dR c).getD (owO (dS c) (dR c) (row : Int)).toNat (-1, -1))
    rw [F3.i (by omega)]
    by_cases z : s = 0
    · subst z; exact ⟨e0, fb.1⟩
    · have z : s = 1 := by omega
      subst z; exact ⟨e1, fb.2⟩
  have sl2 := slR_l ((dR c).getD (owO (dS c) (dR c) (row : Int)).toNat (-1, -1))
  obtain ⟨d', rfl⟩ : ∃ d', d = d' + 3 := ⟨d - 3, by omega⟩
  have S := s16 p c (97 + row) 8 d' (by omega)
  have b7 := M3.2.1.2.2.2.2.2.2.1 (owO (dS c) (dR c) (row : Int)).toNat (by omega)
  obtain ⟨h4, hE4, E4, F4, N4, A4⟩ := S h3 _ _ _ NF (jx h3) _ _ 1 1 0 E3 ob.2.1 (by omega) b7.2.1 (Nat.le_refl _) N3 A3 rfl (by omega)
  have M4 : MkC p c h4 := M3.fm (evM hW F4)
  have b8 := M4.2.1.2.2.2.2.2.2.1 (owO (dS c) (dR c) (row : Int)).toNat (by omega)
  obtain ⟨h5, hE5, E5, F5, N5, A5⟩ := S h4 _ _ _ NF (jx h4) _ _ (-1) (-1) 0 E4 ob.2.2 (by omega) b8.2.2 (Nat.le_refl _) N4 A4 rfl (by omega)
  have M5 : MkC p c h5 := M4.fm (evM hW F5)
  refine c_14_62 (by omega) L3 ⟨by omega, by omega, h4, hE4, E4.1, c_14_77 (by omega) E4.1 ⟨by omega, by omega, h5, hE5, E5.1, c_14_94 (by omega) E5.1 ⟨by omega, by omega, fun L6 => c_14_105 (by omega) L6 ?_⟩⟩⟩
  rw [Int.toNat_natCast]
  have F6 : Fq (fun a k => a = 137 ∧ k = row) h5 (wl h5 137 row (w64 (-(jl h5 95 8)))) := Fq.wl ⟨rfl, rfl⟩
  have eX : ∀ j, (0 : Int) + 1 * lin c ((dL c).getD (owO (dS c) (dR c) row).toNat zL).2.1 (rnu c row) j + -1 * lin c ((dL c).getD (owO (dS c) (dR c) row).toNat zL).2.2 (rnu c row) j = rowL c row j := fun j => by unfold rowL; omega
  refine ⟨rfl, M5.fm (F6.fm.mono (fun a k z => by omega)), ((F03.trans (F4.fm.mono (fun a k z => by omega))).trans (F5.fm.mono (fun a k z => by omega))).trans (F6.fm.mono (fun a k z => by omega)), fun j hj => ?_, ?_⟩
  · rw [jl_wl, if_neg (by omega), A5.1 j hj, ← eX j]
  · rw [jl_wl, if_pos ⟨rfl, rfl⟩, A5.2, w64_neg, ← eX 40]
end MRW
