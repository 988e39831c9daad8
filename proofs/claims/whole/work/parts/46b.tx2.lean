/-! THE READER: readText -/
section TX2
variable {p : Lpar} {d D : Nat} {h h' h0 h1 h2 : AH} {T : Txt} {e i i0 : Nat} {c : Dc} {S : List (Int × Int)}
theorem clrH_x : jx (clrH h D) = jx h := by unfold clrH; rw [jx_wl, jx_wr, jx_wi, jx_wi, jx_wi, jx_wi, jx_wi, jx_wi, jx_wi, jx_wi, jx_wi, jx_wi]
theorem r_32 (hd : 43 ≤ d) (g : tkG T) (L : Ly p h) (K : TokR T e 0 h) {a1 : Nat} (ha : isD a1) {R : Er Dc} (hR : pText T 400 D0 0 = R) : ∃ u h', jE d 32 [jP 93, jP a1] h u h' ∧ P32 (pTo p a1) T e h R u h' := by
  obtain ⟨d, rfl⟩ : ∃ d', d = d' + 1 := ⟨d - 1, by omega⟩
  have ha' := ha
  unfold isD at ha'
  have hx := L.nx
  have hN : NF = 197 := rfl
  have L1 : Ly (pTo p a1) (wr h 93 1 a1) := ly_to L ha
  have L2 := clrH_L (D := a1) L1 ha
  have f2 : Fm (fun a => a1 ≤ a ∧ a ≤ a1 + 25) (wr h 93 1 a1) (clrH (wr h 93 1 a1) a1) := clrH_F ha
  refine jE_of (as := [jP 93, jP a1]) (Nat.le_of_ble_eq_true rfl) (b_32_0 ⟨L.t93, b_32_5 ?_⟩)
  rw [show jr (wr h 93 1 a1) 93 1 = a1 by rw [jr_wr, if_pos ⟨rfl, rfl⟩]]
  refine ⟨L1.t93, L1.dt0 ha, clrH (wr h 93 1 a1) a1, m_7 (by omega) L1 ha, b_32_12 ⟨L2.t93, b_32_17 ?_⟩⟩
  have L3 : Ly (pTo p a1) (wi (clrH (wr h 93 1 a1) a1) 93 6 0) := L2.wi (by decide)
  have K3 : TokR T e 0 (wi (clrH (wr h 93 1 a1) a1) 93 6 0) := K.cg (fun b k z1 z2 => by rw [ji_wi, if_neg (by omega), f2.ji (by show b < jx h; omega) (by omega)]; rfl)
  have F3 : DT (pTo p a1) h (wi (clrH (wr h 93 1 a1) a1) 93 6 0) := ((Fm.wr (by show ZD a1 93; omega)).trans (f2.mono (fun a _ z => by show ZD a1 a; omega))).trans (Fm.wi (by show ZD a1 93; omega))
  have x3 : jx (wi (clrH (wr h 93 1 a1) a1) 93 6 0) = jx h := by rw [jx_wi, clrH_x, jx_wr]
  have R3 : TxR (pTo p a1) T e 0 (wi (clrH (wr h 93 1 a1) a1) 93 6 0) D0 := by
    refine tx_0 L3 K3 (fun a k z => ?_) ?_ ?_ ?_
    · have z : (a = a1 + 1 ∧ k = 3) ∨ (a = a1 + 5 ∧ k = 2) ∨ ((a = a1 + 14 ∨ a = a1 + 18 ∨ a = a1 + 22) ∧ (k = 4 ∨ k = 5)) ∨ (a = a1 ∧ (k = 6 ∨ k = 12)) := z
      rw [ji_wi, if_neg (by omega)]; exact clrH_i z
    · rw [jr_wi]; exact clrH_r
    · rw [jl_wi]; exact clrH_l
    · rw [ji_wi, if_pos ⟨rfl, rfl⟩]
  generalize wi (clrH (wr h 93 1 a1) a1) 93 6 0 = k at R3 F3 x3 ⊢
  have t := text_run (p := pTo p a1) (d := d) (a1 := a1) (h0 := h) (by omega) g 400 0 k D0 jU (Nat.le_refl _) R3 okD0 F3 (by omega)
  rw [show (400 : Int) - ((400 : Nat) : Int) = 0 by omega] at t
  rw [hR] at t
  exact t
end TX2
