section CTR
variable {L d : Nat} {xs : Nat → Int} {h : AH}
theorem k_0_33 (hd : 1 ≤ d) (B : Bd L xs 2 0 h) : ∃ h', jE d 0 [jP 33, jI 400] h none h' ∧ Bd L xs 3 1 h' := by
  suffices hh : ∃ w h', jE d 0 [jP 33, jI 400] h w h' ∧ w = none ∧ Bd L xs 3 1 h' by
    obtain ⟨w, h', hE, rfl, q⟩ := hh
    exact ⟨h', hE, q⟩
  obtain ⟨d, rfl⟩ : ∃ d', d = d' + 1 := ⟨d - 1, by omega⟩
  have B1 := B.nw (t := 22) (s := Int.toNat (if 0 < (400 : Int) then (400 : Int) else 0)) (by decide) (by decide) (by decide)
  have B2 := B1.wr (a := 33) (k := 0) (b := jx _) (by decide) (by decide) ((show (refA.getD 0 z3).2.2 = 32 + 2 by decide).trans B.x.symm) (by decide) (by decide) (by decide) (by decide)
  exact jE_of (as := [jP 33, jI 400]) (Nat.le_of_ble_eq_true rfl) (b_0_0 ⟨by decide, by decide, by decide, (B1.t 1 (by decide)).1, rfl, B2⟩)
theorem k_0_35 (hd : 1 ≤ d) (B : Bd L xs 4 2 h) : ∃ h', jE d 0 [jP 35, jI 1551] h none h' ∧ Bd L xs 5 3 h' := by
  suffices hh : ∃ w h', jE d 0 [jP 35, jI 1551] h w h' ∧ w = none ∧ Bd L xs 5 3 h' by
    obtain ⟨w, h', hE, rfl, q⟩ := hh
    exact ⟨h', hE, q⟩
  obtain ⟨d, rfl⟩ : ∃ d', d = d' + 1 := ⟨d - 1, by omega⟩
  have B1 := B.nw (t := 22) (s := Int.toNat (if 0 < (1551 : Int) then (1551 : Int) else 0)) (by decide) (by decide) (by decide)
  have B2 := B1.wr (a := 35) (k := 0) (b := jx _) (by decide) (by decide) ((show (refA.getD 2 z3).2.2 = 32 + 4 by decide).trans B.x.symm) (by decide) (by decide) (by decide) (by decide)
  exact jE_of (as := [jP 35, jI 1551]) (Nat.le_of_ble_eq_true rfl) (b_0_0 ⟨by decide, by decide, by decide, (B1.t 3 (by decide)).1, rfl, B2⟩)
theorem k_64_37 (hd : 1 ≤ d) (B : Bd L xs 6 4 h) : ∃ h', jE d 64 [jP 37] h none h' ∧ Bd L xs 9 7 h' := by
  suffices hh : ∃ w h', jE d 64 [jP 37] h w h' ∧ w = none ∧ Bd L xs 9 7 h' by
    obtain ⟨w, h', hE, rfl, q⟩ := hh
    exact ⟨h', hE, q⟩
  obtain ⟨d, rfl⟩ : ∃ d', d = d' + 1 := ⟨d - 1, by omega⟩
  have B1 := B.nw (t := 20) (s := Int.toNat (401 : Int)) (by decide) (by decide) (by decide)
  have B2 := B1.wr (a := 37) (k := 0) (b := jx _) (by decide) (by decide) ((show (refA.getD 4 z3).2.2 = 32 + 6 by decide).trans B.x.symm) (by decide) (by decide) (by decide) (by decide)
  have B3 := B2.nw (t := 20) (s := Int.toNat (401 : Int)) (by decide) (by decide) (by decide)
  have B4 := B3.wr (a := 37) (k := 1) (b := jx _) (by decide) (by decide) ((show (refA.getD 5 z3).2.2 = 32 + 7 by decide).trans B2.x.symm) (by decide) (by decide) (by decide) (by decide)
  have B5 := B4.nw (t := 20) (s := Int.toNat (401 : Int)) (by decide) (by decide) (by decide)
  have B6 := B5.wr (a := 37) (k := 2) (b := jx _) (by decide) (by decide) ((show (refA.getD 6 z3).2.2 = 32 + 8 by decide).trans B4.x.symm) (by decide) (by decide) (by decide) (by decide)
  exact jE_of (as := [jP 37]) (Nat.le_of_ble_eq_true rfl) (b_64_0 ⟨by decide, by decide, by decide, (B1.t 5 (by decide)).1, by decide, by decide, (B3.t 5 (by decide)).1, by decide, by decide, (B5.t 5 (by decide)).1, rfl, B6⟩)
theorem k_23_42 (hd : 1 ≤ d) (B : Bd L xs 11 8 h) : ∃ h', jE d 23 [jP 42] h none h' ∧ Bd L xs 14 11 h' := by
  suffices hh : ∃ w h', jE d 23 [jP 42] h w h' ∧ w = none ∧ Bd L xs 14 11 h' by
    obtain ⟨w, h', hE, rfl, q⟩ := hh
    exact ⟨h', hE, q⟩
  obtain ⟨d, rfl⟩ : ∃ d', d = d' + 1 := ⟨d - 1, by omega⟩
  have B1 := B.nw (t := 20) (s := Int.toNat (46 : Int)) (by decide) (by decide) (by decide)
  have B2 := B1.wr (a := 42) (k := 0) (b := jx _) (by decide) (by decide) ((show (refA.getD 8 z3).2.2 = 32 + 11 by decide).trans B.x.symm) (by decide) (by decide) (by decide) (by decide)
  have B3 := B2.nw (t := 20) (s := Int.toNat (46 : Int)) (by decide) (by decide) (by decide)
  have B4 := B3.wr (a := 42) (k := 1) (b := jx _) (by decide) (by decide) ((show (refA.getD 9 z3).2.2 = 32 + 12 by decide).trans B2.x.symm) (by decide) (by decide) (by decide) (by decide)
  have B5 := B4.nw (t := 20) (s := Int.toNat (46 : Int)) (by decide) (by decide) (by decide)
  have B6 := B5.wr (a := 42) (k := 2) (b := jx _) (by decide) (by decide) ((show (refA.getD 10 z3).2.2 = 32 + 13 by decide).trans B4.x.symm) (by decide) (by decide) (by decide) (by decide)
  exact jE_of (as := [jP 42]) (Nat.le_of_ble_eq_true rfl) (b_23_0 ⟨by decide, by decide, by decide, (B1.t 10 (by decide)).1, by decide, by decide, (B3.t 10 (by decide)).1, by decide, by decide, (B5.t 10 (by decide)).1, rfl, B6⟩)
theorem k_51_46 (hd : 1 ≤ d) (B : Bd L xs 15 12 h) : ∃ h', jE d 51 [jP 46] h none h' ∧ Bd L xs 17 14 h' := by
  suffices hh : ∃ w h', jE d 51 [jP 46] h w h' ∧ w = none ∧ Bd L xs 17 14 h' by
    obtain ⟨w, h', hE, rfl, q⟩ := hh
    exact ⟨h', hE, q⟩
  obtain ⟨d, rfl⟩ : ∃ d', d = d' + 1 := ⟨d - 1, by omega⟩
  have B1 := B.nw (t := 20) (s := Int.toNat (6 : Int)) (by decide) (by decide) (by decide)
  have B2 := B1.wr (a := 46) (k := 0) (b := jx _) (by decide) (by decide) ((show (refA.getD 12 z3).2.2 = 32 + 15 by decide).trans B.x.symm) (by decide) (by decide) (by decide) (by decide)
  have B3 := B2.nw (t := 20) (s := Int.toNat (6 : Int)) (by decide) (by decide) (by decide)
  have B4 := B3.wr (a := 46) (k := 1) (b := jx _) (by decide) (by decide) ((show (refA.getD 13 z3).2.2 = 32 + 16 by decide).trans B2.x.symm) (by decide) (by decide) (by decide) (by decide)
  exact jE_of (as := [jP 46]) (Nat.le_of_ble_eq_true rfl) (b_51_0 ⟨by decide, by decide, by decide, (B1.t 14 (by decide)).1, by decide, by decide, (B3.t 14 (by decide)).1, rfl, B4⟩)
theorem k_57_55 (hd : 1 ≤ d) (B : Bd L xs 24 21 h) : ∃ h', jE d 57 [jP 55, jP 46, jI 6] h none h' ∧ Bd L xs 27 25 h' := by
  suffices hh : ∃ w h', jE d 57 [jP 55, jP 46, jI 6] h w h' ∧ w = none ∧ Bd L xs 27 25 h' by
    obtain ⟨w, h', hE, rfl, q⟩ := hh
    exact ⟨h', hE, q⟩
  obtain ⟨d, rfl⟩ : ∃ d', d = d' + 1 := ⟨d - 1, by omega⟩
  have B1 := B.wr (a := 55) (k := 0) (b := 46) (by decide) (by decide) (by decide) (by decide) (by decide) (by decide) (by decide)
  have B2 := B1.nw (t := 20) (s := Int.toNat (if 0 < (6 : Int) then (6 : Int) else 0)) (by decide) (by decide) (by decide)
  have B3 := B2.wr (a := 55) (k := 1) (b := jx _) (by decide) (by decide) ((show (refA.getD 22 z3).2.2 = 32 + 24 by decide).trans B1.x.symm) (by decide) (by decide) (by decide) (by decide)
  have B4 := B3.nw (t := 20) (s := Int.toNat (if 0 < (6 : Int) then (6 : Int) else 0)) (by decide) (by decide) (by decide)
  have B5 := B4.wr (a := 55) (k := 2) (b := jx _) (by decide) (by decide) ((show (refA.getD 23 z3).2.2 = 32 + 25 by decide).trans B3.x.symm) (by decide) (by decide) (by decide) (by decide)
  have B6 := B5.nw (t := 20) (s := Int.toNat (if 0 < (6 : Int) then (6 : Int) else 0)) (by decide) (by decide) (by decide)
  have B7 := B6.wr (a := 55) (k := 3) (b := jx _) (by decide) (by decide) ((show (refA.getD 24 z3).2.2 = 32 + 26 by decide).trans B5.x.symm) (by decide) (by decide) (by decide) (by decide)
  exact jE_of (as := [jP 55, jP 46, jI 6]) (Nat.le_of_ble_eq_true rfl) (b_57_0 ⟨by decide, (B.t 23 (by decide)).1, by decide, by decide, (B2.t 23 (by decide)).1, by decide, by decide, (B4.t 23 (by decide)).1, by decide, by decide, (B6.t 23 (by decide)).1, rfl, B7⟩)
theorem k_57_59 (hd : 1 ≤ d) (B : Bd L xs 28 26 h) : ∃ h', jE d 57 [jP 59, jP 46, jI 6] h none h' ∧ Bd L xs 31 30 h' := by
  suffices hh : ∃ w h', jE d 57 [jP 59, jP 46, jI 6] h w h' ∧ w = none ∧ Bd L xs 31 30 h' by
    obtain ⟨w, h', hE, rfl, q⟩ := hh
    exact ⟨h', hE, q⟩
  obtain ⟨d, rfl⟩ : ∃ d', d = d' + 1 := ⟨d - 1, by omega⟩
  have B1 := B.wr (a := 59) (k := 0) (b := 46) (by decide) (by decide) (by decide) (by decide) (by decide) (by decide) (by decide)
  have B2 := B1.nw (t := 20) (s := Int.toNat (if 0 < (6 : Int) then (6 : Int) else 0)) (by decide) (by decide) (by decide)
  have B3 := B2.wr (a := 59) (k := 1) (b := jx _) (by decide) (by decide) ((show (refA.getD 27 z3).2.2 = 32 + 28 by decide).trans B1.x.symm) (by decide) (by decide) (by decide) (by decide)
  have B4 := B3.nw (t := 20) (s := Int.toNat (if 0 < (6 : Int) then (6 : Int) else 0)) (by decide) (by decide) (by decide)
  have B5 := B4.wr (a := 59) (k := 2) (b := jx _) (by decide) (by decide) ((show (refA.getD 28 z3).2.2 = 32 + 29 by decide).trans B3.x.symm) (by decide) (by decide) (by decide) (by decide)
  have B6 := B5.nw (t := 20) (s := Int.toNat (if 0 < (6 : Int) then (6 : Int) else 0)) (by decide) (by decide) (by decide)
  have B7 := B6.wr (a := 59) (k := 3) (b := jx _) (by decide) (by decide) ((show (refA.getD 29 z3).2.2 = 32 + 30 by decide).trans B5.x.symm) (by decide) (by decide) (by decide) (by decide)
  exact jE_of (as := [jP 59, jP 46, jI 6]) (Nat.le_of_ble_eq_true rfl) (b_57_0 ⟨by decide, (B.t 27 (by decide)).1, by decide, by decide, (B2.t 27 (by decide)).1, by decide, by decide, (B4.t 27 (by decide)).1, by decide, by decide, (B6.t 27 (by decide)).1, rfl, B7⟩)
theorem k_57_63 (hd : 1 ≤ d) (B : Bd L xs 32 31 h) : ∃ h', jE d 57 [jP 63, jP 46, jI 10] h none h' ∧ Bd L xs 35 35 h' := by
  suffices hh : ∃ w h', jE d 57 [jP 63, jP 46, jI 10] h w h' ∧ w = none ∧ Bd L xs 35 35 h' by
    obtain ⟨w, h', hE, rfl, q⟩ := hh
    exact ⟨h', hE, q⟩
  obtain ⟨d, rfl⟩ : ∃ d', d = d' + 1 := ⟨d - 1, by omega⟩
  have B1 := B.wr (a := 63) (k := 0) (b := 46) (by decide) (by decide) (by decide) (by decide) (by decide) (by decide) (by decide)
  have B2 := B1.nw (t := 20) (s := Int.toNat (if 0 < (10 : Int) then (10 : Int) else 0)) (by decide) (by decide) (by decide)
  have B3 := B2.wr (a := 63) (k := 1) (b := jx _) (by decide) (by decide) ((show (refA.getD 32 z3).2.2 = 32 + 32 by decide).trans B1.x.symm) (by decide) (by decide) (by decide) (by decide)
  have B4 := B3.nw (t := 20) (s := Int.toNat (if 0 < (10 : Int) then (10 : Int) else 0)) (by decide) (by decide) (by decide)
  have B5 := B4.wr (a := 63) (k := 2) (b := jx _) (by decide) (by decide) ((show (refA.getD 33 z3).2.2 = 32 + 33 by decide).trans B3.x.symm) (by decide) (by decide) (by decide) (by decide)
  have B6 := B5.nw (t := 20) (s := Int.toNat (if 0 < (10 : Int) then (10 : Int) else 0)) (by decide) (by decide) (by decide)
  have B7 := B6.wr (a := 63) (k := 3) (b := jx _) (by decide) (by decide) ((show (refA.getD 34 z3).2.2 = 32 + 34 by decide).trans B5.x.symm) (by decide) (by decide) (by decide) (by decide)
  exact jE_of (as := [jP 63, jP 46, jI 10]) (Nat.le_of_ble_eq_true rfl) (b_57_0 ⟨by decide, (B.t 31 (by decide)).1, by decide, by decide, (B2.t 31 (by decide)).1, by decide, by decide, (B4.t 31 (by decide)).1, by decide, by decide, (B6.t 31 (by decide)).1, rfl, B7⟩)
theorem k_6_41 (hd : 3 ≤ d) (B : Bd L xs 10 8 h) : ∃ h', jE d 6 [jP 41] h none h' ∧ Bd L xs 35 36 h' := by
  suffices hh : ∃ w h', jE d 6 [jP 41] h w h' ∧ w = none ∧ Bd L xs 35 36 h' by
    obtain ⟨w, h', hE, rfl, q⟩ := hh
    exact ⟨h', hE, q⟩
  obtain ⟨d, rfl⟩ : ∃ d', d = d' + 1 := ⟨d - 1, by omega⟩
  refine jE_of (as := [jP 41]) (Nat.le_of_ble_eq_true rfl) ?_
  have B1 := B.nw (t := 5) (s := 4) (by decide) (by decide) (by decide)
  obtain ⟨h2, E2, B2⟩ := k_23_42 (d := d) (by omega) B1
  have B3 := B2.wr (a := 41) (k := 0) (b := jx _) (by decide) (by decide) ((show (refA.getD 11 z3).2.2 = 32 + 10 by decide).trans B.x.symm) (by decide) (by decide) (by decide) (by decide)
  refine b_6_0 ⟨by decide, by rw [B.x]; omega, h2, by rw [B.x]; exact E2, (B2.t 9 (by decide)).1, ?_⟩
  clear B B1 B2 E2
  have B4 := B3.nw (t := 8) (s := 3) (by decide) (by decide) (by decide)
  obtain ⟨h5, E5, B5⟩ := k_51_46 (d := d) (by omega) B4
  have B6 := B5.wr (a := 41) (k := 1) (b := jx _) (by decide) (by decide) ((show (refA.getD 14 z3).2.2 = 32 + 14 by decide).trans B3.x.symm) (by decide) (by decide) (by decide) (by decide)
  refine b_6_15 ⟨by rw [B3.x]; omega, h5, by rw [B3.x]; exact E5, (B5.t 9 (by decide)).1, ?_⟩
  clear B3 B4 B5 E5
  have B7 := B6.nw (t := 20) (s := Int.toNat (400 : Int)) (by decide) (by decide) (by decide)
  have B8 := B7.wr (a := 41) (k := 5) (b := jx _) (by decide) (by decide) ((show (refA.getD 15 z3).2.2 = 32 + 17 by decide).trans B6.x.symm) (by decide) (by decide) (by decide) (by decide)
  refine b_6_26 ⟨by decide, by decide, (B7.t 9 (by decide)).1, ?_⟩
  clear B6 B7
  have B9 := B8.nw (t := 20) (s := Int.toNat (6 : Int)) (by decide) (by decide) (by decide)
  have B10 := B9.wr (a := 41) (k := 7) (b := jx _) (by decide) (by decide) ((show (refA.getD 16 z3).2.2 = 32 + 18 by decide).trans B8.x.symm) (by decide) (by decide) (by decide) (by decide)
  refine b_6_35 ⟨by decide, by decide, (B9.t 9 (by decide)).1, ?_⟩
  clear B8 B9
  have B11 := B10.nw (t := 20) (s := Int.toNat (6 : Int)) (by decide) (by decide) (by decide)
  have B12 := B11.wr (a := 41) (k := 8) (b := jx _) (by decide) (by decide) ((show (refA.getD 17 z3).2.2 = 32 + 19 by decide).trans B10.x.symm) (by decide) (by decide) (by decide) (by decide)
  refine b_6_43 ⟨by decide, by decide, (B11.t 9 (by decide)).1, ?_⟩
  clear B10 B11
  have B13 := B12.nw (t := 20) (s := Int.toNat (10 : Int)) (by decide) (by decide) (by decide)
  have B14 := B13.wr (a := 41) (k := 9) (b := jx _) (by decide) (by decide) ((show (refA.getD 18 z3).2.2 = 32 + 20 by decide).trans B12.x.symm) (by decide) (by decide) (by decide) (by decide)
  refine b_6_51 ⟨by decide, by decide, (B13.t 9 (by decide)).1, ?_⟩
  clear B12 B13
  have B15 := B14.nw (t := 25) (s := Int.toNat (10 : Int)) (by decide) (by decide) (by decide)
  have B16 := B15.wr (a := 41) (k := 10) (b := jx _) (by decide) (by decide) ((show (refA.getD 19 z3).2.2 = 32 + 21 by decide).trans B14.x.symm) (by decide) (by decide) (by decide) (by decide)
  refine b_6_59 ⟨by decide, by decide, (B15.t 9 (by decide)).1, ?_⟩
  clear B14 B15
  have B17 := B16.nw (t := 25) (s := Int.toNat (10 : Int)) (by decide) (by decide) (by decide)
  have B18 := B17.wr (a := 41) (k := 11) (b := jx _) (by decide) (by decide) ((show (refA.getD 20 z3).2.2 = 32 + 22 by decide).trans B16.x.symm) (by decide) (by decide) (by decide) (by decide)
  refine b_6_68 ⟨by decide, by decide, (B17.t 9 (by decide)).1, ?_⟩
  clear B16 B17
  have B19 := B18.nw (t := 9) (s := 6) (by decide) (by decide) (by decide)
  obtain ⟨h20, E20, B20⟩ := k_57_55 (d := d) (by omega) B19
  have B21 := B20.wr (a := 41) (k := 2) (b := jx _) (by decide) (by decide) ((show (refA.getD 25 z3).2.2 = 32 + 23 by decide).trans B18.x.symm) (by decide) (by decide) (by decide) (by decide)
  refine b_6_77 ⟨(B19.t 9 (by decide)).1, by rw [B18.x]; omega, h20, ?_, (B20.t 9 (by decide)).1, ?_⟩
  · rw [B18.x]
    rw [show jr _ 41 1 = 46 from B19.r 14 (by decide)]
    exact E20
  clear B18 B19 B20 E20
  have B22 := B21.nw (t := 9) (s := 6) (by decide) (by decide) (by decide)
  obtain ⟨h23, E23, B23⟩ := k_57_59 (d := d) (by omega) B22
  have B24 := B23.wr (a := 41) (k := 3) (b := jx _) (by decide) (by decide) ((show (refA.getD 30 z3).2.2 = 32 + 27 by decide).trans B21.x.symm) (by decide) (by decide) (by decide) (by decide)
  refine b_6_94 ⟨(B22.t 9 (by decide)).1, by rw [B21.x]; omega, h23, ?_, (B23.t 9 (by decide)).1, ?_⟩
  · rw [B21.x]
    rw [show jr _ 41 1 = 46 from B22.r 14 (by decide)]
    exact E23
  clear B21 B22 B23 E23
  have B25 := B24.nw (t := 9) (s := 6) (by decide) (by decide) (by decide)
  obtain ⟨h26, E26, B26⟩ := k_57_63 (d := d) (by omega) B25
  have B27 := B26.wr (a := 41) (k := 4) (b := jx _) (by decide) (by decide) ((show (refA.getD 35 z3).2.2 = 32 + 31 by decide).trans B24.x.symm) (by decide) (by decide) (by decide) (by decide)
  refine b_6_111 ⟨(B25.t 9 (by decide)).1, by rw [B24.x]; omega, h26, ?_, (B26.t 9 (by decide)).1, ?_⟩
  · rw [B24.x]
    rw [show jr _ 41 1 = 46 from B25.r 14 (by decide)]
    exact E26
  clear B24 B25 B26 E26
  exact b_6_128 ⟨rfl, B27⟩
theorem k_23_68 (hd : 1 ≤ d) (B : Bd L xs 37 37 h) : ∃ h', jE d 23 [jP 68] h none h' ∧ Bd L xs 40 40 h' := by
  suffices hh : ∃ w h', jE d 23 [jP 68] h w h' ∧ w = none ∧ Bd L xs 40 40 h' by
    obtain ⟨w, h', hE, rfl, q⟩ := hh
    exact ⟨h', hE, q⟩
  obtain ⟨d, rfl⟩ : ∃ d', d = d' + 1 := ⟨d - 1, by omega⟩
  have B1 := B.nw (t := 20) (s := Int.toNat (46 : Int)) (by decide) (by decide) (by decide)
  have B2 := B1.wr (a := 68) (k := 0) (b := jx _) (by decide) (by decide) ((show (refA.getD 37 z3).2.2 = 32 + 37 by decide).trans B.x.symm) (by decide) (by decide) (by decide) (by decide)
  have B3 := B2.nw (t := 20) (s := Int.toNat (46 : Int)) (by decide) (by decide) (by decide)
  have B4 := B3.wr (a := 68) (k := 1) (b := jx _) (by decide) (by decide) ((show (refA.getD 38 z3).2.2 = 32 + 38 by decide).trans B2.x.symm) (by decide) (by decide) (by decide) (by decide)
  have B5 := B4.nw (t := 20) (s := Int.toNat (46 : Int)) (by decide) (by decide) (by decide)
  have B6 := B5.wr (a := 68) (k := 2) (b := jx _) (by decide) (by decide) ((show (refA.getD 39 z3).2.2 = 32 + 39 by decide).trans B4.x.symm) (by decide) (by decide) (by decide) (by decide)
  exact jE_of (as := [jP 68]) (Nat.le_of_ble_eq_true rfl) (b_23_0 ⟨by decide, by decide, by decide, (B1.t 36 (by decide)).1, by decide, by decide, (B3.t 36 (by decide)).1, by decide, by decide, (B5.t 36 (by decide)).1, rfl, B6⟩)
theorem k_51_72 (hd : 1 ≤ d) (B : Bd L xs 41 41 h) : ∃ h', jE d 51 [jP 72] h none h' ∧ Bd L xs 43 43 h' := by
  suffices hh : ∃ w h', jE d 51 [jP 72] h w h' ∧ w = none ∧ Bd L xs 43 43 h' by
    obtain ⟨w, h', hE, rfl, q⟩ := hh
    exact ⟨h', hE, q⟩
  obtain ⟨d, rfl⟩ : ∃ d', d = d' + 1 := ⟨d - 1, by omega⟩
  have B1 := B.nw (t := 20) (s := Int.toNat (6 : Int)) (by decide) (by decide) (by decide)
  have B2 := B1.wr (a := 72) (k := 0) (b := jx _) (by decide) (by decide) ((show (refA.getD 41 z3).2.2 = 32 + 41 by decide).trans B.x.symm) (by decide) (by decide) (by decide) (by decide)
  have B3 := B2.nw (t := 20) (s := Int.toNat (6 : Int)) (by decide) (by decide) (by decide)
  have B4 := B3.wr (a := 72) (k := 1) (b := jx _) (by decide) (by decide) ((show (refA.getD 42 z3).2.2 = 32 + 42 by decide).trans B2.x.symm) (by decide) (by decide) (by decide) (by decide)
  exact jE_of (as := [jP 72]) (Nat.le_of_ble_eq_true rfl) (b_51_0 ⟨by decide, by decide, by decide, (B1.t 40 (by decide)).1, by decide, by decide, (B3.t 40 (by decide)).1, rfl, B4⟩)
theorem k_57_81 (hd : 1 ≤ d) (B : Bd L xs 50 50 h) : ∃ h', jE d 57 [jP 81, jP 72, jI 6] h none h' ∧ Bd L xs 53 54 h' := by
  suffices hh : ∃ w h', jE d 57 [jP 81, jP 72, jI 6] h w h' ∧ w = none ∧ Bd L xs 53 54 h' by
    obtain ⟨w, h', hE, rfl, q⟩ := hh
    exact ⟨h', hE, q⟩
  obtain ⟨d, rfl⟩ : ∃ d', d = d' + 1 := ⟨d - 1, by omega⟩
  have B1 := B.wr (a := 81) (k := 0) (b := 72) (by decide) (by decide) (by decide) (by decide) (by decide) (by decide) (by decide)
  have B2 := B1.nw (t := 20) (s := Int.toNat (if 0 < (6 : Int) then (6 : Int) else 0)) (by decide) (by decide) (by decide)
  have B3 := B2.wr (a := 81) (k := 1) (b := jx _) (by decide) (by decide) ((show (refA.getD 51 z3).2.2 = 32 + 50 by decide).trans B1.x.symm) (by decide) (by decide) (by decide) (by decide)
  have B4 := B3.nw (t := 20) (s := Int.toNat (if 0 < (6 : Int) then (6 : Int) else 0)) (by decide) (by decide) (by decide)
  have B5 := B4.wr (a := 81) (k := 2) (b := jx _) (by decide) (by decide) ((show (refA.getD 52 z3).2.2 = 32 + 51 by decide).trans B3.x.symm) (by decide) (by decide) (by decide) (by decide)
  have B6 := B5.nw (t := 20) (s := Int.toNat (if 0 < (6 : Int) then (6 : Int) else 0)) (by decide) (by decide) (by decide)
  have B7 := B6.wr (a := 81) (k := 3) (b := jx _) (by decide) (by decide) ((show (refA.getD 53 z3).2.2 = 32 + 52 by decide).trans B5.x.symm) (by decide) (by decide) (by decide) (by decide)
  exact jE_of (as := [jP 81, jP 72, jI 6]) (Nat.le_of_ble_eq_true rfl) (b_57_0 ⟨by decide, (B.t 49 (by decide)).1, by decide, by decide, (B2.t 49 (by decide)).1, by decide, by decide, (B4.t 49 (by decide)).1, by decide, by decide, (B6.t 49 (by decide)).1, rfl, B7⟩)
theorem k_57_85 (hd : 1 ≤ d) (B : Bd L xs 54 55 h) : ∃ h', jE d 57 [jP 85, jP 72, jI 6] h none h' ∧ Bd L xs 57 59 h' := by
  suffices hh : ∃ w h', jE d 57 [jP 85, jP 72, jI 6] h w h' ∧ w = none ∧ Bd L xs 57 59 h' by
    obtain ⟨w, h', hE, rfl, q⟩ := hh
    exact ⟨h', hE, q⟩
  obtain ⟨d, rfl⟩ : ∃ d', d = d' + 1 := ⟨d - 1, by omega⟩
  have B1 := B.wr (a := 85) (k := 0) (b := 72) (by decide) (by decide) (by decide) (by decide) (by decide) (by decide) (by decide)
  have B2 := B1.nw (t := 20) (s := Int.toNat (if 0 < (6 : Int) then (6 : Int) else 0)) (by decide) (by decide) (by decide)
  have B3 := B2.wr (a := 85) (k := 1) (b := jx _) (by decide) (by decide) ((show (refA.getD 56 z3).2.2 = 32 + 54 by decide).trans B1.x.symm) (by decide) (by decide) (by decide) (by decide)
  have B4 := B3.nw (t := 20) (s := Int.toNat (if 0 < (6 : Int) then (6 : Int) else 0)) (by decide) (by decide) (by decide)
  have B5 := B4.wr (a := 85) (k := 2) (b := jx _) (by decide) (by decide) ((show (refA.getD 57 z3).2.2 = 32 + 55 by decide).trans B3.x.symm) (by decide) (by decide) (by decide) (by decide)
  have B6 := B5.nw (t := 20) (s := Int.toNat (if 0 < (6 : Int) then (6 : Int) else 0)) (by decide) (by decide) (by decide)
  have B7 := B6.wr (a := 85) (k := 3) (b := jx _) (by decide) (by decide) ((show (refA.getD 58 z3).2.2 = 32 + 56 by decide).trans B5.x.symm) (by decide) (by decide) (by decide) (by decide)
  exact jE_of (as := [jP 85, jP 72, jI 6]) (Nat.le_of_ble_eq_true rfl) (b_57_0 ⟨by decide, (B.t 53 (by decide)).1, by decide, by decide, (B2.t 53 (by decide)).1, by decide, by decide, (B4.t 53 (by decide)).1, by decide, by decide, (B6.t 53 (by decide)).1, rfl, B7⟩)
theorem k_57_89 (hd : 1 ≤ d) (B : Bd L xs 58 60 h) : ∃ h', jE d 57 [jP 89, jP 72, jI 10] h none h' ∧ Bd L xs 61 64 h' := by
  suffices hh : ∃ w h', jE d 57 [jP 89, jP 72, jI 10] h w h' ∧ w = none ∧ Bd L xs 61 64 h' by
    obtain ⟨w, h', hE, rfl, q⟩ := hh
    exact ⟨h', hE, q⟩
  obtain ⟨d, rfl⟩ : ∃ d', d = d' + 1 := ⟨d - 1, by omega⟩
  have B1 := B.wr (a := 89) (k := 0) (b := 72) (by decide) (by decide) (by decide) (by decide) (by decide) (by decide) (by decide)
  have B2 := B1.nw (t := 20) (s := Int.toNat (if 0 < (10 : Int) then (10 : Int) else 0)) (by decide) (by decide) (by decide)
  have B3 := B2.wr (a := 89) (k := 1) (b := jx _) (by decide) (by decide) ((show (refA.getD 61 z3).2.2 = 32 + 58 by decide).trans B1.x.symm) (by decide) (by decide) (by decide) (by decide)
  have B4 := B3.nw (t := 20) (s := Int.toNat (if 0 < (10 : Int) then (10 : Int) else 0)) (by decide) (by decide) (by decide)
  have B5 := B4.wr (a := 89) (k := 2) (b := jx _) (by decide) (by decide) ((show (refA.getD 62 z3).2.2 = 32 + 59 by decide).trans B3.x.symm) (by decide) (by decide) (by decide) (by decide)
  have B6 := B5.nw (t := 20) (s := Int.toNat (if 0 < (10 : Int) then (10 : Int) else 0)) (by decide) (by decide) (by decide)
  have B7 := B6.wr (a := 89) (k := 3) (b := jx _) (by decide) (by decide) ((show (refA.getD 63 z3).2.2 = 32 + 60 by decide).trans B5.x.symm) (by decide) (by decide) (by decide) (by decide)
  exact jE_of (as := [jP 89, jP 72, jI 10]) (Nat.le_of_ble_eq_true rfl) (b_57_0 ⟨by decide, (B.t 57 (by decide)).1, by decide, by decide, (B2.t 57 (by decide)).1, by decide, by decide, (B4.t 57 (by decide)).1, by decide, by decide, (B6.t 57 (by decide)).1, rfl, B7⟩)
theorem k_6_67 (hd : 3 ≤ d) (B : Bd L xs 36 37 h) : ∃ h', jE d 6 [jP 67] h none h' ∧ Bd L xs 61 65 h' := by
  suffices hh : ∃ w h', jE d 6 [jP 67] h w h' ∧ w = none ∧ Bd L xs 61 65 h' by
    obtain ⟨w, h', hE, rfl, q⟩ := hh
    exact ⟨h', hE, q⟩
  obtain ⟨d, rfl⟩ : ∃ d', d = d' + 1 := ⟨d - 1, by omega⟩
  refine jE_of (as := [jP 67]) (Nat.le_of_ble_eq_true rfl) ?_
  have B1 := B.nw (t := 5) (s := 4) (by decide) (by decide) (by decide)
  obtain ⟨h2, E2, B2⟩ := k_23_68 (d := d) (by omega) B1
  have B3 := B2.wr (a := 67) (k := 0) (b := jx _) (by decide) (by decide) ((show (refA.getD 40 z3).2.2 = 32 + 36 by decide).trans B.x.symm) (by decide) (by decide) (by decide) (by decide)
  refine b_6_0 ⟨by decide, by rw [B.x]; omega, h2, by rw [B.x]; exact E2, (B2.t 35 (by decide)).1, ?_⟩
  clear B B1 B2 E2
  have B4 := B3.nw (t := 8) (s := 3) (by decide) (by decide) (by decide)
  obtain ⟨h5, E5, B5⟩ := k_51_72 (d := d) (by omega) B4
  have B6 := B5.wr (a := 67) (k := 1) (b := jx _) (by decide) (by decide) ((show (refA.getD 43 z3).2.2 = 32 + 40 by decide).trans B3.x.symm) (by decide) (by decide) (by decide) (by decide)
  refine b_6_15 ⟨by rw [B3.x]; omega, h5, by rw [B3.x]; exact E5, (B5.t 35 (by decide)).1, ?_⟩
  clear B3 B4 B5 E5
  have B7 := B6.nw (t := 20) (s := Int.toNat (400 : Int)) (by decide) (by decide) (by decide)
  have B8 := B7.wr (a := 67) (k := 5) (b := jx _) (by decide) (by decide) ((show (refA.getD 44 z3).2.2 = 32 + 43 by decide).trans B6.x.symm) (by decide) (by decide) (by decide) (by decide)
  refine b_6_26 ⟨by decide, by decide, (B7.t 35 (by decide)).1, ?_⟩
  clear B6 B7
  have B9 := B8.nw (t := 20) (s := Int.toNat (6 : Int)) (by decide) (by decide) (by decide)
  have B10 := B9.wr (a := 67) (k := 7) (b := jx _) (by decide) (by decide) ((show (refA.getD 45 z3).2.2 = 32 + 44 by decide).trans B8.x.symm) (by decide) (by decide) (by decide) (by decide)
  refine b_6_35 ⟨by decide, by decide, (B9.t 35 (by decide)).1, ?_⟩
  clear B8 B9
  have B11 := B10.nw (t := 20) (s := Int.toNat (6 : Int)) (by decide) (by decide) (by decide)
  have B12 := B11.wr (a := 67) (k := 8) (b := jx _) (by decide) (by decide) ((show (refA.getD 46 z3).2.2 = 32 + 45 by decide).trans B10.x.symm) (by decide) (by decide) (by decide) (by decide)
  refine b_6_43 ⟨by decide, by decide, (B11.t 35 (by decide)).1, ?_⟩
  clear B10 B11
  have B13 := B12.nw (t := 20) (s := Int.toNat (10 : Int)) (by decide) (by decide) (by decide)
  have B14 := B13.wr (a := 67) (k := 9) (b := jx _) (by decide) (by decide) ((show (refA.getD 47 z3).2.2 = 32 + 46 by decide).trans B12.x.symm) (by decide) (by decide) (by decide) (by decide)
  refine b_6_51 ⟨by decide, by decide, (B13.t 35 (by decide)).1, ?_⟩
  clear B12 B13
  have B15 := B14.nw (t := 25) (s := Int.toNat (10 : Int)) (by decide) (by decide) (by decide)
  have B16 := B15.wr (a := 67) (k := 10) (b := jx _) (by decide) (by decide) ((show (refA.getD 48 z3).2.2 = 32 + 47 by decide).trans B14.x.symm) (by decide) (by decide) (by decide) (by decide)
  refine b_6_59 ⟨by decide, by decide, (B15.t 35 (by decide)).1, ?_⟩
  clear B14 B15
  have B17 := B16.nw (t := 25) (s := Int.toNat (10 : Int)) (by decide) (by decide) (by decide)
  have B18 := B17.wr (a := 67) (k := 11) (b := jx _) (by decide) (by decide) ((show (refA.getD 49 z3).2.2 = 32 + 48 by decide).trans B16.x.symm) (by decide) (by decide) (by decide) (by decide)
  refine b_6_68 ⟨by decide, by decide, (B17.t 35 (by decide)).1, ?_⟩
  clear B16 B17
  have B19 := B18.nw (t := 9) (s := 6) (by decide) (by decide) (by decide)
  obtain ⟨h20, E20, B20⟩ := k_57_81 (d := d) (by omega) B19
  have B21 := B20.wr (a := 67) (k := 2) (b := jx _) (by decide) (by decide) ((show (refA.getD 54 z3).2.2 = 32 + 49 by decide).trans B18.x.symm) (by decide) (by decide) (by decide) (by decide)
  refine b_6_77 ⟨(B19.t 35 (by decide)).1, by rw [B18.x]; omega, h20, ?_, (B20.t 35 (by decide)).1, ?_⟩
  · rw [B18.x]
    rw [show jr _ 67 1 = 72 from B19.r 43 (by decide)]
    exact E20
  clear B18 B19 B20 E20
  have B22 := B21.nw (t := 9) (s := 6) (by decide) (by decide) (by decide)
  obtain ⟨h23, E23, B23⟩ := k_57_85 (d := d) (by omega) B22
  have B24 := B23.wr (a := 67) (k := 3) (b := jx _) (by decide) (by decide) ((show (refA.getD 59 z3).2.2 = 32 + 53 by decide).trans B21.x.symm) (by decide) (by decide) (by decide) (by decide)
  refine b_6_94 ⟨(B22.t 35 (by decide)).1, by rw [B21.x]; omega, h23, ?_, (B23.t 35 (by decide)).1, ?_⟩
  · rw [B21.x]
    rw [show jr _ 67 1 = 72 from B22.r 43 (by decide)]
    exact E23
  clear B21 B22 B23 E23
  have B25 := B24.nw (t := 9) (s := 6) (by decide) (by decide) (by decide)
  obtain ⟨h26, E26, B26⟩ := k_57_89 (d := d) (by omega) B25
  have B27 := B26.wr (a := 67) (k := 4) (b := jx _) (by decide) (by decide) ((show (refA.getD 64 z3).2.2 = 32 + 57 by decide).trans B24.x.symm) (by decide) (by decide) (by decide) (by decide)
  refine b_6_111 ⟨(B25.t 35 (by decide)).1, by rw [B24.x]; omega, h26, ?_, (B26.t 35 (by decide)).1, ?_⟩
  · rw [B24.x]
    rw [show jr _ 67 1 = 72 from B25.r 43 (by decide)]
    exact E26
  clear B24 B25 B26 E26
  exact b_6_128 ⟨rfl, B27⟩
theorem k_31_93 (hd : 1 ≤ d) (B : Bd L xs 62 66 h) : ∃ h', jE d 31 [jP 93, jP 37, jP 67] h none h' ∧ Bd L xs 63 69 h' := by
  suffices hh : ∃ w h', jE d 31 [jP 93, jP 37, jP 67] h w h' ∧ w = none ∧ Bd L xs 63 69 h' by
    obtain ⟨w, h', hE, rfl, q⟩ := hh
    exact ⟨h', hE, q⟩
  obtain ⟨d, rfl⟩ : ∃ d', d = d' + 1 := ⟨d - 1, by omega⟩
  have B1 := B.nw (t := 20) (s := Int.toNat (18 : Int)) (by decide) (by decide) (by decide)
  have B2 := B1.wr (a := 93) (k := 5) (b := jx _) (by decide) (by decide) ((show (refA.getD 66 z3).2.2 = 32 + 62 by decide).trans B.x.symm) (by decide) (by decide) (by decide) (by decide)
  have B3 := B2.wr (a := 93) (k := 0) (b := 37) (by decide) (by decide) (by decide) (by decide) (by decide) (by decide) (by decide)
  have B4 := B3.wr (a := 93) (k := 1) (b := 67) (by decide) (by decide) (by decide) (by decide) (by decide) (by decide) (by decide)
  exact jE_of (as := [jP 93, jP 37, jP 67]) (Nat.le_of_ble_eq_true rfl) (b_31_0 ⟨by decide, by decide, by decide, (B1.t 61 (by decide)).1, (B2.t 61 (by decide)).1, (B3.t 61 (by decide)).1, rfl, B4⟩)
theorem k_12_95 (hd : 3 ≤ d) (B : Bd L xs 64 70 h) : ∃ h', jE d 12 [jP 95, jP 41] h none h' ∧ Bd L xs 109 77 h' := by
  suffices hh : ∃ w h', jE d 12 [jP 95, jP 41] h w h' ∧ w = none ∧ Bd L xs 109 77 h' by
    obtain ⟨w, h', hE, rfl, q⟩ := hh
    exact ⟨h', hE, q⟩
  obtain ⟨d, rfl⟩ : ∃ d', d = d' + 1 := ⟨d - 1, by omega⟩
  refine jE_of (as := [jP 95, jP 41]) (Nat.le_of_ble_eq_true rfl) ?_
  have B1 := B.mm
  have B2 := B1.wr (a := 95) (k := 1) (b := jx _) (by decide) (by decide) ((show (refA.getD 70 z3).2.2 = 32 + 64 by decide).trans B.x.symm) (by decide) (by decide) (by decide) (by decide)
  refine b_12_0 ⟨by decide, by decide, by decide, by decide, by decide, (B1.t 63 (by decide)).1, ?_⟩
  have B3 := B2.nw (t := 21) (s := Int.toNat (40 : Int)) (by decide) (by decide) (by decide)
  have B4 := B3.wr (a := 95) (k := 2) (b := jx _) (by decide) (by decide) ((show (refA.getD 71 z3).2.2 = 32 + 105 by decide).trans B2.x.symm) (by decide) (by decide) (by decide) (by decide)
  refine b_12_16 ⟨by decide, by decide, (B3.t 63 (by decide)).1, ?_⟩
  clear B2 B3
  have B5 := B4.nw (t := 21) (s := Int.toNat (40 : Int)) (by decide) (by decide) (by decide)
  have B6 := B5.wr (a := 95) (k := 3) (b := jx _) (by decide) (by decide) ((show (refA.getD 72 z3).2.2 = 32 + 106 by decide).trans B4.x.symm) (by decide) (by decide) (by decide) (by decide)
  refine b_12_24 ⟨by decide, by decide, (B5.t 63 (by decide)).1, ?_⟩
  clear B4 B5
  have B7 := B6.nw (t := 20) (s := Int.toNat (40 : Int)) (by decide) (by decide) (by decide)
  have B8 := B7.wr (a := 95) (k := 5) (b := jx _) (by decide) (by decide) ((show (refA.getD 73 z3).2.2 = 32 + 107 by decide).trans B6.x.symm) (by decide) (by decide) (by decide) (by decide)
  refine b_12_32 ⟨by decide, by decide, (B7.t 63 (by decide)).1, ?_⟩
  clear B6 B7
  have B9 := B8.nw (t := 20) (s := Int.toNat (18 : Int)) (by decide) (by decide) (by decide)
  have B10 := B9.wr (a := 95) (k := 6) (b := jx _) (by decide) (by decide) ((show (refA.getD 74 z3).2.2 = 32 + 108 by decide).trans B8.x.symm) (by decide) (by decide) (by decide) (by decide)
  refine b_12_40 ⟨by decide, by decide, (B9.t 63 (by decide)).1, ?_⟩
  clear B8 B9
  have B11 := B10.wr (a := 95) (k := 0) (b := 41) (by decide) (by decide) (by decide) (by decide) (by decide) (by decide) (by decide)
  refine b_12_48 ⟨(B10.t 63 (by decide)).1, ?_⟩
  have B12 := B11.wr (a := 95) (k := 7) (b := jr _ 95 3) (by decide) (by decide) ((show (refA.getD 76 z3).2.2 = 138 by decide).trans (B11.r 72 (by decide)).symm) (by decide) (by decide) (by decide) (by decide)
  refine b_12_53 ⟨(B11.t 63 (by decide)).1, (B11.t 63 (by decide)).1, ?_⟩
  exact b_12_61 ⟨rfl, B12⟩
theorem k_80_32 (hd : 6 ≤ d) (B : Bd L xs 1 0 h) : ∃ h', jE d 80 [jP 32] h none h' ∧ Bd L xs 109 78 h' := by
  suffices hh : ∃ w h', jE d 80 [jP 32] h w h' ∧ w = none ∧ Bd L xs 109 78 h' by
    obtain ⟨w, h', hE, rfl, q⟩ := hh
    exact ⟨h', hE, q⟩
  obtain ⟨d, rfl⟩ : ∃ d', d = d' + 1 := ⟨d - 1, by omega⟩
  refine jE_of (as := [jP 32]) (Nat.le_of_ble_eq_true rfl) ?_
  have B1 := B.nw (t := 1) (s := 2) (by decide) (by decide) (by decide)
  obtain ⟨h2, E2, B2⟩ := k_0_33 (d := d) (by omega) B1
  have B3 := B2.wr (a := 32) (k := 0) (b := jx _) (by decide) (by decide) ((show (refA.getD 1 z3).2.2 = 32 + 1 by decide).trans B.x.symm) (by decide) (by decide) (by decide) (by decide)
  refine b_80_0 ⟨by decide, by rw [B.x]; omega, h2, by rw [B.x]; exact E2, (B2.t 0 (by decide)).1, ?_⟩
  clear B B1 B2 E2
  have B4 := B3.nw (t := 1) (s := 2) (by decide) (by decide) (by decide)
  obtain ⟨h5, E5, B5⟩ := k_0_35 (d := d) (by omega) B4
  have B6 := B5.wr (a := 32) (k := 1) (b := jx _) (by decide) (by decide) ((show (refA.getD 3 z3).2.2 = 32 + 3 by decide).trans B3.x.symm) (by decide) (by decide) (by decide) (by decide)
  refine b_80_18 ⟨by rw [B3.x]; omega, h5, by rw [B3.x]; exact E5, (B5.t 0 (by decide)).1, ?_⟩
  clear B3 B4 B5 E5
  have B7 := B6.nw (t := 10) (s := 6) (by decide) (by decide) (by decide)
  obtain ⟨h8, E8, B8⟩ := k_64_37 (d := d) (by omega) B7
  have B9 := B8.wr (a := 32) (k := 2) (b := jx _) (by decide) (by decide) ((show (refA.getD 7 z3).2.2 = 32 + 5 by decide).trans B6.x.symm) (by decide) (by decide) (by decide) (by decide)
  refine b_80_32 ⟨by rw [B6.x]; omega, h8, by rw [B6.x]; exact E8, (B8.t 0 (by decide)).1, ?_⟩
  clear B6 B7 B8 E8
  have B10 := B9.nw (t := 2) (s := 15) (by decide) (by decide) (by decide)
  obtain ⟨h11, E11, B11⟩ := k_6_41 (d := d) (by omega) B10
  have B12 := B11.wr (a := 32) (k := 5) (b := jx _) (by decide) (by decide) ((show (refA.getD 36 z3).2.2 = 32 + 9 by decide).trans B9.x.symm) (by decide) (by decide) (by decide) (by decide)
  refine b_80_43 ⟨by rw [B9.x]; omega, h11, by rw [B9.x]; exact E11, (B11.t 0 (by decide)).1, ?_⟩
  clear B9 B10 B11 E11
  have B13 := B12.nw (t := 2) (s := 15) (by decide) (by decide) (by decide)
  obtain ⟨h14, E14, B14⟩ := k_6_67 (d := d) (by omega) B13
  have B15 := B14.wr (a := 32) (k := 6) (b := jx _) (by decide) (by decide) ((show (refA.getD 65 z3).2.2 = 32 + 35 by decide).trans B12.x.symm) (by decide) (by decide) (by decide) (by decide)
  refine b_80_54 ⟨by rw [B12.x]; omega, h14, by rw [B12.x]; exact E14, (B14.t 0 (by decide)).1, ?_⟩
  clear B12 B13 B14 E14
  have B16 := B15.nw (t := 7) (s := 8) (by decide) (by decide) (by decide)
  obtain ⟨h17, E17, B17⟩ := k_31_93 (d := d) (by omega) B16
  have B18 := B17.wr (a := 32) (k := 3) (b := jx _) (by decide) (by decide) ((show (refA.getD 69 z3).2.2 = 32 + 61 by decide).trans B15.x.symm) (by decide) (by decide) (by decide) (by decide)
  refine b_80_65 ⟨(B16.t 0 (by decide)).1, (B16.t 0 (by decide)).1, by rw [B15.x]; omega, h17, ?_, (B17.t 0 (by decide)).1, ?_⟩
  · rw [B15.x]
    rw [show jr _ 32 2 = 37 from B16.r 7 (by decide)]
    rw [show jr _ 32 6 = 67 from B16.r 65 (by decide)]
    exact E17
  clear B15 B16 B17 E17
  have B19 := B18.nw (t := 4) (s := 9) (by decide) (by decide) (by decide)
  obtain ⟨h20, E20, B20⟩ := k_12_95 (d := d) (by omega) B19
  have B21 := B20.wr (a := 32) (k := 4) (b := jx _) (by decide) (by decide) ((show (refA.getD 77 z3).2.2 = 32 + 63 by decide).trans B18.x.symm) (by decide) (by decide) (by decide) (by decide)
  refine b_80_84 ⟨(B19.t 0 (by decide)).1, by rw [B18.x]; omega, h20, ?_, (B20.t 0 (by decide)).1, ?_⟩
  · rw [B18.x]
    rw [show jr _ 32 5 = 41 from B19.r 36 (by decide)]
    exact E20
  clear B18 B19 B20 E20
  exact b_80_99 ⟨rfl, B21⟩
theorem k_106_141 (hd : 2 ≤ d) (B : Bd L xs 110 78 h) : ∃ h', jE d 106 [jP 141] h none h' ∧ Bd L xs 165 133 h' := by
  suffices hh : ∃ w h', jE d 106 [jP 141] h w h' ∧ w = none ∧ Bd L xs 165 133 h' by
    obtain ⟨w, h', hE, rfl, q⟩ := hh
    exact ⟨h', hE, q⟩
  obtain ⟨d, rfl⟩ : ∃ d', d = d' + 1 := ⟨d - 1, by omega⟩
  refine jE_of (as := [jP 141]) (Nat.le_of_ble_eq_true rfl) ?_
  have B1 := B.nw (t := 20) (s := Int.toNat (400 : Int)) (by decide) (by decide) (by decide)
  have B2 := B1.wr (a := 141) (k := 0) (b := jx _) (by decide) (by decide) ((show (refA.getD 78 z3).2.2 = 32 + 110 by decide).trans B.x.symm) (by decide) (by decide) (by decide) (by decide)
  refine b_106_0 ⟨by decide, by decide, by decide, (B1.t 109 (by decide)).1, ?_⟩
  clear B B1
  have B3 := B2.nw (t := 20) (s := Int.toNat (6 : Int)) (by decide) (by decide) (by decide)
  have B4 := B3.wr (a := 141) (k := 8) (b := jx _) (by decide) (by decide) ((show (refA.getD 79 z3).2.2 = 32 + 111 by decide).trans B2.x.symm) (by decide) (by decide) (by decide) (by decide)
  refine b_106_13 ⟨by decide, by decide, (B3.t 109 (by decide)).1, ?_⟩
  clear B2 B3
  have B5 := B4.nw (t := 20) (s := Int.toNat (6 : Int)) (by decide) (by decide) (by decide)
  have B6 := B5.wr (a := 141) (k := 9) (b := jx _) (by decide) (by decide) ((show (refA.getD 80 z3).2.2 = 32 + 112 by decide).trans B4.x.symm) (by decide) (by decide) (by decide) (by decide)
  refine b_106_21 ⟨by decide, by decide, (B5.t 109 (by decide)).1, ?_⟩
  clear B4 B5
  have B7 := B6.nw (t := 20) (s := Int.toNat (6 : Int)) (by decide) (by decide) (by decide)
  have B8 := B7.wr (a := 141) (k := 10) (b := jx _) (by decide) (by decide) ((show (refA.getD 81 z3).2.2 = 32 + 113 by decide).trans B6.x.symm) (by decide) (by decide) (by decide) (by decide)
  refine b_106_29 ⟨by decide, by decide, (B7.t 109 (by decide)).1, ?_⟩
  clear B6 B7
  have B9 := B8.nw (t := 20) (s := Int.toNat (6 : Int)) (by decide) (by decide) (by decide)
  have B10 := B9.wr (a := 141) (k := 12) (b := jx _) (by decide) (by decide) ((show (refA.getD 82 z3).2.2 = 32 + 114 by decide).trans B8.x.symm) (by decide) (by decide) (by decide) (by decide)
  refine b_106_37 ⟨by decide, by decide, (B9.t 109 (by decide)).1, ?_⟩
  clear B8 B9
  have B11 := B10.nw (t := 20) (s := Int.toNat (12 : Int)) (by decide) (by decide) (by decide)
  have B12 := B11.wr (a := 141) (k := 13) (b := jx _) (by decide) (by decide) ((show (refA.getD 83 z3).2.2 = 32 + 115 by decide).trans B10.x.symm) (by decide) (by decide) (by decide) (by decide)
  refine b_106_45 ⟨by decide, by decide, (B11.t 109 (by decide)).1, ?_⟩
  clear B10 B11
  have B13 := B12.nw (t := 20) (s := Int.toNat (384 : Int)) (by decide) (by decide) (by decide)
  have B14 := B13.wr (a := 141) (k := 14) (b := jx _) (by decide) (by decide) ((show (refA.getD 84 z3).2.2 = 32 + 116 by decide).trans B12.x.symm) (by decide) (by decide) (by decide) (by decide)
  refine b_106_53 ⟨by decide, by decide, (B13.t 109 (by decide)).1, ?_⟩
  clear B12 B13
  have B15 := B14.nw (t := 20) (s := Int.toNat (6 : Int)) (by decide) (by decide) (by decide)
  have B16 := B15.wr (a := 141) (k := 16) (b := jx _) (by decide) (by decide) ((show (refA.getD 85 z3).2.2 = 32 + 117 by decide).trans B14.x.symm) (by decide) (by decide) (by decide) (by decide)
  refine b_106_62 ⟨by decide, by decide, (B15.t 109 (by decide)).1, ?_⟩
  clear B14 B15
  have B17 := B16.nw (t := 20) (s := Int.toNat (12 : Int)) (by decide) (by decide) (by decide)
  have B18 := B17.wr (a := 141) (k := 17) (b := jx _) (by decide) (by decide) ((show (refA.getD 86 z3).2.2 = 32 + 118 by decide).trans B16.x.symm) (by decide) (by decide) (by decide) (by decide)
  refine b_106_70 ⟨by decide, by decide, (B17.t 109 (by decide)).1, ?_⟩
  clear B16 B17
  have B19 := B18.nw (t := 20) (s := Int.toNat (6 : Int)) (by decide) (by decide) (by decide)
  have B20 := B19.wr (a := 141) (k := 18) (b := jx _) (by decide) (by decide) ((show (refA.getD 87 z3).2.2 = 32 + 119 by decide).trans B18.x.symm) (by decide) (by decide) (by decide) (by decide)
  refine b_106_78 ⟨by decide, by decide, (B19.t 109 (by decide)).1, ?_⟩
  clear B18 B19
  have B21 := B20.nw (t := 20) (s := Int.toNat (6 : Int)) (by decide) (by decide) (by decide)
  have B22 := B21.wr (a := 141) (k := 19) (b := jx _) (by decide) (by decide) ((show (refA.getD 88 z3).2.2 = 32 + 120 by decide).trans B20.x.symm) (by decide) (by decide) (by decide) (by decide)
  refine b_106_86 ⟨by decide, by decide, (B21.t 109 (by decide)).1, ?_⟩
  clear B20 B21
  have B23 := B22.nw (t := 20) (s := Int.toNat (10 : Int)) (by decide) (by decide) (by decide)
  have B24 := B23.wr (a := 141) (k := 21) (b := jx _) (by decide) (by decide) ((show (refA.getD 89 z3).2.2 = 32 + 121 by decide).trans B22.x.symm) (by decide) (by decide) (by decide) (by decide)
  refine b_106_94 ⟨by decide, by decide, (B23.t 109 (by decide)).1, ?_⟩
  clear B22 B23
  have B25 := B24.nw (t := 20) (s := Int.toNat (20 : Int)) (by decide) (by decide) (by decide)
  have B26 := B25.wr (a := 141) (k := 22) (b := jx _) (by decide) (by decide) ((show (refA.getD 90 z3).2.2 = 32 + 122 by decide).trans B24.x.symm) (by decide) (by decide) (by decide) (by decide)
  refine b_106_102 ⟨by decide, by decide, (B25.t 109 (by decide)).1, ?_⟩
  clear B24 B25
  have B27 := B26.nw (t := 20) (s := Int.toNat (10 : Int)) (by decide) (by decide) (by decide)
  have B28 := B27.wr (a := 141) (k := 23) (b := jx _) (by decide) (by decide) ((show (refA.getD 91 z3).2.2 = 32 + 123 by decide).trans B26.x.symm) (by decide) (by decide) (by decide) (by decide)
  refine b_106_110 ⟨by decide, by decide, (B27.t 109 (by decide)).1, ?_⟩
  clear B26 B27
  have B29 := B28.nw (t := 20) (s := Int.toNat (30 : Int)) (by decide) (by decide) (by decide)
  have B30 := B29.wr (a := 141) (k := 24) (b := jx _) (by decide) (by decide) ((show (refA.getD 92 z3).2.2 = 32 + 124 by decide).trans B28.x.symm) (by decide) (by decide) (by decide) (by decide)
  refine b_106_118 ⟨by decide, by decide, (B29.t 109 (by decide)).1, ?_⟩
  clear B28 B29
  have B31 := B30.nw (t := 21) (s := Int.toNat (10 : Int)) (by decide) (by decide) (by decide)
  have B32 := B31.wr (a := 141) (k := 25) (b := jx _) (by decide) (by decide) ((show (refA.getD 93 z3).2.2 = 32 + 125 by decide).trans B30.x.symm) (by decide) (by decide) (by decide) (by decide)
  refine b_106_126 ⟨by decide, by decide, (B31.t 109 (by decide)).1, ?_⟩
  clear B30 B31
  have B33 := B32.nw (t := 20) (s := Int.toNat (20 : Int)) (by decide) (by decide) (by decide)
  have B34 := B33.wr (a := 141) (k := 31) (b := jx _) (by decide) (by decide) ((show (refA.getD 94 z3).2.2 = 32 + 126 by decide).trans B32.x.symm) (by decide) (by decide) (by decide) (by decide)
  refine b_106_134 ⟨by decide, by decide, (B33.t 109 (by decide)).1, ?_⟩
  clear B32 B33
  have B35 := B34.nw (t := 20) (s := Int.toNat (20 : Int)) (by decide) (by decide) (by decide)
  have B36 := B35.wr (a := 141) (k := 32) (b := jx _) (by decide) (by decide) ((show (refA.getD 95 z3).2.2 = 32 + 127 by decide).trans B34.x.symm) (by decide) (by decide) (by decide) (by decide)
  refine b_106_142 ⟨by decide, by decide, (B35.t 109 (by decide)).1, ?_⟩
  clear B34 B35
  have B37 := B36.nw (t := 20) (s := Int.toNat (2000 : Int)) (by decide) (by decide) (by decide)
  have B38 := B37.wr (a := 141) (k := 34) (b := jx _) (by decide) (by decide) ((show (refA.getD 96 z3).2.2 = 32 + 128 by decide).trans B36.x.symm) (by decide) (by decide) (by decide) (by decide)
  refine b_106_150 ⟨by decide, by decide, (B37.t 109 (by decide)).1, ?_⟩
  clear B36 B37
  have B39 := B38.nw (t := 20) (s := Int.toNat (2000 : Int)) (by decide) (by decide) (by decide)
  have B40 := B39.wr (a := 141) (k := 35) (b := jx _) (by decide) (by decide) ((show (refA.getD 97 z3).2.2 = 32 + 129 by decide).trans B38.x.symm) (by decide) (by decide) (by decide) (by decide)
  refine b_106_159 ⟨by decide, by decide, (B39.t 109 (by decide)).1, ?_⟩
  clear B38 B39
  have B41 := B40.nw (t := 20) (s := Int.toNat (2000 : Int)) (by decide) (by decide) (by decide)
  have B42 := B41.wr (a := 141) (k := 36) (b := jx _) (by decide) (by decide) ((show (refA.getD 98 z3).2.2 = 32 + 130 by decide).trans B40.x.symm) (by decide) (by decide) (by decide) (by decide)
  refine b_106_168 ⟨by decide, by decide, (B41.t 109 (by decide)).1, ?_⟩
  clear B40 B41
  have B43 := B42.nw (t := 20) (s := Int.toNat (2000 : Int)) (by decide) (by decide) (by decide)
  have B44 := B43.wr (a := 141) (k := 37) (b := jx _) (by decide) (by decide) ((show (refA.getD 99 z3).2.2 = 32 + 131 by decide).trans B42.x.symm) (by decide) (by decide) (by decide) (by decide)
  refine b_106_177 ⟨by decide, by decide, (B43.t 109 (by decide)).1, ?_⟩
  clear B42 B43
  have B45 := B44.nw (t := 23) (s := Int.toNat (9 : Int)) (by decide) (by decide) (by decide)
  have B46 := B45.wr (a := 141) (k := 39) (b := jx _) (by decide) (by decide) ((show (refA.getD 100 z3).2.2 = 32 + 132 by decide).trans B44.x.symm) (by decide) (by decide) (by decide) (by decide)
  refine b_106_186 ⟨by decide, by decide, (B45.t 109 (by decide)).1, ?_⟩
  clear B44 B45
  have B47 := B46.nw (t := 20) (s := Int.toNat (9 : Int)) (by decide) (by decide) (by decide)
  have B48 := B47.wr (a := 141) (k := 40) (b := jx _) (by decide) (by decide) ((show (refA.getD 101 z3).2.2 = 32 + 133 by decide).trans B46.x.symm) (by decide) (by decide) (by decide) (by decide)
  refine b_106_194 ⟨by decide, by decide, (B47.t 109 (by decide)).1, ?_⟩
  clear B46 B47
  have B49 := B48.nw (t := 23) (s := Int.toNat (9 : Int)) (by decide) (by decide) (by decide)
  have B50 := B49.wr (a := 141) (k := 41) (b := jx _) (by decide) (by decide) ((show (refA.getD 102 z3).2.2 = 32 + 134 by decide).trans B48.x.symm) (by decide) (by decide) (by decide) (by decide)
  refine b_106_202 ⟨by decide, by decide, (B49.t 109 (by decide)).1, ?_⟩
  clear B48 B49
  have B51 := B50.nw (t := 23) (s := Int.toNat (9 : Int)) (by decide) (by decide) (by decide)
  have B52 := B51.wr (a := 141) (k := 42) (b := jx _) (by decide) (by decide) ((show (refA.getD 103 z3).2.2 = 32 + 135 by decide).trans B50.x.symm) (by decide) (by decide) (by decide) (by decide)
  refine b_106_210 ⟨by decide, by decide, (B51.t 109 (by decide)).1, ?_⟩
  clear B50 B51
  have B53 := B52.nw (t := 20) (s := Int.toNat (9 : Int)) (by decide) (by decide) (by decide)
  have B54 := B53.wr (a := 141) (k := 43) (b := jx _) (by decide) (by decide) ((show (refA.getD 104 z3).2.2 = 32 + 136 by decide).trans B52.x.symm) (by decide) (by decide) (by decide) (by decide)
  refine b_106_218 ⟨by decide, by decide, (B53.t 109 (by decide)).1, ?_⟩
  clear B52 B53
  have B55 := B54.nw (t := 21) (s := Int.toNat (9 : Int)) (by decide) (by decide) (by decide)
  have B56 := B55.wr (a := 141) (k := 44) (b := jx _) (by decide) (by decide) ((show (refA.getD 105 z3).2.2 = 32 + 137 by decide).trans B54.x.symm) (by decide) (by decide) (by decide) (by decide)
  refine b_106_226 ⟨by decide, by decide, (B55.t 109 (by decide)).1, ?_⟩
  clear B54 B55
  have B57 := B56.nw (t := 20) (s := Int.toNat (9 : Int)) (by decide) (by decide) (by decide)
  have B58 := B57.wr (a := 141) (k := 45) (b := jx _) (by decide) (by decide) ((show (refA.getD 106 z3).2.2 = 32 + 138 by decide).trans B56.x.symm) (by decide) (by decide) (by decide) (by decide)
  refine b_106_234 ⟨by decide, by decide, (B57.t 109 (by decide)).1, ?_⟩
  clear B56 B57
  have B59 := B58.nw (t := 20) (s := Int.toNat (9 : Int)) (by decide) (by decide) (by decide)
  have B60 := B59.wr (a := 141) (k := 46) (b := jx _) (by decide) (by decide) ((show (refA.getD 107 z3).2.2 = 32 + 139 by decide).trans B58.x.symm) (by decide) (by decide) (by decide) (by decide)
  refine b_106_242 ⟨by decide, by decide, (B59.t 109 (by decide)).1, ?_⟩
  clear B58 B59
  have B61 := B60.nw (t := 21) (s := Int.toNat (1640 : Int)) (by decide) (by decide) (by decide)
  have B62 := B61.wr (a := 141) (k := 53) (b := jx _) (by decide) (by decide) ((show (refA.getD 108 z3).2.2 = 32 + 140 by decide).trans B60.x.symm) (by decide) (by decide) (by decide) (by decide)
  refine b_106_250 ⟨by decide, by decide, (B61.t 109 (by decide)).1, ?_⟩
  clear B60 B61
  have B63 := B62.nw (t := 20) (s := Int.toNat (20 : Int)) (by decide) (by decide) (by decide)
  have B64 := B63.wr (a := 141) (k := 55) (b := jx _) (by decide) (by decide) ((show (refA.getD 109 z3).2.2 = 32 + 141 by decide).trans B62.x.symm) (by decide) (by decide) (by decide) (by decide)
  refine b_106_259 ⟨by decide, by decide, (B63.t 109 (by decide)).1, ?_⟩
  clear B62 B63
  have B65 := B64.nw (t := 20) (s := Int.toNat (7 : Int)) (by decide) (by decide) (by decide)
  have B66 := B65.wr (a := 141) (k := 56) (b := jx _) (by decide) (by decide) ((show (refA.getD 110 z3).2.2 = 32 + 142 by decide).trans B64.x.symm) (by decide) (by decide) (by decide) (by decide)
  refine b_106_267 ⟨by decide, by decide, (B65.t 109 (by decide)).1, ?_⟩
  clear B64 B65
  have B67 := B66.nw (t := 20) (s := Int.toNat (4 : Int)) (by decide) (by decide) (by decide)
  have B68 := B67.wr (a := 141) (k := 57) (b := jx _) (by decide) (by decide) ((show (refA.getD 111 z3).2.2 = 32 + 143 by decide).trans B66.x.symm) (by decide) (by decide) (by decide) (by decide)
  refine b_106_275 ⟨by decide, by decide, (B67.t 109 (by decide)).1, ?_⟩
  clear B66 B67
  have B69 := B68.nw (t := 20) (s := Int.toNat (40 : Int)) (by decide) (by decide) (by decide)
  have B70 := B69.wr (a := 141) (k := 58) (b := jx _) (by decide) (by decide) ((show (refA.getD 112 z3).2.2 = 32 + 144 by decide).trans B68.x.symm) (by decide) (by decide) (by decide) (by decide)
  refine b_106_282 ⟨by decide, by decide, (B69.t 109 (by decide)).1, ?_⟩
  clear B68 B69
  have B71 := B70.nw (t := 20) (s := Int.toNat (6 : Int)) (by decide) (by decide) (by decide)
  have B72 := B71.wr (a := 141) (k := 59) (b := jx _) (by decide) (by decide) ((show (refA.getD 113 z3).2.2 = 32 + 145 by decide).trans B70.x.symm) (by decide) (by decide) (by decide) (by decide)
  refine b_106_290 ⟨by decide, by decide, (B71.t 109 (by decide)).1, ?_⟩
  clear B70 B71
  have B73 := B72.nw (t := 20) (s := Int.toNat (6 : Int)) (by decide) (by decide) (by decide)
  have B74 := B73.wr (a := 141) (k := 60) (b := jx _) (by decide) (by decide) ((show (refA.getD 114 z3).2.2 = 32 + 146 by decide).trans B72.x.symm) (by decide) (by decide) (by decide) (by decide)
  refine b_106_298 ⟨by decide, by decide, (B73.t 109 (by decide)).1, ?_⟩
  clear B72 B73
  have B75 := B74.nw (t := 20) (s := Int.toNat (12 : Int)) (by decide) (by decide) (by decide)
  have B76 := B75.wr (a := 141) (k := 61) (b := jx _) (by decide) (by decide) ((show (refA.getD 115 z3).2.2 = 32 + 147 by decide).trans B74.x.symm) (by decide) (by decide) (by decide) (by decide)
  refine b_106_306 ⟨by decide, by decide, (B75.t 109 (by decide)).1, ?_⟩
  clear B74 B75
  have B77 := B76.nw (t := 20) (s := Int.toNat (384 : Int)) (by decide) (by decide) (by decide)
  have B78 := B77.wr (a := 141) (k := 62) (b := jx _) (by decide) (by decide) ((show (refA.getD 116 z3).2.2 = 32 + 148 by decide).trans B76.x.symm) (by decide) (by decide) (by decide) (by decide)
  refine b_106_314 ⟨by decide, by decide, (B77.t 109 (by decide)).1, ?_⟩
  clear B76 B77
  have B79 := B78.nw (t := 20) (s := Int.toNat (12 : Int)) (by decide) (by decide) (by decide)
  have B80 := B79.wr (a := 141) (k := 63) (b := jx _) (by decide) (by decide) ((show (refA.getD 117 z3).2.2 = 32 + 149 by decide).trans B78.x.symm) (by decide) (by decide) (by decide) (by decide)
  refine b_106_323 ⟨by decide, by decide, (B79.t 109 (by decide)).1, ?_⟩
  clear B78 B79
  have B81 := B80.nw (t := 20) (s := Int.toNat (7 : Int)) (by decide) (by decide) (by decide)
  have B82 := B81.wr (a := 141) (k := 64) (b := jx _) (by decide) (by decide) ((show (refA.getD 118 z3).2.2 = 32 + 150 by decide).trans B80.x.symm) (by decide) (by decide) (by decide) (by decide)
  refine b_106_331 ⟨by decide, by decide, (B81.t 109 (by decide)).1, ?_⟩
  clear B80 B81
  have B83 := B82.nw (t := 20) (s := Int.toNat (40 : Int)) (by decide) (by decide) (by decide)
  have B84 := B83.wr (a := 141) (k := 66) (b := jx _) (by decide) (by decide) ((show (refA.getD 119 z3).2.2 = 32 + 151 by decide).trans B82.x.symm) (by decide) (by decide) (by decide) (by decide)
  refine b_106_339 ⟨by decide, by decide, (B83.t 109 (by decide)).1, ?_⟩
  clear B82 B83
  have B85 := B84.nw (t := 20) (s := Int.toNat (40 : Int)) (by decide) (by decide) (by decide)
  have B86 := B85.wr (a := 141) (k := 67) (b := jx _) (by decide) (by decide) ((show (refA.getD 120 z3).2.2 = 32 + 152 by decide).trans B84.x.symm) (by decide) (by decide) (by decide) (by decide)
  refine b_106_347 ⟨by decide, by decide, (B85.t 109 (by decide)).1, ?_⟩
  clear B84 B85
  have B87 := B86.nw (t := 20) (s := Int.toNat (40 : Int)) (by decide) (by decide) (by decide)
  have B88 := B87.wr (a := 141) (k := 68) (b := jx _) (by decide) (by decide) ((show (refA.getD 121 z3).2.2 = 32 + 153 by decide).trans B86.x.symm) (by decide) (by decide) (by decide) (by decide)
  refine b_106_355 ⟨by decide, by decide, (B87.t 109 (by decide)).1, ?_⟩
  clear B86 B87
  have B89 := B88.nw (t := 20) (s := Int.toNat (40 : Int)) (by decide) (by decide) (by decide)
  have B90 := B89.wr (a := 141) (k := 69) (b := jx _) (by decide) (by decide) ((show (refA.getD 122 z3).2.2 = 32 + 154 by decide).trans B88.x.symm) (by decide) (by decide) (by decide) (by decide)
  refine b_106_363 ⟨by decide, by decide, (B89.t 109 (by decide)).1, ?_⟩
  clear B88 B89
  have B91 := B90.nw (t := 20) (s := Int.toNat (40 : Int)) (by decide) (by decide) (by decide)
  have B92 := B91.wr (a := 141) (k := 70) (b := jx _) (by decide) (by decide) ((show (refA.getD 123 z3).2.2 = 32 + 155 by decide).trans B90.x.symm) (by decide) (by decide) (by decide) (by decide)
  refine b_106_371 ⟨by decide, by decide, (B91.t 109 (by decide)).1, ?_⟩
  clear B90 B91
  have B93 := B92.nw (t := 20) (s := Int.toNat (40 : Int)) (by decide) (by decide) (by decide)
  have B94 := B93.wr (a := 141) (k := 71) (b := jx _) (by decide) (by decide) ((show (refA.getD 124 z3).2.2 = 32 + 156 by decide).trans B92.x.symm) (by decide) (by decide) (by decide) (by decide)
  refine b_106_379 ⟨by decide, by decide, (B93.t 109 (by decide)).1, ?_⟩
  clear B92 B93
  have B95 := B94.nw (t := 20) (s := Int.toNat (40 : Int)) (by decide) (by decide) (by decide)
  have B96 := B95.wr (a := 141) (k := 73) (b := jx _) (by decide) (by decide) ((show (refA.getD 125 z3).2.2 = 32 + 157 by decide).trans B94.x.symm) (by decide) (by decide) (by decide) (by decide)
  refine b_106_387 ⟨by decide, by decide, (B95.t 109 (by decide)).1, ?_⟩
  clear B94 B95
  have B97 := B96.nw (t := 20) (s := Int.toNat (40 : Int)) (by decide) (by decide) (by decide)
  have B98 := B97.wr (a := 141) (k := 74) (b := jx _) (by decide) (by decide) ((show (refA.getD 126 z3).2.2 = 32 + 158 by decide).trans B96.x.symm) (by decide) (by decide) (by decide) (by decide)
  refine b_106_395 ⟨by decide, by decide, (B97.t 109 (by decide)).1, ?_⟩
  clear B96 B97
  have B99 := B98.nw (t := 20) (s := Int.toNat (40 : Int)) (by decide) (by decide) (by decide)
  have B100 := B99.wr (a := 141) (k := 75) (b := jx _) (by decide) (by decide) ((show (refA.getD 127 z3).2.2 = 32 + 159 by decide).trans B98.x.symm) (by decide) (by decide) (by decide) (by decide)
  refine b_106_403 ⟨by decide, by decide, (B99.t 109 (by decide)).1, ?_⟩
  clear B98 B99
  have B101 := B100.nw (t := 20) (s := Int.toNat (40 : Int)) (by decide) (by decide) (by decide)
  have B102 := B101.wr (a := 141) (k := 76) (b := jx _) (by decide) (by decide) ((show (refA.getD 128 z3).2.2 = 32 + 160 by decide).trans B100.x.symm) (by decide) (by decide) (by decide) (by decide)
  refine b_106_411 ⟨by decide, by decide, (B101.t 109 (by decide)).1, ?_⟩
  clear B100 B101
  have B103 := B102.nw (t := 21) (s := Int.toNat (1640 : Int)) (by decide) (by decide) (by decide)
  have B104 := B103.wr (a := 141) (k := 77) (b := jx _) (by decide) (by decide) ((show (refA.getD 129 z3).2.2 = 32 + 161 by decide).trans B102.x.symm) (by decide) (by decide) (by decide) (by decide)
  refine b_106_419 ⟨by decide, by decide, (B103.t 109 (by decide)).1, ?_⟩
  clear B102 B103
  have B105 := B104.nw (t := 21) (s := Int.toNat (41 : Int)) (by decide) (by decide) (by decide)
  have B106 := B105.wr (a := 141) (k := 79) (b := jx _) (by decide) (by decide) ((show (refA.getD 130 z3).2.2 = 32 + 162 by decide).trans B104.x.symm) (by decide) (by decide) (by decide) (by decide)
  refine b_106_428 ⟨by decide, by decide, (B105.t 109 (by decide)).1, ?_⟩
  clear B104 B105
  have B107 := B106.nw (t := 20) (s := Int.toNat (2400 : Int)) (by decide) (by decide) (by decide)
  have B108 := B107.wr (a := 141) (k := 82) (b := jx _) (by decide) (by decide) ((show (refA.getD 131 z3).2.2 = 32 + 163 by decide).trans B106.x.symm) (by decide) (by decide) (by decide) (by decide)
  refine b_106_436 ⟨by decide, by decide, (B107.t 109 (by decide)).1, ?_⟩
  clear B106 B107
  have B109 := B108.nw (t := 20) (s := Int.toNat (20 : Int)) (by decide) (by decide) (by decide)
  have B110 := B109.wr (a := 141) (k := 83) (b := jx _) (by decide) (by decide) ((show (refA.getD 132 z3).2.2 = 32 + 164 by decide).trans B108.x.symm) (by decide) (by decide) (by decide) (by decide)
  refine b_106_445 ⟨by decide, by decide, (B109.t 109 (by decide)).1, ?_⟩
  clear B108 B109
  exact b_106_453 ⟨rfl, B110⟩
end CTR
