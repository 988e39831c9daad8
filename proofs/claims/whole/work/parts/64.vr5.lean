-- conditions
set_option maxRecDepth 100000 in
theorem c_137_0 {p : Lpar} {d : Nat} {h : AH} {Q : Option AV → AH → Prop}  (hd : 9 ≤ d) (L : Ly p h) (H : 0 ≤ (ji h 141 33) ∧ (ji h 141 33) < 2000 ∧ ((ji h 141 2) = 145 → (Ly p (wi (wl (wi (wi (wi (wi (wi (wi h 160 (Int.toNat (ji h 141 33)) (0 : Int)) 161 (Int.toNat (ji h 141 33)) (0 : Int)) 162 (Int.toNat (ji h 141 33)) (0 : Int)) 163 (Int.toNat (ji h 141 33)) (0 : Int)) 141 33 ((ji h 141 33) + 1)) 141 49 0) 141 52 0) 141 47 1) → ∃ h7, jE d 118 [jP 141] (wi (wl (wi (wi (wi (wi (wi (wi h 160 (Int.toNat (ji h 141 33)) (0 : Int)) 161 (Int.toNat (ji h 141 33)) (0 : Int)) 162 (Int.toNat (ji h 141 33)) (0 : Int)) 163 (Int.toNat (ji h 141 33)) (0 : Int)) 141 33 ((ji h 141 33) + 1)) 141 49 0) 141 52 0) 141 47 1) none h7 ∧ Ly p h7 ∧ (Ly p (wi h7 141 47 (-1)) → ∃ h10, jE d 138 [jP 141] (wi h7 141 47 (-1)) none h10 ∧ Ly p h10 ∧ Q none h10))) ∧ (¬ (ji h 141 2) = 145 → (Ly p (wi (wl (wi (wi (wi (wi (wi (wi h 160 (Int.toNat (ji h 141 33)) (0 : Int)) 161 (Int.toNat (ji h 141 33)) (0 : Int)) 162 (Int.toNat (ji h 141 33)) (0 : Int)) 163 (Int.toNat (ji h 141 33)) (0 : Int)) 141 33 ((ji h 141 33) + 1)) 141 49 0) 141 52 0) 141 47 1) → ∃ h4, jE d 138 [jP 141] (wi (wl (wi (wi (wi (wi (wi (wi h 160 (Int.toNat (ji h 141 33)) (0 : Int)) 161 (Int.toNat (ji h 141 33)) (0 : Int)) 162 (Int.toNat (ji h 141 33)) (0 : Int)) 163 (Int.toNat (ji h 141 33)) (0 : Int)) 141 33 ((ji h 141 33) + 1)) 141 49 0) 141 52 0) 141 47 1) none h4 ∧ Ly p h4 ∧ Q none h4))) : WF d 137 0 [jP 141] [] h Q := by
  refine b_137_0 ?_
  refine ⟨(Ly.t141 L :), ?_⟩
  obtain ⟨z1, z2, H⟩ := H
  refine ⟨_, m_136 (d := d) (by omega) L z1 z2, ?_⟩
  refine b_137_8 ?_
  refine ⟨Or.inl rfl, ?_⟩
  refine ⟨(Ly.t141 L :), ?_⟩
  refine b_137_13 ?_
  refine ⟨(Ly.t141 L :), ?_⟩
  refine b_137_18 ?_
  refine ⟨(Ly.t141 L :), ?_⟩
  refine b_137_23 ?_
  refine ⟨(Ly.t141 L :), ?_⟩
  refine ⟨fun c13 => ?_, fun c13 => ?_⟩
  · have H := H.2 c13
    refine b_137_42 ?_
    refine ⟨(Ly.t141 L :), ?_⟩
    have H := H (Ly.wi (Ly.wl (Ly.wi (Ly.wi (Ly.wi (Ly.wi (Ly.wi (Ly.wi L (a := 160) (k := Int.toNat (ji h 141 33)) (x := 0) (by decide)) (a := 161) (k := Int.toNat (ji h 141 33)) (x := 0) (by decide)) (a := 162) (k := Int.toNat (ji h 141 33)) (x := 0) (by decide)) (a := 163) (k := Int.toNat (ji h 141 33)) (x := 0) (by decide)) (a := 141) (k := 33) (x := (ji h 141 33) + 1) (by decide)) (a := 141) (k := 49) (x := 0) (by decide)) (a := 141) (k := 52) (x := 0)) (a := 141) (k := 47) (x := 1) (by decide))
    obtain ⟨h4, e6, L5, H⟩ := H
    refine ⟨h4, e6, ?_⟩
    refine b_137_46 ?_
    exact H
  · have c13 := Decidable.not_not.mp c13
    have H := H.1 c13
    refine ⟨(Ly.t141 L :), ?_⟩
    have H := H (Ly.wi (Ly.wl (Ly.wi (Ly.wi (Ly.wi (Ly.wi (Ly.wi (Ly.wi L (a := 160) (k := Int.toNat (ji h 141 33)) (x := 0) (by decide)) (a := 161) (k := Int.toNat (ji h 141 33)) (x := 0) (by decide)) (a := 162) (k := Int.toNat (ji h 141 33)) (x := 0) (by decide)) (a := 163) (k := Int.toNat (ji h 141 33)) (x := 0) (by decide)) (a := 141) (k := 33) (x := (ji h 141 33) + 1) (by decide)) (a := 141) (k := 49) (x := 0) (by decide)) (a := 141) (k := 52) (x := 0)) (a := 141) (k := 47) (x := 1) (by decide))
    obtain ⟨h7, e9, L8, H⟩ := H
    refine ⟨h7, e9, ?_⟩
    refine b_137_37 ?_
    refine ⟨(Ly.t141 L8 :), ?_⟩
    refine b_137_42 ?_
    refine ⟨(Ly.t141 L8 :), ?_⟩
    have H := H (Ly.wi L8 (a := 141) (k := 47) (x := (-1)) (by decide))
    obtain ⟨h10, e12, L11, H⟩ := H
    refine ⟨h10, e12, ?_⟩
    refine b_137_46 ?_
    exact H
set_option maxRecDepth 100000 in
theorem c_141_0 {p : Lpar} {d : Nat} {h : AH} {Q : Option AV → AH → Prop} {v1 : Int} (hd : 9 ≤ d) (L : Ly p h) (H : ((ji h 141 6) = -1 → ((ji h 141 2) = 2 → 0 ≤ v1 ∧ v1 < 6 ∧ 0 ≤ v1 ∧ v1 < 6 ∧ 0 ≤ v1 ∧ v1 < 6 ∧ ((ji h 144 (Int.toNat v1)) ≤ (ji h 141 5) ∧ (ji h 141 5) ≤ (w32 ((w32 ((ji h 144 (Int.toNat v1)) + (ji h 145 (Int.toNat v1)))) - 1)) → ((ji h 141 6) = -1 → ∃ h59, jE d 118 [jP 141] h none h59 ∧ Ly p h59 ∧ Q (some (jI (ji h 141 5))) h59) ∧ (¬ ((ji h 141 6) = -1) → Q (some (jI (ji h 141 5))) h)) ∧ (¬ ((ji h 144 (Int.toNat v1)) ≤ (ji h 141 5) ∧ (ji h 141 5) ≤ (w32 ((w32 ((ji h 144 (Int.toNat v1)) + (ji h 145 (Int.toNat v1)))) - 1))) → ((ji h 141 6) = -1 → ((ji h 141 3) = -1 → (Ly p (wi h 141 6 (ji h 141 3)) → ∃ h64, jE d 118 [jP 141] (wi h 141 6 (ji h 141 3)) none h64 ∧ Ly p h64 ∧ Q (some (jI (ji h 141 5))) h64)) ∧ (¬ ((ji h 141 3) = -1) → (Ly p (wi h 141 6 (ji h 141 3)) → Q (some (jI (ji h 141 5))) (wi h 141 6 (ji h 141 3))))) ∧ (¬ ((ji h 141 6) = -1) → ((ji h 141 6) = -1 → (Ly p (wi h 141 6 (ji h 141 6)) → ∃ h68, jE d 118 [jP 141] (wi h 141 6 (ji h 141 6)) none h68 ∧ Ly p h68 ∧ Q (some (jI (ji h 141 5))) h68)) ∧ (¬ ((ji h 141 6) = -1) → (Ly p (wi h 141 6 (ji h 141 6)) → Q (some (jI (ji h 141 5))) (wi h 141 6 (ji h 141 6))))))) ∧ (¬ (ji h 141 2) = 2 → ((ji h 141 6) = -1 → ((ji h 141 2) = 1 → ∃ x15 h12, jE d 123 [jP 158, jI (ji h 141 30), jI (ji h 141 5)] h (some (jI x15)) h12 ∧ Ly p h12 ∧ (x15 = (-1) → ((ji h12 141 6) = -1 → ((ji h12 141 3) = -1 → (Ly p (wi h12 141 6 (ji h12 141 3)) → ∃ h18, jE d 118 [jP 141] (wi h12 141 6 (ji h12 141 3)) none h18 ∧ Ly p h18 ∧ Q (some (jI (w32 ((-1) - x15)))) h18)) ∧ (¬ ((ji h12 141 3) = -1) → (Ly p (wi h12 141 6 (ji h12 141 3)) → Q (some (jI (w32 ((-1) - x15)))) (wi h12 141 6 (ji h12 141 3))))) ∧ (¬ ((ji h12 141 6) = -1) → ((ji h12 141 6) = -1 → (Ly p (wi h12 141 6 (ji h12 141 6)) → ∃ h22, jE d 118 [jP 141] (wi h12 141 6 (ji h12 141 6)) none h22 ∧ Ly p h22 ∧ Q (some (jI (w32 ((-1) - x15)))) h22)) ∧ (¬ ((ji h12 141 6) = -1) → (Ly p (wi h12 141 6 (ji h12 141 6)) → Q (some (jI (w32 ((-1) - x15)))) (wi h12 141 6 (ji h12 141 6)))))) ∧ (¬ (x15 = (-1)) → 0 ≤ x15 ∧ x15 < 20 ∧ ∃ x30 h27, jE d 142 [jP 141, jI (ji h12 159 (Int.toNat x15)), jI v1] h12 (some (jI x30)) h27 ∧ Ly p h27 ∧ (x30 = (0 : Int) → ((ji h27 141 6) = -1 → ((ji h27 141 3) = -1 → (Ly p (wi h27 141 6 (ji h27 141 3)) → ∃ h37, jE d 118 [jP 141] (wi h27 141 6 (ji h27 141 3)) none h37 ∧ Ly p h37 ∧ Q (some (jI (w32 ((-1) - x15)))) h37)) ∧ (¬ ((ji h27 141 3) = -1) → (Ly p (wi h27 141 6 (ji h27 141 3)) → Q (some (jI (w32 ((-1) - x15)))) (wi h27 141 6 (ji h27 141 3))))) ∧ (¬ ((ji h27 141 6) = -1) → ((ji h27 141 6) = -1 → (Ly p (wi h27 141 6 (ji h27 141 6)) → ∃ h41, jE d 118 [jP 141] (wi h27 141 6 (ji h27 141 6)) none h41 ∧ Ly p h41 ∧ Q (some (jI (w32 ((-1) - x15)))) h41)) ∧ (¬ ((ji h27 141 6) = -1) → (Ly p (wi h27 141 6 (ji h27 141 6)) → Q (some (jI (w32 ((-1) - x15)))) (wi h27 141 6 (ji h27 141 6)))))) ∧ (¬ x30 = (0 : Int) → ((ji h27 141 6) = -1 → ∃ h32, jE d 118 [jP 141] h27 none h32 ∧ Ly p h32 ∧ Q (some (jI (w32 ((-1) - x15)))) h32) ∧ (¬ ((ji h27 141 6) = -1) → Q (some (jI (w32 ((-1) - x15)))) h27)))) ∧ (¬ (ji h 141 2) = 1 → ((ji h 141 6) = -1 → ((ji h 141 3) = -1 → (Ly p (wi h 141 6 (ji h 141 3)) → ∃ h5, jE d 118 [jP 141] (wi h 141 6 (ji h 141 3)) none h5 ∧ Ly p h5 ∧ Q (some (jI (w32 ((-1) - (-1))))) h5)) ∧ (¬ ((ji h 141 3) = -1) → (Ly p (wi h 141 6 (ji h 141 3)) → Q (some (jI (w32 ((-1) - (-1))))) (wi h 141 6 (ji h 141 3))))) ∧ (¬ ((ji h 141 6) = -1) → ((ji h 141 6) = -1 → (Ly p (wi h 141 6 (ji h 141 6)) → ∃ h9, jE d 118 [jP 141] (wi h 141 6 (ji h 141 6)) none h9 ∧ Ly p h9 ∧ Q (some (jI (w32 ((-1) - (-1))))) h9)) ∧ (¬ ((ji h 141 6) = -1) → (Ly p (wi h 141 6 (ji h 141 6)) → Q (some (jI (w32 ((-1) - (-1))))) (wi h 141 6 (ji h 141 6))))))) ∧ (¬ ((ji h 141 6) = -1) → ((ji h 141 6) = -1 → ∃ h48, jE d 118 [jP 141] h none h48 ∧ Ly p h48 ∧ Q (some (jI 0)) h48) ∧ (¬ ((ji h 141 6) = -1) → Q (some (jI 0)) h)))) ∧ (¬ ((ji h 141 6) = -1) → ((ji h 141 6) = -1 → ((ji h 141 2) = 1 → ∃ x85 h82, jE d 123 [jP 158, jI (ji h 141 30), jI (ji h 141 5)] h (some (jI x85)) h82 ∧ Ly p h82 ∧ (x85 = (-1) → ((ji h82 141 6) = -1 → ((ji h82 141 3) = -1 → (Ly p (wi h82 141 6 (ji h82 141 3)) → ∃ h88, jE d 118 [jP 141] (wi h82 141 6 (ji h82 141 3)) none h88 ∧ Ly p h88 ∧ Q (some (jI (w32 ((-1) - x85)))) h88)) ∧ (¬ ((ji h82 141 3) = -1) → (Ly p (wi h82 141 6 (ji h82 141 3)) → Q (some (jI (w32 ((-1) - x85)))) (wi h82 141 6 (ji h82 141 3))))) ∧ (¬ ((ji h82 141 6) = -1) → ((ji h82 141 6) = -1 → (Ly p (wi h82 141 6 (ji h82 141 6)) → ∃ h92, jE d 118 [jP 141] (wi h82 141 6 (ji h82 141 6)) none h92 ∧ Ly p h92 ∧ Q (some (jI (w32 ((-1) - x85)))) h92)) ∧ (¬ ((ji h82 141 6) = -1) → (Ly p (wi h82 141 6 (ji h82 141 6)) → Q (some (jI (w32 ((-1) - x85)))) (wi h82 141 6 (ji h82 141 6)))))) ∧ (¬ (x85 = (-1)) → 0 ≤ x85 ∧ x85 < 20 ∧ ∃ x100 h97, jE d 142 [jP 141, jI (ji h82 159 (Int.toNat x85)), jI v1] h82 (some (jI x100)) h97 ∧ Ly p h97 ∧ (x100 = (0 : Int) → ((ji h97 141 6) = -1 → ((ji h97 141 3) = -1 → (Ly p (wi h97 141 6 (ji h97 141 3)) → ∃ h107, jE d 118 [jP 141] (wi h97 141 6 (ji h97 141 3)) none h107 ∧ Ly p h107 ∧ Q (some (jI (w32 ((-1) - x85)))) h107)) ∧ (¬ ((ji h97 141 3) = -1) → (Ly p (wi h97 141 6 (ji h97 141 3)) → Q (some (jI (w32 ((-1) - x85)))) (wi h97 141 6 (ji h97 141 3))))) ∧ (¬ ((ji h97 141 6) = -1) → ((ji h97 141 6) = -1 → (Ly p (wi h97 141 6 (ji h97 141 6)) → ∃ h111, jE d 118 [jP 141] (wi h97 141 6 (ji h97 141 6)) none h111 ∧ Ly p h111 ∧ Q (some (jI (w32 ((-1) - x85)))) h111)) ∧ (¬ ((ji h97 141 6) = -1) → (Ly p (wi h97 141 6 (ji h97 141 6)) → Q (some (jI (w32 ((-1) - x85)))) (wi h97 141 6 (ji h97 141 6)))))) ∧ (¬ x100 = (0 : Int) → ((ji h97 141 6) = -1 → ∃ h102, jE d 118 [jP 141] h97 none h102 ∧ Ly p h102 ∧ Q (some (jI (w32 ((-1) - x85)))) h102) ∧ (¬ ((ji h97 141 6) = -1) → Q (some (jI (w32 ((-1) - x85)))) h97)))) ∧ (¬ (ji h 141 2) = 1 → ((ji h 141 6) = -1 → ((ji h 141 3) = -1 → (Ly p (wi h 141 6 (ji h 141 3)) → ∃ h75, jE d 118 [jP 141] (wi h 141 6 (ji h 141 3)) none h75 ∧ Ly p h75 ∧ Q (some (jI (w32 ((-1) - (-1))))) h75)) ∧ (¬ ((ji h 141 3) = -1) → (Ly p (wi h 141 6 (ji h 141 3)) → Q (some (jI (w32 ((-1) - (-1))))) (wi h 141 6 (ji h 141 3))))) ∧ (¬ ((ji h 141 6) = -1) → ((ji h 141 6) = -1 → (Ly p (wi h 141 6 (ji h 141 6)) → ∃ h79, jE d 118 [jP 141] (wi h 141 6 (ji h 141 6)) none h79 ∧ Ly p h79 ∧ Q (some (jI (w32 ((-1) - (-1))))) h79)) ∧ (¬ ((ji h 141 6) = -1) → (Ly p (wi h 141 6 (ji h 141 6)) → Q (some (jI (w32 ((-1) - (-1))))) (wi h 141 6 (ji h 141 6))))))) ∧ (¬ ((ji h 141 6) = -1) → ((ji h 141 6) = -1 → ∃ h118, jE d 118 [jP 141] h none h118 ∧ Ly p h118 ∧ Q (some (jI 0)) h118) ∧ (¬ ((ji h 141 6) = -1) → Q (some (jI 0)) h)))) : WF d 141 0 [jP 141, jI v1, jU, jU] [] h Q := by
  refine b_141_0 ?_
  refine b_141_2 ?_
  refine ⟨(Ly.t141 L :), ?_⟩
  by_cases c1 : (ji h 141 6) = -1
  · have H := H.1 c1
    refine ⟨1, _, by have := m_122 (d := d) (by omega) L; rw [if_pos c1] at this; exact this, ?_⟩
    refine ⟨fun c => absurd c (by decide), fun _ => ?_⟩
    refine ⟨(Ly.t141 L :), ?_⟩
    refine ⟨fun c71 => ?_, fun c71 => ?_⟩
    · have H := H.2 c71
      refine ⟨(Ly.t141 L :), ?_⟩
      by_cases c2 : (ji h 141 6) = -1
      · have H := H.1 c2
        refine ⟨1, _, by have := m_122 (d := d) (by omega) L; rw [if_pos c2] at this; exact this, ?_⟩
        refine ⟨fun c => absurd c (by decide), fun _ => ?_⟩
        refine ⟨(Ly.t141 L :), ?_⟩
        refine ⟨fun c46 => ?_, fun c46 => ?_⟩
        · have H := H.2 c46
          refine b_141_99 ?_
          refine ⟨fun _ => ?_, fun c => absurd (by decide) c⟩
          refine ⟨(Ly.t141 L :), ?_⟩
          refine ⟨(Ly.t141 L :), ?_⟩
          by_cases c3 : (ji h 141 6) = -1
          · have H := H.1 c3
            refine ⟨_, m_119y (d := d) (by omega) L c3, ?_⟩
            refine b_141_126 ?_
            refine b_141_130 ?_
            refine ⟨(Ly.t141 L :), ?_⟩
            by_cases c4 : (ji h 141 3) = -1
            · have H := H.1 c4
              refine ⟨1, _, by have := m_122 (d := d) (by omega) (Ly.wi L (a := 141) (k := 6) (x := ji h 141 3) (by decide)); rw [if_pos (show (ji (wi h 141 6 (ji h 141 3)) 141 6) = -1 from c4)] at this; exact this, ?_⟩
              refine ⟨fun c => absurd c (by decide), fun _ => ?_⟩
              refine ⟨(Ly.t141 L :), ?_⟩
              have H := H (Ly.wi L (a := 141) (k := 6) (x := ji h 141 3) (by decide))
              obtain ⟨h5, e7, L6, H⟩ := H
              refine ⟨h5, e7, ?_⟩
              refine b_141_141 ?_
              exact H
            · have H := H.2 c4
              refine ⟨0, _, by have := m_122 (d := d) (by omega) (Ly.wi L (a := 141) (k := 6) (x := ji h 141 3) (by decide)); rw [if_neg (show ¬ ((ji (wi h 141 6 (ji h 141 3)) 141 6) = -1) from c4)] at this; exact this, ?_⟩
              refine ⟨fun _ => ?_, fun c => absurd (by decide) c⟩
              refine b_141_141 ?_
              exact H (Ly.wi L (a := 141) (k := 6) (x := ji h 141 3) (by decide))
          · have H := H.2 c3
            refine ⟨_, m_119n (d := d) (by omega) L c3, ?_⟩
            refine b_141_126 ?_
            refine b_141_130 ?_
            refine ⟨(Ly.t141 L :), ?_⟩
            by_cases c8 : (ji h 141 6) = -1
            · have H := H.1 c8
              refine ⟨1, _, by have := m_122 (d := d) (by omega) (Ly.wi L (a := 141) (k := 6) (x := ji h 141 6) (by decide)); rw [if_pos (show (ji (wi h 141 6 (ji h 141 6)) 141 6) = -1 from c8)] at this; exact this, ?_⟩
              refine ⟨fun c => absurd c (by decide), fun _ => ?_⟩
              refine ⟨(Ly.t141 L :), ?_⟩
              have H := H (Ly.wi L (a := 141) (k := 6) (x := ji h 141 6) (by decide))
              obtain ⟨h9, e11, L10, H⟩ := H
              refine ⟨h9, e11, ?_⟩
              refine b_141_141 ?_
              exact H
            · have H := H.2 c8
              refine ⟨0, _, by have := m_122 (d := d) (by omega) (Ly.wi L (a := 141) (k := 6) (x := ji h 141 6) (by decide)); rw [if_neg (show ¬ ((ji (wi h 141 6 (ji h 141 6)) 141 6) = -1) from c8)] at this; exact this, ?_⟩
              refine ⟨fun _ => ?_, fun c => absurd (by decide) c⟩
              refine b_141_141 ?_
              exact H (Ly.wi L (a := 141) (k := 6) (x := ji h 141 6) (by decide))
        · have c46 := Decidable.not_not.mp c46
          have H := H.1 c46
          refine ⟨(Ly.t141 L :), ?_⟩
          rw [show jr h 141 31 = 158 from (Ly.r141_31 L :)]
          refine ⟨(Ly.t141 L :), ?_⟩
          refine ⟨(Ly.t141 L :), ?_⟩
          obtain ⟨x15, h12, e14, L13, H⟩ := H
          refine ⟨x15, h12, e14, ?_⟩
          refine b_141_99 ?_
          refine ⟨fun c45 => ?_, fun c45 => ?_⟩
          · have H := H.1 c45
            refine ⟨(Ly.t141 L13 :), ?_⟩
            refine ⟨(Ly.t141 L13 :), ?_⟩
            by_cases c16 : (ji h12 141 6) = -1
            · have H := H.1 c16
              refine ⟨_, m_119y (d := d) (by omega) L13 c16, ?_⟩
              refine b_141_126 ?_
              refine b_141_130 ?_
              refine ⟨(Ly.t141 L13 :), ?_⟩
              by_cases c17 : (ji h12 141 3) = -1
              · have H := H.1 c17
                refine ⟨1, _, by have := m_122 (d := d) (by omega) (Ly.wi L13 (a := 141) (k := 6) (x := ji h12 141 3) (by decide)); rw [if_pos (show (ji (wi h12 141 6 (ji h12 141 3)) 141 6) = -1 from c17)] at this; exact this, ?_⟩
                refine ⟨fun c => absurd c (by decide), fun _ => ?_⟩
                refine ⟨(Ly.t141 L13 :), ?_⟩
                have H := H (Ly.wi L13 (a := 141) (k := 6) (x := ji h12 141 3) (by decide))
                obtain ⟨h18, e20, L19, H⟩ := H
                refine ⟨h18, e20, ?_⟩
                refine b_141_141 ?_
                exact H
              · have H := H.2 c17
                refine ⟨0, _, by have := m_122 (d := d) (by omega) (Ly.wi L13 (a := 141) (k := 6) (x := ji h12 141 3) (by decide)); rw [if_neg (show ¬ ((ji (wi h12 141 6 (ji h12 141 3)) 141 6) = -1) from c17)] at this; exact this, ?_⟩
                refine ⟨fun _ => ?_, fun c => absurd (by decide) c⟩
                refine b_141_141 ?_
                exact H (Ly.wi L13 (a := 141) (k := 6) (x := ji h12 141 3) (by decide))
            · have H := H.2 c16
              refine ⟨_, m_119n (d := d) (by omega) L13 c16, ?_⟩
              refine b_141_126 ?_
              refine b_141_130 ?_
              refine ⟨(Ly.t141 L13 :), ?_⟩
              by_cases c21 : (ji h12 141 6) = -1
              · have H := H.1 c21
                refine ⟨1, _, by have := m_122 (d := d) (by omega) (Ly.wi L13 (a := 141) (k := 6) (x := ji h12 141 6) (by decide)); rw [if_pos (show (ji (wi h12 141 6 (ji h12 141 6)) 141 6) = -1 from c21)] at this; exact this, ?_⟩
                refine ⟨fun c => absurd c (by decide), fun _ => ?_⟩
                refine ⟨(Ly.t141 L13 :), ?_⟩
                have H := H (Ly.wi L13 (a := 141) (k := 6) (x := ji h12 141 6) (by decide))
                obtain ⟨h22, e24, L23, H⟩ := H
                refine ⟨h22, e24, ?_⟩
                refine b_141_141 ?_
                exact H
              · have H := H.2 c21
                refine ⟨0, _, by have := m_122 (d := d) (by omega) (Ly.wi L13 (a := 141) (k := 6) (x := ji h12 141 6) (by decide)); rw [if_neg (show ¬ ((ji (wi h12 141 6 (ji h12 141 6)) 141 6) = -1) from c21)] at this; exact this, ?_⟩
                refine ⟨fun _ => ?_, fun c => absurd (by decide) c⟩
                refine b_141_141 ?_
                exact H (Ly.wi L13 (a := 141) (k := 6) (x := ji h12 141 6) (by decide))
          · have H := H.2 c45
            refine ⟨(Ly.t141 L13 :), ?_⟩
            rw [show jr h12 141 32 = 159 from (Ly.r141_32 L13 :)]
            obtain ⟨z25, z26, H⟩ := H
            refine ⟨inA_mk (N := 20) (Ly.t159 L13 :) (Ly.n159 L13 :) z25 z26, ?_⟩
            refine ⟨(Ly.t141 L13 :), ?_⟩
            obtain ⟨x30, h27, e29, L28, H⟩ := H
            refine ⟨x30, h27, e29, ?_⟩
            refine ⟨fun c44 => ?_, fun c44 => ?_⟩
            · have H := H.2 c44
              refine b_141_126 ?_
              refine b_141_130 ?_
              refine ⟨(Ly.t141 L28 :), ?_⟩
              by_cases c31 : (ji h27 141 6) = -1
              · have H := H.1 c31
                refine ⟨1, _, by have := m_122 (d := d) (by omega) L28; rw [if_pos c31] at this; exact this, ?_⟩
                refine ⟨fun c => absurd c (by decide), fun _ => ?_⟩
                refine ⟨(Ly.t141 L28 :), ?_⟩
                obtain ⟨h32, e34, L33, H⟩ := H
                refine ⟨h32, e34, ?_⟩
                refine b_141_141 ?_
                exact H
              · have H := H.2 c31
                refine ⟨0, _, by have := m_122 (d := d) (by omega) L28; rw [if_neg c31] at this; exact this, ?_⟩
                refine ⟨fun _ => ?_, fun c => absurd (by decide) c⟩
                refine b_141_141 ?_
                exact H
            · have c44 := Decidable.not_not.mp c44
              have H := H.1 c44
              refine ⟨(Ly.t141 L28 :), ?_⟩
              refine ⟨(Ly.t141 L28 :), ?_⟩
              by_cases c35 : (ji h27 141 6) = -1
              · have H := H.1 c35
                refine ⟨_, m_119y (d := d) (by omega) L28 c35, ?_⟩
                refine b_141_126 ?_
                refine b_141_130 ?_
                refine ⟨(Ly.t141 L28 :), ?_⟩
                by_cases c36 : (ji h27 141 3) = -1
                · have H := H.1 c36
                  refine ⟨1, _, by have := m_122 (d := d) (by omega) (Ly.wi L28 (a := 141) (k := 6) (x := ji h27 141 3) (by decide)); rw [if_pos (show (ji (wi h27 141 6 (ji h27 141 3)) 141 6) = -1 from c36)] at this; exact this, ?_⟩
                  refine ⟨fun c => absurd c (by decide), fun _ => ?_⟩
                  refine ⟨(Ly.t141 L28 :), ?_⟩
                  have H := H (Ly.wi L28 (a := 141) (k := 6) (x := ji h27 141 3) (by decide))
                  obtain ⟨h37, e39, L38, H⟩ := H
                  refine ⟨h37, e39, ?_⟩
                  refine b_141_141 ?_
                  exact H
                · have H := H.2 c36
                  refine ⟨0, _, by have := m_122 (d := d) (by omega) (Ly.wi L28 (a := 141) (k := 6) (x := ji h27 141 3) (by decide)); rw [if_neg (show ¬ ((ji (wi h27 141 6 (ji h27 141 3)) 141 6) = -1) from c36)] at this; exact this, ?_⟩
                  refine ⟨fun _ => ?_, fun c => absurd (by decide) c⟩
                  refine b_141_141 ?_
                  exact H (Ly.wi L28 (a := 141) (k := 6) (x := ji h27 141 3) (by decide))
              · have H := H.2 c35
                refine ⟨_, m_119n (d := d) (by omega) L28 c35, ?_⟩
                refine b_141_126 ?_
                refine b_141_130 ?_
                refine ⟨(Ly.t141 L28 :), ?_⟩
                by_cases c40 : (ji h27 141 6) = -1
                · have H := H.1 c40
                  refine ⟨1, _, by have := m_122 (d := d) (by omega) (Ly.wi L28 (a := 141) (k := 6) (x := ji h27 141 6) (by decide)); rw [if_pos (show (ji (wi h27 141 6 (ji h27 141 6)) 141 6) = -1 from c40)] at this; exact this, ?_⟩
                  refine ⟨fun c => absurd c (by decide), fun _ => ?_⟩
                  refine ⟨(Ly.t141 L28 :), ?_⟩
                  have H := H (Ly.wi L28 (a := 141) (k := 6) (x := ji h27 141 6) (by decide))
                  obtain ⟨h41, e43, L42, H⟩ := H
                  refine ⟨h41, e43, ?_⟩
                  refine b_141_141 ?_
                  exact H
                · have H := H.2 c40
                  refine ⟨0, _, by have := m_122 (d := d) (by omega) (Ly.wi L28 (a := 141) (k := 6) (x := ji h27 141 6) (by decide)); rw [if_neg (show ¬ ((ji (wi h27 141 6 (ji h27 141 6)) 141 6) = -1) from c40)] at this; exact this, ?_⟩
                  refine ⟨fun _ => ?_, fun c => absurd (by decide) c⟩
                  refine b_141_141 ?_
                  exact H (Ly.wi L28 (a := 141) (k := 6) (x := ji h27 141 6) (by decide))
      · have H := H.2 c2
        refine ⟨0, _, by have := m_122 (d := d) (by omega) L; rw [if_neg c2] at this; exact this, ?_⟩
        refine ⟨fun _ => ?_, fun c => absurd (by decide) c⟩
        refine b_141_130 ?_
        refine ⟨(Ly.t141 L :), ?_⟩
        by_cases c47 : (ji h 141 6) = -1
        · have H := H.1 c47
          refine ⟨1, _, by have := m_122 (d := d) (by omega) L; rw [if_pos c47] at this; exact this, ?_⟩
          refine ⟨fun c => absurd c (by decide), fun _ => ?_⟩
          refine ⟨(Ly.t141 L :), ?_⟩
          obtain ⟨h48, e50, L49, H⟩ := H
          refine ⟨h48, e50, ?_⟩
          refine b_141_141 ?_
          exact H
        · have H := H.2 c47
          refine ⟨0, _, by have := m_122 (d := d) (by omega) L; rw [if_neg c47] at this; exact this, ?_⟩
          refine ⟨fun _ => ?_, fun c => absurd (by decide) c⟩
          refine b_141_141 ?_
          exact H
    · have c71 := Decidable.not_not.mp c71
      have H := H.1 c71
      refine ⟨(Ly.t141 L :), ?_⟩
      refine b_141_22 ?_
      refine ⟨(Ly.t141 L :), ?_⟩
      rw [show jr h 141 9 = 144 from (Ly.r141_9 L :)]
      obtain ⟨z51, z52, H⟩ := H
      refine ⟨inA_mk (N := 6) (Ly.t144 L :) (Ly.n144 L :) z51 z52, ?_⟩
      refine ⟨(Ly.t141 L :), ?_⟩
      obtain ⟨z53, z54, H⟩ := H
      refine ⟨inA_mk (N := 6) (Ly.t144 L :) (Ly.n144 L :) z53 z54, ?_⟩
      refine ⟨(Ly.t141 L :), ?_⟩
      rw [show jr h 141 10 = 145 from (Ly.r141_10 L :)]
      obtain ⟨z55, z56, H⟩ := H
      refine ⟨inA_mk (N := 6) (Ly.t145 L :) (Ly.n145 L :) z55 z56, ?_⟩
      by_cases c57 : (ji h 144 (Int.toNat v1)) ≤ (ji h 141 5) ∧ (ji h 141 5) ≤ (w32 ((w32 ((ji h 144 (Int.toNat v1)) + (ji h 145 (Int.toNat v1)))) - 1))
      · have H := H.1 c57
        refine ⟨1, _, by have := m_107 (d := d) (v := ji h 141 5) (a := ji h 144 (Int.toNat v1)) (b := w32 ((w32 ((ji h 144 (Int.toNat v1)) + (ji h 145 (Int.toNat v1)))) - 1)) (by omega) L; rw [if_pos c57] at this; exact this, ?_⟩
        refine ⟨fun _ => ?_, fun c => absurd (by decide) c⟩
        refine b_141_130 ?_
        refine ⟨(Ly.t141 L :), ?_⟩
        by_cases c58 : (ji h 141 6) = -1
        · have H := H.1 c58
          refine ⟨1, _, by have := m_122 (d := d) (by omega) L; rw [if_pos c58] at this; exact this, ?_⟩
          refine ⟨fun c => absurd c (by decide), fun _ => ?_⟩
          refine ⟨(Ly.t141 L :), ?_⟩
          obtain ⟨h59, e61, L60, H⟩ := H
          refine ⟨h59, e61, ?_⟩
          refine b_141_141 ?_
          exact H
        · have H := H.2 c58
          refine ⟨0, _, by have := m_122 (d := d) (by omega) L; rw [if_neg c58] at this; exact this, ?_⟩
          refine ⟨fun _ => ?_, fun c => absurd (by decide) c⟩
          refine b_141_141 ?_
          exact H
      · have H := H.2 c57
        refine ⟨0, _, by have := m_107 (d := d) (v := ji h 141 5) (a := ji h 144 (Int.toNat v1)) (b := w32 ((w32 ((ji h 144 (Int.toNat v1)) + (ji h 145 (Int.toNat v1)))) - 1)) (by omega) L; rw [if_neg c57] at this; exact this, ?_⟩
        refine ⟨fun c => absurd c (by decide), fun _ => ?_⟩
        refine ⟨(Ly.t141 L :), ?_⟩
        refine ⟨(Ly.t141 L :), ?_⟩
        by_cases c62 : (ji h 141 6) = -1
        · have H := H.1 c62
          refine ⟨_, m_119y (d := d) (by omega) L c62, ?_⟩
          refine b_141_61 ?_
          refine b_141_130 ?_
          refine ⟨(Ly.t141 L :), ?_⟩
          by_cases c63 : (ji h 141 3) = -1
          · have H := H.1 c63
            refine ⟨1, _, by have := m_122 (d := d) (by omega) (Ly.wi L (a := 141) (k := 6) (x := ji h 141 3) (by decide)); rw [if_pos (show (ji (wi h 141 6 (ji h 141 3)) 141 6) = -1 from c63)] at this; exact this, ?_⟩
            refine ⟨fun c => absurd c (by decide), fun _ => ?_⟩
            refine ⟨(Ly.t141 L :), ?_⟩
            have H := H (Ly.wi L (a := 141) (k := 6) (x := ji h 141 3) (by decide))
            obtain ⟨h64, e66, L65, H⟩ := H
            refine ⟨h64, e66, ?_⟩
            refine b_141_141 ?_
            exact H
          · have H := H.2 c63
            refine ⟨0, _, by have := m_122 (d := d) (by omega) (Ly.wi L (a := 141) (k := 6) (x := ji h 141 3) (by decide)); rw [if_neg (show ¬ ((ji (wi h 141 6 (ji h 141 3)) 141 6) = -1) from c63)] at this; exact this, ?_⟩
            refine ⟨fun _ => ?_, fun c => absurd (by decide) c⟩
            refine b_141_141 ?_
            exact H (Ly.wi L (a := 141) (k := 6) (x := ji h 141 3) (by decide))
        · have H := H.2 c62
          refine ⟨_, m_119n (d := d) (by omega) L c62, ?_⟩
          refine b_141_61 ?_
          refine b_141_130 ?_
          refine ⟨(Ly.t141 L :), ?_⟩
          by_cases c67 : (ji h 141 6) = -1
          · have H := H.1 c67
            refine ⟨1, _, by have := m_122 (d := d) (by omega) (Ly.wi L (a := 141) (k := 6) (x := ji h 141 6) (by decide)); rw [if_pos (show (ji (wi h 141 6 (ji h 141 6)) 141 6) = -1 from c67)] at this; exact this, ?_⟩
            refine ⟨fun c => absurd c (by decide), fun _ => ?_⟩
            refine ⟨(Ly.t141 L :), ?_⟩
            have H := H (Ly.wi L (a := 141) (k := 6) (x := ji h 141 6) (by decide))
            obtain ⟨h68, e70, L69, H⟩ := H
            refine ⟨h68, e70, ?_⟩
            refine b_141_141 ?_
            exact H
          · have H := H.2 c67
            refine ⟨0, _, by have := m_122 (d := d) (by omega) (Ly.wi L (a := 141) (k := 6) (x := ji h 141 6) (by decide)); rw [if_neg (show ¬ ((ji (wi h 141 6 (ji h 141 6)) 141 6) = -1) from c67)] at this; exact this, ?_⟩
            refine ⟨fun _ => ?_, fun c => absurd (by decide) c⟩
            refine b_141_141 ?_
            exact H (Ly.wi L (a := 141) (k := 6) (x := ji h 141 6) (by decide))
  · have H := H.2 c1
    refine ⟨0, _, by have := m_122 (d := d) (by omega) L; rw [if_neg c1] at this; exact this, ?_⟩
    refine ⟨fun _ => ?_, fun c => absurd (by decide) c⟩
    refine ⟨(Ly.t141 L :), ?_⟩
    by_cases c72 : (ji h 141 6) = -1
    · have H := H.1 c72
      refine ⟨1, _, by have := m_122 (d := d) (by omega) L; rw [if_pos c72] at this; exact this, ?_⟩
      refine ⟨fun c => absurd c (by decide), fun _ => ?_⟩
      refine ⟨(Ly.t141 L :), ?_⟩
      refine ⟨fun c116 => ?_, fun c116 => ?_⟩
      · have H := H.2 c116
        refine b_141_99 ?_
        refine ⟨fun _ => ?_, fun c => absurd (by decide) c⟩
        refine ⟨(Ly.t141 L :), ?_⟩
        refine ⟨(Ly.t141 L :), ?_⟩
        by_cases c73 : (ji h 141 6) = -1
        · have H := H.1 c73
          refine ⟨_, m_119y (d := d) (by omega) L c73, ?_⟩
          refine b_141_126 ?_
          refine b_141_130 ?_
          refine ⟨(Ly.t141 L :), ?_⟩
          by_cases c74 : (ji h 141 3) = -1
          · have H := H.1 c74
            refine ⟨1, _, by have := m_122 (d := d) (by omega) (Ly.wi L (a := 141) (k := 6) (x := ji h 141 3) (by decide)); rw [if_pos (show (ji (wi h 141 6 (ji h 141 3)) 141 6) = -1 from c74)] at this; exact this, ?_⟩
            refine ⟨fun c => absurd c (by decide), fun _ => ?_⟩
            refine ⟨(Ly.t141 L :), ?_⟩
            have H := H (Ly.wi L (a := 141) (k := 6) (x := ji h 141 3) (by decide))
            obtain ⟨h75, e77, L76, H⟩ := H
            refine ⟨h75, e77, ?_⟩
            refine b_141_141 ?_
            exact H
          · have H := H.2 c74
            refine ⟨0, _, by have := m_122 (d := d) (by omega) (Ly.wi L (a := 141) (k := 6) (x := ji h 141 3) (by decide)); rw [if_neg (show ¬ ((ji (wi h 141 6 (ji h 141 3)) 141 6) = -1) from c74)] at this; exact this, ?_⟩
            refine ⟨fun _ => ?_, fun c => absurd (by decide) c⟩
            refine b_141_141 ?_
            exact H (Ly.wi L (a := 141) (k := 6) (x := ji h 141 3) (by decide))
        · have H := H.2 c73
          refine ⟨_, m_119n (d := d) (by omega) L c73, ?_⟩
          refine b_141_126 ?_
          refine b_141_130 ?_
          refine ⟨(Ly.t141 L :), ?_⟩
          by_cases c78 : (ji h 141 6) = -1
          · have H := H.1 c78
            refine ⟨1, _, by have := m_122 (d := d) (by omega) (Ly.wi L (a := 141) (k := 6) (x := ji h 141 6) (by decide)); rw [if_pos (show (ji (wi h 141 6 (ji h 141 6)) 141 6) = -1 from c78)] at this; exact this, ?_⟩
            refine ⟨fun c => absurd c (by decide), fun _ => ?_⟩
            refine ⟨(Ly.t141 L :), ?_⟩
            have H := H (Ly.wi L (a := 141) (k := 6) (x := ji h 141 6) (by decide))
            obtain ⟨h79, e81, L80, H⟩ := H
            refine ⟨h79, e81, ?_⟩
            refine b_141_141 ?_
            exact H
          · have H := H.2 c78
            refine ⟨0, _, by have := m_122 (d := d) (by omega) (Ly.wi L (a := 141) (k := 6) (x := ji h 141 6) (by decide)); rw [if_neg (show ¬ ((ji (wi h 141 6 (ji h 141 6)) 141 6) = -1) from c78)] at this; exact this, ?_⟩
            refine ⟨fun _ => ?_, fun c => absurd (by decide) c⟩
            refine b_141_141 ?_
            exact H (Ly.wi L (a := 141) (k := 6) (x := ji h 141 6) (by decide))
      · have c116 := Decidable.not_not.mp c116
        have H := H.1 c116
        refine ⟨(Ly.t141 L :), ?_⟩
        rw [show jr h 141 31 = 158 from (Ly.r141_31 L :)]
        refine ⟨(Ly.t141 L :), ?_⟩
        refine ⟨(Ly.t141 L :), ?_⟩
        obtain ⟨x85, h82, e84, L83, H⟩ := H
        refine ⟨x85, h82, e84, ?_⟩
        refine b_141_99 ?_
        refine ⟨fun c115 => ?_, fun c115 => ?_⟩
        · have H := H.1 c115
          refine ⟨(Ly.t141 L83 :), ?_⟩
          refine ⟨(Ly.t141 L83 :), ?_⟩
          by_cases c86 : (ji h82 141 6) = -1
          · have H := H.1 c86
            refine ⟨_, m_119y (d := d) (by omega) L83 c86, ?_⟩
            refine b_141_126 ?_
            refine b_141_130 ?_
            refine ⟨(Ly.t141 L83 :), ?_⟩
            by_cases c87 : (ji h82 141 3) = -1
            · have H := H.1 c87
              refine ⟨1, _, by have := m_122 (d := d) (by omega) (Ly.wi L83 (a := 141) (k := 6) (x := ji h82 141 3) (by decide)); rw [if_pos (show (ji (wi h82 141 6 (ji h82 141 3)) 141 6) = -1 from c87)] at this; exact this, ?_⟩
              refine ⟨fun c => absurd c (by decide), fun _ => ?_⟩
              refine ⟨(Ly.t141 L83 :), ?_⟩
              have H := H (Ly.wi L83 (a := 141) (k := 6) (x := ji h82 141 3) (by decide))
              obtain ⟨h88, e90, L89, H⟩ := H
              refine ⟨h88, e90, ?_⟩
              refine b_141_141 ?_
              exact H
            · have H := H.2 c87
              refine ⟨0, _, by have := m_122 (d := d) (by omega) (Ly.wi L83 (a := 141) (k := 6) (x := ji h82 141 3) (by decide)); rw [if_neg (show ¬ ((ji (wi h82 141 6 (ji h82 141 3)) 141 6) = -1) from c87)] at this; exact this, ?_⟩
              refine ⟨fun _ => ?_, fun c => absurd (by decide) c⟩
              refine b_141_141 ?_
              exact H (Ly.wi L83 (a := 141) (k := 6) (x := ji h82 141 3) (by decide))
          · have H := H.2 c86
            refine ⟨_, m_119n (d := d) (by omega) L83 c86, ?_⟩
            refine b_141_126 ?_
            refine b_141_130 ?_
            refine ⟨(Ly.t141 L83 :), ?_⟩
            by_cases c91 : (ji h82 141 6) = -1
            · have H := H.1 c91
              refine ⟨1, _, by have := m_122 (d := d) (by omega) (Ly.wi L83 (a := 141) (k := 6) (x := ji h82 141 6) (by decide)); rw [if_pos (show (ji (wi h82 141 6 (ji h82 141 6)) 141 6) = -1 from c91)] at this; exact this, ?_⟩
              refine ⟨fun c => absurd c (by decide), fun _ => ?_⟩
              refine ⟨(Ly.t141 L83 :), ?_⟩
              have H := H (Ly.wi L83 (a := 141) (k := 6) (x := ji h82 141 6) (by decide))
              obtain ⟨h92, e94, L93, H⟩ := H
              refine ⟨h92, e94, ?_⟩
              refine b_141_141 ?_
              exact H
            · have H := H.2 c91
              refine ⟨0, _, by have := m_122 (d := d) (by omega) (Ly.wi L83 (a := 141) (k := 6) (x := ji h82 141 6) (by decide)); rw [if_neg (show ¬ ((ji (wi h82 141 6 (ji h82 141 6)) 141 6) = -1) from c91)] at this; exact this, ?_⟩
              refine ⟨fun _ => ?_, fun c => absurd (by decide) c⟩
              refine b_141_141 ?_
              exact H (Ly.wi L83 (a := 141) (k := 6) (x := ji h82 141 6) (by decide))
        · have H := H.2 c115
          refine ⟨(Ly.t141 L83 :), ?_⟩
          rw [show jr h82 141 32 = 159 from (Ly.r141_32 L83 :)]
          obtain ⟨z95, z96, H⟩ := H
          refine ⟨inA_mk (N := 20) (Ly.t159 L83 :) (Ly.n159 L83 :) z95 z96, ?_⟩
          refine ⟨(Ly.t141 L83 :), ?_⟩
          obtain ⟨x100, h97, e99, L98, H⟩ := H
          refine ⟨x100, h97, e99, ?_⟩
          refine ⟨fun c114 => ?_, fun c114 => ?_⟩
          · have H := H.2 c114
            refine b_141_126 ?_
            refine b_141_130 ?_
            refine ⟨(Ly.t141 L98 :), ?_⟩
            by_cases c101 : (ji h97 141 6) = -1
            · have H := H.1 c101
              refine ⟨1, _, by have := m_122 (d := d) (by omega) L98; rw [if_pos c101] at this; exact this, ?_⟩
              refine ⟨fun c => absurd c (by decide), fun _ => ?_⟩
              refine ⟨(Ly.t141 L98 :), ?_⟩
              obtain ⟨h102, e104, L103, H⟩ := H
              refine ⟨h102, e104, ?_⟩
              refine b_141_141 ?_
              exact H
            · have H := H.2 c101
              refine ⟨0, _, by have := m_122 (d := d) (by omega) L98; rw [if_neg c101] at this; exact this, ?_⟩
              refine ⟨fun _ => ?_, fun c => absurd (by decide) c⟩
              refine b_141_141 ?_
              exact H
          · have c114 := Decidable.not_not.mp c114
            have H := H.1 c114
            refine ⟨(Ly.t141 L98 :), ?_⟩
            refine ⟨(Ly.t141 L98 :), ?_⟩
            by_cases c105 : (ji h97 141 6) = -1
            · have H := H.1 c105
              refine ⟨_, m_119y (d := d) (by omega) L98 c105, ?_⟩
              refine b_141_126 ?_
              refine b_141_130 ?_
              refine ⟨(Ly.t141 L98 :), ?_⟩
              by_cases c106 : (ji h97 141 3) = -1
              · have H := H.1 c106
                refine ⟨1, _, by have := m_122 (d := d) (by omega) (Ly.wi L98 (a := 141) (k := 6) (x := ji h97 141 3) (by decide)); rw [if_pos (show (ji (wi h97 141 6 (ji h97 141 3)) 141 6) = -1 from c106)] at this; exact this, ?_⟩
                refine ⟨fun c => absurd c (by decide), fun _ => ?_⟩
                refine ⟨(Ly.t141 L98 :), ?_⟩
                have H := H (Ly.wi L98 (a := 141) (k := 6) (x := ji h97 141 3) (by decide))
                obtain ⟨h107, e109, L108, H⟩ := H
                refine ⟨h107, e109, ?_⟩
                refine b_141_141 ?_
                exact H
              · have H := H.2 c106
                refine ⟨0, _, by have := m_122 (d := d) (by omega) (Ly.wi L98 (a := 141) (k := 6) (x := ji h97 141 3) (by decide)); rw [if_neg (show ¬ ((ji (wi h97 141 6 (ji h97 141 3)) 141 6) = -1) from c106)] at this; exact this, ?_⟩
                refine ⟨fun _ => ?_, fun c => absurd (by decide) c⟩
                refine b_141_141 ?_
                exact H (Ly.wi L98 (a := 141) (k := 6) (x := ji h97 141 3) (by decide))
            · have H := H.2 c105
              refine ⟨_, m_119n (d := d) (by omega) L98 c105, ?_⟩
              refine b_141_126 ?_
              refine b_141_130 ?_
              refine ⟨(Ly.t141 L98 :), ?_⟩
              by_cases c110 : (ji h97 141 6) = -1
              · have H := H.1 c110
                refine ⟨1, _, by have := m_122 (d := d) (by omega) (Ly.wi L98 (a := 141) (k := 6) (x := ji h97 141 6) (by decide)); rw [if_pos (show (ji (wi h97 141 6 (ji h97 141 6)) 141 6) = -1 from c110)] at this; exact this, ?_⟩
                refine ⟨fun c => absurd c (by decide), fun _ => ?_⟩
                refine ⟨(Ly.t141 L98 :), ?_⟩
                have H := H (Ly.wi L98 (a := 141) (k := 6) (x := ji h97 141 6) (by decide))
                obtain ⟨h111, e113, L112, H⟩ := H
                refine ⟨h111, e113, ?_⟩
                refine b_141_141 ?_
                exact H
              · have H := H.2 c110
                refine ⟨0, _, by have := m_122 (d := d) (by omega) (Ly.wi L98 (a := 141) (k := 6) (x := ji h97 141 6) (by decide)); rw [if_neg (show ¬ ((ji (wi h97 141 6 (ji h97 141 6)) 141 6) = -1) from c110)] at this; exact this, ?_⟩
                refine ⟨fun _ => ?_, fun c => absurd (by decide) c⟩
                refine b_141_141 ?_
                exact H (Ly.wi L98 (a := 141) (k := 6) (x := ji h97 141 6) (by decide))
    · have H := H.2 c72
      refine ⟨0, _, by have := m_122 (d := d) (by omega) L; rw [if_neg c72] at this; exact this, ?_⟩
      refine ⟨fun _ => ?_, fun c => absurd (by decide) c⟩
      refine b_141_130 ?_
      refine ⟨(Ly.t141 L :), ?_⟩
      by_cases c117 : (ji h 141 6) = -1
      · have H := H.1 c117
        refine ⟨1, _, by have := m_122 (d := d) (by omega) L; rw [if_pos c117] at this; exact this, ?_⟩
        refine ⟨fun c => absurd c (by decide), fun _ => ?_⟩
        refine ⟨(Ly.t141 L :), ?_⟩
        obtain ⟨h118, e120, L119, H⟩ := H
        refine ⟨h118, e120, ?_⟩
        refine b_141_141 ?_
        exact H
      · have H := H.2 c117
        refine ⟨0, _, by have := m_122 (d := d) (by omega) L; rw [if_neg c117] at this; exact this, ?_⟩
        refine ⟨fun _ => ?_, fun c => absurd (by decide) c⟩
        refine b_141_141 ?_
        exact H
set_option maxRecDepth 100000 in
theorem c_145_0 {p : Lpar} {d : Nat} {h : AH} {Q : Option AV → AH → Prop}  (hd : 9 ≤ d) (L : Ly p h) (H : 0 ≤ (w32 ((ji h 141 38) - 1)) ∧ (w32 ((ji h 141 38) - 1)) < 9 ∧ ((ji h 164 (Int.toNat (w32 ((ji h 141 38) - 1)))) = (0 : Int) → ((ji h 141 49) = 0 ∨ (ji h 141 49) = 1) ∧ 0 ≤ (w32 ((ji h 141 38) - 1)) ∧ (w32 ((ji h 141 38) - 1)) < 9 ∧ 0 ≤ (w32 ((ji h 141 38) - 1)) ∧ (w32 ((ji h 141 38) - 1)) < 9 ∧ 0 ≤ (w32 ((ji h 141 38) - 1)) ∧ (w32 ((ji h 141 38) - 1)) < 9 ∧ ((ji h 166 (Int.toNat (w32 ((ji h 141 38) - 1)))) = 0 ∨ (ji h 166 (Int.toNat (w32 ((ji h 141 38) - 1)))) = 1) ∧ 0 ≤ (w32 ((ji h 141 38) - 1)) ∧ (w32 ((ji h 141 38) - 1)) < 9 ∧ ((ji h 167 (Int.toNat (w32 ((ji h 141 38) - 1)))) = 0 ∨ (ji h 167 (Int.toNat (w32 ((ji h 141 38) - 1)))) = 1) ∧ 0 ≤ (w32 ((ji h 141 38) - 1)) ∧ (w32 ((ji h 141 38) - 1)) < 9 ∧ (Ly p (wl (wi (wi (wi (wi (wi (wi h 141 38 (w32 ((ji h 141 38) - 1))) 141 51 (ji h 141 49)) 141 50 (ji h 168 (Int.toNat (w32 ((ji h 141 38) - 1))))) 141 47 (ji h 165 (Int.toNat (w32 ((ji h 141 38) - 1))))) 141 48 (ji h 166 (Int.toNat (w32 ((ji h 141 38) - 1))))) 141 49 (ji h 167 (Int.toNat (w32 ((ji h 141 38) - 1))))) 141 52 (w64 ((w64 ((jl h 169 (Int.toNat (w32 ((ji h 141 38) - 1)))) + 1)) + (jl h 141 52)))) → Q none (wl (wi (wi (wi (wi (wi (wi h 141 38 (w32 ((ji h 141 38) - 1))) 141 51 (ji h 141 49)) 141 50 (ji h 168 (Int.toNat (w32 ((ji h 141 38) - 1))))) 141 47 (ji h 165 (Int.toNat (w32 ((ji h 141 38) - 1))))) 141 48 (ji h 166 (Int.toNat (w32 ((ji h 141 38) - 1))))) 141 49 (ji h 167 (Int.toNat (w32 ((ji h 141 38) - 1))))) 141 52 (w64 ((w64 ((jl h 169 (Int.toNat (w32 ((ji h 141 38) - 1)))) + 1)) + (jl h 141 52)))))) ∧ (¬ ((ji h 164 (Int.toNat (w32 ((ji h 141 38) - 1)))) = (0 : Int)) → 0 ≤ (w32 ((ji h 141 38) - 1)) ∧ (w32 ((ji h 141 38) - 1)) < 9 ∧ 0 ≤ (w32 ((ji h 141 38) - 1)) ∧ (w32 ((ji h 141 38) - 1)) < 9 ∧ 0 ≤ (ji h 141 33) ∧ (ji h 141 33) < 2000 ∧ 0 ≤ (w32 (((ji h 141 33) + 1) - 1)) ∧ (w32 (((ji h 141 33) + 1) - 1)) < 2000 ∧ (Ly p (wi (wi (wi (wi (wi (wi (wi h 141 38 (w32 ((ji h 141 38) - 1))) 160 (Int.toNat (ji h 141 33)) (10 : Int)) 161 (Int.toNat (ji h 141 33)) (ji h 171 (Int.toNat (w32 ((ji h 141 38) - 1))))) 162 (Int.toNat (ji h 141 33)) (0 : Int)) 163 (Int.toNat (ji h 141 33)) (0 : Int)) 141 33 ((ji h 141 33) + 1)) 163 (Int.toNat (w32 (((ji h 141 33) + 1) - 1))) ((ji h 141 33) + 1)) → WF d 145 72 [jP 141, jL (jl h 141 52), jU, jI (ji h 170 (Int.toNat (w32 ((ji h 141 38) - 1)))), jI (ji h 170 (Int.toNat (w32 ((ji h 141 38) - 1))))] [] (wi (wi (wi (wi (wi (wi (wi h 141 38 (w32 ((ji h 141 38) - 1))) 160 (Int.toNat (ji h 141 33)) (10 : Int)) 161 (Int.toNat (ji h 141 33)) (ji h 171 (Int.toNat (w32 ((ji h 141 38) - 1))))) 162 (Int.toNat (ji h 141 33)) (0 : Int)) 163 (Int.toNat (ji h 141 33)) (0 : Int)) 141 33 ((ji h 141 33) + 1)) 163 (Int.toNat (w32 (((ji h 141 33) + 1) - 1))) ((ji h 141 33) + 1)) Q))) : WF d 145 0 [jP 141, jU, jU, jU, jU] [] h Q := by
  refine b_145_0 ?_
  refine ⟨(Ly.t141 L :), ?_⟩
  refine ⟨(Ly.t141 L :), ?_⟩
  refine b_145_10 ?_
  refine ⟨(Ly.t141 L :), ?_⟩
  refine b_145_15 ?_
  refine ⟨(Ly.t141 L :), ?_⟩
  rw [show jr (wi h 141 38 (w32 ((ji h 141 38) - 1))) 141 39 = 164 from (Ly.r141_39 L :)]
  refine ⟨(Ly.t141 L :), ?_⟩
  obtain ⟨z1, z2, H⟩ := H
  refine ⟨Or.inr (inA_mk (N := 9) (Ly.t164 L :) (Ly.n164 L :) z1 z2), ?_⟩
  refine ⟨fun c25 => ?_, fun c25 => ?_⟩
  · have H := H.1 c25
    refine b_145_125 ?_
    refine ⟨(Ly.t141 L :), ?_⟩
    obtain ⟨z15, H⟩ := H
    refine ⟨z15, ?_⟩
    refine ⟨(Ly.t141 L :), ?_⟩
    refine b_145_133 ?_
    refine ⟨(Ly.t141 L :), ?_⟩
    rw [show jr (wi (wi h 141 38 (w32 ((ji h 141 38) - 1))) 141 51 (ji (wi h 141 38 (w32 ((ji h 141 38) - 1))) 141 49)) 141 43 = 168 from (Ly.r141_43 L :)]
    refine ⟨(Ly.t141 L :), ?_⟩
    obtain ⟨z3, z4, H⟩ := H
    refine ⟨inA_mk (N := 9) (Ly.t168 L :) (Ly.n168 L :) z3 z4, ?_⟩
    refine ⟨(Ly.t141 L :), ?_⟩
    refine b_145_146 ?_
    refine ⟨(Ly.t141 L :), ?_⟩
    rw [show jr (wi (wi (wi h 141 38 (w32 ((ji h 141 38) - 1))) 141 51 (ji (wi h 141 38 (w32 ((ji h 141 38) - 1))) 141 49)) 141 50 (ji (wi (wi h 141 38 (w32 ((ji h 141 38) - 1))) 141 51 (ji (wi h 141 38 (w32 ((ji h 141 38) - 1))) 141 49)) 168 (Int.toNat (ji (wi (wi h 141 38 (w32 ((ji h 141 38) - 1))) 141 51 (ji (wi h 141 38 (w32 ((ji h 141 38) - 1))) 141 49)) 141 38)))) 141 40 = 165 from (Ly.r141_40 L :)]
    refine ⟨(Ly.t141 L :), ?_⟩
    obtain ⟨z5, z6, H⟩ := H
    refine ⟨inA_mk (N := 9) (Ly.t165 L :) (Ly.n165 L :) z5 z6, ?_⟩
    refine ⟨(Ly.t141 L :), ?_⟩
    refine b_145_159 ?_
    refine ⟨(Ly.t141 L :), ?_⟩
    rw [show jr (wi (wi (wi (wi h 141 38 (w32 ((ji h 141 38) - 1))) 141 51 (ji (wi h 141 38 (w32 ((ji h 141 38) - 1))) 141 49)) 141 50 (ji (wi (wi h 141 38 (w32 ((ji h 141 38) - 1))) 141 51 (ji (wi h 141 38 (w32 ((ji h 141 38) - 1))) 141 49)) 168 (Int.toNat (ji (wi (wi h 141 38 (w32 ((ji h 141 38) - 1))) 141 51 (ji (wi h 141 38 (w32 ((ji h 141 38) - 1))) 141 49)) 141 38)))) 141 47 (ji (wi (wi (wi h 141 38 (w32 ((ji h 141 38) - 1))) 141 51 (ji (wi h 141 38 (w32 ((ji h 141 38) - 1))) 141 49)) 141 50 (ji (wi (wi h 141 38 (w32 ((ji h 141 38) - 1))) 141 51 (ji (wi h 141 38 (w32 ((ji h 141 38) - 1))) 141 49)) 168 (Int.toNat (ji (wi (wi h 141 38 (w32 ((ji h 141 38) - 1))) 141 51 (ji (wi h 141 38 (w32 ((ji h 141 38) - 1))) 141 49)) 141 38)))) 165 (Int.toNat (ji (wi (wi (wi h 141 38 (w32 ((ji h 141 38) - 1))) 141 51 (ji (wi h 141 38 (w32 ((ji h 141 38) - 1))) 141 49)) 141 50 (ji (wi (wi h 141 38 (w32 ((ji h 141 38) - 1))) 141 51 (ji (wi h 141 38 (w32 ((ji h 141 38) - 1))) 141 49)) 168 (Int.toNat (ji (wi (wi h 141 38 (w32 ((ji h 141 38) - 1))) 141 51 (ji (wi h 141 38 (w32 ((ji h 141 38) - 1))) 141 49)) 141 38)))) 141 38)))) 141 41 = 166 from (Ly.r141_41 L :)]
    refine ⟨(Ly.t141 L :), ?_⟩
    obtain ⟨z7, z8, H⟩ := H
    refine ⟨Or.inr (inA_mk (N := 9) (Ly.t166 L :) (Ly.n166 L :) z7 z8), ?_⟩
    obtain ⟨z14, H⟩ := H
    refine ⟨z14, ?_⟩
    refine ⟨(Ly.t141 L :), ?_⟩
    refine b_145_172 ?_
    refine ⟨(Ly.t141 L :), ?_⟩
    rw [show jr (wi (wi (wi (wi (wi h 141 38 (w32 ((ji h 141 38) - 1))) 141 51 (ji (wi h 141 38 (w32 ((ji h 141 38) - 1))) 141 49)) 141 50 (ji (wi (wi h 141 38 (w32 ((ji h 141 38) - 1))) 141 51 (ji (wi h 141 38 (w32 ((ji h 141 38) - 1))) 141 49)) 168 (Int.toNat (ji (wi (wi h 141 38 (w32 ((ji h 141 38) - 1))) 141 51 (ji (wi h 141 38 (w32 ((ji h 141 38) - 1))) 141 49)) 141 38)))) 141 47 (ji (wi (wi (wi h 141 38 (w32 ((ji h 141 38) - 1))) 141 51 (ji (wi h 141 38 (w32 ((ji h 141 38) - 1))) 141 49)) 141 50 (ji (wi (wi h 141 38 (w32 ((ji h 141 38) - 1))) 141 51 (ji (wi h 141 38 (w32 ((ji h 141 38) - 1))) 141 49)) 168 (Int.toNat (ji (wi (wi h 141 38 (w32 ((ji h 141 38) - 1))) 141 51 (ji (wi h 141 38 (w32 ((ji h 141 38) - 1))) 141 49)) 141 38)))) 165 (Int.toNat (ji (wi (wi (wi h 141 38 (w32 ((ji h 141 38) - 1))) 141 51 (ji (wi h 141 38 (w32 ((ji h 141 38) - 1))) 141 49)) 141 50 (ji (wi (wi h 141 38 (w32 ((ji h 141 38) - 1))) 141 51 (ji (wi h 141 38 (w32 ((ji h 141 38) - 1))) 141 49)) 168 (Int.toNat (ji (wi (wi h 141 38 (w32 ((ji h 141 38) - 1))) 141 51 (ji (wi h 141 38 (w32 ((ji h 141 38) - 1))) 141 49)) 141 38)))) 141 38)))) 141 48 (ji (wi (wi (wi (wi h 141 38 (w32 ((ji h 141 38) - 1))) 141 51 (ji (wi h 141 38 (w32 ((ji h 141 38) - 1))) 141 49)) 141 50 (ji (wi (wi h 141 38 (w32 ((ji h 141 38) - 1))) 141 51 (ji (wi h 141 38 (w32 ((ji h 141 38) - 1))) 141 49)) 168 (Int.toNat (ji (wi (wi h 141 38 (w32 ((ji h 141 38) - 1))) 141 51 (ji (wi h 141 38 (w32 ((ji h 141 38) - 1))) 141 49)) 141 38)))) 141 47 (ji (wi (wi (wi h 141 38 (w32 ((ji h 141 38) - 1))) 141 51 (ji (wi h 141 38 (w32 ((ji h 141 38) - 1))) 141 49)) 141 50 (ji (wi (wi h 141 38 (w32 ((ji h 141 38) - 1))) 141 51 (ji (wi h 141 38 (w32 ((ji h 141 38) - 1))) 141 49)) 168 (Int.toNat (ji (wi (wi h 141 38 (w32 ((ji h 141 38) - 1))) 141 51 (ji (wi h 141 38 (w32 ((ji h 141 38) - 1))) 141 49)) 141 38)))) 165 (Int.toNat (ji (wi (wi (wi h 141 38 (w32 ((ji h 141 38) - 1))) 141 51 (ji (wi h 141 38 (w32 ((ji h 141 38) - 1))) 141 49)) 141 50 (ji (wi (wi h 141 38 (w32 ((ji h 141 38) - 1))) 141 51 (ji (wi h 141 38 (w32 ((ji h 141 38) - 1))) 141 49)) 168 (Int.toNat (ji (wi (wi h 141 38 (w32 ((ji h 141 38) - 1))) 141 51 (ji (wi h 141 38 (w32 ((ji h 141 38) - 1))) 141 49)) 141 38)))) 141 38)))) 166 (Int.toNat (ji (wi (wi (wi (wi h 141 38 (w32 ((ji h 141 38) - 1))) 141 51 (ji (wi h 141 38 (w32 ((ji h 141 38) - 1))) 141 49)) 141 50 (ji (wi (wi h 141 38 (w32 ((ji h 141 38) - 1))) 141 51 (ji (wi h 141 38 (w32 ((ji h 141 38) - 1))) 141 49)) 168 (Int.toNat (ji (wi (wi h 141 38 (w32 ((ji h 141 38) - 1))) 141 51 (ji (wi h 141 38 (w32 ((ji h 141 38) - 1))) 141 49)) 141 38)))) 141 47 (ji (wi (wi (wi h 141 38 (w32 ((ji h 141 38) - 1))) 141 51 (ji (wi h 141 38 (w32 ((ji h 141 38) - 1))) 141 49)) 141 50 (ji (wi (wi h 141 38 (w32 ((ji h 141 38) - 1))) 141 51 (ji (wi h 141 38 (w32 ((ji h 141 38) - 1))) 141 49)) 168 (Int.toNat (ji (wi (wi h 141 38 (w32 ((ji h 141 38) - 1))) 141 51 (ji (wi h 141 38 (w32 ((ji h 141 38) - 1))) 141 49)) 141 38)))) 165 (Int.toNat (ji (wi (wi (wi h 141 38 (w32 ((ji h 141 38) - 1))) 141 51 (ji (wi h 141 38 (w32 ((ji h 141 38) - 1))) 141 49)) 141 50 (ji (wi (wi h 141 38 (w32 ((ji h 141 38) - 1))) 141 51 (ji (wi h 141 38 (w32 ((ji h 141 38) - 1))) 141 49)) 168 (Int.toNat (ji (wi (wi h 141 38 (w32 ((ji h 141 38) - 1))) 141 51 (ji (wi h 141 38 (w32 ((ji h 141 38) - 1))) 141 49)) 141 38)))) 141 38)))) 141 38)))) 141 42 = 167 from (Ly.r141_42 L :)]
    refine ⟨(Ly.t141 L :), ?_⟩
    obtain ⟨z9, z10, H⟩ := H
    refine ⟨Or.inr (inA_mk (N := 9) (Ly.t167 L :) (Ly.n167 L :) z9 z10), ?_⟩
    obtain ⟨z13, H⟩ := H
    refine ⟨z13, ?_⟩
    refine ⟨(Ly.t141 L :), ?_⟩
    refine b_145_185 ?_
    refine ⟨(Ly.t141 L :), ?_⟩
    rw [show jr (wi (wi (wi (wi (wi (wi h 141 38 (w32 ((ji h 141 38) - 1))) 141 51 (ji (wi h 141 38 (w32 ((ji h 141 38) - 1))) 141 49)) 141 50 (ji (wi (wi h 141 38 (w32 ((ji h 141 38) - 1))) 141 51 (ji (wi h 141 38 (w32 ((ji h 141 38) - 1))) 141 49)) 168 (Int.toNat (ji (wi (wi h 141 38 (w32 ((ji h 141 38) - 1))) 141 51 (ji (wi h 141 38 (w32 ((ji h 141 38) - 1))) 141 49)) 141 38)))) 141 47 (ji (wi (wi (wi h 141 38 (w32 ((ji h 141 38) - 1))) 141 51 (ji (wi h 141 38 (w32 ((ji h 141 38) - 1))) 141 49)) 141 50 (ji (wi (wi h 141 38 (w32 ((ji h 141 38) - 1))) 141 51 (ji (wi h 141 38 (w32 ((ji h 141 38) - 1))) 141 49)) 168 (Int.toNat (ji (wi (wi h 141 38 (w32 ((ji h 141 38) - 1))) 141 51 (ji (wi h 141 38 (w32 ((ji h 141 38) - 1))) 141 49)) 141 38)))) 165 (Int.toNat (ji (wi (wi (wi h 141 38 (w32 ((ji h 141 38) - 1))) 141 51 (ji (wi h 141 38 (w32 ((ji h 141 38) - 1))) 141 49)) 141 50 (ji (wi (wi h 141 38 (w32 ((ji h 141 38) - 1))) 141 51 (ji (wi h 141 38 (w32 ((ji h 141 38) - 1))) 141 49)) 168 (Int.toNat (ji (wi (wi h 141 38 (w32 ((ji h 141 38) - 1))) 141 51 (ji (wi h 141 38 (w32 ((ji h 141 38) - 1))) 141 49)) 141 38)))) 141 38)))) 141 48 (ji (wi (wi (wi (wi h 141 38 (w32 ((ji h 141 38) - 1))) 141 51 (ji (wi h 141 38 (w32 ((ji h 141 38) - 1))) 141 49)) 141 50 (ji (wi (wi h 141 38 (w32 ((ji h 141 38) - 1))) 141 51 (ji (wi h 141 38 (w32 ((ji h 141 38) - 1))) 141 49)) 168 (Int.toNat (ji (wi (wi h 141 38 (w32 ((ji h 141 38) - 1))) 141 51 (ji (wi h 141 38 (w32 ((ji h 141 38) - 1))) 141 49)) 141 38)))) 141 47 (ji (wi (wi (wi h 141 38 (w32 ((ji h 141 38) - 1))) 141 51 (ji (wi h 141 38 (w32 ((ji h 141 38) - 1))) 141 49)) 141 50 (ji (wi (wi h 141 38 (w32 ((ji h 141 38) - 1))) 141 51 (ji (wi h 141 38 (w32 ((ji h 141 38) - 1))) 141 49)) 168 (Int.toNat (ji (wi (wi h 141 38 (w32 ((ji h 141 38) - 1))) 141 51 (ji (wi h 141 38 (w32 ((ji h 141 38) - 1))) 141 49)) 141 38)))) 165 (Int.toNat (ji (wi (wi (wi h 141 38 (w32 ((ji h 141 38) - 1))) 141 51 (ji (wi h 141 38 (w32 ((ji h 141 38) - 1))) 141 49)) 141 50 (ji (wi (wi h 141 38 (w32 ((ji h 141 38) - 1))) 141 51 (ji (wi h 141 38 (w32 ((ji h 141 38) - 1))) 141 49)) 168 (Int.toNat (ji (wi (wi h 141 38 (w32 ((ji h 141 38) - 1))) 141 51 (ji (wi h 141 38 (w32 ((ji h 141 38) - 1))) 141 49)) 141 38)))) 141 38)))) 166 (Int.toNat (ji (wi (wi (wi (wi h 141 38 (w32 ((ji h 141 38) - 1))) 141 51 (ji (wi h 141 38 (w32 ((ji h 141 38) - 1))) 141 49)) 141 50 (ji (wi (wi h 141 38 (w32 ((ji h 141 38) - 1))) 141 51 (ji (wi h 141 38 (w32 ((ji h 141 38) - 1))) 141 49)) 168 (Int.toNat (ji (wi (wi h 141 38 (w32 ((ji h 141 38) - 1))) 141 51 (ji (wi h 141 38 (w32 ((ji h 141 38) - 1))) 141 49)) 141 38)))) 141 47 (ji (wi (wi (wi h 141 38 (w32 ((ji h 141 38) - 1))) 141 51 (ji (wi h 141 38 (w32 ((ji h 141 38) - 1))) 141 49)) 141 50 (ji (wi (wi h 141 38 (w32 ((ji h 141 38) - 1))) 141 51 (ji (wi h 141 38 (w32 ((ji h 141 38) - 1))) 141 49)) 168 (Int.toNat (ji (wi (wi h 141 38 (w32 ((ji h 141 38) - 1))) 141 51 (ji (wi h 141 38 (w32 ((ji h 141 38) - 1))) 141 49)) 141 38)))) 165 (Int.toNat (ji (wi (wi (wi h 141 38 (w32 ((ji h 141 38) - 1))) 141 51 (ji (wi h 141 38 (w32 ((ji h 141 38) - 1))) 141 49)) 141 50 (ji (wi (wi h 141 38 (w32 ((ji h 141 38) - 1))) 141 51 (ji (wi h 141 38 (w32 ((ji h 141 38) - 1))) 141 49)) 168 (Int.toNat (ji (wi (wi h 141 38 (w32 ((ji h 141 38) - 1))) 141 51 (ji (wi h 141 38 (w32 ((ji h 141 38) - 1))) 141 49)) 141 38)))) 141 38)))) 141 38)))) 141 49 (ji (wi (wi (wi (wi (wi h 141 38 (w32 ((ji h 141 38) - 1))) 141 51 (ji (wi h 141 38 (w32 ((ji h 141 38) - 1))) 141 49)) 141 50 (ji (wi (wi h 141 38 (w32 ((ji h 141 38) - 1))) 141 51 (ji (wi h 141 38 (w32 ((ji h 141 38) - 1))) 141 49)) 168 (Int.toNat (ji (wi (wi h 141 38 (w32 ((ji h 141 38) - 1))) 141 51 (ji (wi h 141 38 (w32 ((ji h 141 38) - 1))) 141 49)) 141 38)))) 141 47 (ji (wi (wi (wi h 141 38 (w32 ((ji h 141 38) - 1))) 141 51 (ji (wi h 141 38 (w32 ((ji h 141 38) - 1))) 141 49)) 141 50 (ji (wi (wi h 141 38 (w32 ((ji h 141 38) - 1))) 141 51 (ji (wi h 141 38 (w32 ((ji h 141 38) - 1))) 141 49)) 168 (Int.toNat (ji (wi (wi h 141 38 (w32 ((ji h 141 38) - 1))) 141 51 (ji (wi h 141 38 (w32 ((ji h 141 38) - 1))) 141 49)) 141 38)))) 165 (Int.toNat (ji (wi (wi (wi h 141 38 (w32 ((ji h 141 38) - 1))) 141 51 (ji (wi h 141 38 (w32 ((ji h 141 38) - 1))) 141 49)) 141 50 (ji (wi (wi h 141 38 (w32 ((ji h 141 38) - 1))) 141 51 (ji (wi h 141 38 (w32 ((ji h 141 38) - 1))) 141 49)) 168 (Int.toNat (ji (wi (wi h 141 38 (w32 ((ji h 141 38) - 1))) 141 51 (ji (wi h 141 38 (w32 ((ji h 141 38) - 1))) 141 49)) 141 38)))) 141 38)))) 141 48 (ji (wi (wi (wi (wi h 141 38 (w32 ((ji h 141 38) - 1))) 141 51 (ji (wi h 141 38 (w32 ((ji h 141 38) - 1))) 141 49)) 141 50 (ji (wi (wi h 141 38 (w32 ((ji h 141 38) - 1))) 141 51 (ji (wi h 141 38 (w32 ((ji h 141 38) - 1))) 141 49)) 168 (Int.toNat (ji (wi (wi h 141 38 (w32 ((ji h 141 38) - 1))) 141 51 (ji (wi h 141 38 (w32 ((ji h 141 38) - 1))) 141 49)) 141 38)))) 141 47 (ji (wi (wi (wi h 141 38 (w32 ((ji h 141 38) - 1))) 141 51 (ji (wi h 141 38 (w32 ((ji h 141 38) - 1))) 141 49)) 141 50 (ji (wi (wi h 141 38 (w32 ((ji h 141 38) - 1))) 141 51 (ji (wi h 141 38 (w32 ((ji h 141 38) - 1))) 141 49)) 168 (Int.toNat (ji (wi (wi h 141 38 (w32 ((ji h 141 38) - 1))) 141 51 (ji (wi h 141 38 (w32 ((ji h 141 38) - 1))) 141 49)) 141 38)))) 165 (Int.toNat (ji (wi (wi (wi h 141 38 (w32 ((ji h 141 38) - 1))) 141 51 (ji (wi h 141 38 (w32 ((ji h 141 38) - 1))) 141 49)) 141 50 (ji (wi (wi h 141 38 (w32 ((ji h 141 38) - 1))) 141 51 (ji (wi h 141 38 (w32 ((ji h 141 38) - 1))) 141 49)) 168 (Int.toNat (ji (wi (wi h 141 38 (w32 ((ji h 141 38) - 1))) 141 51 (ji (wi h 141 38 (w32 ((ji h 141 38) - 1))) 141 49)) 141 38)))) 141 38)))) 166 (Int.toNat (ji (wi (wi (wi (wi h 141 38 (w32 ((ji h 141 38) - 1))) 141 51 (ji (wi h 141 38 (w32 ((ji h 141 38) - 1))) 141 49)) 141 50 (ji (wi (wi h 141 38 (w32 ((ji h 141 38) - 1))) 141 51 (ji (wi h 141 38 (w32 ((ji h 141 38) - 1))) 141 49)) 168 (Int.toNat (ji (wi (wi h 141 38 (w32 ((ji h 141 38) - 1))) 141 51 (ji (wi h 141 38 (w32 ((ji h 141 38) - 1))) 141 49)) 141 38)))) 141 47 (ji (wi (wi (wi h 141 38 (w32 ((ji h 141 38) - 1))) 141 51 (ji (wi h 141 38 (w32 ((ji h 141 38) - 1))) 141 49)) 141 50 (ji (wi (wi h 141 38 (w32 ((ji h 141 38) - 1))) 141 51 (ji (wi h 141 38 (w32 ((ji h 141 38) - 1))) 141 49)) 168 (Int.toNat (ji (wi (wi h 141 38 (w32 ((ji h 141 38) - 1))) 141 51 (ji (wi h 141 38 (w32 ((ji h 141 38) - 1))) 141 49)) 141 38)))) 165 (Int.toNat (ji (wi (wi (wi h 141 38 (w32 ((ji h 141 38) - 1))) 141 51 (ji (wi h 141 38 (w32 ((ji h 141 38) - 1))) 141 49)) 141 50 (ji (wi (wi h 141 38 (w32 ((ji h 141 38) - 1))) 141 51 (ji (wi h 141 38 (w32 ((ji h 141 38) - 1))) 141 49)) 168 (Int.toNat (ji (wi (wi h 141 38 (w32 ((ji h 141 38) - 1))) 141 51 (ji (wi h 141 38 (w32 ((ji h 141 38) - 1))) 141 49)) 141 38)))) 141 38)))) 141 38)))) 167 (Int.toNat (ji (wi (wi (wi (wi (wi h 141 38 (w32 ((ji h 141 38) - 1))) 141 51 (ji (wi h 141 38 (w32 ((ji h 141 38) - 1))) 141 49)) 141 50 (ji (wi (wi h 141 38 (w32 ((ji h 141 38) - 1))) 141 51 (ji (wi h 141 38 (w32 ((ji h 141 38) - 1))) 141 49)) 168 (Int.toNat (ji (wi (wi h 141 38 (w32 ((ji h 141 38) - 1))) 141 51 (ji (wi h 141 38 (w32 ((ji h 141 38) - 1))) 141 49)) 141 38)))) 141 47 (ji (wi (wi (wi h 141 38 (w32 ((ji h 141 38) - 1))) 141 51 (ji (wi h 141 38 (w32 ((ji h 141 38) - 1))) 141 49)) 141 50 (ji (wi (wi h 141 38 (w32 ((ji h 141 38) - 1))) 141 51 (ji (wi h 141 38 (w32 ((ji h 141 38) - 1))) 141 49)) 168 (Int.toNat (ji (wi (wi h 141 38 (w32 ((ji h 141 38) - 1))) 141 51 (ji (wi h 141 38 (w32 ((ji h 141 38) - 1))) 141 49)) 141 38)))) 165 (Int.toNat (ji (wi (wi (wi h 141 38 (w32 ((ji h 141 38) - 1))) 141 51 (ji (wi h 141 38 (w32 ((ji h 141 38) - 1))) 141 49)) 141 50 (ji (wi (wi h 141 38 (w32 ((ji h 141 38) - 1))) 141 51 (ji (wi h 141 38 (w32 ((ji h 141 38) - 1))) 141 49)) 168 (Int.toNat (ji (wi (wi h 141 38 (w32 ((ji h 141 38) - 1))) 141 51 (ji (wi h 141 38 (w32 ((ji h 141 38) - 1))) 141 49)) 141 38)))) 141 38)))) 141 48 (ji (wi (wi (wi (wi h 141 38 (w32 ((ji h 141 38) - 1))) 141 51 (ji (wi h 141 38 (w32 ((ji h 141 38) - 1))) 141 49)) 141 50 (ji (wi (wi h 141 38 (w32 ((ji h 141 38) - 1))) 141 51 (ji (wi h 141 38 (w32 ((ji h 141 38) - 1))) 141 49)) 168 (Int.toNat (ji (wi (wi h 141 38 (w32 ((ji h 141 38) - 1))) 141 51 (ji (wi h 141 38 (w32 ((ji h 141 38) - 1))) 141 49)) 141 38)))) 141 47 (ji (wi (wi (wi h 141 38 (w32 ((ji h 141 38) - 1))) 141 51 (ji (wi h 141 38 (w32 ((ji h 141 38) - 1))) 141 49)) 141 50 (ji (wi (wi h 141 38 (w32 ((ji h 141 38) - 1))) 141 51 (ji (wi h 141 38 (w32 ((ji h 141 38) - 1))) 141 49)) 168 (Int.toNat (ji (wi (wi h 141 38 (w32 ((ji h 141 38) - 1))) 141 51 (ji (wi h 141 38 (w32 ((ji h 141 38) - 1))) 141 49)) 141 38)))) 165 (Int.toNat (ji (wi (wi (wi h 141 38 (w32 ((ji h 141 38) - 1))) 141 51 (ji (wi h 141 38 (w32 ((ji h 141 38) - 1))) 141 49)) 141 50 (ji (wi (wi h 141 38 (w32 ((ji h 141 38) - 1))) 141 51 (ji (wi h 141 38 (w32 ((ji h 141 38) - 1))) 141 49)) 168 (Int.toNat (ji (wi (wi h 141 38 (w32 ((ji h 141 38) - 1))) 141 51 (ji (wi h 141 38 (w32 ((ji h 141 38) - 1))) 141 49)) 141 38)))) 141 38)))) 166 (Int.toNat (ji (wi (wi (wi (wi h 141 38 (w32 ((ji h 141 38) - 1))) 141 51 (ji (wi h 141 38 (w32 ((ji h 141 38) - 1))) 141 49)) 141 50 (ji (wi (wi h 141 38 (w32 ((ji h 141 38) - 1))) 141 51 (ji (wi h 141 38 (w32 ((ji h 141 38) - 1))) 141 49)) 168 (Int.toNat (ji (wi (wi h 141 38 (w32 ((ji h 141 38) - 1))) 141 51 (ji (wi h 141 38 (w32 ((ji h 141 38) - 1))) 141 49)) 141 38)))) 141 47 (ji (wi (wi (wi h 141 38 (w32 ((ji h 141 38) - 1))) 141 51 (ji (wi h 141 38 (w32 ((ji h 141 38) - 1))) 141 49)) 141 50 (ji (wi (wi h 141 38 (w32 ((ji h 141 38) - 1))) 141 51 (ji (wi h 141 38 (w32 ((ji h 141 38) - 1))) 141 49)) 168 (Int.toNat (ji (wi (wi h 141 38 (w32 ((ji h 141 38) - 1))) 141 51 (ji (wi h 141 38 (w32 ((ji h 141 38) - 1))) 141 49)) 141 38)))) 165 (Int.toNat (ji (wi (wi (wi h 141 38 (w32 ((ji h 141 38) - 1))) 141 51 (ji (wi h 141 38 (w32 ((ji h 141 38) - 1))) 141 49)) 141 50 (ji (wi (wi h 141 38 (w32 ((ji h 141 38) - 1))) 141 51 (ji (wi h 141 38 (w32 ((ji h 141 38) - 1))) 141 49)) 168 (Int.toNat (ji (wi (wi h 141 38 (w32 ((ji h 141 38) - 1))) 141 51 (ji (wi h 141 38 (w32 ((ji h 141 38) - 1))) 141 49)) 141 38)))) 141 38)))) 141 38)))) 141 38)))) 141 44 = 169 from (Ly.r141_44 L :)]
    refine ⟨(Ly.t141 L :), ?_⟩
    obtain ⟨z11, z12, H⟩ := H
    refine ⟨inA_mk (N := 9) (Ly.t169 L :) (Ly.n169 L :) z11 z12, ?_⟩
    refine ⟨(Ly.t141 L :), ?_⟩
    refine b_145_202 ?_
    exact H (Ly.wl (Ly.wi (Ly.wi (Ly.wi (Ly.wi (Ly.wi (Ly.wi L (a := 141) (k := 38) (x := w32 ((ji h 141 38) - 1)) (by decide)) (a := 141) (k := 51) (x := ji (wi h 141 38 (w32 ((ji h 141 38) - 1))) 141 49) (by decide)) (a := 141) (k := 50) (x := ji (wi (wi h 141 38 (w32 ((ji h 141 38) - 1))) 141 51 (ji (wi h 141 38 (w32 ((ji h 141 38) - 1))) 141 49)) 168 (Int.toNat (ji (wi (wi h 141 38 (w32 ((ji h 141 38) - 1))) 141 51 (ji (wi h 141 38 (w32 ((ji h 141 38) - 1))) 141 49)) 141 38))) (by decide)) (a := 141) (k := 47) (x := ji (wi (wi (wi h 141 38 (w32 ((ji h 141 38) - 1))) 141 51 (ji (wi h 141 38 (w32 ((ji h 141 38) - 1))) 141 49)) 141 50 (ji (wi (wi h 141 38 (w32 ((ji h 141 38) - 1))) 141 51 (ji (wi h 141 38 (w32 ((ji h 141 38) - 1))) 141 49)) 168 (Int.toNat (ji (wi (wi h 141 38 (w32 ((ji h 141 38) - 1))) 141 51 (ji (wi h 141 38 (w32 ((ji h 141 38) - 1))) 141 49)) 141 38)))) 165 (Int.toNat (ji (wi (wi (wi h 141 38 (w32 ((ji h 141 38) - 1))) 141 51 (ji (wi h 141 38 (w32 ((ji h 141 38) - 1))) 141 49)) 141 50 (ji (wi (wi h 141 38 (w32 ((ji h 141 38) - 1))) 141 51 (ji (wi h 141 38 (w32 ((ji h 141 38) - 1))) 141 49)) 168 (Int.toNat (ji (wi (wi h 141 38 (w32 ((ji h 141 38) - 1))) 141 51 (ji (wi h 141 38 (w32 ((ji h 141 38) - 1))) 141 49)) 141 38)))) 141 38))) (by decide)) (a := 141) (k := 48) (x := ji (wi (wi (wi (wi h 141 38 (w32 ((ji h 141 38) - 1))) 141 51 (ji (wi h 141 38 (w32 ((ji h 141 38) - 1))) 141 49)) 141 50 (ji (wi (wi h 141 38 (w32 ((ji h 141 38) - 1))) 141 51 (ji (wi h 141 38 (w32 ((ji h 141 38) - 1))) 141 49)) 168 (Int.toNat (ji (wi (wi h 141 38 (w32 ((ji h 141 38) - 1))) 141 51 (ji (wi h 141 38 (w32 ((ji h 141 38) - 1))) 141 49)) 141 38)))) 141 47 (ji (wi (wi (wi h 141 38 (w32 ((ji h 141 38) - 1))) 141 51 (ji (wi h 141 38 (w32 ((ji h 141 38) - 1))) 141 49)) 141 50 (ji (wi (wi h 141 38 (w32 ((ji h 141 38) - 1))) 141 51 (ji (wi h 141 38 (w32 ((ji h 141 38) - 1))) 141 49)) 168 (Int.toNat (ji (wi (wi h 141 38 (w32 ((ji h 141 38) - 1))) 141 51 (ji (wi h 141 38 (w32 ((ji h 141 38) - 1))) 141 49)) 141 38)))) 165 (Int.toNat (ji (wi (wi (wi h 141 38 (w32 ((ji h 141 38) - 1))) 141 51 (ji (wi h 141 38 (w32 ((ji h 141 38) - 1))) 141 49)) 141 50 (ji (wi (wi h 141 38 (w32 ((ji h 141 38) - 1))) 141 51 (ji (wi h 141 38 (w32 ((ji h 141 38) - 1))) 141 49)) 168 (Int.toNat (ji (wi (wi h 141 38 (w32 ((ji h 141 38) - 1))) 141 51 (ji (wi h 141 38 (w32 ((ji h 141 38) - 1))) 141 49)) 141 38)))) 141 38)))) 166 (Int.toNat (ji (wi (wi (wi (wi h 141 38 (w32 ((ji h 141 38) - 1))) 141 51 (ji (wi h 141 38 (w32 ((ji h 141 38) - 1))) 141 49)) 141 50 (ji (wi (wi h 141 38 (w32 ((ji h 141 38) - 1))) 141 51 (ji (wi h 141 38 (w32 ((ji h 141 38) - 1))) 141 49)) 168 (Int.toNat (ji (wi (wi h 141 38 (w32 ((ji h 141 38) - 1))) 141 51 (ji (wi h 141 38 (w32 ((ji h 141 38) - 1))) 141 49)) 141 38)))) 141 47 (ji (wi (wi (wi h 141 38 (w32 ((ji h 141 38) - 1))) 141 51 (ji (wi h 141 38 (w32 ((ji h 141 38) - 1))) 141 49)) 141 50 (ji (wi (wi h 141 38 (w32 ((ji h 141 38) - 1))) 141 51 (ji (wi h 141 38 (w32 ((ji h 141 38) - 1))) 141 49)) 168 (Int.toNat (ji (wi (wi h 141 38 (w32 ((ji h 141 38) - 1))) 141 51 (ji (wi h 141 38 (w32 ((ji h 141 38) - 1))) 141 49)) 141 38)))) 165 (Int.toNat (ji (wi (wi (wi h 141 38 (w32 ((ji h 141 38) - 1))) 141 51 (ji (wi h 141 38 (w32 ((ji h 141 38) - 1))) 141 49)) 141 50 (ji (wi (wi h 141 38 (w32 ((ji h 141 38) - 1))) 141 51 (ji (wi h 141 38 (w32 ((ji h 141 38) - 1))) 141 49)) 168 (Int.toNat (ji (wi (wi h 141 38 (w32 ((ji h 141 38) - 1))) 141 51 (ji (wi h 141 38 (w32 ((ji h 141 38) - 1))) 141 49)) 141 38)))) 141 38)))) 141 38))) (by decide)) (a := 141) (k := 49) (x := ji (wi (wi (wi (wi (wi h 141 38 (w32 ((ji h 141 38) - 1))) 141 51 (ji (wi h 141 38 (w32 ((ji h 141 38) - 1))) 141 49)) 141 50 (ji (wi (wi h 141 38 (w32 ((ji h 141 38) - 1))) 141 51 (ji (wi h 141 38 (w32 ((ji h 141 38) - 1))) 141 49)) 168 (Int.toNat (ji (wi (wi h 141 38 (w32 ((ji h 141 38) - 1))) 141 51 (ji (wi h 141 38 (w32 ((ji h 141 38) - 1))) 141 49)) 141 38)))) 141 47 (ji (wi (wi (wi h 141 38 (w32 ((ji h 141 38) - 1))) 141 51 (ji (wi h 141 38 (w32 ((ji h 141 38) - 1))) 141 49)) 141 50 (ji (wi (wi h 141 38 (w32 ((ji h 141 38) - 1))) 141 51 (ji (wi h 141 38 (w32 ((ji h 141 38) - 1))) 141 49)) 168 (Int.toNat (ji (wi (wi h 141 38 (w32 ((ji h 141 38) - 1))) 141 51 (ji (wi h 141 38 (w32 ((ji h 141 38) - 1))) 141 49)) 141 38)))) 165 (Int.toNat (ji (wi (wi (wi h 141 38 (w32 ((ji h 141 38) - 1))) 141 51 (ji (wi h 141 38 (w32 ((ji h 141 38) - 1))) 141 49)) 141 50 (ji (wi (wi h 141 38 (w32 ((ji h 141 38) - 1))) 141 51 (ji (wi h 141 38 (w32 ((ji h 141 38) - 1))) 141 49)) 168 (Int.toNat (ji (wi (wi h 141 38 (w32 ((ji h 141 38) - 1))) 141 51 (ji (wi h 141 38 (w32 ((ji h 141 38) - 1))) 141 49)) 141 38)))) 141 38)))) 141 48 (ji (wi (wi (wi (wi h 141 38 (w32 ((ji h 141 38) - 1))) 141 51 (ji (wi h 141 38 (w32 ((ji h 141 38) - 1))) 141 49)) 141 50 (ji (wi (wi h 141 38 (w32 ((ji h 141 38) - 1))) 141 51 (ji (wi h 141 38 (w32 ((ji h 141 38) - 1))) 141 49)) 168 (Int.toNat (ji (wi (wi h 141 38 (w32 ((ji h 141 38) - 1))) 141 51 (ji (wi h 141 38 (w32 ((ji h 141 38) - 1))) 141 49)) 141 38)))) 141 47 (ji (wi (wi (wi h 141 38 (w32 ((ji h 141 38) - 1))) 141 51 (ji (wi h 141 38 (w32 ((ji h 141 38) - 1))) 141 49)) 141 50 (ji (wi (wi h 141 38 (w32 ((ji h 141 38) - 1))) 141 51 (ji (wi h 141 38 (w32 ((ji h 141 38) - 1))) 141 49)) 168 (Int.toNat (ji (wi (wi h 141 38 (w32 ((ji h 141 38) - 1))) 141 51 (ji (wi h 141 38 (w32 ((ji h 141 38) - 1))) 141 49)) 141 38)))) 165 (Int.toNat (ji (wi (wi (wi h 141 38 (w32 ((ji h 141 38) - 1))) 141 51 (ji (wi h 141 38 (w32 ((ji h 141 38) - 1))) 141 49)) 141 50 (ji (wi (wi h 141 38 (w32 ((ji h 141 38) - 1))) 141 51 (ji (wi h 141 38 (w32 ((ji h 141 38) - 1))) 141 49)) 168 (Int.toNat (ji (wi (wi h 141 38 (w32 ((ji h 141 38) - 1))) 141 51 (ji (wi h 141 38 (w32 ((ji h 141 38) - 1))) 141 49)) 141 38)))) 141 38)))) 166 (Int.toNat (ji (wi (wi (wi (wi h 141 38 (w32 ((ji h 141 38) - 1))) 141 51 (ji (wi h 141 38 (w32 ((ji h 141 38) - 1))) 141 49)) 141 50 (ji (wi (wi h 141 38 (w32 ((ji h 141 38) - 1))) 141 51 (ji (wi h 141 38 (w32 ((ji h 141 38) - 1))) 141 49)) 168 (Int.toNat (ji (wi (wi h 141 38 (w32 ((ji h 141 38) - 1))) 141 51 (ji (wi h 141 38 (w32 ((ji h 141 38) - 1))) 141 49)) 141 38)))) 141 47 (ji (wi (wi (wi h 141 38 (w32 ((ji h 141 38) - 1))) 141 51 (ji (wi h 141 38 (w32 ((ji h 141 38) - 1))) 141 49)) 141 50 (ji (wi (wi h 141 38 (w32 ((ji h 141 38) - 1))) 141 51 (ji (wi h 141 38 (w32 ((ji h 141 38) - 1))) 141 49)) 168 (Int.toNat (ji (wi (wi h 141 38 (w32 ((ji h 141 38) - 1))) 141 51 (ji (wi h 141 38 (w32 ((ji h 141 38) - 1))) 141 49)) 141 38)))) 165 (Int.toNat (ji (wi (wi (wi h 141 38 (w32 ((ji h 141 38) - 1))) 141 51 (ji (wi h 141 38 (w32 ((ji h 141 38) - 1))) 141 49)) 141 50 (ji (wi (wi h 141 38 (w32 ((ji h 141 38) - 1))) 141 51 (ji (wi h 141 38 (w32 ((ji h 141 38) - 1))) 141 49)) 168 (Int.toNat (ji (wi (wi h 141 38 (w32 ((ji h 141 38) - 1))) 141 51 (ji (wi h 141 38 (w32 ((ji h 141 38) - 1))) 141 49)) 141 38)))) 141 38)))) 141 38)))) 167 (Int.toNat (ji (wi (wi (wi (wi (wi h 141 38 (w32 ((ji h 141 38) - 1))) 141 51 (ji (wi h 141 38 (w32 ((ji h 141 38) - 1))) 141 49)) 141 50 (ji (wi (wi h 141 38 (w32 ((ji h 141 38) - 1))) 141 51 (ji (wi h 141 38 (w32 ((ji h 141 38) - 1))) 141 49)) 168 (Int.toNat (ji (wi (wi h 141 38 (w32 ((ji h 141 38) - 1))) 141 51 (ji (wi h 141 38 (w32 ((ji h 141 38) - 1))) 141 49)) 141 38)))) 141 47 (ji (wi (wi (wi h 141 38 (w32 ((ji h 141 38) - 1))) 141 51 (ji (wi h 141 38 (w32 ((ji h 141 38) - 1))) 141 49)) 141 50 (ji (wi (wi h 141 38 (w32 ((ji h 141 38) - 1))) 141 51 (ji (wi h 141 38 (w32 ((ji h 141 38) - 1))) 141 49)) 168 (Int.toNat (ji (wi (wi h 141 38 (w32 ((ji h 141 38) - 1))) 141 51 (ji (wi h 141 38 (w32 ((ji h 141 38) - 1))) 141 49)) 141 38)))) 165 (Int.toNat (ji (wi (wi (wi h 141 38 (w32 ((ji h 141 38) - 1))) 141 51 (ji (wi h 141 38 (w32 ((ji h 141 38) - 1))) 141 49)) 141 50 (ji (wi (wi h 141 38 (w32 ((ji h 141 38) - 1))) 141 51 (ji (wi h 141 38 (w32 ((ji h 141 38) - 1))) 141 49)) 168 (Int.toNat (ji (wi (wi h 141 38 (w32 ((ji h 141 38) - 1))) 141 51 (ji (wi h 141 38 (w32 ((ji h 141 38) - 1))) 141 49)) 141 38)))) 141 38)))) 141 48 (ji (wi (wi (wi (wi h 141 38 (w32 ((ji h 141 38) - 1))) 141 51 (ji (wi h 141 38 (w32 ((ji h 141 38) - 1))) 141 49)) 141 50 (ji (wi (wi h 141 38 (w32 ((ji h 141 38) - 1))) 141 51 (ji (wi h 141 38 (w32 ((ji h 141 38) - 1))) 141 49)) 168 (Int.toNat (ji (wi (wi h 141 38 (w32 ((ji h 141 38) - 1))) 141 51 (ji (wi h 141 38 (w32 ((ji h 141 38) - 1))) 141 49)) 141 38)))) 141 47 (ji (wi (wi (wi h 141 38 (w32 ((ji h 141 38) - 1))) 141 51 (ji (wi h 141 38 (w32 ((ji h 141 38) - 1))) 141 49)) 141 50 (ji (wi (wi h 141 38 (w32 ((ji h 141 38) - 1))) 141 51 (ji (wi h 141 38 (w32 ((ji h 141 38) - 1))) 141 49)) 168 (Int.toNat (ji (wi (wi h 141 38 (w32 ((ji h 141 38) - 1))) 141 51 (ji (wi h 141 38 (w32 ((ji h 141 38) - 1))) 141 49)) 141 38)))) 165 (Int.toNat (ji (wi (wi (wi h 141 38 (w32 ((ji h 141 38) - 1))) 141 51 (ji (wi h 141 38 (w32 ((ji h 141 38) - 1))) 141 49)) 141 50 (ji (wi (wi h 141 38 (w32 ((ji h 141 38) - 1))) 141 51 (ji (wi h 141 38 (w32 ((ji h 141 38) - 1))) 141 49)) 168 (Int.toNat (ji (wi (wi h 141 38 (w32 ((ji h 141 38) - 1))) 141 51 (ji (wi h 141 38 (w32 ((ji h 141 38) - 1))) 141 49)) 141 38)))) 141 38)))) 166 (Int.toNat (ji (wi (wi (wi (wi h 141 38 (w32 ((ji h 141 38) - 1))) 141 51 (ji (wi h 141 38 (w32 ((ji h 141 38) - 1))) 141 49)) 141 50 (ji (wi (wi h 141 38 (w32 ((ji h 141 38) - 1))) 141 51 (ji (wi h 141 38 (w32 ((ji h 141 38) - 1))) 141 49)) 168 (Int.toNat (ji (wi (wi h 141 38 (w32 ((ji h 141 38) - 1))) 141 51 (ji (wi h 141 38 (w32 ((ji h 141 38) - 1))) 141 49)) 141 38)))) 141 47 (ji (wi (wi (wi h 141 38 (w32 ((ji h 141 38) - 1))) 141 51 (ji (wi h 141 38 (w32 ((ji h 141 38) - 1))) 141 49)) 141 50 (ji (wi (wi h 141 38 (w32 ((ji h 141 38) - 1))) 141 51 (ji (wi h 141 38 (w32 ((ji h 141 38) - 1))) 141 49)) 168 (Int.toNat (ji (wi (wi h 141 38 (w32 ((ji h 141 38) - 1))) 141 51 (ji (wi h 141 38 (w32 ((ji h 141 38) - 1))) 141 49)) 141 38)))) 165 (Int.toNat (ji (wi (wi (wi h 141 38 (w32 ((ji h 141 38) - 1))) 141 51 (ji (wi h 141 38 (w32 ((ji h 141 38) - 1))) 141 49)) 141 50 (ji (wi (wi h 141 38 (w32 ((ji h 141 38) - 1))) 141 51 (ji (wi h 141 38 (w32 ((ji h 141 38) - 1))) 141 49)) 168 (Int.toNat (ji (wi (wi h 141 38 (w32 ((ji h 141 38) - 1))) 141 51 (ji (wi h 141 38 (w32 ((ji h 141 38) - 1))) 141 49)) 141 38)))) 141 38)))) 141 38)))) 141 38))) (by decide)) (a := 141) (k := 52) (x := w64 ((w64 ((jl (wi (wi (wi (wi (wi (wi h 141 38 (w32 ((ji h 141 38) - 1))) 141 51 (ji (wi h 141 38 (w32 ((ji h 141 38) - 1))) 141 49)) 141 50 (ji (wi (wi h 141 38 (w32 ((ji h 141 38) - 1))) 141 51 (ji (wi h 141 38 (w32 ((ji h 141 38) - 1))) 141 49)) 168 (Int.toNat (ji (wi (wi h 141 38 (w32 ((ji h 141 38) - 1))) 141 51 (ji (wi h 141 38 (w32 ((ji h 141 38) - 1))) 141 49)) 141 38)))) 141 47 (ji (wi (wi (wi h 141 38 (w32 ((ji h 141 38) - 1))) 141 51 (ji (wi h 141 38 (w32 ((ji h 141 38) - 1))) 141 49)) 141 50 (ji (wi (wi h 141 38 (w32 ((ji h 141 38) - 1))) 141 51 (ji (wi h 141 38 (w32 ((ji h 141 38) - 1))) 141 49)) 168 (Int.toNat (ji (wi (wi h 141 38 (w32 ((ji h 141 38) - 1))) 141 51 (ji (wi h 141 38 (w32 ((ji h 141 38) - 1))) 141 49)) 141 38)))) 165 (Int.toNat (ji (wi (wi (wi h 141 38 (w32 ((ji h 141 38) - 1))) 141 51 (ji (wi h 141 38 (w32 ((ji h 141 38) - 1))) 141 49)) 141 50 (ji (wi (wi h 141 38 (w32 ((ji h 141 38) - 1))) 141 51 (ji (wi h 141 38 (w32 ((ji h 141 38) - 1))) 141 49)) 168 (Int.toNat (ji (wi (wi h 141 38 (w32 ((ji h 141 38) - 1))) 141 51 (ji (wi h 141 38 (w32 ((ji h 141 38) - 1))) 141 49)) 141 38)))) 141 38)))) 141 48 (ji (wi (wi (wi (wi h 141 38 (w32 ((ji h 141 38) - 1))) 141 51 (ji (wi h 141 38 (w32 ((ji h 141 38) - 1))) 141 49)) 141 50 (ji (wi (wi h 141 38 (w32 ((ji h 141 38) - 1))) 141 51 (ji (wi h 141 38 (w32 ((ji h 141 38) - 1))) 141 49)) 168 (Int.toNat (ji (wi (wi h 141 38 (w32 ((ji h 141 38) - 1))) 141 51 (ji (wi h 141 38 (w32 ((ji h 141 38) - 1))) 141 49)) 141 38)))) 141 47 (ji (wi (wi (wi h 141 38 (w32 ((ji h 141 38) - 1))) 141 51 (ji (wi h 141 38 (w32 ((ji h 141 38) - 1))) 141 49)) 141 50 (ji (wi (wi h 141 38 (w32 ((ji h 141 38) - 1))) 141 51 (ji (wi h 141 38 (w32 ((ji h 141 38) - 1))) 141 49)) 168 (Int.toNat (ji (wi (wi h 141 38 (w32 ((ji h 141 38) - 1))) 141 51 (ji (wi h 141 38 (w32 ((ji h 141 38) - 1))) 141 49)) 141 38)))) 165 (Int.toNat (ji (wi (wi (wi h 141 38 (w32 ((ji h 141 38) - 1))) 141 51 (ji (wi h 141 38 (w32 ((ji h 141 38) - 1))) 141 49)) 141 50 (ji (wi (wi h 141 38 (w32 ((ji h 141 38) - 1))) 141 51 (ji (wi h 141 38 (w32 ((ji h 141 38) - 1))) 141 49)) 168 (Int.toNat (ji (wi (wi h 141 38 (w32 ((ji h 141 38) - 1))) 141 51 (ji (wi h 141 38 (w32 ((ji h 141 38) - 1))) 141 49)) 141 38)))) 141 38)))) 166 (Int.toNat (ji (wi (wi (wi (wi h 141 38 (w32 ((ji h 141 38) - 1))) 141 51 (ji (wi h 141 38 (w32 ((ji h 141 38) - 1))) 141 49)) 141 50 (ji (wi (wi h 141 38 (w32 ((ji h 141 38) - 1))) 141 51 (ji (wi h 141 38 (w32 ((ji h 141 38) - 1))) 141 49)) 168 (Int.toNat (ji (wi (wi h 141 38 (w32 ((ji h 141 38) - 1))) 141 51 (ji (wi h 141 38 (w32 ((ji h 141 38) - 1))) 141 49)) 141 38)))) 141 47 (ji (wi (wi (wi h 141 38 (w32 ((ji h 141 38) - 1))) 141 51 (ji (wi h 141 38 (w32 ((ji h 141 38) - 1))) 141 49)) 141 50 (ji (wi (wi h 141 38 (w32 ((ji h 141 38) - 1))) 141 51 (ji (wi h 141 38 (w32 ((ji h 141 38) - 1))) 141 49)) 168 (Int.toNat (ji (wi (wi h 141 38 (w32 ((ji h 141 38) - 1))) 141 51 (ji (wi h 141 38 (w32 ((ji h 141 38) - 1))) 141 49)) 141 38)))) 165 (Int.toNat (ji (wi (wi (wi h 141 38 (w32 ((ji h 141 38) - 1))) 141 51 (ji (wi h 141 38 (w32 ((ji h 141 38) - 1))) 141 49)) 141 50 (ji (wi (wi h 141 38 (w32 ((ji h 141 38) - 1))) 141 51 (ji (wi h 141 38 (w32 ((ji h 141 38) - 1))) 141 49)) 168 (Int.toNat (ji (wi (wi h 141 38 (w32 ((ji h 141 38) - 1))) 141 51 (ji (wi h 141 38 (w32 ((ji h 141 38) - 1))) 141 49)) 141 38)))) 141 38)))) 141 38)))) 141 49 (ji (wi (wi (wi (wi (wi h 141 38 (w32 ((ji h 141 38) - 1))) 141 51 (ji (wi h 141 38 (w32 ((ji h 141 38) - 1))) 141 49)) 141 50 (ji (wi (wi h 141 38 (w32 ((ji h 141 38) - 1))) 141 51 (ji (wi h 141 38 (w32 ((ji h 141 38) - 1))) 141 49)) 168 (Int.toNat (ji (wi (wi h 141 38 (w32 ((ji h 141 38) - 1))) 141 51 (ji (wi h 141 38 (w32 ((ji h 141 38) - 1))) 141 49)) 141 38)))) 141 47 (ji (wi (wi (wi h 141 38 (w32 ((ji h 141 38) - 1))) 141 51 (ji (wi h 141 38 (w32 ((ji h 141 38) - 1))) 141 49)) 141 50 (ji (wi (wi h 141 38 (w32 ((ji h 141 38) - 1))) 141 51 (ji (wi h 141 38 (w32 ((ji h 141 38) - 1))) 141 49)) 168 (Int.toNat (ji (wi (wi h 141 38 (w32 ((ji h 141 38) - 1))) 141 51 (ji (wi h 141 38 (w32 ((ji h 141 38) - 1))) 141 49)) 141 38)))) 165 (Int.toNat (ji (wi (wi (wi h 141 38 (w32 ((ji h 141 38) - 1))) 141 51 (ji (wi h 141 38 (w32 ((ji h 141 38) - 1))) 141 49)) 141 50 (ji (wi (wi h 141 38 (w32 ((ji h 141 38) - 1))) 141 51 (ji (wi h 141 38 (w32 ((ji h 141 38) - 1))) 141 49)) 168 (Int.toNat (ji (wi (wi h 141 38 (w32 ((ji h 141 38) - 1))) 141 51 (ji (wi h 141 38 (w32 ((ji h 141 38) - 1))) 141 49)) 141 38)))) 141 38)))) 141 48 (ji (wi (wi (wi (wi h 141 38 (w32 ((ji h 141 38) - 1))) 141 51 (ji (wi h 141 38 (w32 ((ji h 141 38) - 1))) 141 49)) 141 50 (ji (wi (wi h 141 38 (w32 ((ji h 141 38) - 1))) 141 51 (ji (wi h 141 38 (w32 ((ji h 141 38) - 1))) 141 49)) 168 (Int.toNat (ji (wi (wi h 141 38 (w32 ((ji h 141 38) - 1))) 141 51 (ji (wi h 141 38 (w32 ((ji h 141 38) - 1))) 141 49)) 141 38)))) 141 47 (ji (wi (wi (wi h 141 38 (w32 ((ji h 141 38) - 1))) 141 51 (ji (wi h 141 38 (w32 ((ji h 141 38) - 1))) 141 49)) 141 50 (ji (wi (wi h 141 38 (w32 ((ji h 141 38) - 1))) 141 51 (ji (wi h 141 38 (w32 ((ji h 141 38) - 1))) 141 49)) 168 (Int.toNat (ji (wi (wi h 141 38 (w32 ((ji h 141 38) - 1))) 141 51 (ji (wi h 141 38 (w32 ((ji h 141 38) - 1))) 141 49)) 141 38)))) 165 (Int.toNat (ji (wi (wi (wi h 141 38 (w32 ((ji h 141 38) - 1))) 141 51 (ji (wi h 141 38 (w32 ((ji h 141 38) - 1))) 141 49)) 141 50 (ji (wi (wi h 141 38 (w32 ((ji h 141 38) - 1))) 141 51 (ji (wi h 141 38 (w32 ((ji h 141 38) - 1))) 141 49)) 168 (Int.toNat (ji (wi (wi h 141 38 (w32 ((ji h 141 38) - 1))) 141 51 (ji (wi h 141 38 (w32 ((ji h 141 38) - 1))) 141 49)) 141 38)))) 141 38)))) 166 (Int.toNat (ji (wi (wi (wi (wi h 141 38 (w32 ((ji h 141 38) - 1))) 141 51 (ji (wi h 141 38 (w32 ((ji h 141 38) - 1))) 141 49)) 141 50 (ji (wi (wi h 141 38 (w32 ((ji h 141 38) - 1))) 141 51 (ji (wi h 141 38 (w32 ((ji h 141 38) - 1))) 141 49)) 168 (Int.toNat (ji (wi (wi h 141 38 (w32 ((ji h 141 38) - 1))) 141 51 (ji (wi h 141 38 (w32 ((ji h 141 38) - 1))) 141 49)) 141 38)))) 141 47 (ji (wi (wi (wi h 141 38 (w32 ((ji h 141 38) - 1))) 141 51 (ji (wi h 141 38 (w32 ((ji h 141 38) - 1))) 141 49)) 141 50 (ji (wi (wi h 141 38 (w32 ((ji h 141 38) - 1))) 141 51 (ji (wi h 141 38 (w32 ((ji h 141 38) - 1))) 141 49)) 168 (Int.toNat (ji (wi (wi h 141 38 (w32 ((ji h 141 38) - 1))) 141 51 (ji (wi h 141 38 (w32 ((ji h 141 38) - 1))) 141 49)) 141 38)))) 165 (Int.toNat (ji (wi (wi (wi h 141 38 (w32 ((ji h 141 38) - 1))) 141 51 (ji (wi h 141 38 (w32 ((ji h 141 38) - 1))) 141 49)) 141 50 (ji (wi (wi h 141 38 (w32 ((ji h 141 38) - 1))) 141 51 (ji (wi h 141 38 (w32 ((ji h 141 38) - 1))) 141 49)) 168 (Int.toNat (ji (wi (wi h 141 38 (w32 ((ji h 141 38) - 1))) 141 51 (ji (wi h 141 38 (w32 ((ji h 141 38) - 1))) 141 49)) 141 38)))) 141 38)))) 141 38)))) 167 (Int.toNat (ji (wi (wi (wi (wi (wi h 141 38 (w32 ((ji h 141 38) - 1))) 141 51 (ji (wi h 141 38 (w32 ((ji h 141 38) - 1))) 141 49)) 141 50 (ji (wi (wi h 141 38 (w32 ((ji h 141 38) - 1))) 141 51 (ji (wi h 141 38 (w32 ((ji h 141 38) - 1))) 141 49)) 168 (Int.toNat (ji (wi (wi h 141 38 (w32 ((ji h 141 38) - 1))) 141 51 (ji (wi h 141 38 (w32 ((ji h 141 38) - 1))) 141 49)) 141 38)))) 141 47 (ji (wi (wi (wi h 141 38 (w32 ((ji h 141 38) - 1))) 141 51 (ji (wi h 141 38 (w32 ((ji h 141 38) - 1))) 141 49)) 141 50 (ji (wi (wi h 141 38 (w32 ((ji h 141 38) - 1))) 141 51 (ji (wi h 141 38 (w32 ((ji h 141 38) - 1))) 141 49)) 168 (Int.toNat (ji (wi (wi h 141 38 (w32 ((ji h 141 38) - 1))) 141 51 (ji (wi h 141 38 (w32 ((ji h 141 38) - 1))) 141 49)) 141 38)))) 165 (Int.toNat (ji (wi (wi (wi h 141 38 (w32 ((ji h 141 38) - 1))) 141 51 (ji (wi h 141 38 (w32 ((ji h 141 38) - 1))) 141 49)) 141 50 (ji (wi (wi h 141 38 (w32 ((ji h 141 38) - 1))) 141 51 (ji (wi h 141 38 (w32 ((ji h 141 38) - 1))) 141 49)) 168 (Int.toNat (ji (wi (wi h 141 38 (w32 ((ji h 141 38) - 1))) 141 51 (ji (wi h 141 38 (w32 ((ji h 141 38) - 1))) 141 49)) 141 38)))) 141 38)))) 141 48 (ji (wi (wi (wi (wi h 141 38 (w32 ((ji h 141 38) - 1))) 141 51 (ji (wi h 141 38 (w32 ((ji h 141 38) - 1))) 141 49)) 141 50 (ji (wi (wi h 141 38 (w32 ((ji h 141 38) - 1))) 141 51 (ji (wi h 141 38 (w32 ((ji h 141 38) - 1))) 141 49)) 168 (Int.toNat (ji (wi (wi h 141 38 (w32 ((ji h 141 38) - 1))) 141 51 (ji (wi h 141 38 (w32 ((ji h 141 38) - 1))) 141 49)) 141 38)))) 141 47 (ji (wi (wi (wi h 141 38 (w32 ((ji h 141 38) - 1))) 141 51 (ji (wi h 141 38 (w32 ((ji h 141 38) - 1))) 141 49)) 141 50 (ji (wi (wi h 141 38 (w32 ((ji h 141 38) - 1))) 141 51 (ji (wi h 141 38 (w32 ((ji h 141 38) - 1))) 141 49)) 168 (Int.toNat (ji (wi (wi h 141 38 (w32 ((ji h 141 38) - 1))) 141 51 (ji (wi h 141 38 (w32 ((ji h 141 38) - 1))) 141 49)) 141 38)))) 165 (Int.toNat (ji (wi (wi (wi h 141 38 (w32 ((ji h 141 38) - 1))) 141 51 (ji (wi h 141 38 (w32 ((ji h 141 38) - 1))) 141 49)) 141 50 (ji (wi (wi h 141 38 (w32 ((ji h 141 38) - 1))) 141 51 (ji (wi h 141 38 (w32 ((ji h 141 38) - 1))) 141 49)) 168 (Int.toNat (ji (wi (wi h 141 38 (w32 ((ji h 141 38) - 1))) 141 51 (ji (wi h 141 38 (w32 ((ji h 141 38) - 1))) 141 49)) 141 38)))) 141 38)))) 166 (Int.toNat (ji (wi (wi (wi (wi h 141 38 (w32 ((ji h 141 38) - 1))) 141 51 (ji (wi h 141 38 (w32 ((ji h 141 38) - 1))) 141 49)) 141 50 (ji (wi (wi h 141 38 (w32 ((ji h 141 38) - 1))) 141 51 (ji (wi h 141 38 (w32 ((ji h 141 38) - 1))) 141 49)) 168 (Int.toNat (ji (wi (wi h 141 38 (w32 ((ji h 141 38) - 1))) 141 51 (ji (wi h 141 38 (w32 ((ji h 141 38) - 1))) 141 49)) 141 38)))) 141 47 (ji (wi (wi (wi h 141 38 (w32 ((ji h 141 38) - 1))) 141 51 (ji (wi h 141 38 (w32 ((ji h 141 38) - 1))) 141 49)) 141 50 (ji (wi (wi h 141 38 (w32 ((ji h 141 38) - 1))) 141 51 (ji (wi h 141 38 (w32 ((ji h 141 38) - 1))) 141 49)) 168 (Int.toNat (ji (wi (wi h 141 38 (w32 ((ji h 141 38) - 1))) 141 51 (ji (wi h 141 38 (w32 ((ji h 141 38) - 1))) 141 49)) 141 38)))) 165 (Int.toNat (ji (wi (wi (wi h 141 38 (w32 ((ji h 141 38) - 1))) 141 51 (ji (wi h 141 38 (w32 ((ji h 141 38) - 1))) 141 49)) 141 50 (ji (wi (wi h 141 38 (w32 ((ji h 141 38) - 1))) 141 51 (ji (wi h 141 38 (w32 ((ji h 141 38) - 1))) 141 49)) 168 (Int.toNat (ji (wi (wi h 141 38 (w32 ((ji h 141 38) - 1))) 141 51 (ji (wi h 141 38 (w32 ((ji h 141 38) - 1))) 141 49)) 141 38)))) 141 38)))) 141 38)))) 141 38)))) 169 (Int.toNat (ji (wi (wi (wi (wi (wi (wi h 141 38 (w32 ((ji h 141 38) - 1))) 141 51 (ji (wi h 141 38 (w32 ((ji h 141 38) - 1))) 141 49)) 141 50 (ji (wi (wi h 141 38 (w32 ((ji h 141 38) - 1))) 141 51 (ji (wi h 141 38 (w32 ((ji h 141 38) - 1))) 141 49)) 168 (Int.toNat (ji (wi (wi h 141 38 (w32 ((ji h 141 38) - 1))) 141 51 (ji (wi h 141 38 (w32 ((ji h 141 38) - 1))) 141 49)) 141 38)))) 141 47 (ji (wi (wi (wi h 141 38 (w32 ((ji h 141 38) - 1))) 141 51 (ji (wi h 141 38 (w32 ((ji h 141 38) - 1))) 141 49)) 141 50 (ji (wi (wi h 141 38 (w32 ((ji h 141 38) - 1))) 141 51 (ji (wi h 141 38 (w32 ((ji h 141 38) - 1))) 141 49)) 168 (Int.toNat (ji (wi (wi h 141 38 (w32 ((ji h 141 38) - 1))) 141 51 (ji (wi h 141 38 (w32 ((ji h 141 38) - 1))) 141 49)) 141 38)))) 165 (Int.toNat (ji (wi (wi (wi h 141 38 (w32 ((ji h 141 38) - 1))) 141 51 (ji (wi h 141 38 (w32 ((ji h 141 38) - 1))) 141 49)) 141 50 (ji (wi (wi h 141 38 (w32 ((ji h 141 38) - 1))) 141 51 (ji (wi h 141 38 (w32 ((ji h 141 38) - 1))) 141 49)) 168 (Int.toNat (ji (wi (wi h 141 38 (w32 ((ji h 141 38) - 1))) 141 51 (ji (wi h 141 38 (w32 ((ji h 141 38) - 1))) 141 49)) 141 38)))) 141 38)))) 141 48 (ji (wi (wi (wi (wi h 141 38 (w32 ((ji h 141 38) - 1))) 141 51 (ji (wi h 141 38 (w32 ((ji h 141 38) - 1))) 141 49)) 141 50 (ji (wi (wi h 141 38 (w32 ((ji h 141 38) - 1))) 141 51 (ji (wi h 141 38 (w32 ((ji h 141 38) - 1))) 141 49)) 168 (Int.toNat (ji (wi (wi h 141 38 (w32 ((ji h 141 38) - 1))) 141 51 (ji (wi h 141 38 (w32 ((ji h 141 38) - 1))) 141 49)) 141 38)))) 141 47 (ji (wi (wi (wi h 141 38 (w32 ((ji h 141 38) - 1))) 141 51 (ji (wi h 141 38 (w32 ((ji h 141 38) - 1))) 141 49)) 141 50 (ji (wi (wi h 141 38 (w32 ((ji h 141 38) - 1))) 141 51 (ji (wi h 141 38 (w32 ((ji h 141 38) - 1))) 141 49)) 168 (Int.toNat (ji (wi (wi h 141 38 (w32 ((ji h 141 38) - 1))) 141 51 (ji (wi h 141 38 (w32 ((ji h 141 38) - 1))) 141 49)) 141 38)))) 165 (Int.toNat (ji (wi (wi (wi h 141 38 (w32 ((ji h 141 38) - 1))) 141 51 (ji (wi h 141 38 (w32 ((ji h 141 38) - 1))) 141 49)) 141 50 (ji (wi (wi h 141 38 (w32 ((ji h 141 38) - 1))) 141 51 (ji (wi h 141 38 (w32 ((ji h 141 38) - 1))) 141 49)) 168 (Int.toNat (ji (wi (wi h 141 38 (w32 ((ji h 141 38) - 1))) 141 51 (ji (wi h 141 38 (w32 ((ji h 141 38) - 1))) 141 49)) 141 38)))) 141 38)))) 166 (Int.toNat (ji (wi (wi (wi (wi h 141 38 (w32 ((ji h 141 38) - 1))) 141 51 (ji (wi h 141 38 (w32 ((ji h 141 38) - 1))) 141 49)) 141 50 (ji (wi (wi h 141 38 (w32 ((ji h 141 38) - 1))) 141 51 (ji (wi h 141 38 (w32 ((ji h 141 38) - 1))) 141 49)) 168 (Int.toNat (ji (wi (wi h 141 38 (w32 ((ji h 141 38) - 1))) 141 51 (ji (wi h 141 38 (w32 ((ji h 141 38) - 1))) 141 49)) 141 38)))) 141 47 (ji (wi (wi (wi h 141 38 (w32 ((ji h 141 38) - 1))) 141 51 (ji (wi h 141 38 (w32 ((ji h 141 38) - 1))) 141 49)) 141 50 (ji (wi (wi h 141 38 (w32 ((ji h 141 38) - 1))) 141 51 (ji (wi h 141 38 (w32 ((ji h 141 38) - 1))) 141 49)) 168 (Int.toNat (ji (wi (wi h 141 38 (w32 ((ji h 141 38) - 1))) 141 51 (ji (wi h 141 38 (w32 ((ji h 141 38) - 1))) 141 49)) 141 38)))) 165 (Int.toNat (ji (wi (wi (wi h 141 38 (w32 ((ji h 141 38) - 1))) 141 51 (ji (wi h 141 38 (w32 ((ji h 141 38) - 1))) 141 49)) 141 50 (ji (wi (wi h 141 38 (w32 ((ji h 141 38) - 1))) 141 51 (ji (wi h 141 38 (w32 ((ji h 141 38) - 1))) 141 49)) 168 (Int.toNat (ji (wi (wi h 141 38 (w32 ((ji h 141 38) - 1))) 141 51 (ji (wi h 141 38 (w32 ((ji h 141 38) - 1))) 141 49)) 141 38)))) 141 38)))) 141 38)))) 141 49 (ji (wi (wi (wi (wi (wi h 141 38 (w32 ((ji h 141 38) - 1))) 141 51 (ji (wi h 141 38 (w32 ((ji h 141 38) - 1))) 141 49)) 141 50 (ji (wi (wi h 141 38 (w32 ((ji h 141 38) - 1))) 141 51 (ji (wi h 141 38 (w32 ((ji h 141 38) - 1))) 141 49)) 168 (Int.toNat (ji (wi (wi h 141 38 (w32 ((ji h 141 38) - 1))) 141 51 (ji (wi h 141 38 (w32 ((ji h 141 38) - 1))) 141 49)) 141 38)))) 141 47 (ji (wi (wi (wi h 141 38 (w32 ((ji h 141 38) - 1))) 141 51 (ji (wi h 141 38 (w32 ((ji h 141 38) - 1))) 141 49)) 141 50 (ji (wi (wi h 141 38 (w32 ((ji h 141 38) - 1))) 141 51 (ji (wi h 141 38 (w32 ((ji h 141 38) - 1))) 141 49)) 168 (Int.toNat (ji (wi (wi h 141 38 (w32 ((ji h 141 38) - 1))) 141 51 (ji (wi h 141 38 (w32 ((ji h 141 38) - 1))) 141 49)) 141 38)))) 165 (Int.toNat (ji (wi (wi (wi h 141 38 (w32 ((ji h 141 38) - 1))) 141 51 (ji (wi h 141 38 (w32 ((ji h 141 38) - 1))) 141 49)) 141 50 (ji (wi (wi h 141 38 (w32 ((ji h 141 38) - 1))) 141 51 (ji (wi h 141 38 (w32 ((ji h 141 38) - 1))) 141 49)) 168 (Int.toNat (ji (wi (wi h 141 38 (w32 ((ji h 141 38) - 1))) 141 51 (ji (wi h 141 38 (w32 ((ji h 141 38) - 1))) 141 49)) 141 38)))) 141 38)))) 141 48 (ji (wi (wi (wi (wi h 141 38 (w32 ((ji h 141 38) - 1))) 141 51 (ji (wi h 141 38 (w32 ((ji h 141 38) - 1))) 141 49)) 141 50 (ji (wi (wi h 141 38 (w32 ((ji h 141 38) - 1))) 141 51 (ji (wi h 141 38 (w32 ((ji h 141 38) - 1))) 141 49)) 168 (Int.toNat (ji (wi (wi h 141 38 (w32 ((ji h 141 38) - 1))) 141 51 (ji (wi h 141 38 (w32 ((ji h 141 38) - 1))) 141 49)) 141 38)))) 141 47 (ji (wi (wi (wi h 141 38 (w32 ((ji h 141 38) - 1))) 141 51 (ji (wi h 141 38 (w32 ((ji h 141 38) - 1))) 141 49)) 141 50 (ji (wi (wi h 141 38 (w32 ((ji h 141 38) - 1))) 141 51 (ji (wi h 141 38 (w32 ((ji h 141 38) - 1))) 141 49)) 168 (Int.toNat (ji (wi (wi h 141 38 (w32 ((ji h 141 38) - 1))) 141 51 (ji (wi h 141 38 (w32 ((ji h 141 38) - 1))) 141 49)) 141 38)))) 165 (Int.toNat (ji (wi (wi (wi h 141 38 (w32 ((ji h 141 38) - 1))) 141 51 (ji (wi h 141 38 (w32 ((ji h 141 38) - 1))) 141 49)) 141 50 (ji (wi (wi h 141 38 (w32 ((ji h 141 38) - 1))) 141 51 (ji (wi h 141 38 (w32 ((ji h 141 38) - 1))) 141 49)) 168 (Int.toNat (ji (wi (wi h 141 38 (w32 ((ji h 141 38) - 1))) 141 51 (ji (wi h 141 38 (w32 ((ji h 141 38) - 1))) 141 49)) 141 38)))) 141 38)))) 166 (Int.toNat (ji (wi (wi (wi (wi h 141 38 (w32 ((ji h 141 38) - 1))) 141 51 (ji (wi h 141 38 (w32 ((ji h 141 38) - 1))) 141 49)) 141 50 (ji (wi (wi h 141 38 (w32 ((ji h 141 38) - 1))) 141 51 (ji (wi h 141 38 (w32 ((ji h 141 38) - 1))) 141 49)) 168 (Int.toNat (ji (wi (wi h 141 38 (w32 ((ji h 141 38) - 1))) 141 51 (ji (wi h 141 38 (w32 ((ji h 141 38) - 1))) 141 49)) 141 38)))) 141 47 (ji (wi (wi (wi h 141 38 (w32 ((ji h 141 38) - 1))) 141 51 (ji (wi h 141 38 (w32 ((ji h 141 38) - 1))) 141 49)) 141 50 (ji (wi (wi h 141 38 (w32 ((ji h 141 38) - 1))) 141 51 (ji (wi h 141 38 (w32 ((ji h 141 38) - 1))) 141 49)) 168 (Int.toNat (ji (wi (wi h 141 38 (w32 ((ji h 141 38) - 1))) 141 51 (ji (wi h 141 38 (w32 ((ji h 141 38) - 1))) 141 49)) 141 38)))) 165 (Int.toNat (ji (wi (wi (wi h 141 38 (w32 ((ji h 141 38) - 1))) 141 51 (ji (wi h 141 38 (w32 ((ji h 141 38) - 1))) 141 49)) 141 50 (ji (wi (wi h 141 38 (w32 ((ji h 141 38) - 1))) 141 51 (ji (wi h 141 38 (w32 ((ji h 141 38) - 1))) 141 49)) 168 (Int.toNat (ji (wi (wi h 141 38 (w32 ((ji h 141 38) - 1))) 141 51 (ji (wi h 141 38 (w32 ((ji h 141 38) - 1))) 141 49)) 141 38)))) 141 38)))) 141 38)))) 167 (Int.toNat (ji (wi (wi (wi (wi (wi h 141 38 (w32 ((ji h 141 38) - 1))) 141 51 (ji (wi h 141 38 (w32 ((ji h 141 38) - 1))) 141 49)) 141 50 (ji (wi (wi h 141 38 (w32 ((ji h 141 38) - 1))) 141 51 (ji (wi h 141 38 (w32 ((ji h 141 38) - 1))) 141 49)) 168 (Int.toNat (ji (wi (wi h 141 38 (w32 ((ji h 141 38) - 1))) 141 51 (ji (wi h 141 38 (w32 ((ji h 141 38) - 1))) 141 49)) 141 38)))) 141 47 (ji (wi (wi (wi h 141 38 (w32 ((ji h 141 38) - 1))) 141 51 (ji (wi h 141 38 (w32 ((ji h 141 38) - 1))) 141 49)) 141 50 (ji (wi (wi h 141 38 (w32 ((ji h 141 38) - 1))) 141 51 (ji (wi h 141 38 (w32 ((ji h 141 38) - 1))) 141 49)) 168 (Int.toNat (ji (wi (wi h 141 38 (w32 ((ji h 141 38) - 1))) 141 51 (ji (wi h 141 38 (w32 ((ji h 141 38) - 1))) 141 49)) 141 38)))) 165 (Int.toNat (ji (wi (wi (wi h 141 38 (w32 ((ji h 141 38) - 1))) 141 51 (ji (wi h 141 38 (w32 ((ji h 141 38) - 1))) 141 49)) 141 50 (ji (wi (wi h 141 38 (w32 ((ji h 141 38) - 1))) 141 51 (ji (wi h 141 38 (w32 ((ji h 141 38) - 1))) 141 49)) 168 (Int.toNat (ji (wi (wi h 141 38 (w32 ((ji h 141 38) - 1))) 141 51 (ji (wi h 141 38 (w32 ((ji h 141 38) - 1))) 141 49)) 141 38)))) 141 38)))) 141 48 (ji (wi (wi (wi (wi h 141 38 (w32 ((ji h 141 38) - 1))) 141 51 (ji (wi h 141 38 (w32 ((ji h 141 38) - 1))) 141 49)) 141 50 (ji (wi (wi h 141 38 (w32 ((ji h 141 38) - 1))) 141 51 (ji (wi h 141 38 (w32 ((ji h 141 38) - 1))) 141 49)) 168 (Int.toNat (ji (wi (wi h 141 38 (w32 ((ji h 141 38) - 1))) 141 51 (ji (wi h 141 38 (w32 ((ji h 141 38) - 1))) 141 49)) 141 38)))) 141 47 (ji (wi (wi (wi h 141 38 (w32 ((ji h 141 38) - 1))) 141 51 (ji (wi h 141 38 (w32 ((ji h 141 38) - 1))) 141 49)) 141 50 (ji (wi (wi h 141 38 (w32 ((ji h 141 38) - 1))) 141 51 (ji (wi h 141 38 (w32 ((ji h 141 38) - 1))) 141 49)) 168 (Int.toNat (ji (wi (wi h 141 38 (w32 ((ji h 141 38) - 1))) 141 51 (ji (wi h 141 38 (w32 ((ji h 141 38) - 1))) 141 49)) 141 38)))) 165 (Int.toNat (ji (wi (wi (wi h 141 38 (w32 ((ji h 141 38) - 1))) 141 51 (ji (wi h 141 38 (w32 ((ji h 141 38) - 1))) 141 49)) 141 50 (ji (wi (wi h 141 38 (w32 ((ji h 141 38) - 1))) 141 51 (ji (wi h 141 38 (w32 ((ji h 141 38) - 1))) 141 49)) 168 (Int.toNat (ji (wi (wi h 141 38 (w32 ((ji h 141 38) - 1))) 141 51 (ji (wi h 141 38 (w32 ((ji h 141 38) - 1))) 141 49)) 141 38)))) 141 38)))) 166 (Int.toNat (ji (wi (wi (wi (wi h 141 38 (w32 ((ji h 141 38) - 1))) 141 51 (ji (wi h 141 38 (w32 ((ji h 141 38) - 1))) 141 49)) 141 50 (ji (wi (wi h 141 38 (w32 ((ji h 141 38) - 1))) 141 51 (ji (wi h 141 38 (w32 ((ji h 141 38) - 1))) 141 49)) 168 (Int.toNat (ji (wi (wi h 141 38 (w32 ((ji h 141 38) - 1))) 141 51 (ji (wi h 141 38 (w32 ((ji h 141 38) - 1))) 141 49)) 141 38)))) 141 47 (ji (wi (wi (wi h 141 38 (w32 ((ji h 141 38) - 1))) 141 51 (ji (wi h 141 38 (w32 ((ji h 141 38) - 1))) 141 49)) 141 50 (ji (wi (wi h 141 38 (w32 ((ji h 141 38) - 1))) 141 51 (ji (wi h 141 38 (w32 ((ji h 141 38) - 1))) 141 49)) 168 (Int.toNat (ji (wi (wi h 141 38 (w32 ((ji h 141 38) - 1))) 141 51 (ji (wi h 141 38 (w32 ((ji h 141 38) - 1))) 141 49)) 141 38)))) 165 (Int.toNat (ji (wi (wi (wi h 141 38 (w32 ((ji h 141 38) - 1))) 141 51 (ji (wi h 141 38 (w32 ((ji h 141 38) - 1))) 141 49)) 141 50 (ji (wi (wi h 141 38 (w32 ((ji h 141 38) - 1))) 141 51 (ji (wi h 141 38 (w32 ((ji h 141 38) - 1))) 141 49)) 168 (Int.toNat (ji (wi (wi h 141 38 (w32 ((ji h 141 38) - 1))) 141 51 (ji (wi h 141 38 (w32 ((ji h 141 38) - 1))) 141 49)) 141 38)))) 141 38)))) 141 38)))) 141 38)))) 141 38))) + 1)) + (jl (wi h 141 38 (w32 ((ji h 141 38) - 1))) 141 52))))
  · have H := H.2 c25
    refine ⟨(Ly.t141 L :), ?_⟩
    rw [show jr (wi h 141 38 (w32 ((ji h 141 38) - 1))) 141 45 = 170 from (Ly.r141_45 L :)]
    refine ⟨(Ly.t141 L :), ?_⟩
    obtain ⟨z16, z17, H⟩ := H
    refine ⟨inA_mk (N := 9) (Ly.t170 L :) (Ly.n170 L :) z16 z17, ?_⟩
    refine b_145_37 ?_
    refine ⟨(Ly.t141 L :), ?_⟩
    rw [show jr (wi h 141 38 (w32 ((ji h 141 38) - 1))) 141 46 = 171 from (Ly.r141_46 L :)]
    refine ⟨(Ly.t141 L :), ?_⟩
    obtain ⟨z18, z19, H⟩ := H
    refine ⟨inA_mk (N := 9) (Ly.t171 L :) (Ly.n171 L :) z18 z19, ?_⟩
    refine ⟨(Ly.t141 L :), ?_⟩
    obtain ⟨z20, z21, H⟩ := H
    refine ⟨_, m_136 (d := d) (by omega) (Ly.wi L (a := 141) (k := 38) (x := w32 ((ji h 141 38) - 1)) (by decide)) z20 z21, ?_⟩
    refine b_145_54 ?_
    refine ⟨(Ly.t141 L :), ?_⟩
    rw [show jr (wi (wi (wi (wi (wi (wi h 141 38 (w32 ((ji h 141 38) - 1))) 160 (Int.toNat (ji (wi h 141 38 (w32 ((ji h 141 38) - 1))) 141 33)) (10 : Int)) 161 (Int.toNat (ji (wi h 141 38 (w32 ((ji h 141 38) - 1))) 141 33)) (ji (wi h 141 38 (w32 ((ji h 141 38) - 1))) 171 (Int.toNat (ji (wi h 141 38 (w32 ((ji h 141 38) - 1))) 141 38)))) 162 (Int.toNat (ji (wi h 141 38 (w32 ((ji h 141 38) - 1))) 141 33)) (0 : Int)) 163 (Int.toNat (ji (wi h 141 38 (w32 ((ji h 141 38) - 1))) 141 33)) (0 : Int)) 141 33 ((ji (wi h 141 38 (w32 ((ji h 141 38) - 1))) 141 33) + 1)) 141 37 = 163 from (Ly.r141_37 L :)]
    refine ⟨(Ly.t141 L :), ?_⟩
    refine ⟨(Ly.t141 L :), ?_⟩
    obtain ⟨z23, z24, H⟩ := H
    refine ⟨inW_mk (N := 2000) (Ly.t163 L :) (Ly.n163 L :) z23 z24, ?_⟩
    refine b_145_69 ?_
    exact H (Ly.wi (Ly.wi (Ly.wi (Ly.wi (Ly.wi (Ly.wi (Ly.wi L (a := 141) (k := 38) (x := w32 ((ji h 141 38) - 1)) (by decide)) (a := 160) (k := Int.toNat (ji (wi h 141 38 (w32 ((ji h 141 38) - 1))) 141 33)) (x := 10) (by decide)) (a := 161) (k := Int.toNat (ji (wi h 141 38 (w32 ((ji h 141 38) - 1))) 141 33)) (x := ji (wi h 141 38 (w32 ((ji h 141 38) - 1))) 171 (Int.toNat (ji (wi h 141 38 (w32 ((ji h 141 38) - 1))) 141 38))) (by decide)) (a := 162) (k := Int.toNat (ji (wi h 141 38 (w32 ((ji h 141 38) - 1))) 141 33)) (x := 0) (by decide)) (a := 163) (k := Int.toNat (ji (wi h 141 38 (w32 ((ji h 141 38) - 1))) 141 33)) (x := 0) (by decide)) (a := 141) (k := 33) (x := (ji (wi h 141 38 (w32 ((ji h 141 38) - 1))) 141 33) + 1) (by decide)) (a := 163) (k := Int.toNat (w32 ((ji (wi (wi (wi (wi (wi (wi h 141 38 (w32 ((ji h 141 38) - 1))) 160 (Int.toNat (ji (wi h 141 38 (w32 ((ji h 141 38) - 1))) 141 33)) (10 : Int)) 161 (Int.toNat (ji (wi h 141 38 (w32 ((ji h 141 38) - 1))) 141 33)) (ji (wi h 141 38 (w32 ((ji h 141 38) - 1))) 171 (Int.toNat (ji (wi h 141 38 (w32 ((ji h 141 38) - 1))) 141 38)))) 162 (Int.toNat (ji (wi h 141 38 (w32 ((ji h 141 38) - 1))) 141 33)) (0 : Int)) 163 (Int.toNat (ji (wi h 141 38 (w32 ((ji h 141 38) - 1))) 141 33)) (0 : Int)) 141 33 ((ji (wi h 141 38 (w32 ((ji h 141 38) - 1))) 141 33) + 1)) 141 33) - 1))) (x := ji (wi (wi (wi (wi (wi (wi h 141 38 (w32 ((ji h 141 38) - 1))) 160 (Int.toNat (ji (wi h 141 38 (w32 ((ji h 141 38) - 1))) 141 33)) (10 : Int)) 161 (Int.toNat (ji (wi h 141 38 (w32 ((ji h 141 38) - 1))) 141 33)) (ji (wi h 141 38 (w32 ((ji h 141 38) - 1))) 171 (Int.toNat (ji (wi h 141 38 (w32 ((ji h 141 38) - 1))) 141 38)))) 162 (Int.toNat (ji (wi h 141 38 (w32 ((ji h 141 38) - 1))) 141 33)) (0 : Int)) 163 (Int.toNat (ji (wi h 141 38 (w32 ((ji h 141 38) - 1))) 141 33)) (0 : Int)) 141 33 ((ji (wi h 141 38 (w32 ((ji h 141 38) - 1))) 141 33) + 1)) 141 33) (by decide))
set_option maxRecDepth 100000 in
theorem c_145_72 {p : Lpar} {d : Nat} {h : AH} {Q : Option AV → AH → Prop} {v1 : Int} {v3 : Int} {v4 : Int} (hd : 9 ≤ d) (L : Ly p h) (H : ((ji h 141 30) ≤ v4 → 0 ≤ (w32 ((ji h 141 33) - 1)) ∧ (w32 ((ji h 141 33) - 1)) < 2000 ∧ ((ji h 141 49) = 0 ∨ (ji h 141 49) = 1) ∧ 0 ≤ (ji h 141 38) ∧ (ji h 141 38) < 9 ∧ 0 ≤ (ji h 141 38) ∧ (ji h 141 38) < 9 ∧ 0 ≤ (ji h 141 38) ∧ (ji h 141 38) < 9 ∧ ((ji h 166 (Int.toNat (ji h 141 38))) = 0 ∨ (ji h 166 (Int.toNat (ji h 141 38))) = 1) ∧ 0 ≤ (ji h 141 38) ∧ (ji h 141 38) < 9 ∧ ((ji h 167 (Int.toNat (ji h 141 38))) = 0 ∨ (ji h 167 (Int.toNat (ji h 141 38))) = 1) ∧ 0 ≤ (ji h 141 38) ∧ (ji h 141 38) < 9 ∧ (Ly p (wl (wi (wi (wi (wi (wi (wi (wi h 162 (Int.toNat (w32 ((ji h 141 33) - 1))) (w32 ((ji h 141 30) - v3))) 141 30 v3) 141 51 (ji h 141 49)) 141 50 (ji h 168 (Int.toNat (ji h 141 38)))) 141 47 (ji h 165 (Int.toNat (ji h 141 38)))) 141 48 (ji h 166 (Int.toNat (ji h 141 38)))) 141 49 (ji h 167 (Int.toNat (ji h 141 38)))) 141 52 (w64 ((w64 ((jl h 169 (Int.toNat (ji h 141 38))) + 1)) + v1))) → Q none (wl (wi (wi (wi (wi (wi (wi (wi h 162 (Int.toNat (w32 ((ji h 141 33) - 1))) (w32 ((ji h 141 30) - v3))) 141 30 v3) 141 51 (ji h 141 49)) 141 50 (ji h 168 (Int.toNat (ji h 141 38)))) 141 47 (ji h 165 (Int.toNat (ji h 141 38)))) 141 48 (ji h 166 (Int.toNat (ji h 141 38)))) 141 49 (ji h 167 (Int.toNat (ji h 141 38)))) 141 52 (w64 ((w64 ((jl h 169 (Int.toNat (ji h 141 38))) + 1)) + v1))))) ∧ (¬ ((ji h 141 30) ≤ v4) → 0 ≤ v4 ∧ v4 < 20 ∧ 0 ≤ (ji h 159 (Int.toNat v4)) ∧ (ji h 159 (Int.toNat v4)) < 6 ∧ WF d 145 72 [jP 141, jL (w64 (v1 * (ji h 145 (Int.toNat (ji h 159 (Int.toNat v4)))))), jU, jI v3, jI (w32 (v4 + 1))] [] h Q)) : WF d 145 72 [jP 141, jL v1, jU, jI v3, jI v4] [] h Q := by
  refine b_145_72 ?_
  refine ⟨(Ly.t141 L :), ?_⟩
  refine ⟨fun c20 => ?_, fun c20 => ?_⟩
  · have H := H.1 c20
    refine ⟨(Ly.t141 L :), ?_⟩
    rw [show jr h 141 36 = 162 from (Ly.r141_36 L :)]
    refine ⟨(Ly.t141 L :), ?_⟩
    refine ⟨(Ly.t141 L :), ?_⟩
    obtain ⟨z14, z15, H⟩ := H
    refine ⟨inW_mk (N := 2000) (Ly.t162 L :) (Ly.n162 L :) z14 z15, ?_⟩
    refine b_145_120 ?_
    refine ⟨(Ly.t141 L :), ?_⟩
    refine b_145_125 ?_
    refine ⟨(Ly.t141 L :), ?_⟩
    obtain ⟨z13, H⟩ := H
    refine ⟨z13, ?_⟩
    refine ⟨(Ly.t141 L :), ?_⟩
    refine b_145_133 ?_
    refine ⟨(Ly.t141 L :), ?_⟩
    rw [show jr (wi (wi (wi h 162 (Int.toNat (w32 ((ji h 141 33) - 1))) (w32 ((ji h 141 30) - v3))) 141 30 v3) 141 51 (ji (wi (wi h 162 (Int.toNat (w32 ((ji h 141 33) - 1))) (w32 ((ji h 141 30) - v3))) 141 30 v3) 141 49)) 141 43 = 168 from (Ly.r141_43 L :)]
    refine ⟨(Ly.t141 L :), ?_⟩
    obtain ⟨z1, z2, H⟩ := H
    refine ⟨inA_mk (N := 9) (Ly.t168 L :) (Ly.n168 L :) z1 z2, ?_⟩
    refine ⟨(Ly.t141 L :), ?_⟩
    refine b_145_146 ?_
    refine ⟨(Ly.t141 L :), ?_⟩
    rw [show jr (wi (wi (wi (wi h 162 (Int.toNat (w32 ((ji h 141 33) - 1))) (w32 ((ji h 141 30) - v3))) 141 30 v3) 141 51 (ji (wi (wi h 162 (Int.toNat (w32 ((ji h 141 33) - 1))) (w32 ((ji h 141 30) - v3))) 141 30 v3) 141 49)) 141 50 (ji (wi (wi (wi h 162 (Int.toNat (w32 ((ji h 141 33) - 1))) (w32 ((ji h 141 30) - v3))) 141 30 v3) 141 51 (ji (wi (wi h 162 (Int.toNat (w32 ((ji h 141 33) - 1))) (w32 ((ji h 141 30) - v3))) 141 30 v3) 141 49)) 168 (Int.toNat (ji (wi (wi (wi h 162 (Int.toNat (w32 ((ji h 141 33) - 1))) (w32 ((ji h 141 30) - v3))) 141 30 v3) 141 51 (ji (wi (wi h 162 (Int.toNat (w32 ((ji h 141 33) - 1))) (w32 ((ji h 141 30) - v3))) 141 30 v3) 141 49)) 141 38)))) 141 40 = 165 from (Ly.r141_40 L :)]
    refine ⟨(Ly.t141 L :), ?_⟩
    obtain ⟨z3, z4, H⟩ := H
    refine ⟨inA_mk (N := 9) (Ly.t165 L :) (Ly.n165 L :) z3 z4, ?_⟩
    refine ⟨(Ly.t141 L :), ?_⟩
    refine b_145_159 ?_
    refine ⟨(Ly.t141 L :), ?_⟩
    rw [show jr (wi (wi (wi (wi (wi h 162 (Int.toNat (w32 ((ji h 141 33) - 1))) (w32 ((ji h 141 30) - v3))) 141 30 v3) 141 51 (ji (wi (wi h 162 (Int.toNat (w32 ((ji h 141 33) - 1))) (w32 ((ji h 141 30) - v3))) 141 30 v3) 141 49)) 141 50 (ji (wi (wi (wi h 162 (Int.toNat (w32 ((ji h 141 33) - 1))) (w32 ((ji h 141 30) - v3))) 141 30 v3) 141 51 (ji (wi (wi h 162 (Int.toNat (w32 ((ji h 141 33) - 1))) (w32 ((ji h 141 30) - v3))) 141 30 v3) 141 49)) 168 (Int.toNat (ji (wi (wi (wi h 162 (Int.toNat (w32 ((ji h 141 33) - 1))) (w32 ((ji h 141 30) - v3))) 141 30 v3) 141 51 (ji (wi (wi h 162 (Int.toNat (w32 ((ji h 141 33) - 1))) (w32 ((ji h 141 30) - v3))) 141 30 v3) 141 49)) 141 38)))) 141 47 (ji (wi (wi (wi (wi h 162 (Int.toNat (w32 ((ji h 141 33) - 1))) (w32 ((ji h 141 30) - v3))) 141 30 v3) 141 51 (ji (wi (wi h 162 (Int.toNat (w32 ((ji h 141 33) - 1))) (w32 ((ji h 141 30) - v3))) 141 30 v3) 141 49)) 141 50 (ji (wi (wi (wi h 162 (Int.toNat (w32 ((ji h 141 33) - 1))) (w32 ((ji h 141 30) - v3))) 141 30 v3) 141 51 (ji (wi (wi h 162 (Int.toNat (w32 ((ji h 141 33) - 1))) (w32 ((ji h 141 30) - v3))) 141 30 v3) 141 49)) 168 (Int.toNat (ji (wi (wi (wi h 162 (Int.toNat (w32 ((ji h 141 33) - 1))) (w32 ((ji h 141 30) - v3))) 141 30 v3) 141 51 (ji (wi (wi h 162 (Int.toNat (w32 ((ji h 141 33) - 1))) (w32 ((ji h 141 30) - v3))) 141 30 v3) 141 49)) 141 38)))) 165 (Int.toNat (ji (wi (wi (wi (wi h 162 (Int.toNat (w32 ((ji h 141 33) - 1))) (w32 ((ji h 141 30) - v3))) 141 30 v3) 141 51 (ji (wi (wi h 162 (Int.toNat (w32 ((ji h 141 33) - 1))) (w32 ((ji h 141 30) - v3))) 141 30 v3) 141 49)) 141 50 (ji (wi (wi (wi h 162 (Int.toNat (w32 ((ji h 141 33) - 1))) (w32 ((ji h 141 30) - v3))) 141 30 v3) 141 51 (ji (wi (wi h 162 (Int.toNat (w32 ((ji h 141 33) - 1))) (w32 ((ji h 141 30) - v3))) 141 30 v3) 141 49)) 168 (Int.toNat (ji (wi (wi (wi h 162 (Int.toNat (w32 ((ji h 141 33) - 1))) (w32 ((ji h 141 30) - v3))) 141 30 v3) 141 51 (ji (wi (wi h 162 (Int.toNat (w32 ((ji h 141 33) - 1))) (w32 ((ji h 141 30) - v3))) 141 30 v3) 141 49)) 141 38)))) 141 38)))) 141 41 = 166 from (Ly.r141_41 L :)]
    refine ⟨(Ly.t141 L :), ?_⟩
    obtain ⟨z5, z6, H⟩ := H
    refine ⟨Or.inr (inA_mk (N := 9) (Ly.t166 L :) (Ly.n166 L :) z5 z6), ?_⟩
    obtain ⟨z12, H⟩ := H
    refine ⟨z12, ?_⟩
    refine ⟨(Ly.t141 L :), ?_⟩
    refine b_145_172 ?_
    refine ⟨(Ly.t141 L :), ?_⟩
    rw [show jr (wi (wi (wi (wi (wi (wi h 162 (Int.toNat (w32 ((ji h 141 33) - 1))) (w32 ((ji h 141 30) - v3))) 141 30 v3) 141 51 (ji (wi (wi h 162 (Int.toNat (w32 ((ji h 141 33) - 1))) (w32 ((ji h 141 30) - v3))) 141 30 v3) 141 49)) 141 50 (ji (wi (wi (wi h 162 (Int.toNat (w32 ((ji h 141 33) - 1))) (w32 ((ji h 141 30) - v3))) 141 30 v3) 141 51 (ji (wi (wi h 162 (Int.toNat (w32 ((ji h 141 33) - 1))) (w32 ((ji h 141 30) - v3))) 141 30 v3) 141 49)) 168 (Int.toNat (ji (wi (wi (wi h 162 (Int.toNat (w32 ((ji h 141 33) - 1))) (w32 ((ji h 141 30) - v3))) 141 30 v3) 141 51 (ji (wi (wi h 162 (Int.toNat (w32 ((ji h 141 33) - 1))) (w32 ((ji h 141 30) - v3))) 141 30 v3) 141 49)) 141 38)))) 141 47 (ji (wi (wi (wi (wi h 162 (Int.toNat (w32 ((ji h 141 33) - 1))) (w32 ((ji h 141 30) - v3))) 141 30 v3) 141 51 (ji (wi (wi h 162 (Int.toNat (w32 ((ji h 141 33) - 1))) (w32 ((ji h 141 30) - v3))) 141 30 v3) 141 49)) 141 50 (ji (wi (wi (wi h 162 (Int.toNat (w32 ((ji h 141 33) - 1))) (w32 ((ji h 141 30) - v3))) 141 30 v3) 141 51 (ji (wi (wi h 162 (Int.toNat (w32 ((ji h 141 33) - 1))) (w32 ((ji h 141 30) - v3))) 141 30 v3) 141 49)) 168 (Int.toNat (ji (wi (wi (wi h 162 (Int.toNat (w32 ((ji h 141 33) - 1))) (w32 ((ji h 141 30) - v3))) 141 30 v3) 141 51 (ji (wi (wi h 162 (Int.toNat (w32 ((ji h 141 33) - 1))) (w32 ((ji h 141 30) - v3))) 141 30 v3) 141 49)) 141 38)))) 165 (Int.toNat (ji (wi (wi (wi (wi h 162 (Int.toNat (w32 ((ji h 141 33) - 1))) (w32 ((ji h 141 30) - v3))) 141 30 v3) 141 51 (ji (wi (wi h 162 (Int.toNat (w32 ((ji h 141 33) - 1))) (w32 ((ji h 141 30) - v3))) 141 30 v3) 141 49)) 141 50 (ji (wi (wi (wi h 162 (Int.toNat (w32 ((ji h 141 33) - 1))) (w32 ((ji h 141 30) - v3))) 141 30 v3) 141 51 (ji (wi (wi h 162 (Int.toNat (w32 ((ji h 141 33) - 1))) (w32 ((ji h 141 30) - v3))) 141 30 v3) 141 49)) 168 (Int.toNat (ji (wi (wi (wi h 162 (Int.toNat (w32 ((ji h 141 33) - 1))) (w32 ((ji h 141 30) - v3))) 141 30 v3) 141 51 (ji (wi (wi h 162 (Int.toNat (w32 ((ji h 141 33) - 1))) (w32 ((ji h 141 30) - v3))) 141 30 v3) 141 49)) 141 38)))) 141 38)))) 141 48 (ji (wi (wi (wi (wi (wi h 162 (Int.toNat (w32 ((ji h 141 33) - 1))) (w32 ((ji h 141 30) - v3))) 141 30 v3) 141 51 (ji (wi (wi h 162 (Int.toNat (w32 ((ji h 141 33) - 1))) (w32 ((ji h 141 30) - v3))) 141 30 v3) 141 49)) 141 50 (ji (wi (wi (wi h 162 (Int.toNat (w32 ((ji h 141 33) - 1))) (w32 ((ji h 141 30) - v3))) 141 30 v3) 141 51 (ji (wi (wi h 162 (Int.toNat (w32 ((ji h 141 33) - 1))) (w32 ((ji h 141 30) - v3))) 141 30 v3) 141 49)) 168 (Int.toNat (ji (wi (wi (wi h 162 (Int.toNat (w32 ((ji h 141 33) - 1))) (w32 ((ji h 141 30) - v3))) 141 30 v3) 141 51 (ji (wi (wi h 162 (Int.toNat (w32 ((ji h 141 33) - 1))) (w32 ((ji h 141 30) - v3))) 141 30 v3) 141 49)) 141 38)))) 141 47 (ji (wi (wi (wi (wi h 162 (Int.toNat (w32 ((ji h 141 33) - 1))) (w32 ((ji h 141 30) - v3))) 141 30 v3) 141 51 (ji (wi (wi h 162 (Int.toNat (w32 ((ji h 141 33) - 1))) (w32 ((ji h 141 30) - v3))) 141 30 v3) 141 49)) 141 50 (ji (wi (wi (wi h 162 (Int.toNat (w32 ((ji h 141 33) - 1))) (w32 ((ji h 141 30) - v3))) 141 30 v3) 141 51 (ji (wi (wi h 162 (Int.toNat (w32 ((ji h 141 33) - 1))) (w32 ((ji h 141 30) - v3))) 141 30 v3) 141 49)) 168 (Int.toNat (ji (wi (wi (wi h 162 (Int.toNat (w32 ((ji h 141 33) - 1))) (w32 ((ji h 141 30) - v3))) 141 30 v3) 141 51 (ji (wi (wi h 162 (Int.toNat (w32 ((ji h 141 33) - 1))) (w32 ((ji h 141 30) - v3))) 141 30 v3) 141 49)) 141 38)))) 165 (Int.toNat (ji (wi (wi (wi (wi h 162 (Int.toNat (w32 ((ji h 141 33) - 1))) (w32 ((ji h 141 30) - v3))) 141 30 v3) 141 51 (ji (wi (wi h 162 (Int.toNat (w32 ((ji h 141 33) - 1))) (w32 ((ji h 141 30) - v3))) 141 30 v3) 141 49)) 141 50 (ji (wi (wi (wi h 162 (Int.toNat (w32 ((ji h 141 33) - 1))) (w32 ((ji h 141 30) - v3))) 141 30 v3) 141 51 (ji (wi (wi h 162 (Int.toNat (w32 ((ji h 141 33) - 1))) (w32 ((ji h 141 30) - v3))) 141 30 v3) 141 49)) 168 (Int.toNat (ji (wi (wi (wi h 162 (Int.toNat (w32 ((ji h 141 33) - 1))) (w32 ((ji h 141 30) - v3))) 141 30 v3) 141 51 (ji (wi (wi h 162 (Int.toNat (w32 ((ji h 141 33) - 1))) (w32 ((ji h 141 30) - v3))) 141 30 v3) 141 49)) 141 38)))) 141 38)))) 166 (Int.toNat (ji (wi (wi (wi (wi (wi h 162 (Int.toNat (w32 ((ji h 141 33) - 1))) (w32 ((ji h 141 30) - v3))) 141 30 v3) 141 51 (ji (wi (wi h 162 (Int.toNat (w32 ((ji h 141 33) - 1))) (w32 ((ji h 141 30) - v3))) 141 30 v3) 141 49)) 141 50 (ji (wi (wi (wi h 162 (Int.toNat (w32 ((ji h 141 33) - 1))) (w32 ((ji h 141 30) - v3))) 141 30 v3) 141 51 (ji (wi (wi h 162 (Int.toNat (w32 ((ji h 141 33) - 1))) (w32 ((ji h 141 30) - v3))) 141 30 v3) 141 49)) 168 (Int.toNat (ji (wi (wi (wi h 162 (Int.toNat (w32 ((ji h 141 33) - 1))) (w32 ((ji h 141 30) - v3))) 141 30 v3) 141 51 (ji (wi (wi h 162 (Int.toNat (w32 ((ji h 141 33) - 1))) (w32 ((ji h 141 30) - v3))) 141 30 v3) 141 49)) 141 38)))) 141 47 (ji (wi (wi (wi (wi h 162 (Int.toNat (w32 ((ji h 141 33) - 1))) (w32 ((ji h 141 30) - v3))) 141 30 v3) 141 51 (ji (wi (wi h 162 (Int.toNat (w32 ((ji h 141 33) - 1))) (w32 ((ji h 141 30) - v3))) 141 30 v3) 141 49)) 141 50 (ji (wi (wi (wi h 162 (Int.toNat (w32 ((ji h 141 33) - 1))) (w32 ((ji h 141 30) - v3))) 141 30 v3) 141 51 (ji (wi (wi h 162 (Int.toNat (w32 ((ji h 141 33) - 1))) (w32 ((ji h 141 30) - v3))) 141 30 v3) 141 49)) 168 (Int.toNat (ji (wi (wi (wi h 162 (Int.toNat (w32 ((ji h 141 33) - 1))) (w32 ((ji h 141 30) - v3))) 141 30 v3) 141 51 (ji (wi (wi h 162 (Int.toNat (w32 ((ji h 141 33) - 1))) (w32 ((ji h 141 30) - v3))) 141 30 v3) 141 49)) 141 38)))) 165 (Int.toNat (ji (wi (wi (wi (wi h 162 (Int.toNat (w32 ((ji h 141 33) - 1))) (w32 ((ji h 141 30) - v3))) 141 30 v3) 141 51 (ji (wi (wi h 162 (Int.toNat (w32 ((ji h 141 33) - 1))) (w32 ((ji h 141 30) - v3))) 141 30 v3) 141 49)) 141 50 (ji (wi (wi (wi h 162 (Int.toNat (w32 ((ji h 141 33) - 1))) (w32 ((ji h 141 30) - v3))) 141 30 v3) 141 51 (ji (wi (wi h 162 (Int.toNat (w32 ((ji h 141 33) - 1))) (w32 ((ji h 141 30) - v3))) 141 30 v3) 141 49)) 168 (Int.toNat (ji (wi (wi (wi h 162 (Int.toNat (w32 ((ji h 141 33) - 1))) (w32 ((ji h 141 30) - v3))) 141 30 v3) 141 51 (ji (wi (wi h 162 (Int.toNat (w32 ((ji h 141 33) - 1))) (w32 ((ji h 141 30) - v3))) 141 30 v3) 141 49)) 141 38)))) 141 38)))) 141 38)))) 141 42 = 167 from (Ly.r141_42 L :)]
    refine ⟨(Ly.t141 L :), ?_⟩
    obtain ⟨z7, z8, H⟩ := H
    refine ⟨Or.inr (inA_mk (N := 9) (Ly.t167 L :) (Ly.n167 L :) z7 z8), ?_⟩
    obtain ⟨z11, H⟩ := H
    refine ⟨z11, ?_⟩
    refine ⟨(Ly.t141 L :), ?_⟩
    refine b_145_185 ?_
    refine ⟨(Ly.t141 L :), ?_⟩
    rw [show jr (wi (wi (wi (wi (wi (wi (wi h 162 (Int.toNat (w32 ((ji h 141 33) - 1))) (w32 ((ji h 141 30) - v3))) 141 30 v3) 141 51 (ji (wi (wi h 162 (Int.toNat (w32 ((ji h 141 33) - 1))) (w32 ((ji h 141 30) - v3))) 141 30 v3) 141 49)) 141 50 (ji (wi (wi (wi h 162 (Int.toNat (w32 ((ji h 141 33) - 1))) (w32 ((ji h 141 30) - v3))) 141 30 v3) 141 51 (ji (wi (wi h 162 (Int.toNat (w32 ((ji h 141 33) - 1))) (w32 ((ji h 141 30) - v3))) 141 30 v3) 141 49)) 168 (Int.toNat (ji (wi (wi (wi h 162 (Int.toNat (w32 ((ji h 141 33) - 1))) (w32 ((ji h 141 30) - v3))) 141 30 v3) 141 51 (ji (wi (wi h 162 (Int.toNat (w32 ((ji h 141 33) - 1))) (w32 ((ji h 141 30) - v3))) 141 30 v3) 141 49)) 141 38)))) 141 47 (ji (wi (wi (wi (wi h 162 (Int.toNat (w32 ((ji h 141 33) - 1))) (w32 ((ji h 141 30) - v3))) 141 30 v3) 141 51 (ji (wi (wi h 162 (Int.toNat (w32 ((ji h 141 33) - 1))) (w32 ((ji h 141 30) - v3))) 141 30 v3) 141 49)) 141 50 (ji (wi (wi (wi h 162 (Int.toNat (w32 ((ji h 141 33) - 1))) (w32 ((ji h 141 30) - v3))) 141 30 v3) 141 51 (ji (wi (wi h 162 (Int.toNat (w32 ((ji h 141 33) - 1))) (w32 ((ji h 141 30) - v3))) 141 30 v3) 141 49)) 168 (Int.toNat (ji (wi (wi (wi h 162 (Int.toNat (w32 ((ji h 141 33) - 1))) (w32 ((ji h 141 30) - v3))) 141 30 v3) 141 51 (ji (wi (wi h 162 (Int.toNat (w32 ((ji h 141 33) - 1))) (w32 ((ji h 141 30) - v3))) 141 30 v3) 141 49)) 141 38)))) 165 (Int.toNat (ji (wi (wi (wi (wi h 162 (Int.toNat (w32 ((ji h 141 33) - 1))) (w32 ((ji h 141 30) - v3))) 141 30 v3) 141 51 (ji (wi (wi h 162 (Int.toNat (w32 ((ji h 141 33) - 1))) (w32 ((ji h 141 30) - v3))) 141 30 v3) 141 49)) 141 50 (ji (wi (wi (wi h 162 (Int.toNat (w32 ((ji h 141 33) - 1))) (w32 ((ji h 141 30) - v3))) 141 30 v3) 141 51 (ji (wi (wi h 162 (Int.toNat (w32 ((ji h 141 33) - 1))) (w32 ((ji h 141 30) - v3))) 141 30 v3) 141 49)) 168 (Int.toNat (ji (wi (wi (wi h 162 (Int.toNat (w32 ((ji h 141 33) - 1))) (w32 ((ji h 141 30) - v3))) 141 30 v3) 141 51 (ji (wi (wi h 162 (Int.toNat (w32 ((ji h 141 33) - 1))) (w32 ((ji h 141 30) - v3))) 141 30 v3) 141 49)) 141 38)))) 141 38)))) 141 48 (ji (wi (wi (wi (wi (wi h 162 (Int.toNat (w32 ((ji h 141 33) - 1))) (w32 ((ji h 141 30) - v3))) 141 30 v3) 141 51 (ji (wi (wi h 162 (Int.toNat (w32 ((ji h 141 33) - 1))) (w32 ((ji h 141 30) - v3))) 141 30 v3) 141 49)) 141 50 (ji (wi (wi (wi h 162 (Int.toNat (w32 ((ji h 141 33) - 1))) (w32 ((ji h 141 30) - v3))) 141 30 v3) 141 51 (ji (wi (wi h 162 (Int.toNat (w32 ((ji h 141 33) - 1))) (w32 ((ji h 141 30) - v3))) 141 30 v3) 141 49)) 168 (Int.toNat (ji (wi (wi (wi h 162 (Int.toNat (w32 ((ji h 141 33) - 1))) (w32 ((ji h 141 30) - v3))) 141 30 v3) 141 51 (ji (wi (wi h 162 (Int.toNat (w32 ((ji h 141 33) - 1))) (w32 ((ji h 141 30) - v3))) 141 30 v3) 141 49)) 141 38)))) 141 47 (ji (wi (wi (wi (wi h 162 (Int.toNat (w32 ((ji h 141 33) - 1))) (w32 ((ji h 141 30) - v3))) 141 30 v3) 141 51 (ji (wi (wi h 162 (Int.toNat (w32 ((ji h 141 33) - 1))) (w32 ((ji h 141 30) - v3))) 141 30 v3) 141 49)) 141 50 (ji (wi (wi (wi h 162 (Int.toNat (w32 ((ji h 141 33) - 1))) (w32 ((ji h 141 30) - v3))) 141 30 v3) 141 51 (ji (wi (wi h 162 (Int.toNat (w32 ((ji h 141 33) - 1))) (w32 ((ji h 141 30) - v3))) 141 30 v3) 141 49)) 168 (Int.toNat (ji (wi (wi (wi h 162 (Int.toNat (w32 ((ji h 141 33) - 1))) (w32 ((ji h 141 30) - v3))) 141 30 v3) 141 51 (ji (wi (wi h 162 (Int.toNat (w32 ((ji h 141 33) - 1))) (w32 ((ji h 141 30) - v3))) 141 30 v3) 141 49)) 141 38)))) 165 (Int.toNat (ji (wi (wi (wi (wi h 162 (Int.toNat (w32 ((ji h 141 33) - 1))) (w32 ((ji h 141 30) - v3))) 141 30 v3) 141 51 (ji (wi (wi h 162 (Int.toNat (w32 ((ji h 141 33) - 1))) (w32 ((ji h 141 30) - v3))) 141 30 v3) 141 49)) 141 50 (ji (wi (wi (wi h 162 (Int.toNat (w32 ((ji h 141 33) - 1))) (w32 ((ji h 141 30) - v3))) 141 30 v3) 141 51 (ji (wi (wi h 162 (Int.toNat (w32 ((ji h 141 33) - 1))) (w32 ((ji h 141 30) - v3))) 141 30 v3) 141 49)) 168 (Int.toNat (ji (wi (wi (wi h 162 (Int.toNat (w32 ((ji h 141 33) - 1))) (w32 ((ji h 141 30) - v3))) 141 30 v3) 141 51 (ji (wi (wi h 162 (Int.toNat (w32 ((ji h 141 33) - 1))) (w32 ((ji h 141 30) - v3))) 141 30 v3) 141 49)) 141 38)))) 141 38)))) 166 (Int.toNat (ji (wi (wi (wi (wi (wi h 162 (Int.toNat (w32 ((ji h 141 33) - 1))) (w32 ((ji h 141 30) - v3))) 141 30 v3) 141 51 (ji (wi (wi h 162 (Int.toNat (w32 ((ji h 141 33) - 1))) (w32 ((ji h 141 30) - v3))) 141 30 v3) 141 49)) 141 50 (ji (wi (wi (wi h 162 (Int.toNat (w32 ((ji h 141 33) - 1))) (w32 ((ji h 141 30) - v3))) 141 30 v3) 141 51 (ji (wi (wi h 162 (Int.toNat (w32 ((ji h 141 33) - 1))) (w32 ((ji h 141 30) - v3))) 141 30 v3) 141 49)) 168 (Int.toNat (ji (wi (wi (wi h 162 (Int.toNat (w32 ((ji h 141 33) - 1))) (w32 ((ji h 141 30) - v3))) 141 30 v3) 141 51 (ji (wi (wi h 162 (Int.toNat (w32 ((ji h 141 33) - 1))) (w32 ((ji h 141 30) - v3))) 141 30 v3) 141 49)) 141 38)))) 141 47 (ji (wi (wi (wi (wi h 162 (Int.toNat (w32 ((ji h 141 33) - 1))) (w32 ((ji h 141 30) - v3))) 141 30 v3) 141 51 (ji (wi (wi h 162 (Int.toNat (w32 ((ji h 141 33) - 1))) (w32 ((ji h 141 30) - v3))) 141 30 v3) 141 49)) 141 50 (ji (wi (wi (wi h 162 (Int.toNat (w32 ((ji h 141 33) - 1))) (w32 ((ji h 141 30) - v3))) 141 30 v3) 141 51 (ji (wi (wi h 162 (Int.toNat (w32 ((ji h 141 33) - 1))) (w32 ((ji h 141 30) - v3))) 141 30 v3) 141 49)) 168 (Int.toNat (ji (wi (wi (wi h 162 (Int.toNat (w32 ((ji h 141 33) - 1))) (w32 ((ji h 141 30) - v3))) 141 30 v3) 141 51 (ji (wi (wi h 162 (Int.toNat (w32 ((ji h 141 33) - 1))) (w32 ((ji h 141 30) - v3))) 141 30 v3) 141 49)) 141 38)))) 165 (Int.toNat (ji (wi (wi (wi (wi h 162 (Int.toNat (w32 ((ji h 141 33) - 1))) (w32 ((ji h 141 30) - v3))) 141 30 v3) 141 51 (ji (wi (wi h 162 (Int.toNat (w32 ((ji h 141 33) - 1))) (w32 ((ji h 141 30) - v3))) 141 30 v3) 141 49)) 141 50 (ji (wi (wi (wi h 162 (Int.toNat (w32 ((ji h 141 33) - 1))) (w32 ((ji h 141 30) - v3))) 141 30 v3) 141 51 (ji (wi (wi h 162 (Int.toNat (w32 ((ji h 141 33) - 1))) (w32 ((ji h 141 30) - v3))) 141 30 v3) 141 49)) 168 (Int.toNat (ji (wi (wi (wi h 162 (Int.toNat (w32 ((ji h 141 33) - 1))) (w32 ((ji h 141 30) - v3))) 141 30 v3) 141 51 (ji (wi (wi h 162 (Int.toNat (w32 ((ji h 141 33) - 1))) (w32 ((ji h 141 30) - v3))) 141 30 v3) 141 49)) 141 38)))) 141 38)))) 141 38)))) 141 49 (ji (wi (wi (wi (wi (wi (wi h 162 (Int.toNat (w32 ((ji h 141 33) - 1))) (w32 ((ji h 141 30) - v3))) 141 30 v3) 141 51 (ji (wi (wi h 162 (Int.toNat (w32 ((ji h 141 33) - 1))) (w32 ((ji h 141 30) - v3))) 141 30 v3) 141 49)) 141 50 (ji (wi (wi (wi h 162 (Int.toNat (w32 ((ji h 141 33) - 1))) (w32 ((ji h 141 30) - v3))) 141 30 v3) 141 51 (ji (wi (wi h 162 (Int.toNat (w32 ((ji h 141 33) - 1))) (w32 ((ji h 141 30) - v3))) 141 30 v3) 141 49)) 168 (Int.toNat (ji (wi (wi (wi h 162 (Int.toNat (w32 ((ji h 141 33) - 1))) (w32 ((ji h 141 30) - v3))) 141 30 v3) 141 51 (ji (wi (wi h 162 (Int.toNat (w32 ((ji h 141 33) - 1))) (w32 ((ji h 141 30) - v3))) 141 30 v3) 141 49)) 141 38)))) 141 47 (ji (wi (wi (wi (wi h 162 (Int.toNat (w32 ((ji h 141 33) - 1))) (w32 ((ji h 141 30) - v3))) 141 30 v3) 141 51 (ji (wi (wi h 162 (Int.toNat (w32 ((ji h 141 33) - 1))) (w32 ((ji h 141 30) - v3))) 141 30 v3) 141 49)) 141 50 (ji (wi (wi (wi h 162 (Int.toNat (w32 ((ji h 141 33) - 1))) (w32 ((ji h 141 30) - v3))) 141 30 v3) 141 51 (ji (wi (wi h 162 (Int.toNat (w32 ((ji h 141 33) - 1))) (w32 ((ji h 141 30) - v3))) 141 30 v3) 141 49)) 168 (Int.toNat (ji (wi (wi (wi h 162 (Int.toNat (w32 ((ji h 141 33) - 1))) (w32 ((ji h 141 30) - v3))) 141 30 v3) 141 51 (ji (wi (wi h 162 (Int.toNat (w32 ((ji h 141 33) - 1))) (w32 ((ji h 141 30) - v3))) 141 30 v3) 141 49)) 141 38)))) 165 (Int.toNat (ji (wi (wi (wi (wi h 162 (Int.toNat (w32 ((ji h 141 33) - 1))) (w32 ((ji h 141 30) - v3))) 141 30 v3) 141 51 (ji (wi (wi h 162 (Int.toNat (w32 ((ji h 141 33) - 1))) (w32 ((ji h 141 30) - v3))) 141 30 v3) 141 49)) 141 50 (ji (wi (wi (wi h 162 (Int.toNat (w32 ((ji h 141 33) - 1))) (w32 ((ji h 141 30) - v3))) 141 30 v3) 141 51 (ji (wi (wi h 162 (Int.toNat (w32 ((ji h 141 33) - 1))) (w32 ((ji h 141 30) - v3))) 141 30 v3) 141 49)) 168 (Int.toNat (ji (wi (wi (wi h 162 (Int.toNat (w32 ((ji h 141 33) - 1))) (w32 ((ji h 141 30) - v3))) 141 30 v3) 141 51 (ji (wi (wi h 162 (Int.toNat (w32 ((ji h 141 33) - 1))) (w32 ((ji h 141 30) - v3))) 141 30 v3) 141 49)) 141 38)))) 141 38)))) 141 48 (ji (wi (wi (wi (wi (wi h 162 (Int.toNat (w32 ((ji h 141 33) - 1))) (w32 ((ji h 141 30) - v3))) 141 30 v3) 141 51 (ji (wi (wi h 162 (Int.toNat (w32 ((ji h 141 33) - 1))) (w32 ((ji h 141 30) - v3))) 141 30 v3) 141 49)) 141 50 (ji (wi (wi (wi h 162 (Int.toNat (w32 ((ji h 141 33) - 1))) (w32 ((ji h 141 30) - v3))) 141 30 v3) 141 51 (ji (wi (wi h 162 (Int.toNat (w32 ((ji h 141 33) - 1))) (w32 ((ji h 141 30) - v3))) 141 30 v3) 141 49)) 168 (Int.toNat (ji (wi (wi (wi h 162 (Int.toNat (w32 ((ji h 141 33) - 1))) (w32 ((ji h 141 30) - v3))) 141 30 v3) 141 51 (ji (wi (wi h 162 (Int.toNat (w32 ((ji h 141 33) - 1))) (w32 ((ji h 141 30) - v3))) 141 30 v3) 141 49)) 141 38)))) 141 47 (ji (wi (wi (wi (wi h 162 (Int.toNat (w32 ((ji h 141 33) - 1))) (w32 ((ji h 141 30) - v3))) 141 30 v3) 141 51 (ji (wi (wi h 162 (Int.toNat (w32 ((ji h 141 33) - 1))) (w32 ((ji h 141 30) - v3))) 141 30 v3) 141 49)) 141 50 (ji (wi (wi (wi h 162 (Int.toNat (w32 ((ji h 141 33) - 1))) (w32 ((ji h 141 30) - v3))) 141 30 v3) 141 51 (ji (wi (wi h 162 (Int.toNat (w32 ((ji h 141 33) - 1))) (w32 ((ji h 141 30) - v3))) 141 30 v3) 141 49)) 168 (Int.toNat (ji (wi (wi (wi h 162 (Int.toNat (w32 ((ji h 141 33) - 1))) (w32 ((ji h 141 30) - v3))) 141 30 v3) 141 51 (ji (wi (wi h 162 (Int.toNat (w32 ((ji h 141 33) - 1))) (w32 ((ji h 141 30) - v3))) 141 30 v3) 141 49)) 141 38)))) 165 (Int.toNat (ji (wi (wi (wi (wi h 162 (Int.toNat (w32 ((ji h 141 33) - 1))) (w32 ((ji h 141 30) - v3))) 141 30 v3) 141 51 (ji (wi (wi h 162 (Int.toNat (w32 ((ji h 141 33) - 1))) (w32 ((ji h 141 30) - v3))) 141 30 v3) 141 49)) 141 50 (ji (wi (wi (wi h 162 (Int.toNat (w32 ((ji h 141 33) - 1))) (w32 ((ji h 141 30) - v3))) 141 30 v3) 141 51 (ji (wi (wi h 162 (Int.toNat (w32 ((ji h 141 33) - 1))) (w32 ((ji h 141 30) - v3))) 141 30 v3) 141 49)) 168 (Int.toNat (ji (wi (wi (wi h 162 (Int.toNat (w32 ((ji h 141 33) - 1))) (w32 ((ji h 141 30) - v3))) 141 30 v3) 141 51 (ji (wi (wi h 162 (Int.toNat (w32 ((ji h 141 33) - 1))) (w32 ((ji h 141 30) - v3))) 141 30 v3) 141 49)) 141 38)))) 141 38)))) 166 (Int.toNat (ji (wi (wi (wi (wi (wi h 162 (Int.toNat (w32 ((ji h 141 33) - 1))) (w32 ((ji h 141 30) - v3))) 141 30 v3) 141 51 (ji (wi (wi h 162 (Int.toNat (w32 ((ji h 141 33) - 1))) (w32 ((ji h 141 30) - v3))) 141 30 v3) 141 49)) 141 50 (ji (wi (wi (wi h 162 (Int.toNat (w32 ((ji h 141 33) - 1))) (w32 ((ji h 141 30) - v3))) 141 30 v3) 141 51 (ji (wi (wi h 162 (Int.toNat (w32 ((ji h 141 33) - 1))) (w32 ((ji h 141 30) - v3))) 141 30 v3) 141 49)) 168 (Int.toNat (ji (wi (wi (wi h 162 (Int.toNat (w32 ((ji h 141 33) - 1))) (w32 ((ji h 141 30) - v3))) 141 30 v3) 141 51 (ji (wi (wi h 162 (Int.toNat (w32 ((ji h 141 33) - 1))) (w32 ((ji h 141 30) - v3))) 141 30 v3) 141 49)) 141 38)))) 141 47 (ji (wi (wi (wi (wi h 162 (Int.toNat (w32 ((ji h 141 33) - 1))) (w32 ((ji h 141 30) - v3))) 141 30 v3) 141 51 (ji (wi (wi h 162 (Int.toNat (w32 ((ji h 141 33) - 1))) (w32 ((ji h 141 30) - v3))) 141 30 v3) 141 49)) 141 50 (ji (wi (wi (wi h 162 (Int.toNat (w32 ((ji h 141 33) - 1))) (w32 ((ji h 141 30) - v3))) 141 30 v3) 141 51 (ji (wi (wi h 162 (Int.toNat (w32 ((ji h 141 33) - 1))) (w32 ((ji h 141 30) - v3))) 141 30 v3) 141 49)) 168 (Int.toNat (ji (wi (wi (wi h 162 (Int.toNat (w32 ((ji h 141 33) - 1))) (w32 ((ji h 141 30) - v3))) 141 30 v3) 141 51 (ji (wi (wi h 162 (Int.toNat (w32 ((ji h 141 33) - 1))) (w32 ((ji h 141 30) - v3))) 141 30 v3) 141 49)) 141 38)))) 165 (Int.toNat (ji (wi (wi (wi (wi h 162 (Int.toNat (w32 ((ji h 141 33) - 1))) (w32 ((ji h 141 30) - v3))) 141 30 v3) 141 51 (ji (wi (wi h 162 (Int.toNat (w32 ((ji h 141 33) - 1))) (w32 ((ji h 141 30) - v3))) 141 30 v3) 141 49)) 141 50 (ji (wi (wi (wi h 162 (Int.toNat (w32 ((ji h 141 33) - 1))) (w32 ((ji h 141 30) - v3))) 141 30 v3) 141 51 (ji (wi (wi h 162 (Int.toNat (w32 ((ji h 141 33) - 1))) (w32 ((ji h 141 30) - v3))) 141 30 v3) 141 49)) 168 (Int.toNat (ji (wi (wi (wi h 162 (Int.toNat (w32 ((ji h 141 33) - 1))) (w32 ((ji h 141 30) - v3))) 141 30 v3) 141 51 (ji (wi (wi h 162 (Int.toNat (w32 ((ji h 141 33) - 1))) (w32 ((ji h 141 30) - v3))) 141 30 v3) 141 49)) 141 38)))) 141 38)))) 141 38)))) 167 (Int.toNat (ji (wi (wi (wi (wi (wi (wi h 162 (Int.toNat (w32 ((ji h 141 33) - 1))) (w32 ((ji h 141 30) - v3))) 141 30 v3) 141 51 (ji (wi (wi h 162 (Int.toNat (w32 ((ji h 141 33) - 1))) (w32 ((ji h 141 30) - v3))) 141 30 v3) 141 49)) 141 50 (ji (wi (wi (wi h 162 (Int.toNat (w32 ((ji h 141 33) - 1))) (w32 ((ji h 141 30) - v3))) 141 30 v3) 141 51 (ji (wi (wi h 162 (Int.toNat (w32 ((ji h 141 33) - 1))) (w32 ((ji h 141 30) - v3))) 141 30 v3) 141 49)) 168 (Int.toNat (ji (wi (wi (wi h 162 (Int.toNat (w32 ((ji h 141 33) - 1))) (w32 ((ji h 141 30) - v3))) 141 30 v3) 141 51 (ji (wi (wi h 162 (Int.toNat (w32 ((ji h 141 33) - 1))) (w32 ((ji h 141 30) - v3))) 141 30 v3) 141 49)) 141 38)))) 141 47 (ji (wi (wi (wi (wi h 162 (Int.toNat (w32 ((ji h 141 33) - 1))) (w32 ((ji h 141 30) - v3))) 141 30 v3) 141 51 (ji (wi (wi h 162 (Int.toNat (w32 ((ji h 141 33) - 1))) (w32 ((ji h 141 30) - v3))) 141 30 v3) 141 49)) 141 50 (ji (wi (wi (wi h 162 (Int.toNat (w32 ((ji h 141 33) - 1))) (w32 ((ji h 141 30) - v3))) 141 30 v3) 141 51 (ji (wi (wi h 162 (Int.toNat (w32 ((ji h 141 33) - 1))) (w32 ((ji h 141 30) - v3))) 141 30 v3) 141 49)) 168 (Int.toNat (ji (wi (wi (wi h 162 (Int.toNat (w32 ((ji h 141 33) - 1))) (w32 ((ji h 141 30) - v3))) 141 30 v3) 141 51 (ji (wi (wi h 162 (Int.toNat (w32 ((ji h 141 33) - 1))) (w32 ((ji h 141 30) - v3))) 141 30 v3) 141 49)) 141 38)))) 165 (Int.toNat (ji (wi (wi (wi (wi h 162 (Int.toNat (w32 ((ji h 141 33) - 1))) (w32 ((ji h 141 30) - v3))) 141 30 v3) 141 51 (ji (wi (wi h 162 (Int.toNat (w32 ((ji h 141 33) - 1))) (w32 ((ji h 141 30) - v3))) 141 30 v3) 141 49)) 141 50 (ji (wi (wi (wi h 162 (Int.toNat (w32 ((ji h 141 33) - 1))) (w32 ((ji h 141 30) - v3))) 141 30 v3) 141 51 (ji (wi (wi h 162 (Int.toNat (w32 ((ji h 141 33) - 1))) (w32 ((ji h 141 30) - v3))) 141 30 v3) 141 49)) 168 (Int.toNat (ji (wi (wi (wi h 162 (Int.toNat (w32 ((ji h 141 33) - 1))) (w32 ((ji h 141 30) - v3))) 141 30 v3) 141 51 (ji (wi (wi h 162 (Int.toNat (w32 ((ji h 141 33) - 1))) (w32 ((ji h 141 30) - v3))) 141 30 v3) 141 49)) 141 38)))) 141 38)))) 141 48 (ji (wi (wi (wi (wi (wi h 162 (Int.toNat (w32 ((ji h 141 33) - 1))) (w32 ((ji h 141 30) - v3))) 141 30 v3) 141 51 (ji (wi (wi h 162 (Int.toNat (w32 ((ji h 141 33) - 1))) (w32 ((ji h 141 30) - v3))) 141 30 v3) 141 49)) 141 50 (ji (wi (wi (wi h 162 (Int.toNat (w32 ((ji h 141 33) - 1))) (w32 ((ji h 141 30) - v3))) 141 30 v3) 141 51 (ji (wi (wi h 162 (Int.toNat (w32 ((ji h 141 33) - 1))) (w32 ((ji h 141 30) - v3))) 141 30 v3) 141 49)) 168 (Int.toNat (ji (wi (wi (wi h 162 (Int.toNat (w32 ((ji h 141 33) - 1))) (w32 ((ji h 141 30) - v3))) 141 30 v3) 141 51 (ji (wi (wi h 162 (Int.toNat (w32 ((ji h 141 33) - 1))) (w32 ((ji h 141 30) - v3))) 141 30 v3) 141 49)) 141 38)))) 141 47 (ji (wi (wi (wi (wi h 162 (Int.toNat (w32 ((ji h 141 33) - 1))) (w32 ((ji h 141 30) - v3))) 141 30 v3) 141 51 (ji (wi (wi h 162 (Int.toNat (w32 ((ji h 141 33) - 1))) (w32 ((ji h 141 30) - v3))) 141 30 v3) 141 49)) 141 50 (ji (wi (wi (wi h 162 (Int.toNat (w32 ((ji h 141 33) - 1))) (w32 ((ji h 141 30) - v3))) 141 30 v3) 141 51 (ji (wi (wi h 162 (Int.toNat (w32 ((ji h 141 33) - 1))) (w32 ((ji h 141 30) - v3))) 141 30 v3) 141 49)) 168 (Int.toNat (ji (wi (wi (wi h 162 (Int.toNat (w32 ((ji h 141 33) - 1))) (w32 ((ji h 141 30) - v3))) 141 30 v3) 141 51 (ji (wi (wi h 162 (Int.toNat (w32 ((ji h 141 33) - 1))) (w32 ((ji h 141 30) - v3))) 141 30 v3) 141 49)) 141 38)))) 165 (Int.toNat (ji (wi (wi (wi (wi h 162 (Int.toNat (w32 ((ji h 141 33) - 1))) (w32 ((ji h 141 30) - v3))) 141 30 v3) 141 51 (ji (wi (wi h 162 (Int.toNat (w32 ((ji h 141 33) - 1))) (w32 ((ji h 141 30) - v3))) 141 30 v3) 141 49)) 141 50 (ji (wi (wi (wi h 162 (Int.toNat (w32 ((ji h 141 33) - 1))) (w32 ((ji h 141 30) - v3))) 141 30 v3) 141 51 (ji (wi (wi h 162 (Int.toNat (w32 ((ji h 141 33) - 1))) (w32 ((ji h 141 30) - v3))) 141 30 v3) 141 49)) 168 (Int.toNat (ji (wi (wi (wi h 162 (Int.toNat (w32 ((ji h 141 33) - 1))) (w32 ((ji h 141 30) - v3))) 141 30 v3) 141 51 (ji (wi (wi h 162 (Int.toNat (w32 ((ji h 141 33) - 1))) (w32 ((ji h 141 30) - v3))) 141 30 v3) 141 49)) 141 38)))) 141 38)))) 166 (Int.toNat (ji (wi (wi (wi (wi (wi h 162 (Int.toNat (w32 ((ji h 141 33) - 1))) (w32 ((ji h 141 30) - v3))) 141 30 v3) 141 51 (ji (wi (wi h 162 (Int.toNat (w32 ((ji h 141 33) - 1))) (w32 ((ji h 141 30) - v3))) 141 30 v3) 141 49)) 141 50 (ji (wi (wi (wi h 162 (Int.toNat (w32 ((ji h 141 33) - 1))) (w32 ((ji h 141 30) - v3))) 141 30 v3) 141 51 (ji (wi (wi h 162 (Int.toNat (w32 ((ji h 141 33) - 1))) (w32 ((ji h 141 30) - v3))) 141 30 v3) 141 49)) 168 (Int.toNat (ji (wi (wi (wi h 162 (Int.toNat (w32 ((ji h 141 33) - 1))) (w32 ((ji h 141 30) - v3))) 141 30 v3) 141 51 (ji (wi (wi h 162 (Int.toNat (w32 ((ji h 141 33) - 1))) (w32 ((ji h 141 30) - v3))) 141 30 v3) 141 49)) 141 38)))) 141 47 (ji (wi (wi (wi (wi h 162 (Int.toNat (w32 ((ji h 141 33) - 1))) (w32 ((ji h 141 30) - v3))) 141 30 v3) 141 51 (ji (wi (wi h 162 (Int.toNat (w32 ((ji h 141 33) - 1))) (w32 ((ji h 141 30) - v3))) 141 30 v3) 141 49)) 141 50 (ji (wi (wi (wi h 162 (Int.toNat (w32 ((ji h 141 33) - 1))) (w32 ((ji h 141 30) - v3))) 141 30 v3) 141 51 (ji (wi (wi h 162 (Int.toNat (w32 ((ji h 141 33) - 1))) (w32 ((ji h 141 30) - v3))) 141 30 v3) 141 49)) 168 (Int.toNat (ji (wi (wi (wi h 162 (Int.toNat (w32 ((ji h 141 33) - 1))) (w32 ((ji h 141 30) - v3))) 141 30 v3) 141 51 (ji (wi (wi h 162 (Int.toNat (w32 ((ji h 141 33) - 1))) (w32 ((ji h 141 30) - v3))) 141 30 v3) 141 49)) 141 38)))) 165 (Int.toNat (ji (wi (wi (wi (wi h 162 (Int.toNat (w32 ((ji h 141 33) - 1))) (w32 ((ji h 141 30) - v3))) 141 30 v3) 141 51 (ji (wi (wi h 162 (Int.toNat (w32 ((ji h 141 33) - 1))) (w32 ((ji h 141 30) - v3))) 141 30 v3) 141 49)) 141 50 (ji (wi (wi (wi h 162 (Int.toNat (w32 ((ji h 141 33) - 1))) (w32 ((ji h 141 30) - v3))) 141 30 v3) 141 51 (ji (wi (wi h 162 (Int.toNat (w32 ((ji h 141 33) - 1))) (w32 ((ji h 141 30) - v3))) 141 30 v3) 141 49)) 168 (Int.toNat (ji (wi (wi (wi h 162 (Int.toNat (w32 ((ji h 141 33) - 1))) (w32 ((ji h 141 30) - v3))) 141 30 v3) 141 51 (ji (wi (wi h 162 (Int.toNat (w32 ((ji h 141 33) - 1))) (w32 ((ji h 141 30) - v3))) 141 30 v3) 141 49)) 141 38)))) 141 38)))) 141 38)))) 141 38)))) 141 44 = 169 from (Ly.r141_44 L :)]
    refine ⟨(Ly.t141 L :), ?_⟩
    obtain ⟨z9, z10, H⟩ := H
    refine ⟨inA_mk (N := 9) (Ly.t169 L :) (Ly.n169 L :) z9 z10, ?_⟩
    refine ⟨(Ly.t141 L :), ?_⟩
    refine b_145_202 ?_
    exact H (Ly.wl (Ly.wi (Ly.wi (Ly.wi (Ly.wi (Ly.wi (Ly.wi (Ly.wi L (a := 162) (k := Int.toNat (w32 ((ji h 141 33) - 1))) (x := w32 ((ji h 141 30) - v3)) (by decide)) (a := 141) (k := 30) (x := v3) (by decide)) (a := 141) (k := 51) (x := ji (wi (wi h 162 (Int.toNat (w32 ((ji h 141 33) - 1))) (w32 ((ji h 141 30) - v3))) 141 30 v3) 141 49) (by decide)) (a := 141) (k := 50) (x := ji (wi (wi (wi h 162 (Int.toNat (w32 ((ji h 141 33) - 1))) (w32 ((ji h 141 30) - v3))) 141 30 v3) 141 51 (ji (wi (wi h 162 (Int.toNat (w32 ((ji h 141 33) - 1))) (w32 ((ji h 141 30) - v3))) 141 30 v3) 141 49)) 168 (Int.toNat (ji (wi (wi (wi h 162 (Int.toNat (w32 ((ji h 141 33) - 1))) (w32 ((ji h 141 30) - v3))) 141 30 v3) 141 51 (ji (wi (wi h 162 (Int.toNat (w32 ((ji h 141 33) - 1))) (w32 ((ji h 141 30) - v3))) 141 30 v3) 141 49)) 141 38))) (by decide)) (a := 141) (k := 47) (x := ji (wi (wi (wi (wi h 162 (Int.toNat (w32 ((ji h 141 33) - 1))) (w32 ((ji h 141 30) - v3))) 141 30 v3) 141 51 (ji (wi (wi h 162 (Int.toNat (w32 ((ji h 141 33) - 1))) (w32 ((ji h 141 30) - v3))) 141 30 v3) 141 49)) 141 50 (ji (wi (wi (wi h 162 (Int.toNat (w32 ((ji h 141 33) - 1))) (w32 ((ji h 141 30) - v3))) 141 30 v3) 141 51 (ji (wi (wi h 162 (Int.toNat (w32 ((ji h 141 33) - 1))) (w32 ((ji h 141 30) - v3))) 141 30 v3) 141 49)) 168 (Int.toNat (ji (wi (wi (wi h 162 (Int.toNat (w32 ((ji h 141 33) - 1))) (w32 ((ji h 141 30) - v3))) 141 30 v3) 141 51 (ji (wi (wi h 162 (Int.toNat (w32 ((ji h 141 33) - 1))) (w32 ((ji h 141 30) - v3))) 141 30 v3) 141 49)) 141 38)))) 165 (Int.toNat (ji (wi (wi (wi (wi h 162 (Int.toNat (w32 ((ji h 141 33) - 1))) (w32 ((ji h 141 30) - v3))) 141 30 v3) 141 51 (ji (wi (wi h 162 (Int.toNat (w32 ((ji h 141 33) - 1))) (w32 ((ji h 141 30) - v3))) 141 30 v3) 141 49)) 141 50 (ji (wi (wi (wi h 162 (Int.toNat (w32 ((ji h 141 33) - 1))) (w32 ((ji h 141 30) - v3))) 141 30 v3) 141 51 (ji (wi (wi h 162 (Int.toNat (w32 ((ji h 141 33) - 1))) (w32 ((ji h 141 30) - v3))) 141 30 v3) 141 49)) 168 (Int.toNat (ji (wi (wi (wi h 162 (Int.toNat (w32 ((ji h 141 33) - 1))) (w32 ((ji h 141 30) - v3))) 141 30 v3) 141 51 (ji (wi (wi h 162 (Int.toNat (w32 ((ji h 141 33) - 1))) (w32 ((ji h 141 30) - v3))) 141 30 v3) 141 49)) 141 38)))) 141 38))) (by decide)) (a := 141) (k := 48) (x := ji (wi (wi (wi (wi (wi h 162 (Int.toNat (w32 ((ji h 141 33) - 1))) (w32 ((ji h 141 30) - v3))) 141 30 v3) 141 51 (ji (wi (wi h 162 (Int.toNat (w32 ((ji h 141 33) - 1))) (w32 ((ji h 141 30) - v3))) 141 30 v3) 141 49)) 141 50 (ji (wi (wi (wi h 162 (Int.toNat (w32 ((ji h 141 33) - 1))) (w32 ((ji h 141 30) - v3))) 141 30 v3) 141 51 (ji (wi (wi h 162 (Int.toNat (w32 ((ji h 141 33) - 1))) (w32 ((ji h 141 30) - v3))) 141 30 v3) 141 49)) 168 (Int.toNat (ji (wi (wi (wi h 162 (Int.toNat (w32 ((ji h 141 33) - 1))) (w32 ((ji h 141 30) - v3))) 141 30 v3) 141 51 (ji (wi (wi h 162 (Int.toNat (w32 ((ji h 141 33) - 1))) (w32 ((ji h 141 30) - v3))) 141 30 v3) 141 49)) 141 38)))) 141 47 (ji (wi (wi (wi (wi h 162 (Int.toNat (w32 ((ji h 141 33) - 1))) (w32 ((ji h 141 30) - v3))) 141 30 v3) 141 51 (ji (wi (wi h 162 (Int.toNat (w32 ((ji h 141 33) - 1))) (w32 ((ji h 141 30) - v3))) 141 30 v3) 141 49)) 141 50 (ji (wi (wi (wi h 162 (Int.toNat (w32 ((ji h 141 33) - 1))) (w32 ((ji h 141 30) - v3))) 141 30 v3) 141 51 (ji (wi (wi h 162 (Int.toNat (w32 ((ji h 141 33) - 1))) (w32 ((ji h 141 30) - v3))) 141 30 v3) 141 49)) 168 (Int.toNat (ji (wi (wi (wi h 162 (Int.toNat (w32 ((ji h 141 33) - 1))) (w32 ((ji h 141 30) - v3))) 141 30 v3) 141 51 (ji (wi (wi h 162 (Int.toNat (w32 ((ji h 141 33) - 1))) (w32 ((ji h 141 30) - v3))) 141 30 v3) 141 49)) 141 38)))) 165 (Int.toNat (ji (wi (wi (wi (wi h 162 (Int.toNat (w32 ((ji h 141 33) - 1))) (w32 ((ji h 141 30) - v3))) 141 30 v3) 141 51 (ji (wi (wi h 162 (Int.toNat (w32 ((ji h 141 33) - 1))) (w32 ((ji h 141 30) - v3))) 141 30 v3) 141 49)) 141 50 (ji (wi (wi (wi h 162 (Int.toNat (w32 ((ji h 141 33) - 1))) (w32 ((ji h 141 30) - v3))) 141 30 v3) 141 51 (ji (wi (wi h 162 (Int.toNat (w32 ((ji h 141 33) - 1))) (w32 ((ji h 141 30) - v3))) 141 30 v3) 141 49)) 168 (Int.toNat (ji (wi (wi (wi h 162 (Int.toNat (w32 ((ji h 141 33) - 1))) (w32 ((ji h 141 30) - v3))) 141 30 v3) 141 51 (ji (wi (wi h 162 (Int.toNat (w32 ((ji h 141 33) - 1))) (w32 ((ji h 141 30) - v3))) 141 30 v3) 141 49)) 141 38)))) 141 38)))) 166 (Int.toNat (ji (wi (wi (wi (wi (wi h 162 (Int.toNat (w32 ((ji h 141 33) - 1))) (w32 ((ji h 141 30) - v3))) 141 30 v3) 141 51 (ji (wi (wi h 162 (Int.toNat (w32 ((ji h 141 33) - 1))) (w32 ((ji h 141 30) - v3))) 141 30 v3) 141 49)) 141 50 (ji (wi (wi (wi h 162 (Int.toNat (w32 ((ji h 141 33) - 1))) (w32 ((ji h 141 30) - v3))) 141 30 v3) 141 51 (ji (wi (wi h 162 (Int.toNat (w32 ((ji h 141 33) - 1))) (w32 ((ji h 141 30) - v3))) 141 30 v3) 141 49)) 168 (Int.toNat (ji (wi (wi (wi h 162 (Int.toNat (w32 ((ji h 141 33) - 1))) (w32 ((ji h 141 30) - v3))) 141 30 v3) 141 51 (ji (wi (wi h 162 (Int.toNat (w32 ((ji h 141 33) - 1))) (w32 ((ji h 141 30) - v3))) 141 30 v3) 141 49)) 141 38)))) 141 47 (ji (wi (wi (wi (wi h 162 (Int.toNat (w32 ((ji h 141 33) - 1))) (w32 ((ji h 141 30) - v3))) 141 30 v3) 141 51 (ji (wi (wi h 162 (Int.toNat (w32 ((ji h 141 33) - 1))) (w32 ((ji h 141 30) - v3))) 141 30 v3) 141 49)) 141 50 (ji (wi (wi (wi h 162 (Int.toNat (w32 ((ji h 141 33) - 1))) (w32 ((ji h 141 30) - v3))) 141 30 v3) 141 51 (ji (wi (wi h 162 (Int.toNat (w32 ((ji h 141 33) - 1))) (w32 ((ji h 141 30) - v3))) 141 30 v3) 141 49)) 168 (Int.toNat (ji (wi (wi (wi h 162 (Int.toNat (w32 ((ji h 141 33) - 1))) (w32 ((ji h 141 30) - v3))) 141 30 v3) 141 51 (ji (wi (wi h 162 (Int.toNat (w32 ((ji h 141 33) - 1))) (w32 ((ji h 141 30) - v3))) 141 30 v3) 141 49)) 141 38)))) 165 (Int.toNat (ji (wi (wi (wi (wi h 162 (Int.toNat (w32 ((ji h 141 33) - 1))) (w32 ((ji h 141 30) - v3))) 141 30 v3) 141 51 (ji (wi (wi h 162 (Int.toNat (w32 ((ji h 141 33) - 1))) (w32 ((ji h 141 30) - v3))) 141 30 v3) 141 49)) 141 50 (ji (wi (wi (wi h 162 (Int.toNat (w32 ((ji h 141 33) - 1))) (w32 ((ji h 141 30) - v3))) 141 30 v3) 141 51 (ji (wi (wi h 162 (Int.toNat (w32 ((ji h 141 33) - 1))) (w32 ((ji h 141 30) - v3))) 141 30 v3) 141 49)) 168 (Int.toNat (ji (wi (wi (wi h 162 (Int.toNat (w32 ((ji h 141 33) - 1))) (w32 ((ji h 141 30) - v3))) 141 30 v3) 141 51 (ji (wi (wi h 162 (Int.toNat (w32 ((ji h 141 33) - 1))) (w32 ((ji h 141 30) - v3))) 141 30 v3) 141 49)) 141 38)))) 141 38)))) 141 38))) (by decide)) (a := 141) (k := 49) (x := ji (wi (wi (wi (wi (wi (wi h 162 (Int.toNat (w32 ((ji h 141 33) - 1))) (w32 ((ji h 141 30) - v3))) 141 30 v3) 141 51 (ji (wi (wi h 162 (Int.toNat (w32 ((ji h 141 33) - 1))) (w32 ((ji h 141 30) - v3))) 141 30 v3) 141 49)) 141 50 (ji (wi (wi (wi h 162 (Int.toNat (w32 ((ji h 141 33) - 1))) (w32 ((ji h 141 30) - v3))) 141 30 v3) 141 51 (ji (wi (wi h 162 (Int.toNat (w32 ((ji h 141 33) - 1))) (w32 ((ji h 141 30) - v3))) 141 30 v3) 141 49)) 168 (Int.toNat (ji (wi (wi (wi h 162 (Int.toNat (w32 ((ji h 141 33) - 1))) (w32 ((ji h 141 30) - v3))) 141 30 v3) 141 51 (ji (wi (wi h 162 (Int.toNat (w32 ((ji h 141 33) - 1))) (w32 ((ji h 141 30) - v3))) 141 30 v3) 141 49)) 141 38)))) 141 47 (ji (wi (wi (wi (wi h 162 (Int.toNat (w32 ((ji h 141 33) - 1))) (w32 ((ji h 141 30) - v3))) 141 30 v3) 141 51 (ji (wi (wi h 162 (Int.toNat (w32 ((ji h 141 33) - 1))) (w32 ((ji h 141 30) - v3))) 141 30 v3) 141 49)) 141 50 (ji (wi (wi (wi h 162 (Int.toNat (w32 ((ji h 141 33) - 1))) (w32 ((ji h 141 30) - v3))) 141 30 v3) 141 51 (ji (wi (wi h 162 (Int.toNat (w32 ((ji h 141 33) - 1))) (w32 ((ji h 141 30) - v3))) 141 30 v3) 141 49)) 168 (Int.toNat (ji (wi (wi (wi h 162 (Int.toNat (w32 ((ji h 141 33) - 1))) (w32 ((ji h 141 30) - v3))) 141 30 v3) 141 51 (ji (wi (wi h 162 (Int.toNat (w32 ((ji h 141 33) - 1))) (w32 ((ji h 141 30) - v3))) 141 30 v3) 141 49)) 141 38)))) 165 (Int.toNat (ji (wi (wi (wi (wi h 162 (Int.toNat (w32 ((ji h 141 33) - 1))) (w32 ((ji h 141 30) - v3))) 141 30 v3) 141 51 (ji (wi (wi h 162 (Int.toNat (w32 ((ji h 141 33) - 1))) (w32 ((ji h 141 30) - v3))) 141 30 v3) 141 49)) 141 50 (ji (wi (wi (wi h 162 (Int.toNat (w32 ((ji h 141 33) - 1))) (w32 ((ji h 141 30) - v3))) 141 30 v3) 141 51 (ji (wi (wi h 162 (Int.toNat (w32 ((ji h 141 33) - 1))) (w32 ((ji h 141 30) - v3))) 141 30 v3) 141 49)) 168 (Int.toNat (ji (wi (wi (wi h 162 (Int.toNat (w32 ((ji h 141 33) - 1))) (w32 ((ji h 141 30) - v3))) 141 30 v3) 141 51 (ji (wi (wi h 162 (Int.toNat (w32 ((ji h 141 33) - 1))) (w32 ((ji h 141 30) - v3))) 141 30 v3) 141 49)) 141 38)))) 141 38)))) 141 48 (ji (wi (wi (wi (wi (wi h 162 (Int.toNat (w32 ((ji h 141 33) - 1))) (w32 ((ji h 141 30) - v3))) 141 30 v3) 141 51 (ji (wi (wi h 162 (Int.toNat (w32 ((ji h 141 33) - 1))) (w32 ((ji h 141 30) - v3))) 141 30 v3) 141 49)) 141 50 (ji (wi (wi (wi h 162 (Int.toNat (w32 ((ji h 141 33) - 1))) (w32 ((ji h 141 30) - v3))) 141 30 v3) 141 51 (ji (wi (wi h 162 (Int.toNat (w32 ((ji h 141 33) - 1))) (w32 ((ji h 141 30) - v3))) 141 30 v3) 141 49)) 168 (Int.toNat (ji (wi (wi (wi h 162 (Int.toNat (w32 ((ji h 141 33) - 1))) (w32 ((ji h 141 30) - v3))) 141 30 v3) 141 51 (ji (wi (wi h 162 (Int.toNat (w32 ((ji h 141 33) - 1))) (w32 ((ji h 141 30) - v3))) 141 30 v3) 141 49)) 141 38)))) 141 47 (ji (wi (wi (wi (wi h 162 (Int.toNat (w32 ((ji h 141 33) - 1))) (w32 ((ji h 141 30) - v3))) 141 30 v3) 141 51 (ji (wi (wi h 162 (Int.toNat (w32 ((ji h 141 33) - 1))) (w32 ((ji h 141 30) - v3))) 141 30 v3) 141 49)) 141 50 (ji (wi (wi (wi h 162 (Int.toNat (w32 ((ji h 141 33) - 1))) (w32 ((ji h 141 30) - v3))) 141 30 v3) 141 51 (ji (wi (wi h 162 (Int.toNat (w32 ((ji h 141 33) - 1))) (w32 ((ji h 141 30) - v3))) 141 30 v3) 141 49)) 168 (Int.toNat (ji (wi (wi (wi h 162 (Int.toNat (w32 ((ji h 141 33) - 1))) (w32 ((ji h 141 30) - v3))) 141 30 v3) 141 51 (ji (wi (wi h 162 (Int.toNat (w32 ((ji h 141 33) - 1))) (w32 ((ji h 141 30) - v3))) 141 30 v3) 141 49)) 141 38)))) 165 (Int.toNat (ji (wi (wi (wi (wi h 162 (Int.toNat (w32 ((ji h 141 33) - 1))) (w32 ((ji h 141 30) - v3))) 141 30 v3) 141 51 (ji (wi (wi h 162 (Int.toNat (w32 ((ji h 141 33) - 1))) (w32 ((ji h 141 30) - v3))) 141 30 v3) 141 49)) 141 50 (ji (wi (wi (wi h 162 (Int.toNat (w32 ((ji h 141 33) - 1))) (w32 ((ji h 141 30) - v3))) 141 30 v3) 141 51 (ji (wi (wi h 162 (Int.toNat (w32 ((ji h 141 33) - 1))) (w32 ((ji h 141 30) - v3))) 141 30 v3) 141 49)) 168 (Int.toNat (ji (wi (wi (wi h 162 (Int.toNat (w32 ((ji h 141 33) - 1))) (w32 ((ji h 141 30) - v3))) 141 30 v3) 141 51 (ji (wi (wi h 162 (Int.toNat (w32 ((ji h 141 33) - 1))) (w32 ((ji h 141 30) - v3))) 141 30 v3) 141 49)) 141 38)))) 141 38)))) 166 (Int.toNat (ji (wi (wi (wi (wi (wi h 162 (Int.toNat (w32 ((ji h 141 33) - 1))) (w32 ((ji h 141 30) - v3))) 141 30 v3) 141 51 (ji (wi (wi h 162 (Int.toNat (w32 ((ji h 141 33) - 1))) (w32 ((ji h 141 30) - v3))) 141 30 v3) 141 49)) 141 50 (ji (wi (wi (wi h 162 (Int.toNat (w32 ((ji h 141 33) - 1))) (w32 ((ji h 141 30) - v3))) 141 30 v3) 141 51 (ji (wi (wi h 162 (Int.toNat (w32 ((ji h 141 33) - 1))) (w32 ((ji h 141 30) - v3))) 141 30 v3) 141 49)) 168 (Int.toNat (ji (wi (wi (wi h 162 (Int.toNat (w32 ((ji h 141 33) - 1))) (w32 ((ji h 141 30) - v3))) 141 30 v3) 141 51 (ji (wi (wi h 162 (Int.toNat (w32 ((ji h 141 33) - 1))) (w32 ((ji h 141 30) - v3))) 141 30 v3) 141 49)) 141 38)))) 141 47 (ji (wi (wi (wi (wi h 162 (Int.toNat (w32 ((ji h 141 33) - 1))) (w32 ((ji h 141 30) - v3))) 141 30 v3) 141 51 (ji (wi (wi h 162 (Int.toNat (w32 ((ji h 141 33) - 1))) (w32 ((ji h 141 30) - v3))) 141 30 v3) 141 49)) 141 50 (ji (wi (wi (wi h 162 (Int.toNat (w32 ((ji h 141 33) - 1))) (w32 ((ji h 141 30) - v3))) 141 30 v3) 141 51 (ji (wi (wi h 162 (Int.toNat (w32 ((ji h 141 33) - 1))) (w32 ((ji h 141 30) - v3))) 141 30 v3) 141 49)) 168 (Int.toNat (ji (wi (wi (wi h 162 (Int.toNat (w32 ((ji h 141 33) - 1))) (w32 ((ji h 141 30) - v3))) 141 30 v3) 141 51 (ji (wi (wi h 162 (Int.toNat (w32 ((ji h 141 33) - 1))) (w32 ((ji h 141 30) - v3))) 141 30 v3) 141 49)) 141 38)))) 165 (Int.toNat (ji (wi (wi (wi (wi h 162 (Int.toNat (w32 ((ji h 141 33) - 1))) (w32 ((ji h 141 30) - v3))) 141 30 v3) 141 51 (ji (wi (wi h 162 (Int.toNat (w32 ((ji h 141 33) - 1))) (w32 ((ji h 141 30) - v3))) 141 30 v3) 141 49)) 141 50 (ji (wi (wi (wi h 162 (Int.toNat (w32 ((ji h 141 33) - 1))) (w32 ((ji h 141 30) - v3))) 141 30 v3) 141 51 (ji (wi (wi h 162 (Int.toNat (w32 ((ji h 141 33) - 1))) (w32 ((ji h 141 30) - v3))) 141 30 v3) 141 49)) 168 (Int.toNat (ji (wi (wi (wi h 162 (Int.toNat (w32 ((ji h 141 33) - 1))) (w32 ((ji h 141 30) - v3))) 141 30 v3) 141 51 (ji (wi (wi h 162 (Int.toNat (w32 ((ji h 141 33) - 1))) (w32 ((ji h 141 30) - v3))) 141 30 v3) 141 49)) 141 38)))) 141 38)))) 141 38)))) 167 (Int.toNat (ji (wi (wi (wi (wi (wi (wi h 162 (Int.toNat (w32 ((ji h 141 33) - 1))) (w32 ((ji h 141 30) - v3))) 141 30 v3) 141 51 (ji (wi (wi h 162 (Int.toNat (w32 ((ji h 141 33) - 1))) (w32 ((ji h 141 30) - v3))) 141 30 v3) 141 49)) 141 50 (ji (wi (wi (wi h 162 (Int.toNat (w32 ((ji h 141 33) - 1))) (w32 ((ji h 141 30) - v3))) 141 30 v3) 141 51 (ji (wi (wi h 162 (Int.toNat (w32 ((ji h 141 33) - 1))) (w32 ((ji h 141 30) - v3))) 141 30 v3) 141 49)) 168 (Int.toNat (ji (wi (wi (wi h 162 (Int.toNat (w32 ((ji h 141 33) - 1))) (w32 ((ji h 141 30) - v3))) 141 30 v3) 141 51 (ji (wi (wi h 162 (Int.toNat (w32 ((ji h 141 33) - 1))) (w32 ((ji h 141 30) - v3))) 141 30 v3) 141 49)) 141 38)))) 141 47 (ji (wi (wi (wi (wi h 162 (Int.toNat (w32 ((ji h 141 33) - 1))) (w32 ((ji h 141 30) - v3))) 141 30 v3) 141 51 (ji (wi (wi h 162 (Int.toNat (w32 ((ji h 141 33) - 1))) (w32 ((ji h 141 30) - v3))) 141 30 v3) 141 49)) 141 50 (ji (wi (wi (wi h 162 (Int.toNat (w32 ((ji h 141 33) - 1))) (w32 ((ji h 141 30) - v3))) 141 30 v3) 141 51 (ji (wi (wi h 162 (Int.toNat (w32 ((ji h 141 33) - 1))) (w32 ((ji h 141 30) - v3))) 141 30 v3) 141 49)) 168 (Int.toNat (ji (wi (wi (wi h 162 (Int.toNat (w32 ((ji h 141 33) - 1))) (w32 ((ji h 141 30) - v3))) 141 30 v3) 141 51 (ji (wi (wi h 162 (Int.toNat (w32 ((ji h 141 33) - 1))) (w32 ((ji h 141 30) - v3))) 141 30 v3) 141 49)) 141 38)))) 165 (Int.toNat (ji (wi (wi (wi (wi h 162 (Int.toNat (w32 ((ji h 141 33) - 1))) (w32 ((ji h 141 30) - v3))) 141 30 v3) 141 51 (ji (wi (wi h 162 (Int.toNat (w32 ((ji h 141 33) - 1))) (w32 ((ji h 141 30) - v3))) 141 30 v3) 141 49)) 141 50 (ji (wi (wi (wi h 162 (Int.toNat (w32 ((ji h 141 33) - 1))) (w32 ((ji h 141 30) - v3))) 141 30 v3) 141 51 (ji (wi (wi h 162 (Int.toNat (w32 ((ji h 141 33) - 1))) (w32 ((ji h 141 30) - v3))) 141 30 v3) 141 49)) 168 (Int.toNat (ji (wi (wi (wi h 162 (Int.toNat (w32 ((ji h 141 33) - 1))) (w32 ((ji h 141 30) - v3))) 141 30 v3) 141 51 (ji (wi (wi h 162 (Int.toNat (w32 ((ji h 141 33) - 1))) (w32 ((ji h 141 30) - v3))) 141 30 v3) 141 49)) 141 38)))) 141 38)))) 141 48 (ji (wi (wi (wi (wi (wi h 162 (Int.toNat (w32 ((ji h 141 33) - 1))) (w32 ((ji h 141 30) - v3))) 141 30 v3) 141 51 (ji (wi (wi h 162 (Int.toNat (w32 ((ji h 141 33) - 1))) (w32 ((ji h 141 30) - v3))) 141 30 v3) 141 49)) 141 50 (ji (wi (wi (wi h 162 (Int.toNat (w32 ((ji h 141 33) - 1))) (w32 ((ji h 141 30) - v3))) 141 30 v3) 141 51 (ji (wi (wi h 162 (Int.toNat (w32 ((ji h 141 33) - 1))) (w32 ((ji h 141 30) - v3))) 141 30 v3) 141 49)) 168 (Int.toNat (ji (wi (wi (wi h 162 (Int.toNat (w32 ((ji h 141 33) - 1))) (w32 ((ji h 141 30) - v3))) 141 30 v3) 141 51 (ji (wi (wi h 162 (Int.toNat (w32 ((ji h 141 33) - 1))) (w32 ((ji h 141 30) - v3))) 141 30 v3) 141 49)) 141 38)))) 141 47 (ji (wi (wi (wi (wi h 162 (Int.toNat (w32 ((ji h 141 33) - 1))) (w32 ((ji h 141 30) - v3))) 141 30 v3) 141 51 (ji (wi (wi h 162 (Int.toNat (w32 ((ji h 141 33) - 1))) (w32 ((ji h 141 30) - v3))) 141 30 v3) 141 49)) 141 50 (ji (wi (wi (wi h 162 (Int.toNat (w32 ((ji h 141 33) - 1))) (w32 ((ji h 141 30) - v3))) 141 30 v3) 141 51 (ji (wi (wi h 162 (Int.toNat (w32 ((ji h 141 33) - 1))) (w32 ((ji h 141 30) - v3))) 141 30 v3) 141 49)) 168 (Int.toNat (ji (wi (wi (wi h 162 (Int.toNat (w32 ((ji h 141 33) - 1))) (w32 ((ji h 141 30) - v3))) 141 30 v3) 141 51 (ji (wi (wi h 162 (Int.toNat (w32 ((ji h 141 33) - 1))) (w32 ((ji h 141 30) - v3))) 141 30 v3) 141 49)) 141 38)))) 165 (Int.toNat (ji (wi (wi (wi (wi h 162 (Int.toNat (w32 ((ji h 141 33) - 1))) (w32 ((ji h 141 30) - v3))) 141 30 v3) 141 51 (ji (wi (wi h 162 (Int.toNat (w32 ((ji h 141 33) - 1))) (w32 ((ji h 141 30) - v3))) 141 30 v3) 141 49)) 141 50 (ji (wi (wi (wi h 162 (Int.toNat (w32 ((ji h 141 33) - 1))) (w32 ((ji h 141 30) - v3))) 141 30 v3) 141 51 (ji (wi (wi h 162 (Int.toNat (w32 ((ji h 141 33) - 1))) (w32 ((ji h 141 30) - v3))) 141 30 v3) 141 49)) 168 (Int.toNat (ji (wi (wi (wi h 162 (Int.toNat (w32 ((ji h 141 33) - 1))) (w32 ((ji h 141 30) - v3))) 141 30 v3) 141 51 (ji (wi (wi h 162 (Int.toNat (w32 ((ji h 141 33) - 1))) (w32 ((ji h 141 30) - v3))) 141 30 v3) 141 49)) 141 38)))) 141 38)))) 166 (Int.toNat (ji (wi (wi (wi (wi (wi h 162 (Int.toNat (w32 ((ji h 141 33) - 1))) (w32 ((ji h 141 30) - v3))) 141 30 v3) 141 51 (ji (wi (wi h 162 (Int.toNat (w32 ((ji h 141 33) - 1))) (w32 ((ji h 141 30) - v3))) 141 30 v3) 141 49)) 141 50 (ji (wi (wi (wi h 162 (Int.toNat (w32 ((ji h 141 33) - 1))) (w32 ((ji h 141 30) - v3))) 141 30 v3) 141 51 (ji (wi (wi h 162 (Int.toNat (w32 ((ji h 141 33) - 1))) (w32 ((ji h 141 30) - v3))) 141 30 v3) 141 49)) 168 (Int.toNat (ji (wi (wi (wi h 162 (Int.toNat (w32 ((ji h 141 33) - 1))) (w32 ((ji h 141 30) - v3))) 141 30 v3) 141 51 (ji (wi (wi h 162 (Int.toNat (w32 ((ji h 141 33) - 1))) (w32 ((ji h 141 30) - v3))) 141 30 v3) 141 49)) 141 38)))) 141 47 (ji (wi (wi (wi (wi h 162 (Int.toNat (w32 ((ji h 141 33) - 1))) (w32 ((ji h 141 30) - v3))) 141 30 v3) 141 51 (ji (wi (wi h 162 (Int.toNat (w32 ((ji h 141 33) - 1))) (w32 ((ji h 141 30) - v3))) 141 30 v3) 141 49)) 141 50 (ji (wi (wi (wi h 162 (Int.toNat (w32 ((ji h 141 33) - 1))) (w32 ((ji h 141 30) - v3))) 141 30 v3) 141 51 (ji (wi (wi h 162 (Int.toNat (w32 ((ji h 141 33) - 1))) (w32 ((ji h 141 30) - v3))) 141 30 v3) 141 49)) 168 (Int.toNat (ji (wi (wi (wi h 162 (Int.toNat (w32 ((ji h 141 33) - 1))) (w32 ((ji h 141 30) - v3))) 141 30 v3) 141 51 (ji (wi (wi h 162 (Int.toNat (w32 ((ji h 141 33) - 1))) (w32 ((ji h 141 30) - v3))) 141 30 v3) 141 49)) 141 38)))) 165 (Int.toNat (ji (wi (wi (wi (wi h 162 (Int.toNat (w32 ((ji h 141 33) - 1))) (w32 ((ji h 141 30) - v3))) 141 30 v3) 141 51 (ji (wi (wi h 162 (Int.toNat (w32 ((ji h 141 33) - 1))) (w32 ((ji h 141 30) - v3))) 141 30 v3) 141 49)) 141 50 (ji (wi (wi (wi h 162 (Int.toNat (w32 ((ji h 141 33) - 1))) (w32 ((ji h 141 30) - v3))) 141 30 v3) 141 51 (ji (wi (wi h 162 (Int.toNat (w32 ((ji h 141 33) - 1))) (w32 ((ji h 141 30) - v3))) 141 30 v3) 141 49)) 168 (Int.toNat (ji (wi (wi (wi h 162 (Int.toNat (w32 ((ji h 141 33) - 1))) (w32 ((ji h 141 30) - v3))) 141 30 v3) 141 51 (ji (wi (wi h 162 (Int.toNat (w32 ((ji h 141 33) - 1))) (w32 ((ji h 141 30) - v3))) 141 30 v3) 141 49)) 141 38)))) 141 38)))) 141 38)))) 141 38))) (by decide)) (a := 141) (k := 52) (x := w64 ((w64 ((jl (wi (wi (wi (wi (wi (wi (wi h 162 (Int.toNat (w32 ((ji h 141 33) - 1))) (w32 ((ji h 141 30) - v3))) 141 30 v3) 141 51 (ji (wi (wi h 162 (Int.toNat (w32 ((ji h 141 33) - 1))) (w32 ((ji h 141 30) - v3))) 141 30 v3) 141 49)) 141 50 (ji (wi (wi (wi h 162 (Int.toNat (w32 ((ji h 141 33) - 1))) (w32 ((ji h 141 30) - v3))) 141 30 v3) 141 51 (ji (wi (wi h 162 (Int.toNat (w32 ((ji h 141 33) - 1))) (w32 ((ji h 141 30) - v3))) 141 30 v3) 141 49)) 168 (Int.toNat (ji (wi (wi (wi h 162 (Int.toNat (w32 ((ji h 141 33) - 1))) (w32 ((ji h 141 30) - v3))) 141 30 v3) 141 51 (ji (wi (wi h 162 (Int.toNat (w32 ((ji h 141 33) - 1))) (w32 ((ji h 141 30) - v3))) 141 30 v3) 141 49)) 141 38)))) 141 47 (ji (wi (wi (wi (wi h 162 (Int.toNat (w32 ((ji h 141 33) - 1))) (w32 ((ji h 141 30) - v3))) 141 30 v3) 141 51 (ji (wi (wi h 162 (Int.toNat (w32 ((ji h 141 33) - 1))) (w32 ((ji h 141 30) - v3))) 141 30 v3) 141 49)) 141 50 (ji (wi (wi (wi h 162 (Int.toNat (w32 ((ji h 141 33) - 1))) (w32 ((ji h 141 30) - v3))) 141 30 v3) 141 51 (ji (wi (wi h 162 (Int.toNat (w32 ((ji h 141 33) - 1))) (w32 ((ji h 141 30) - v3))) 141 30 v3) 141 49)) 168 (Int.toNat (ji (wi (wi (wi h 162 (Int.toNat (w32 ((ji h 141 33) - 1))) (w32 ((ji h 141 30) - v3))) 141 30 v3) 141 51 (ji (wi (wi h 162 (Int.toNat (w32 ((ji h 141 33) - 1))) (w32 ((ji h 141 30) - v3))) 141 30 v3) 141 49)) 141 38)))) 165 (Int.toNat (ji (wi (wi (wi (wi h 162 (Int.toNat (w32 ((ji h 141 33) - 1))) (w32 ((ji h 141 30) - v3))) 141 30 v3) 141 51 (ji (wi (wi h 162 (Int.toNat (w32 ((ji h 141 33) - 1))) (w32 ((ji h 141 30) - v3))) 141 30 v3) 141 49)) 141 50 (ji (wi (wi (wi h 162 (Int.toNat (w32 ((ji h 141 33) - 1))) (w32 ((ji h 141 30) - v3))) 141 30 v3) 141 51 (ji (wi (wi h 162 (Int.toNat (w32 ((ji h 141 33) - 1))) (w32 ((ji h 141 30) - v3))) 141 30 v3) 141 49)) 168 (Int.toNat (ji (wi (wi (wi h 162 (Int.toNat (w32 ((ji h 141 33) - 1))) (w32 ((ji h 141 30) - v3))) 141 30 v3) 141 51 (ji (wi (wi h 162 (Int.toNat (w32 ((ji h 141 33) - 1))) (w32 ((ji h 141 30) - v3))) 141 30 v3) 141 49)) 141 38)))) 141 38)))) 141 48 (ji (wi (wi (wi (wi (wi h 162 (Int.toNat (w32 ((ji h 141 33) - 1))) (w32 ((ji h 141 30) - v3))) 141 30 v3) 141 51 (ji (wi (wi h 162 (Int.toNat (w32 ((ji h 141 33) - 1))) (w32 ((ji h 141 30) - v3))) 141 30 v3) 141 49)) 141 50 (ji (wi (wi (wi h 162 (Int.toNat (w32 ((ji h 141 33) - 1))) (w32 ((ji h 141 30) - v3))) 141 30 v3) 141 51 (ji (wi (wi h 162 (Int.toNat (w32 ((ji h 141 33) - 1))) (w32 ((ji h 141 30) - v3))) 141 30 v3) 141 49)) 168 (Int.toNat (ji (wi (wi (wi h 162 (Int.toNat (w32 ((ji h 141 33) - 1))) (w32 ((ji h 141 30) - v3))) 141 30 v3) 141 51 (ji (wi (wi h 162 (Int.toNat (w32 ((ji h 141 33) - 1))) (w32 ((ji h 141 30) - v3))) 141 30 v3) 141 49)) 141 38)))) 141 47 (ji (wi (wi (wi (wi h 162 (Int.toNat (w32 ((ji h 141 33) - 1))) (w32 ((ji h 141 30) - v3))) 141 30 v3) 141 51 (ji (wi (wi h 162 (Int.toNat (w32 ((ji h 141 33) - 1))) (w32 ((ji h 141 30) - v3))) 141 30 v3) 141 49)) 141 50 (ji (wi (wi (wi h 162 (Int.toNat (w32 ((ji h 141 33) - 1))) (w32 ((ji h 141 30) - v3))) 141 30 v3) 141 51 (ji (wi (wi h 162 (Int.toNat (w32 ((ji h 141 33) - 1))) (w32 ((ji h 141 30) - v3))) 141 30 v3) 141 49)) 168 (Int.toNat (ji (wi (wi (wi h 162 (Int.toNat (w32 ((ji h 141 33) - 1))) (w32 ((ji h 141 30) - v3))) 141 30 v3) 141 51 (ji (wi (wi h 162 (Int.toNat (w32 ((ji h 141 33) - 1))) (w32 ((ji h 141 30) - v3))) 141 30 v3) 141 49)) 141 38)))) 165 (Int.toNat (ji (wi (wi (wi (wi h 162 (Int.toNat (w32 ((ji h 141 33) - 1))) (w32 ((ji h 141 30) - v3))) 141 30 v3) 141 51 (ji (wi (wi h 162 (Int.toNat (w32 ((ji h 141 33) - 1))) (w32 ((ji h 141 30) - v3))) 141 30 v3) 141 49)) 141 50 (ji (wi (wi (wi h 162 (Int.toNat (w32 ((ji h 141 33) - 1))) (w32 ((ji h 141 30) - v3))) 141 30 v3) 141 51 (ji (wi (wi h 162 (Int.toNat (w32 ((ji h 141 33) - 1))) (w32 ((ji h 141 30) - v3))) 141 30 v3) 141 49)) 168 (Int.toNat (ji (wi (wi (wi h 162 (Int.toNat (w32 ((ji h 141 33) - 1))) (w32 ((ji h 141 30) - v3))) 141 30 v3) 141 51 (ji (wi (wi h 162 (Int.toNat (w32 ((ji h 141 33) - 1))) (w32 ((ji h 141 30) - v3))) 141 30 v3) 141 49)) 141 38)))) 141 38)))) 166 (Int.toNat (ji (wi (wi (wi (wi (wi h 162 (Int.toNat (w32 ((ji h 141 33) - 1))) (w32 ((ji h 141 30) - v3))) 141 30 v3) 141 51 (ji (wi (wi h 162 (Int.toNat (w32 ((ji h 141 33) - 1))) (w32 ((ji h 141 30) - v3))) 141 30 v3) 141 49)) 141 50 (ji (wi (wi (wi h 162 (Int.toNat (w32 ((ji h 141 33) - 1))) (w32 ((ji h 141 30) - v3))) 141 30 v3) 141 51 (ji (wi (wi h 162 (Int.toNat (w32 ((ji h 141 33) - 1))) (w32 ((ji h 141 30) - v3))) 141 30 v3) 141 49)) 168 (Int.toNat (ji (wi (wi (wi h 162 (Int.toNat (w32 ((ji h 141 33) - 1))) (w32 ((ji h 141 30) - v3))) 141 30 v3) 141 51 (ji (wi (wi h 162 (Int.toNat (w32 ((ji h 141 33) - 1))) (w32 ((ji h 141 30) - v3))) 141 30 v3) 141 49)) 141 38)))) 141 47 (ji (wi (wi (wi (wi h 162 (Int.toNat (w32 ((ji h 141 33) - 1))) (w32 ((ji h 141 30) - v3))) 141 30 v3) 141 51 (ji (wi (wi h 162 (Int.toNat (w32 ((ji h 141 33) - 1))) (w32 ((ji h 141 30) - v3))) 141 30 v3) 141 49)) 141 50 (ji (wi (wi (wi h 162 (Int.toNat (w32 ((ji h 141 33) - 1))) (w32 ((ji h 141 30) - v3))) 141 30 v3) 141 51 (ji (wi (wi h 162 (Int.toNat (w32 ((ji h 141 33) - 1))) (w32 ((ji h 141 30) - v3))) 141 30 v3) 141 49)) 168 (Int.toNat (ji (wi (wi (wi h 162 (Int.toNat (w32 ((ji h 141 33) - 1))) (w32 ((ji h 141 30) - v3))) 141 30 v3) 141 51 (ji (wi (wi h 162 (Int.toNat (w32 ((ji h 141 33) - 1))) (w32 ((ji h 141 30) - v3))) 141 30 v3) 141 49)) 141 38)))) 165 (Int.toNat (ji (wi (wi (wi (wi h 162 (Int.toNat (w32 ((ji h 141 33) - 1))) (w32 ((ji h 141 30) - v3))) 141 30 v3) 141 51 (ji (wi (wi h 162 (Int.toNat (w32 ((ji h 141 33) - 1))) (w32 ((ji h 141 30) - v3))) 141 30 v3) 141 49)) 141 50 (ji (wi (wi (wi h 162 (Int.toNat (w32 ((ji h 141 33) - 1))) (w32 ((ji h 141 30) - v3))) 141 30 v3) 141 51 (ji (wi (wi h 162 (Int.toNat (w32 ((ji h 141 33) - 1))) (w32 ((ji h 141 30) - v3))) 141 30 v3) 141 49)) 168 (Int.toNat (ji (wi (wi (wi h 162 (Int.toNat (w32 ((ji h 141 33) - 1))) (w32 ((ji h 141 30) - v3))) 141 30 v3) 141 51 (ji (wi (wi h 162 (Int.toNat (w32 ((ji h 141 33) - 1))) (w32 ((ji h 141 30) - v3))) 141 30 v3) 141 49)) 141 38)))) 141 38)))) 141 38)))) 141 49 (ji (wi (wi (wi (wi (wi (wi h 162 (Int.toNat (w32 ((ji h 141 33) - 1))) (w32 ((ji h 141 30) - v3))) 141 30 v3) 141 51 (ji (wi (wi h 162 (Int.toNat (w32 ((ji h 141 33) - 1))) (w32 ((ji h 141 30) - v3))) 141 30 v3) 141 49)) 141 50 (ji (wi (wi (wi h 162 (Int.toNat (w32 ((ji h 141 33) - 1))) (w32 ((ji h 141 30) - v3))) 141 30 v3) 141 51 (ji (wi (wi h 162 (Int.toNat (w32 ((ji h 141 33) - 1))) (w32 ((ji h 141 30) - v3))) 141 30 v3) 141 49)) 168 (Int.toNat (ji (wi (wi (wi h 162 (Int.toNat (w32 ((ji h 141 33) - 1))) (w32 ((ji h 141 30) - v3))) 141 30 v3) 141 51 (ji (wi (wi h 162 (Int.toNat (w32 ((ji h 141 33) - 1))) (w32 ((ji h 141 30) - v3))) 141 30 v3) 141 49)) 141 38)))) 141 47 (ji (wi (wi (wi (wi h 162 (Int.toNat (w32 ((ji h 141 33) - 1))) (w32 ((ji h 141 30) - v3))) 141 30 v3) 141 51 (ji (wi (wi h 162 (Int.toNat (w32 ((ji h 141 33) - 1))) (w32 ((ji h 141 30) - v3))) 141 30 v3) 141 49)) 141 50 (ji (wi (wi (wi h 162 (Int.toNat (w32 ((ji h 141 33) - 1))) (w32 ((ji h 141 30) - v3))) 141 30 v3) 141 51 (ji (wi (wi h 162 (Int.toNat (w32 ((ji h 141 33) - 1))) (w32 ((ji h 141 30) - v3))) 141 30 v3) 141 49)) 168 (Int.toNat (ji (wi (wi (wi h 162 (Int.toNat (w32 ((ji h 141 33) - 1))) (w32 ((ji h 141 30) - v3))) 141 30 v3) 141 51 (ji (wi (wi h 162 (Int.toNat (w32 ((ji h 141 33) - 1))) (w32 ((ji h 141 30) - v3))) 141 30 v3) 141 49)) 141 38)))) 165 (Int.toNat (ji (wi (wi (wi (wi h 162 (Int.toNat (w32 ((ji h 141 33) - 1))) (w32 ((ji h 141 30) - v3))) 141 30 v3) 141 51 (ji (wi (wi h 162 (Int.toNat (w32 ((ji h 141 33) - 1))) (w32 ((ji h 141 30) - v3))) 141 30 v3) 141 49)) 141 50 (ji (wi (wi (wi h 162 (Int.toNat (w32 ((ji h 141 33) - 1))) (w32 ((ji h 141 30) - v3))) 141 30 v3) 141 51 (ji (wi (wi h 162 (Int.toNat (w32 ((ji h 141 33) - 1))) (w32 ((ji h 141 30) - v3))) 141 30 v3) 141 49)) 168 (Int.toNat (ji (wi (wi (wi h 162 (Int.toNat (w32 ((ji h 141 33) - 1))) (w32 ((ji h 141 30) - v3))) 141 30 v3) 141 51 (ji (wi (wi h 162 (Int.toNat (w32 ((ji h 141 33) - 1))) (w32 ((ji h 141 30) - v3))) 141 30 v3) 141 49)) 141 38)))) 141 38)))) 141 48 (ji (wi (wi (wi (wi (wi h 162 (Int.toNat (w32 ((ji h 141 33) - 1))) (w32 ((ji h 141 30) - v3))) 141 30 v3) 141 51 (ji (wi (wi h 162 (Int.toNat (w32 ((ji h 141 33) - 1))) (w32 ((ji h 141 30) - v3))) 141 30 v3) 141 49)) 141 50 (ji (wi (wi (wi h 162 (Int.toNat (w32 ((ji h 141 33) - 1))) (w32 ((ji h 141 30) - v3))) 141 30 v3) 141 51 (ji (wi (wi h 162 (Int.toNat (w32 ((ji h 141 33) - 1))) (w32 ((ji h 141 30) - v3))) 141 30 v3) 141 49)) 168 (Int.toNat (ji (wi (wi (wi h 162 (Int.toNat (w32 ((ji h 141 33) - 1))) (w32 ((ji h 141 30) - v3))) 141 30 v3) 141 51 (ji (wi (wi h 162 (Int.toNat (w32 ((ji h 141 33) - 1))) (w32 ((ji h 141 30) - v3))) 141 30 v3) 141 49)) 141 38)))) 141 47 (ji (wi (wi (wi (wi h 162 (Int.toNat (w32 ((ji h 141 33) - 1))) (w32 ((ji h 141 30) - v3))) 141 30 v3) 141 51 (ji (wi (wi h 162 (Int.toNat (w32 ((ji h 141 33) - 1))) (w32 ((ji h 141 30) - v3))) 141 30 v3) 141 49)) 141 50 (ji (wi (wi (wi h 162 (Int.toNat (w32 ((ji h 141 33) - 1))) (w32 ((ji h 141 30) - v3))) 141 30 v3) 141 51 (ji (wi (wi h 162 (Int.toNat (w32 ((ji h 141 33) - 1))) (w32 ((ji h 141 30) - v3))) 141 30 v3) 141 49)) 168 (Int.toNat (ji (wi (wi (wi h 162 (Int.toNat (w32 ((ji h 141 33) - 1))) (w32 ((ji h 141 30) - v3))) 141 30 v3) 141 51 (ji (wi (wi h 162 (Int.toNat (w32 ((ji h 141 33) - 1))) (w32 ((ji h 141 30) - v3))) 141 30 v3) 141 49)) 141 38)))) 165 (Int.toNat (ji (wi (wi (wi (wi h 162 (Int.toNat (w32 ((ji h 141 33) - 1))) (w32 ((ji h 141 30) - v3))) 141 30 v3) 141 51 (ji (wi (wi h 162 (Int.toNat (w32 ((ji h 141 33) - 1))) (w32 ((ji h 141 30) - v3))) 141 30 v3) 141 49)) 141 50 (ji (wi (wi (wi h 162 (Int.toNat (w32 ((ji h 141 33) - 1))) (w32 ((ji h 141 30) - v3))) 141 30 v3) 141 51 (ji (wi (wi h 162 (Int.toNat (w32 ((ji h 141 33) - 1))) (w32 ((ji h 141 30) - v3))) 141 30 v3) 141 49)) 168 (Int.toNat (ji (wi (wi (wi h 162 (Int.toNat (w32 ((ji h 141 33) - 1))) (w32 ((ji h 141 30) - v3))) 141 30 v3) 141 51 (ji (wi (wi h 162 (Int.toNat (w32 ((ji h 141 33) - 1))) (w32 ((ji h 141 30) - v3))) 141 30 v3) 141 49)) 141 38)))) 141 38)))) 166 (Int.toNat (ji (wi (wi (wi (wi (wi h 162 (Int.toNat (w32 ((ji h 141 33) - 1))) (w32 ((ji h 141 30) - v3))) 141 30 v3) 141 51 (ji (wi (wi h 162 (Int.toNat (w32 ((ji h 141 33) - 1))) (w32 ((ji h 141 30) - v3))) 141 30 v3) 141 49)) 141 50 (ji (wi (wi (wi h 162 (Int.toNat (w32 ((ji h 141 33) - 1))) (w32 ((ji h 141 30) - v3))) 141 30 v3) 141 51 (ji (wi (wi h 162 (Int.toNat (w32 ((ji h 141 33) - 1))) (w32 ((ji h 141 30) - v3))) 141 30 v3) 141 49)) 168 (Int.toNat (ji (wi (wi (wi h 162 (Int.toNat (w32 ((ji h 141 33) - 1))) (w32 ((ji h 141 30) - v3))) 141 30 v3) 141 51 (ji (wi (wi h 162 (Int.toNat (w32 ((ji h 141 33) - 1))) (w32 ((ji h 141 30) - v3))) 141 30 v3) 141 49)) 141 38)))) 141 47 (ji (wi (wi (wi (wi h 162 (Int.toNat (w32 ((ji h 141 33) - 1))) (w32 ((ji h 141 30) - v3))) 141 30 v3) 141 51 (ji (wi (wi h 162 (Int.toNat (w32 ((ji h 141 33) - 1))) (w32 ((ji h 141 30) - v3))) 141 30 v3) 141 49)) 141 50 (ji (wi (wi (wi h 162 (Int.toNat (w32 ((ji h 141 33) - 1))) (w32 ((ji h 141 30) - v3))) 141 30 v3) 141 51 (ji (wi (wi h 162 (Int.toNat (w32 ((ji h 141 33) - 1))) (w32 ((ji h 141 30) - v3))) 141 30 v3) 141 49)) 168 (Int.toNat (ji (wi (wi (wi h 162 (Int.toNat (w32 ((ji h 141 33) - 1))) (w32 ((ji h 141 30) - v3))) 141 30 v3) 141 51 (ji (wi (wi h 162 (Int.toNat (w32 ((ji h 141 33) - 1))) (w32 ((ji h 141 30) - v3))) 141 30 v3) 141 49)) 141 38)))) 165 (Int.toNat (ji (wi (wi (wi (wi h 162 (Int.toNat (w32 ((ji h 141 33) - 1))) (w32 ((ji h 141 30) - v3))) 141 30 v3) 141 51 (ji (wi (wi h 162 (Int.toNat (w32 ((ji h 141 33) - 1))) (w32 ((ji h 141 30) - v3))) 141 30 v3) 141 49)) 141 50 (ji (wi (wi (wi h 162 (Int.toNat (w32 ((ji h 141 33) - 1))) (w32 ((ji h 141 30) - v3))) 141 30 v3) 141 51 (ji (wi (wi h 162 (Int.toNat (w32 ((ji h 141 33) - 1))) (w32 ((ji h 141 30) - v3))) 141 30 v3) 141 49)) 168 (Int.toNat (ji (wi (wi (wi h 162 (Int.toNat (w32 ((ji h 141 33) - 1))) (w32 ((ji h 141 30) - v3))) 141 30 v3) 141 51 (ji (wi (wi h 162 (Int.toNat (w32 ((ji h 141 33) - 1))) (w32 ((ji h 141 30) - v3))) 141 30 v3) 141 49)) 141 38)))) 141 38)))) 141 38)))) 167 (Int.toNat (ji (wi (wi (wi (wi (wi (wi h 162 (Int.toNat (w32 ((ji h 141 33) - 1))) (w32 ((ji h 141 30) - v3))) 141 30 v3) 141 51 (ji (wi (wi h 162 (Int.toNat (w32 ((ji h 141 33) - 1))) (w32 ((ji h 141 30) - v3))) 141 30 v3) 141 49)) 141 50 (ji (wi (wi (wi h 162 (Int.toNat (w32 ((ji h 141 33) - 1))) (w32 ((ji h 141 30) - v3))) 141 30 v3) 141 51 (ji (wi (wi h 162 (Int.toNat (w32 ((ji h 141 33) - 1))) (w32 ((ji h 141 30) - v3))) 141 30 v3) 141 49)) 168 (Int.toNat (ji (wi (wi (wi h 162 (Int.toNat (w32 ((ji h 141 33) - 1))) (w32 ((ji h 141 30) - v3))) 141 30 v3) 141 51 (ji (wi (wi h 162 (Int.toNat (w32 ((ji h 141 33) - 1))) (w32 ((ji h 141 30) - v3))) 141 30 v3) 141 49)) 141 38)))) 141 47 (ji (wi (wi (wi (wi h 162 (Int.toNat (w32 ((ji h 141 33) - 1))) (w32 ((ji h 141 30) - v3))) 141 30 v3) 141 51 (ji (wi (wi h 162 (Int.toNat (w32 ((ji h 141 33) - 1))) (w32 ((ji h 141 30) - v3))) 141 30 v3) 141 49)) 141 50 (ji (wi (wi (wi h 162 (Int.toNat (w32 ((ji h 141 33) - 1))) (w32 ((ji h 141 30) - v3))) 141 30 v3) 141 51 (ji (wi (wi h 162 (Int.toNat (w32 ((ji h 141 33) - 1))) (w32 ((ji h 141 30) - v3))) 141 30 v3) 141 49)) 168 (Int.toNat (ji (wi (wi (wi h 162 (Int.toNat (w32 ((ji h 141 33) - 1))) (w32 ((ji h 141 30) - v3))) 141 30 v3) 141 51 (ji (wi (wi h 162 (Int.toNat (w32 ((ji h 141 33) - 1))) (w32 ((ji h 141 30) - v3))) 141 30 v3) 141 49)) 141 38)))) 165 (Int.toNat (ji (wi (wi (wi (wi h 162 (Int.toNat (w32 ((ji h 141 33) - 1))) (w32 ((ji h 141 30) - v3))) 141 30 v3) 141 51 (ji (wi (wi h 162 (Int.toNat (w32 ((ji h 141 33) - 1))) (w32 ((ji h 141 30) - v3))) 141 30 v3) 141 49)) 141 50 (ji (wi (wi (wi h 162 (Int.toNat (w32 ((ji h 141 33) - 1))) (w32 ((ji h 141 30) - v3))) 141 30 v3) 141 51 (ji (wi (wi h 162 (Int.toNat (w32 ((ji h 141 33) - 1))) (w32 ((ji h 141 30) - v3))) 141 30 v3) 141 49)) 168 (Int.toNat (ji (wi (wi (wi h 162 (Int.toNat (w32 ((ji h 141 33) - 1))) (w32 ((ji h 141 30) - v3))) 141 30 v3) 141 51 (ji (wi (wi h 162 (Int.toNat (w32 ((ji h 141 33) - 1))) (w32 ((ji h 141 30) - v3))) 141 30 v3) 141 49)) 141 38)))) 141 38)))) 141 48 (ji (wi (wi (wi (wi (wi h 162 (Int.toNat (w32 ((ji h 141 33) - 1))) (w32 ((ji h 141 30) - v3))) 141 30 v3) 141 51 (ji (wi (wi h 162 (Int.toNat (w32 ((ji h 141 33) - 1))) (w32 ((ji h 141 30) - v3))) 141 30 v3) 141 49)) 141 50 (ji (wi (wi (wi h 162 (Int.toNat (w32 ((ji h 141 33) - 1))) (w32 ((ji h 141 30) - v3))) 141 30 v3) 141 51 (ji (wi (wi h 162 (Int.toNat (w32 ((ji h 141 33) - 1))) (w32 ((ji h 141 30) - v3))) 141 30 v3) 141 49)) 168 (Int.toNat (ji (wi (wi (wi h 162 (Int.toNat (w32 ((ji h 141 33) - 1))) (w32 ((ji h 141 30) - v3))) 141 30 v3) 141 51 (ji (wi (wi h 162 (Int.toNat (w32 ((ji h 141 33) - 1))) (w32 ((ji h 141 30) - v3))) 141 30 v3) 141 49)) 141 38)))) 141 47 (ji (wi (wi (wi (wi h 162 (Int.toNat (w32 ((ji h 141 33) - 1))) (w32 ((ji h 141 30) - v3))) 141 30 v3) 141 51 (ji (wi (wi h 162 (Int.toNat (w32 ((ji h 141 33) - 1))) (w32 ((ji h 141 30) - v3))) 141 30 v3) 141 49)) 141 50 (ji (wi (wi (wi h 162 (Int.toNat (w32 ((ji h 141 33) - 1))) (w32 ((ji h 141 30) - v3))) 141 30 v3) 141 51 (ji (wi (wi h 162 (Int.toNat (w32 ((ji h 141 33) - 1))) (w32 ((ji h 141 30) - v3))) 141 30 v3) 141 49)) 168 (Int.toNat (ji (wi (wi (wi h 162 (Int.toNat (w32 ((ji h 141 33) - 1))) (w32 ((ji h 141 30) - v3))) 141 30 v3) 141 51 (ji (wi (wi h 162 (Int.toNat (w32 ((ji h 141 33) - 1))) (w32 ((ji h 141 30) - v3))) 141 30 v3) 141 49)) 141 38)))) 165 (Int.toNat (ji (wi (wi (wi (wi h 162 (Int.toNat (w32 ((ji h 141 33) - 1))) (w32 ((ji h 141 30) - v3))) 141 30 v3) 141 51 (ji (wi (wi h 162 (Int.toNat (w32 ((ji h 141 33) - 1))) (w32 ((ji h 141 30) - v3))) 141 30 v3) 141 49)) 141 50 (ji (wi (wi (wi h 162 (Int.toNat (w32 ((ji h 141 33) - 1))) (w32 ((ji h 141 30) - v3))) 141 30 v3) 141 51 (ji (wi (wi h 162 (Int.toNat (w32 ((ji h 141 33) - 1))) (w32 ((ji h 141 30) - v3))) 141 30 v3) 141 49)) 168 (Int.toNat (ji (wi (wi (wi h 162 (Int.toNat (w32 ((ji h 141 33) - 1))) (w32 ((ji h 141 30) - v3))) 141 30 v3) 141 51 (ji (wi (wi h 162 (Int.toNat (w32 ((ji h 141 33) - 1))) (w32 ((ji h 141 30) - v3))) 141 30 v3) 141 49)) 141 38)))) 141 38)))) 166 (Int.toNat (ji (wi (wi (wi (wi (wi h 162 (Int.toNat (w32 ((ji h 141 33) - 1))) (w32 ((ji h 141 30) - v3))) 141 30 v3) 141 51 (ji (wi (wi h 162 (Int.toNat (w32 ((ji h 141 33) - 1))) (w32 ((ji h 141 30) - v3))) 141 30 v3) 141 49)) 141 50 (ji (wi (wi (wi h 162 (Int.toNat (w32 ((ji h 141 33) - 1))) (w32 ((ji h 141 30) - v3))) 141 30 v3) 141 51 (ji (wi (wi h 162 (Int.toNat (w32 ((ji h 141 33) - 1))) (w32 ((ji h 141 30) - v3))) 141 30 v3) 141 49)) 168 (Int.toNat (ji (wi (wi (wi h 162 (Int.toNat (w32 ((ji h 141 33) - 1))) (w32 ((ji h 141 30) - v3))) 141 30 v3) 141 51 (ji (wi (wi h 162 (Int.toNat (w32 ((ji h 141 33) - 1))) (w32 ((ji h 141 30) - v3))) 141 30 v3) 141 49)) 141 38)))) 141 47 (ji (wi (wi (wi (wi h 162 (Int.toNat (w32 ((ji h 141 33) - 1))) (w32 ((ji h 141 30) - v3))) 141 30 v3) 141 51 (ji (wi (wi h 162 (Int.toNat (w32 ((ji h 141 33) - 1))) (w32 ((ji h 141 30) - v3))) 141 30 v3) 141 49)) 141 50 (ji (wi (wi (wi h 162 (Int.toNat (w32 ((ji h 141 33) - 1))) (w32 ((ji h 141 30) - v3))) 141 30 v3) 141 51 (ji (wi (wi h 162 (Int.toNat (w32 ((ji h 141 33) - 1))) (w32 ((ji h 141 30) - v3))) 141 30 v3) 141 49)) 168 (Int.toNat (ji (wi (wi (wi h 162 (Int.toNat (w32 ((ji h 141 33) - 1))) (w32 ((ji h 141 30) - v3))) 141 30 v3) 141 51 (ji (wi (wi h 162 (Int.toNat (w32 ((ji h 141 33) - 1))) (w32 ((ji h 141 30) - v3))) 141 30 v3) 141 49)) 141 38)))) 165 (Int.toNat (ji (wi (wi (wi (wi h 162 (Int.toNat (w32 ((ji h 141 33) - 1))) (w32 ((ji h 141 30) - v3))) 141 30 v3) 141 51 (ji (wi (wi h 162 (Int.toNat (w32 ((ji h 141 33) - 1))) (w32 ((ji h 141 30) - v3))) 141 30 v3) 141 49)) 141 50 (ji (wi (wi (wi h 162 (Int.toNat (w32 ((ji h 141 33) - 1))) (w32 ((ji h 141 30) - v3))) 141 30 v3) 141 51 (ji (wi (wi h 162 (Int.toNat (w32 ((ji h 141 33) - 1))) (w32 ((ji h 141 30) - v3))) 141 30 v3) 141 49)) 168 (Int.toNat (ji (wi (wi (wi h 162 (Int.toNat (w32 ((ji h 141 33) - 1))) (w32 ((ji h 141 30) - v3))) 141 30 v3) 141 51 (ji (wi (wi h 162 (Int.toNat (w32 ((ji h 141 33) - 1))) (w32 ((ji h 141 30) - v3))) 141 30 v3) 141 49)) 141 38)))) 141 38)))) 141 38)))) 141 38)))) 169 (Int.toNat (ji (wi (wi (wi (wi (wi (wi (wi h 162 (Int.toNat (w32 ((ji h 141 33) - 1))) (w32 ((ji h 141 30) - v3))) 141 30 v3) 141 51 (ji (wi (wi h 162 (Int.toNat (w32 ((ji h 141 33) - 1))) (w32 ((ji h 141 30) - v3))) 141 30 v3) 141 49)) 141 50 (ji (wi (wi (wi h 162 (Int.toNat (w32 ((ji h 141 33) - 1))) (w32 ((ji h 141 30) - v3))) 141 30 v3) 141 51 (ji (wi (wi h 162 (Int.toNat (w32 ((ji h 141 33) - 1))) (w32 ((ji h 141 30) - v3))) 141 30 v3) 141 49)) 168 (Int.toNat (ji (wi (wi (wi h 162 (Int.toNat (w32 ((ji h 141 33) - 1))) (w32 ((ji h 141 30) - v3))) 141 30 v3) 141 51 (ji (wi (wi h 162 (Int.toNat (w32 ((ji h 141 33) - 1))) (w32 ((ji h 141 30) - v3))) 141 30 v3) 141 49)) 141 38)))) 141 47 (ji (wi (wi (wi (wi h 162 (Int.toNat (w32 ((ji h 141 33) - 1))) (w32 ((ji h 141 30) - v3))) 141 30 v3) 141 51 (ji (wi (wi h 162 (Int.toNat (w32 ((ji h 141 33) - 1))) (w32 ((ji h 141 30) - v3))) 141 30 v3) 141 49)) 141 50 (ji (wi (wi (wi h 162 (Int.toNat (w32 ((ji h 141 33) - 1))) (w32 ((ji h 141 30) - v3))) 141 30 v3) 141 51 (ji (wi (wi h 162 (Int.toNat (w32 ((ji h 141 33) - 1))) (w32 ((ji h 141 30) - v3))) 141 30 v3) 141 49)) 168 (Int.toNat (ji (wi (wi (wi h 162 (Int.toNat (w32 ((ji h 141 33) - 1))) (w32 ((ji h 141 30) - v3))) 141 30 v3) 141 51 (ji (wi (wi h 162 (Int.toNat (w32 ((ji h 141 33) - 1))) (w32 ((ji h 141 30) - v3))) 141 30 v3) 141 49)) 141 38)))) 165 (Int.toNat (ji (wi (wi (wi (wi h 162 (Int.toNat (w32 ((ji h 141 33) - 1))) (w32 ((ji h 141 30) - v3))) 141 30 v3) 141 51 (ji (wi (wi h 162 (Int.toNat (w32 ((ji h 141 33) - 1))) (w32 ((ji h 141 30) - v3))) 141 30 v3) 141 49)) 141 50 (ji (wi (wi (wi h 162 (Int.toNat (w32 ((ji h 141 33) - 1))) (w32 ((ji h 141 30) - v3))) 141 30 v3) 141 51 (ji (wi (wi h 162 (Int.toNat (w32 ((ji h 141 33) - 1))) (w32 ((ji h 141 30) - v3))) 141 30 v3) 141 49)) 168 (Int.toNat (ji (wi (wi (wi h 162 (Int.toNat (w32 ((ji h 141 33) - 1))) (w32 ((ji h 141 30) - v3))) 141 30 v3) 141 51 (ji (wi (wi h 162 (Int.toNat (w32 ((ji h 141 33) - 1))) (w32 ((ji h 141 30) - v3))) 141 30 v3) 141 49)) 141 38)))) 141 38)))) 141 48 (ji (wi (wi (wi (wi (wi h 162 (Int.toNat (w32 ((ji h 141 33) - 1))) (w32 ((ji h 141 30) - v3))) 141 30 v3) 141 51 (ji (wi (wi h 162 (Int.toNat (w32 ((ji h 141 33) - 1))) (w32 ((ji h 141 30) - v3))) 141 30 v3) 141 49)) 141 50 (ji (wi (wi (wi h 162 (Int.toNat (w32 ((ji h 141 33) - 1))) (w32 ((ji h 141 30) - v3))) 141 30 v3) 141 51 (ji (wi (wi h 162 (Int.toNat (w32 ((ji h 141 33) - 1))) (w32 ((ji h 141 30) - v3))) 141 30 v3) 141 49)) 168 (Int.toNat (ji (wi (wi (wi h 162 (Int.toNat (w32 ((ji h 141 33) - 1))) (w32 ((ji h 141 30) - v3))) 141 30 v3) 141 51 (ji (wi (wi h 162 (Int.toNat (w32 ((ji h 141 33) - 1))) (w32 ((ji h 141 30) - v3))) 141 30 v3) 141 49)) 141 38)))) 141 47 (ji (wi (wi (wi (wi h 162 (Int.toNat (w32 ((ji h 141 33) - 1))) (w32 ((ji h 141 30) - v3))) 141 30 v3) 141 51 (ji (wi (wi h 162 (Int.toNat (w32 ((ji h 141 33) - 1))) (w32 ((ji h 141 30) - v3))) 141 30 v3) 141 49)) 141 50 (ji (wi (wi (wi h 162 (Int.toNat (w32 ((ji h 141 33) - 1))) (w32 ((ji h 141 30) - v3))) 141 30 v3) 141 51 (ji (wi (wi h 162 (Int.toNat (w32 ((ji h 141 33) - 1))) (w32 ((ji h 141 30) - v3))) 141 30 v3) 141 49)) 168 (Int.toNat (ji (wi (wi (wi h 162 (Int.toNat (w32 ((ji h 141 33) - 1))) (w32 ((ji h 141 30) - v3))) 141 30 v3) 141 51 (ji (wi (wi h 162 (Int.toNat (w32 ((ji h 141 33) - 1))) (w32 ((ji h 141 30) - v3))) 141 30 v3) 141 49)) 141 38)))) 165 (Int.toNat (ji (wi (wi (wi (wi h 162 (Int.toNat (w32 ((ji h 141 33) - 1))) (w32 ((ji h 141 30) - v3))) 141 30 v3) 141 51 (ji (wi (wi h 162 (Int.toNat (w32 ((ji h 141 33) - 1))) (w32 ((ji h 141 30) - v3))) 141 30 v3) 141 49)) 141 50 (ji (wi (wi (wi h 162 (Int.toNat (w32 ((ji h 141 33) - 1))) (w32 ((ji h 141 30) - v3))) 141 30 v3) 141 51 (ji (wi (wi h 162 (Int.toNat (w32 ((ji h 141 33) - 1))) (w32 ((ji h 141 30) - v3))) 141 30 v3) 141 49)) 168 (Int.toNat (ji (wi (wi (wi h 162 (Int.toNat (w32 ((ji h 141 33) - 1))) (w32 ((ji h 141 30) - v3))) 141 30 v3) 141 51 (ji (wi (wi h 162 (Int.toNat (w32 ((ji h 141 33) - 1))) (w32 ((ji h 141 30) - v3))) 141 30 v3) 141 49)) 141 38)))) 141 38)))) 166 (Int.toNat (ji (wi (wi (wi (wi (wi h 162 (Int.toNat (w32 ((ji h 141 33) - 1))) (w32 ((ji h 141 30) - v3))) 141 30 v3) 141 51 (ji (wi (wi h 162 (Int.toNat (w32 ((ji h 141 33) - 1))) (w32 ((ji h 141 30) - v3))) 141 30 v3) 141 49)) 141 50 (ji (wi (wi (wi h 162 (Int.toNat (w32 ((ji h 141 33) - 1))) (w32 ((ji h 141 30) - v3))) 141 30 v3) 141 51 (ji (wi (wi h 162 (Int.toNat (w32 ((ji h 141 33) - 1))) (w32 ((ji h 141 30) - v3))) 141 30 v3) 141 49)) 168 (Int.toNat (ji (wi (wi (wi h 162 (Int.toNat (w32 ((ji h 141 33) - 1))) (w32 ((ji h 141 30) - v3))) 141 30 v3) 141 51 (ji (wi (wi h 162 (Int.toNat (w32 ((ji h 141 33) - 1))) (w32 ((ji h 141 30) - v3))) 141 30 v3) 141 49)) 141 38)))) 141 47 (ji (wi (wi (wi (wi h 162 (Int.toNat (w32 ((ji h 141 33) - 1))) (w32 ((ji h 141 30) - v3))) 141 30 v3) 141 51 (ji (wi (wi h 162 (Int.toNat (w32 ((ji h 141 33) - 1))) (w32 ((ji h 141 30) - v3))) 141 30 v3) 141 49)) 141 50 (ji (wi (wi (wi h 162 (Int.toNat (w32 ((ji h 141 33) - 1))) (w32 ((ji h 141 30) - v3))) 141 30 v3) 141 51 (ji (wi (wi h 162 (Int.toNat (w32 ((ji h 141 33) - 1))) (w32 ((ji h 141 30) - v3))) 141 30 v3) 141 49)) 168 (Int.toNat (ji (wi (wi (wi h 162 (Int.toNat (w32 ((ji h 141 33) - 1))) (w32 ((ji h 141 30) - v3))) 141 30 v3) 141 51 (ji (wi (wi h 162 (Int.toNat (w32 ((ji h 141 33) - 1))) (w32 ((ji h 141 30) - v3))) 141 30 v3) 141 49)) 141 38)))) 165 (Int.toNat (ji (wi (wi (wi (wi h 162 (Int.toNat (w32 ((ji h 141 33) - 1))) (w32 ((ji h 141 30) - v3))) 141 30 v3) 141 51 (ji (wi (wi h 162 (Int.toNat (w32 ((ji h 141 33) - 1))) (w32 ((ji h 141 30) - v3))) 141 30 v3) 141 49)) 141 50 (ji (wi (wi (wi h 162 (Int.toNat (w32 ((ji h 141 33) - 1))) (w32 ((ji h 141 30) - v3))) 141 30 v3) 141 51 (ji (wi (wi h 162 (Int.toNat (w32 ((ji h 141 33) - 1))) (w32 ((ji h 141 30) - v3))) 141 30 v3) 141 49)) 168 (Int.toNat (ji (wi (wi (wi h 162 (Int.toNat (w32 ((ji h 141 33) - 1))) (w32 ((ji h 141 30) - v3))) 141 30 v3) 141 51 (ji (wi (wi h 162 (Int.toNat (w32 ((ji h 141 33) - 1))) (w32 ((ji h 141 30) - v3))) 141 30 v3) 141 49)) 141 38)))) 141 38)))) 141 38)))) 141 49 (ji (wi (wi (wi (wi (wi (wi h 162 (Int.toNat (w32 ((ji h 141 33) - 1))) (w32 ((ji h 141 30) - v3))) 141 30 v3) 141 51 (ji (wi (wi h 162 (Int.toNat (w32 ((ji h 141 33) - 1))) (w32 ((ji h 141 30) - v3))) 141 30 v3) 141 49)) 141 50 (ji (wi (wi (wi h 162 (Int.toNat (w32 ((ji h 141 33) - 1))) (w32 ((ji h 141 30) - v3))) 141 30 v3) 141 51 (ji (wi (wi h 162 (Int.toNat (w32 ((ji h 141 33) - 1))) (w32 ((ji h 141 30) - v3))) 141 30 v3) 141 49)) 168 (Int.toNat (ji (wi (wi (wi h 162 (Int.toNat (w32 ((ji h 141 33) - 1))) (w32 ((ji h 141 30) - v3))) 141 30 v3) 141 51 (ji (wi (wi h 162 (Int.toNat (w32 ((ji h 141 33) - 1))) (w32 ((ji h 141 30) - v3))) 141 30 v3) 141 49)) 141 38)))) 141 47 (ji (wi (wi (wi (wi h 162 (Int.toNat (w32 ((ji h 141 33) - 1))) (w32 ((ji h 141 30) - v3))) 141 30 v3) 141 51 (ji (wi (wi h 162 (Int.toNat (w32 ((ji h 141 33) - 1))) (w32 ((ji h 141 30) - v3))) 141 30 v3) 141 49)) 141 50 (ji (wi (wi (wi h 162 (Int.toNat (w32 ((ji h 141 33) - 1))) (w32 ((ji h 141 30) - v3))) 141 30 v3) 141 51 (ji (wi (wi h 162 (Int.toNat (w32 ((ji h 141 33) - 1))) (w32 ((ji h 141 30) - v3))) 141 30 v3) 141 49)) 168 (Int.toNat (ji (wi (wi (wi h 162 (Int.toNat (w32 ((ji h 141 33) - 1))) (w32 ((ji h 141 30) - v3))) 141 30 v3) 141 51 (ji (wi (wi h 162 (Int.toNat (w32 ((ji h 141 33) - 1))) (w32 ((ji h 141 30) - v3))) 141 30 v3) 141 49)) 141 38)))) 165 (Int.toNat (ji (wi (wi (wi (wi h 162 (Int.toNat (w32 ((ji h 141 33) - 1))) (w32 ((ji h 141 30) - v3))) 141 30 v3) 141 51 (ji (wi (wi h 162 (Int.toNat (w32 ((ji h 141 33) - 1))) (w32 ((ji h 141 30) - v3))) 141 30 v3) 141 49)) 141 50 (ji (wi (wi (wi h 162 (Int.toNat (w32 ((ji h 141 33) - 1))) (w32 ((ji h 141 30) - v3))) 141 30 v3) 141 51 (ji (wi (wi h 162 (Int.toNat (w32 ((ji h 141 33) - 1))) (w32 ((ji h 141 30) - v3))) 141 30 v3) 141 49)) 168 (Int.toNat (ji (wi (wi (wi h 162 (Int.toNat (w32 ((ji h 141 33) - 1))) (w32 ((ji h 141 30) - v3))) 141 30 v3) 141 51 (ji (wi (wi h 162 (Int.toNat (w32 ((ji h 141 33) - 1))) (w32 ((ji h 141 30) - v3))) 141 30 v3) 141 49)) 141 38)))) 141 38)))) 141 48 (ji (wi (wi (wi (wi (wi h 162 (Int.toNat (w32 ((ji h 141 33) - 1))) (w32 ((ji h 141 30) - v3))) 141 30 v3) 141 51 (ji (wi (wi h 162 (Int.toNat (w32 ((ji h 141 33) - 1))) (w32 ((ji h 141 30) - v3))) 141 30 v3) 141 49)) 141 50 (ji (wi (wi (wi h 162 (Int.toNat (w32 ((ji h 141 33) - 1))) (w32 ((ji h 141 30) - v3))) 141 30 v3) 141 51 (ji (wi (wi h 162 (Int.toNat (w32 ((ji h 141 33) - 1))) (w32 ((ji h 141 30) - v3))) 141 30 v3) 141 49)) 168 (Int.toNat (ji (wi (wi (wi h 162 (Int.toNat (w32 ((ji h 141 33) - 1))) (w32 ((ji h 141 30) - v3))) 141 30 v3) 141 51 (ji (wi (wi h 162 (Int.toNat (w32 ((ji h 141 33) - 1))) (w32 ((ji h 141 30) - v3))) 141 30 v3) 141 49)) 141 38)))) 141 47 (ji (wi (wi (wi (wi h 162 (Int.toNat (w32 ((ji h 141 33) - 1))) (w32 ((ji h 141 30) - v3))) 141 30 v3) 141 51 (ji (wi (wi h 162 (Int.toNat (w32 ((ji h 141 33) - 1))) (w32 ((ji h 141 30) - v3))) 141 30 v3) 141 49)) 141 50 (ji (wi (wi (wi h 162 (Int.toNat (w32 ((ji h 141 33) - 1))) (w32 ((ji h 141 30) - v3))) 141 30 v3) 141 51 (ji (wi (wi h 162 (Int.toNat (w32 ((ji h 141 33) - 1))) (w32 ((ji h 141 30) - v3))) 141 30 v3) 141 49)) 168 (Int.toNat (ji (wi (wi (wi h 162 (Int.toNat (w32 ((ji h 141 33) - 1))) (w32 ((ji h 141 30) - v3))) 141 30 v3) 141 51 (ji (wi (wi h 162 (Int.toNat (w32 ((ji h 141 33) - 1))) (w32 ((ji h 141 30) - v3))) 141 30 v3) 141 49)) 141 38)))) 165 (Int.toNat (ji (wi (wi (wi (wi h 162 (Int.toNat (w32 ((ji h 141 33) - 1))) (w32 ((ji h 141 30) - v3))) 141 30 v3) 141 51 (ji (wi (wi h 162 (Int.toNat (w32 ((ji h 141 33) - 1))) (w32 ((ji h 141 30) - v3))) 141 30 v3) 141 49)) 141 50 (ji (wi (wi (wi h 162 (Int.toNat (w32 ((ji h 141 33) - 1))) (w32 ((ji h 141 30) - v3))) 141 30 v3) 141 51 (ji (wi (wi h 162 (Int.toNat (w32 ((ji h 141 33) - 1))) (w32 ((ji h 141 30) - v3))) 141 30 v3) 141 49)) 168 (Int.toNat (ji (wi (wi (wi h 162 (Int.toNat (w32 ((ji h 141 33) - 1))) (w32 ((ji h 141 30) - v3))) 141 30 v3) 141 51 (ji (wi (wi h 162 (Int.toNat (w32 ((ji h 141 33) - 1))) (w32 ((ji h 141 30) - v3))) 141 30 v3) 141 49)) 141 38)))) 141 38)))) 166 (Int.toNat (ji (wi (wi (wi (wi (wi h 162 (Int.toNat (w32 ((ji h 141 33) - 1))) (w32 ((ji h 141 30) - v3))) 141 30 v3) 141 51 (ji (wi (wi h 162 (Int.toNat (w32 ((ji h 141 33) - 1))) (w32 ((ji h 141 30) - v3))) 141 30 v3) 141 49)) 141 50 (ji (wi (wi (wi h 162 (Int.toNat (w32 ((ji h 141 33) - 1))) (w32 ((ji h 141 30) - v3))) 141 30 v3) 141 51 (ji (wi (wi h 162 (Int.toNat (w32 ((ji h 141 33) - 1))) (w32 ((ji h 141 30) - v3))) 141 30 v3) 141 49)) 168 (Int.toNat (ji (wi (wi (wi h 162 (Int.toNat (w32 ((ji h 141 33) - 1))) (w32 ((ji h 141 30) - v3))) 141 30 v3) 141 51 (ji (wi (wi h 162 (Int.toNat (w32 ((ji h 141 33) - 1))) (w32 ((ji h 141 30) - v3))) 141 30 v3) 141 49)) 141 38)))) 141 47 (ji (wi (wi (wi (wi h 162 (Int.toNat (w32 ((ji h 141 33) - 1))) (w32 ((ji h 141 30) - v3))) 141 30 v3) 141 51 (ji (wi (wi h 162 (Int.toNat (w32 ((ji h 141 33) - 1))) (w32 ((ji h 141 30) - v3))) 141 30 v3) 141 49)) 141 50 (ji (wi (wi (wi h 162 (Int.toNat (w32 ((ji h 141 33) - 1))) (w32 ((ji h 141 30) - v3))) 141 30 v3) 141 51 (ji (wi (wi h 162 (Int.toNat (w32 ((ji h 141 33) - 1))) (w32 ((ji h 141 30) - v3))) 141 30 v3) 141 49)) 168 (Int.toNat (ji (wi (wi (wi h 162 (Int.toNat (w32 ((ji h 141 33) - 1))) (w32 ((ji h 141 30) - v3))) 141 30 v3) 141 51 (ji (wi (wi h 162 (Int.toNat (w32 ((ji h 141 33) - 1))) (w32 ((ji h 141 30) - v3))) 141 30 v3) 141 49)) 141 38)))) 165 (Int.toNat (ji (wi (wi (wi (wi h 162 (Int.toNat (w32 ((ji h 141 33) - 1))) (w32 ((ji h 141 30) - v3))) 141 30 v3) 141 51 (ji (wi (wi h 162 (Int.toNat (w32 ((ji h 141 33) - 1))) (w32 ((ji h 141 30) - v3))) 141 30 v3) 141 49)) 141 50 (ji (wi (wi (wi h 162 (Int.toNat (w32 ((ji h 141 33) - 1))) (w32 ((ji h 141 30) - v3))) 141 30 v3) 141 51 (ji (wi (wi h 162 (Int.toNat (w32 ((ji h 141 33) - 1))) (w32 ((ji h 141 30) - v3))) 141 30 v3) 141 49)) 168 (Int.toNat (ji (wi (wi (wi h 162 (Int.toNat (w32 ((ji h 141 33) - 1))) (w32 ((ji h 141 30) - v3))) 141 30 v3) 141 51 (ji (wi (wi h 162 (Int.toNat (w32 ((ji h 141 33) - 1))) (w32 ((ji h 141 30) - v3))) 141 30 v3) 141 49)) 141 38)))) 141 38)))) 141 38)))) 167 (Int.toNat (ji (wi (wi (wi (wi (wi (wi h 162 (Int.toNat (w32 ((ji h 141 33) - 1))) (w32 ((ji h 141 30) - v3))) 141 30 v3) 141 51 (ji (wi (wi h 162 (Int.toNat (w32 ((ji h 141 33) - 1))) (w32 ((ji h 141 30) - v3))) 141 30 v3) 141 49)) 141 50 (ji (wi (wi (wi h 162 (Int.toNat (w32 ((ji h 141 33) - 1))) (w32 ((ji h 141 30) - v3))) 141 30 v3) 141 51 (ji (wi (wi h 162 (Int.toNat (w32 ((ji h 141 33) - 1))) (w32 ((ji h 141 30) - v3))) 141 30 v3) 141 49)) 168 (Int.toNat (ji (wi (wi (wi h 162 (Int.toNat (w32 ((ji h 141 33) - 1))) (w32 ((ji h 141 30) - v3))) 141 30 v3) 141 51 (ji (wi (wi h 162 (Int.toNat (w32 ((ji h 141 33) - 1))) (w32 ((ji h 141 30) - v3))) 141 30 v3) 141 49)) 141 38)))) 141 47 (ji (wi (wi (wi (wi h 162 (Int.toNat (w32 ((ji h 141 33) - 1))) (w32 ((ji h 141 30) - v3))) 141 30 v3) 141 51 (ji (wi (wi h 162 (Int.toNat (w32 ((ji h 141 33) - 1))) (w32 ((ji h 141 30) - v3))) 141 30 v3) 141 49)) 141 50 (ji (wi (wi (wi h 162 (Int.toNat (w32 ((ji h 141 33) - 1))) (w32 ((ji h 141 30) - v3))) 141 30 v3) 141 51 (ji (wi (wi h 162 (Int.toNat (w32 ((ji h 141 33) - 1))) (w32 ((ji h 141 30) - v3))) 141 30 v3) 141 49)) 168 (Int.toNat (ji (wi (wi (wi h 162 (Int.toNat (w32 ((ji h 141 33) - 1))) (w32 ((ji h 141 30) - v3))) 141 30 v3) 141 51 (ji (wi (wi h 162 (Int.toNat (w32 ((ji h 141 33) - 1))) (w32 ((ji h 141 30) - v3))) 141 30 v3) 141 49)) 141 38)))) 165 (Int.toNat (ji (wi (wi (wi (wi h 162 (Int.toNat (w32 ((ji h 141 33) - 1))) (w32 ((ji h 141 30) - v3))) 141 30 v3) 141 51 (ji (wi (wi h 162 (Int.toNat (w32 ((ji h 141 33) - 1))) (w32 ((ji h 141 30) - v3))) 141 30 v3) 141 49)) 141 50 (ji (wi (wi (wi h 162 (Int.toNat (w32 ((ji h 141 33) - 1))) (w32 ((ji h 141 30) - v3))) 141 30 v3) 141 51 (ji (wi (wi h 162 (Int.toNat (w32 ((ji h 141 33) - 1))) (w32 ((ji h 141 30) - v3))) 141 30 v3) 141 49)) 168 (Int.toNat (ji (wi (wi (wi h 162 (Int.toNat (w32 ((ji h 141 33) - 1))) (w32 ((ji h 141 30) - v3))) 141 30 v3) 141 51 (ji (wi (wi h 162 (Int.toNat (w32 ((ji h 141 33) - 1))) (w32 ((ji h 141 30) - v3))) 141 30 v3) 141 49)) 141 38)))) 141 38)))) 141 48 (ji (wi (wi (wi (wi (wi h 162 (Int.toNat (w32 ((ji h 141 33) - 1))) (w32 ((ji h 141 30) - v3))) 141 30 v3) 141 51 (ji (wi (wi h 162 (Int.toNat (w32 ((ji h 141 33) - 1))) (w32 ((ji h 141 30) - v3))) 141 30 v3) 141 49)) 141 50 (ji (wi (wi (wi h 162 (Int.toNat (w32 ((ji h 141 33) - 1))) (w32 ((ji h 141 30) - v3))) 141 30 v3) 141 51 (ji (wi (wi h 162 (Int.toNat (w32 ((ji h 141 33) - 1))) (w32 ((ji h 141 30) - v3))) 141 30 v3) 141 49)) 168 (Int.toNat (ji (wi (wi (wi h 162 (Int.toNat (w32 ((ji h 141 33) - 1))) (w32 ((ji h 141 30) - v3))) 141 30 v3) 141 51 (ji (wi (wi h 162 (Int.toNat (w32 ((ji h 141 33) - 1))) (w32 ((ji h 141 30) - v3))) 141 30 v3) 141 49)) 141 38)))) 141 47 (ji (wi (wi (wi (wi h 162 (Int.toNat (w32 ((ji h 141 33) - 1))) (w32 ((ji h 141 30) - v3))) 141 30 v3) 141 51 (ji (wi (wi h 162 (Int.toNat (w32 ((ji h 141 33) - 1))) (w32 ((ji h 141 30) - v3))) 141 30 v3) 141 49)) 141 50 (ji (wi (wi (wi h 162 (Int.toNat (w32 ((ji h 141 33) - 1))) (w32 ((ji h 141 30) - v3))) 141 30 v3) 141 51 (ji (wi (wi h 162 (Int.toNat (w32 ((ji h 141 33) - 1))) (w32 ((ji h 141 30) - v3))) 141 30 v3) 141 49)) 168 (Int.toNat (ji (wi (wi (wi h 162 (Int.toNat (w32 ((ji h 141 33) - 1))) (w32 ((ji h 141 30) - v3))) 141 30 v3) 141 51 (ji (wi (wi h 162 (Int.toNat (w32 ((ji h 141 33) - 1))) (w32 ((ji h 141 30) - v3))) 141 30 v3) 141 49)) 141 38)))) 165 (Int.toNat (ji (wi (wi (wi (wi h 162 (Int.toNat (w32 ((ji h 141 33) - 1))) (w32 ((ji h 141 30) - v3))) 141 30 v3) 141 51 (ji (wi (wi h 162 (Int.toNat (w32 ((ji h 141 33) - 1))) (w32 ((ji h 141 30) - v3))) 141 30 v3) 141 49)) 141 50 (ji (wi (wi (wi h 162 (Int.toNat (w32 ((ji h 141 33) - 1))) (w32 ((ji h 141 30) - v3))) 141 30 v3) 141 51 (ji (wi (wi h 162 (Int.toNat (w32 ((ji h 141 33) - 1))) (w32 ((ji h 141 30) - v3))) 141 30 v3) 141 49)) 168 (Int.toNat (ji (wi (wi (wi h 162 (Int.toNat (w32 ((ji h 141 33) - 1))) (w32 ((ji h 141 30) - v3))) 141 30 v3) 141 51 (ji (wi (wi h 162 (Int.toNat (w32 ((ji h 141 33) - 1))) (w32 ((ji h 141 30) - v3))) 141 30 v3) 141 49)) 141 38)))) 141 38)))) 166 (Int.toNat (ji (wi (wi (wi (wi (wi h 162 (Int.toNat (w32 ((ji h 141 33) - 1))) (w32 ((ji h 141 30) - v3))) 141 30 v3) 141 51 (ji (wi (wi h 162 (Int.toNat (w32 ((ji h 141 33) - 1))) (w32 ((ji h 141 30) - v3))) 141 30 v3) 141 49)) 141 50 (ji (wi (wi (wi h 162 (Int.toNat (w32 ((ji h 141 33) - 1))) (w32 ((ji h 141 30) - v3))) 141 30 v3) 141 51 (ji (wi (wi h 162 (Int.toNat (w32 ((ji h 141 33) - 1))) (w32 ((ji h 141 30) - v3))) 141 30 v3) 141 49)) 168 (Int.toNat (ji (wi (wi (wi h 162 (Int.toNat (w32 ((ji h 141 33) - 1))) (w32 ((ji h 141 30) - v3))) 141 30 v3) 141 51 (ji (wi (wi h 162 (Int.toNat (w32 ((ji h 141 33) - 1))) (w32 ((ji h 141 30) - v3))) 141 30 v3) 141 49)) 141 38)))) 141 47 (ji (wi (wi (wi (wi h 162 (Int.toNat (w32 ((ji h 141 33) - 1))) (w32 ((ji h 141 30) - v3))) 141 30 v3) 141 51 (ji (wi (wi h 162 (Int.toNat (w32 ((ji h 141 33) - 1))) (w32 ((ji h 141 30) - v3))) 141 30 v3) 141 49)) 141 50 (ji (wi (wi (wi h 162 (Int.toNat (w32 ((ji h 141 33) - 1))) (w32 ((ji h 141 30) - v3))) 141 30 v3) 141 51 (ji (wi (wi h 162 (Int.toNat (w32 ((ji h 141 33) - 1))) (w32 ((ji h 141 30) - v3))) 141 30 v3) 141 49)) 168 (Int.toNat (ji (wi (wi (wi h 162 (Int.toNat (w32 ((ji h 141 33) - 1))) (w32 ((ji h 141 30) - v3))) 141 30 v3) 141 51 (ji (wi (wi h 162 (Int.toNat (w32 ((ji h 141 33) - 1))) (w32 ((ji h 141 30) - v3))) 141 30 v3) 141 49)) 141 38)))) 165 (Int.toNat (ji (wi (wi (wi (wi h 162 (Int.toNat (w32 ((ji h 141 33) - 1))) (w32 ((ji h 141 30) - v3))) 141 30 v3) 141 51 (ji (wi (wi h 162 (Int.toNat (w32 ((ji h 141 33) - 1))) (w32 ((ji h 141 30) - v3))) 141 30 v3) 141 49)) 141 50 (ji (wi (wi (wi h 162 (Int.toNat (w32 ((ji h 141 33) - 1))) (w32 ((ji h 141 30) - v3))) 141 30 v3) 141 51 (ji (wi (wi h 162 (Int.toNat (w32 ((ji h 141 33) - 1))) (w32 ((ji h 141 30) - v3))) 141 30 v3) 141 49)) 168 (Int.toNat (ji (wi (wi (wi h 162 (Int.toNat (w32 ((ji h 141 33) - 1))) (w32 ((ji h 141 30) - v3))) 141 30 v3) 141 51 (ji (wi (wi h 162 (Int.toNat (w32 ((ji h 141 33) - 1))) (w32 ((ji h 141 30) - v3))) 141 30 v3) 141 49)) 141 38)))) 141 38)))) 141 38)))) 141 38)))) 141 38))) + 1)) + v1)))
  · have H := H.2 c20
    refine ⟨(Ly.t141 L :), ?_⟩
    rw [show jr h 141 10 = 145 from (Ly.r141_10 L :)]
    refine ⟨(Ly.t141 L :), ?_⟩
    rw [show jr h 141 32 = 159 from (Ly.r141_32 L :)]
    obtain ⟨z16, z17, H⟩ := H
    refine ⟨inA_mk (N := 20) (Ly.t159 L :) (Ly.n159 L :) z16 z17, ?_⟩
    obtain ⟨z18, z19, H⟩ := H
    refine ⟨inA_mk (N := 6) (Ly.t145 L :) (Ly.n145 L :) z18 z19, ?_⟩
    refine b_145_97 ?_
    exact H
set_option maxRecDepth 100000 in
theorem c_139_0 {p : Lpar} {d : Nat} {h : AH} {Q : Option AV → AH → Prop}  (hd : 9 ≤ d) (L : Ly p h) (H : ((ji h 141 6) = -1 → (Ly p (wi h 141 38 0) → ∃ h2, jE d 137 [jP 141] (wi h 141 38 0) none h2 ∧ Ly p h2 ∧ WF d 139 20 [jP 141, jI 0] [] h2 Q)) ∧ (¬ ((ji h 141 6) = -1) → Q (some (jL 0)) h)) : WF d 139 0 [jP 141, jU] [] h Q := by
  refine b_139_0 ?_
  refine ⟨(Ly.t141 L :), ?_⟩
  by_cases c1 : (ji h 141 6) = -1
  · have H := H.1 c1
    refine ⟨1, _, by have := m_122 (d := d) (by omega) L; rw [if_pos c1] at this; exact this, ?_⟩
    refine ⟨fun _ => ?_, fun c => absurd (by decide) c⟩
    refine ⟨(Ly.t141 L :), ?_⟩
    refine b_139_14 ?_
    refine ⟨(Ly.t141 L :), ?_⟩
    have H := H (Ly.wi L (a := 141) (k := 38) (x := 0) (by decide))
    obtain ⟨h2, e4, L3, H⟩ := H
    refine ⟨h2, e4, ?_⟩
    refine b_139_18 ?_
    exact H
  · have H := H.2 c1
    refine ⟨0, _, by have := m_122 (d := d) (by omega) L; rw [if_neg c1] at this; exact this, ?_⟩
    refine ⟨fun c => absurd c (by decide), fun _ => ?_⟩
    exact H
set_option maxRecDepth 100000 in
theorem c_139_20 {p : Lpar} {d : Nat} {h : AH} {Q : Option AV → AH → Prop} {v1 : Int} (hd : 9 ≤ d) (L : Ly p h) (H : ((ji h 141 6) = -1 → (v1 = 2 → Q (some (jL (jl h 141 52))) h) ∧ (¬ (v1 = 2) → (v1 = (0 : Int) → ∃ x9 h6, jE d 140 [jP 141] h (some (jI x9)) h6 ∧ Ly p h6 ∧ WF d 139 20 [jP 141, jI x9] [] h6 Q) ∧ (¬ v1 = (0 : Int) → ∃ x5 h2, jE d 144 [jP 141] h (some (jI x5)) h2 ∧ Ly p h2 ∧ WF d 139 20 [jP 141, jI x5] [] h2 Q))) ∧ (¬ ((ji h 141 6) = -1) → Q (some (jL (jl h 141 52))) h)) : WF d 139 20 [jP 141, jI v1] [] h Q := by
  refine b_139_20 ?_
  refine ⟨(Ly.t141 L :), ?_⟩
  by_cases c1 : (ji h 141 6) = -1
  · have H := H.1 c1
    refine ⟨1, _, by have := m_122 (d := d) (by omega) L; rw [if_pos c1] at this; exact this, ?_⟩
    refine ⟨fun c => absurd c (by decide), fun _ => ?_⟩
    refine ⟨fun c11 => ?_, fun c11 => ?_⟩
    · have H := H.1 c11
      refine ⟨(Ly.t141 L :), ?_⟩
      exact H
    · have H := H.2 c11
      refine ⟨fun c10 => ?_, fun c10 => ?_⟩
      · have H := H.2 c10
        refine ⟨(Ly.t141 L :), ?_⟩
        obtain ⟨x5, h2, e4, L3, H⟩ := H
        refine ⟨x5, h2, e4, ?_⟩
        refine b_139_48 ?_
        exact H
      · have c10 := Decidable.not_not.mp c10
        have H := H.1 c10
        refine ⟨(Ly.t141 L :), ?_⟩
        obtain ⟨x9, h6, e8, L7, H⟩ := H
        refine ⟨x9, h6, e8, ?_⟩
        refine b_139_48 ?_
        exact H
  · have H := H.2 c1
    refine ⟨0, _, by have := m_122 (d := d) (by omega) L; rw [if_neg c1] at this; exact this, ?_⟩
    refine ⟨fun _ => ?_, fun c => absurd (by decide) c⟩
    refine ⟨(Ly.t141 L :), ?_⟩
    exact H
set_option maxRecDepth 100000 in
theorem c_143_0 {p : Lpar} {d : Nat} {h : AH} {Q : Option AV → AH → Prop}  (hd : 9 ≤ d) (L : Ly p h) (H : ∃ x4 h1, jE d 123 [jP 158, jI (ji h 141 30), jI (ji h 141 5)] h (some (jI x4)) h1 ∧ Ly p h1 ∧ WF d 143 16 [jP 141, jI x4, jU, jU, jU, jU, jU, jU] [] h1 Q) : WF d 143 0 [jP 141, jU, jU, jU, jU, jU, jU, jU] [] h Q := by
  refine b_143_0 ?_
  refine ⟨(Ly.t141 L :), ?_⟩
  rw [show jr h 141 31 = 158 from (Ly.r141_31 L :)]
  refine ⟨(Ly.t141 L :), ?_⟩
  refine ⟨(Ly.t141 L :), ?_⟩
  obtain ⟨x4, h1, e3, L2, H⟩ := H
  refine ⟨x4, h1, e3, ?_⟩
  exact H
set_option maxRecDepth 100000 in
theorem c_143_16 {p : Lpar} {d : Nat} {h : AH} {Q : Option AV → AH → Prop} {v1 : Int} {z2 : AV} {z3 : AV} {z4 : AV} {z5 : AV} {z6 : AV} {z7 : AV} (hd : 9 ≤ d) (L : Ly p h) (H : ∃ x4 h1, jE d 123 [jP 146, jI (ji h 141 11), jI (ji h 141 5)] h (some (jI x4)) h1 ∧ Ly p h1 ∧ WF d 143 32 [jP 141, jI v1, jI x4, z3, z4, z5, z6, z7] [] h1 Q) : WF d 143 16 [jP 141, jI v1, z2, z3, z4, z5, z6, z7] [] h Q := by
  refine b_143_16 ?_
  refine ⟨(Ly.t141 L :), ?_⟩
  rw [show jr h 141 12 = 146 from (Ly.r141_12 L :)]
  refine ⟨(Ly.t141 L :), ?_⟩
  refine ⟨(Ly.t141 L :), ?_⟩
  obtain ⟨x4, h1, e3, L2, H⟩ := H
  refine ⟨x4, h1, e3, ?_⟩
  exact H
set_option maxRecDepth 100000 in
theorem c_143_32 {p : Lpar} {d : Nat} {h : AH} {Q : Option AV → AH → Prop} {v1 : Int} {v2 : Int} {z3 : AV} {z4 : AV} {z5 : AV} {z6 : AV} {z7 : AV} (hd : 9 ≤ d) (L : Ly p h) (H : ∃ x4 h1, jE d 123 [jP 149, jI (ji h 141 15), jI (ji h 141 5)] h (some (jI x4)) h1 ∧ Ly p h1 ∧ WF d 143 48 [jP 141, jI v1, jI v2, jI x4, z4, z5, z6, z7] [] h1 Q) : WF d 143 32 [jP 141, jI v1, jI v2, z3, z4, z5, z6, z7] [] h Q := by
  refine b_143_32 ?_
  refine ⟨(Ly.t141 L :), ?_⟩
  rw [show jr h 141 16 = 149 from (Ly.r141_16 L :)]
  refine ⟨(Ly.t141 L :), ?_⟩
  refine ⟨(Ly.t141 L :), ?_⟩
  obtain ⟨x4, h1, e3, L2, H⟩ := H
  refine ⟨x4, h1, e3, ?_⟩
  exact H
set_option maxRecDepth 100000 in
theorem c_143_48 {p : Lpar} {d : Nat} {h : AH} {Q : Option AV → AH → Prop} {v1 : Int} {v2 : Int} {v3 : Int} {z4 : AV} {z5 : AV} {z6 : AV} {z7 : AV} (hd : 9 ≤ d) (L : Ly p h) (H : (v1 = (-1) → (v2 = (-1) → (v3 = (-1) → ((ji h 141 6) = -1 → (Ly p (wi h 141 6 (ji h 141 3)) → WF d 143 71 [jP 141, jI v1, jI v2, jI v3, z4, z5, z6, z7] [] (wi h 141 6 (ji h 141 3)) Q)) ∧ (¬ ((ji h 141 6) = -1) → (Ly p (wi h 141 6 (ji h 141 6)) → WF d 143 71 [jP 141, jI v1, jI v2, jI v3, z4, z5, z6, z7] [] (wi h 141 6 (ji h 141 6)) Q))) ∧ (¬ v3 = (-1) → (Ly p (wl h 141 52 (w64 ((jl h 141 52) + 1))) → WF d 143 82 [jP 141, jI v1, jI v2, jI v3, z4, z5, z6, z7] [] (wl h 141 52 (w64 ((jl h 141 52) + 1))) Q))) ∧ (¬ v2 = (-1) → (Ly p (wl h 141 52 (w64 ((jl h 141 52) + 1))) → WF d 143 82 [jP 141, jI v1, jI v2, jI v3, z4, z5, z6, z7] [] (wl h 141 52 (w64 ((jl h 141 52) + 1))) Q))) ∧ (¬ v1 = (-1) → (Ly p (wl h 141 52 (w64 ((jl h 141 52) + 1))) → WF d 143 82 [jP 141, jI v1, jI v2, jI v3, z4, z5, z6, z7] [] (wl h 141 52 (w64 ((jl h 141 52) + 1))) Q))) : WF d 143 48 [jP 141, jI v1, jI v2, jI v3, z4, z5, z6, z7] [] h Q := by
  refine b_143_48 ?_
  refine ⟨fun c4 => ?_, fun c4 => ?_⟩
  · have H := H.2 c4
    refine ⟨(Ly.t141 L :), ?_⟩
    refine ⟨(Ly.t141 L :), ?_⟩
    exact H (Ly.wl L (a := 141) (k := 52) (x := w64 ((jl h 141 52) + 1)))
  · have c4 := Decidable.not_not.mp c4
    have H := H.1 c4
    refine ⟨fun c3 => ?_, fun c3 => ?_⟩
    · have H := H.2 c3
      refine ⟨(Ly.t141 L :), ?_⟩
      refine ⟨(Ly.t141 L :), ?_⟩
      exact H (Ly.wl L (a := 141) (k := 52) (x := w64 ((jl h 141 52) + 1)))
    · have c3 := Decidable.not_not.mp c3
      have H := H.1 c3
      refine ⟨fun c2 => ?_, fun c2 => ?_⟩
      · have H := H.2 c2
        refine ⟨(Ly.t141 L :), ?_⟩
        refine ⟨(Ly.t141 L :), ?_⟩
        exact H (Ly.wl L (a := 141) (k := 52) (x := w64 ((jl h 141 52) + 1)))
      · have c2 := Decidable.not_not.mp c2
        have H := H.1 c2
        refine ⟨(Ly.t141 L :), ?_⟩
        refine ⟨(Ly.t141 L :), ?_⟩
        by_cases c1 : (ji h 141 6) = -1
        · have H := H.1 c1
          refine ⟨_, m_119y (d := d) (by omega) L c1, ?_⟩
          exact H (Ly.wi L (a := 141) (k := 6) (x := ji h 141 3) (by decide))
        · have H := H.2 c1
          refine ⟨_, m_119n (d := d) (by omega) L c1, ?_⟩
          exact H (Ly.wi L (a := 141) (k := 6) (x := ji h 141 6) (by decide))
set_option maxRecDepth 100000 in
theorem c_143_71 {p : Lpar} {d : Nat} {h : AH} {Q : Option AV → AH → Prop} {v1 : Int} {v2 : Int} {v3 : Int} {z4 : AV} {z5 : AV} {z6 : AV} {z7 : AV} (hd : 9 ≤ d) (L : Ly p h) (H : Q none h) : WF d 143 71 [jP 141, jI v1, jI v2, jI v3, z4, z5, z6, z7] [] h Q := by
  refine b_143_71 ?_
  exact H
set_option maxRecDepth 100000 in
theorem c_143_82 {p : Lpar} {d : Nat} {h : AH} {Q : Option AV → AH → Prop} {v1 : Int} {v2 : Int} {v3 : Int} {z4 : AV} {z5 : AV} {z6 : AV} {z7 : AV} (hd : 9 ≤ d) (L : Ly p h) (H : ∃ h1, jE d 118 [jP 141] h none h1 ∧ Ly p h1 ∧ WF d 143 86 [jP 141, jI v1, jI v2, jI v3, z4, z5, z6, z7] [] h1 Q) : WF d 143 82 [jP 141, jI v1, jI v2, jI v3, z4, z5, z6, z7] [] h Q := by
  refine b_143_82 ?_
  refine ⟨(Ly.t141 L :), ?_⟩
  obtain ⟨h1, e3, L2, H⟩ := H
  refine ⟨h1, e3, ?_⟩
  exact H
set_option maxRecDepth 100000 in
theorem c_143_86 {p : Lpar} {d : Nat} {h : AH} {Q : Option AV → AH → Prop} {v1 : Int} {v2 : Int} {v3 : Int} {z4 : AV} {z5 : AV} {z6 : AV} {z7 : AV} (hd : 9 ≤ d) (L : Ly p h) (H : (v1 = (-1) → (v2 = (-1) → 0 ≤ (w32 (2 * v3)) ∧ (w32 (2 * v3)) < 12 ∧ WF d 143 126 [jP 141, jI v1, jI v2, jI v3, jI (ji h 150 (Int.toNat (w32 (2 * v3)))), z5, z6, z7] [] h Q) ∧ (¬ v2 = (-1) → 0 ≤ (w32 (2 * v2)) ∧ (w32 (2 * v2)) < 12 ∧ WF d 143 126 [jP 141, jI v1, jI v2, jI v3, jI (ji h 147 (Int.toNat (w32 (2 * v2)))), z5, z6, z7] [] h Q)) ∧ (¬ (v1 = (-1)) → 0 ≤ (ji h 141 33) ∧ (ji h 141 33) < 2000 ∧ (Ly p (wi (wi (wi (wi (wi h 160 (Int.toNat (ji h 141 33)) (3 : Int)) 161 (Int.toNat (ji h 141 33)) v1) 162 (Int.toNat (ji h 141 33)) (0 : Int)) 163 (Int.toNat (ji h 141 33)) (0 : Int)) 141 33 ((ji h 141 33) + 1)) → WF d 143 99 [jP 141, jI v1, jI v2, jI v3, z4, z5, z6, z7] [] (wi (wi (wi (wi (wi h 160 (Int.toNat (ji h 141 33)) (3 : Int)) 161 (Int.toNat (ji h 141 33)) v1) 162 (Int.toNat (ji h 141 33)) (0 : Int)) 163 (Int.toNat (ji h 141 33)) (0 : Int)) 141 33 ((ji h 141 33) + 1)) Q))) : WF d 143 86 [jP 141, jI v1, jI v2, jI v3, z4, z5, z6, z7] [] h Q := by
  refine b_143_86 ?_
  refine ⟨fun c9 => ?_, fun c9 => ?_⟩
  · have H := H.1 c9
    refine ⟨fun c5 => ?_, fun c5 => ?_⟩
    · have H := H.2 c5
      refine ⟨(Ly.t141 L :), ?_⟩
      rw [show jr h 141 13 = 147 from (Ly.r141_13 L :)]
      obtain ⟨z1, z2, H⟩ := H
      refine ⟨inA_mk (N := 12) (Ly.t147 L :) (Ly.n147 L :) z1 z2, ?_⟩
      exact H
    · have c5 := Decidable.not_not.mp c5
      have H := H.1 c5
      refine ⟨(Ly.t141 L :), ?_⟩
      rw [show jr h 141 17 = 150 from (Ly.r141_17 L :)]
      obtain ⟨z3, z4, H⟩ := H
      refine ⟨inA_mk (N := 12) (Ly.t150 L :) (Ly.n150 L :) z3 z4, ?_⟩
      exact H
  · have H := H.2 c9
    refine ⟨(Ly.t141 L :), ?_⟩
    obtain ⟨z6, z7, H⟩ := H
    refine ⟨_, m_136 (d := d) (by omega) L z6 z7, ?_⟩
    exact H (Ly.wi (Ly.wi (Ly.wi (Ly.wi (Ly.wi L (a := 160) (k := Int.toNat (ji h 141 33)) (x := 3) (by decide)) (a := 161) (k := Int.toNat (ji h 141 33)) (x := v1) (by decide)) (a := 162) (k := Int.toNat (ji h 141 33)) (x := 0) (by decide)) (a := 163) (k := Int.toNat (ji h 141 33)) (x := 0) (by decide)) (a := 141) (k := 33) (x := (ji h 141 33) + 1) (by decide))
set_option maxRecDepth 100000 in
theorem c_143_99 {p : Lpar} {d : Nat} {h : AH} {Q : Option AV → AH → Prop} {v1 : Int} {v2 : Int} {v3 : Int} {z4 : AV} {z5 : AV} {z6 : AV} {z7 : AV} (hd : 9 ≤ d) (L : Ly p h) (H : Q none h) : WF d 143 99 [jP 141, jI v1, jI v2, jI v3, z4, z5, z6, z7] [] h Q := by
  refine b_143_99 ?_
  exact H
set_option maxRecDepth 100000 in
theorem c_143_126 {p : Lpar} {d : Nat} {h : AH} {Q : Option AV → AH → Prop} {v1 : Int} {v2 : Int} {v3 : Int} {v4 : Int} {z5 : AV} {z6 : AV} {z7 : AV} (hd : 9 ≤ d) (L : Ly p h) (H : (v2 = (-1) → 0 ≤ (w32 ((w32 (2 * v3)) + 1)) ∧ (w32 ((w32 (2 * v3)) + 1)) < 12 ∧ WF d 143 156 [jP 141, jI v1, jI v2, jI v3, jI v4, jI (ji h 150 (Int.toNat (w32 ((w32 (2 * v3)) + 1)))), z6, z7] [] h Q) ∧ (¬ v2 = (-1) → 0 ≤ (w32 ((w32 (2 * v2)) + 1)) ∧ (w32 ((w32 (2 * v2)) + 1)) < 12 ∧ WF d 143 156 [jP 141, jI v1, jI v2, jI v3, jI v4, jI (ji h 147 (Int.toNat (w32 ((w32 (2 * v2)) + 1)))), z6, z7] [] h Q)) : WF d 143 126 [jP 141, jI v1, jI v2, jI v3, jI v4, z5, z6, z7] [] h Q := by
  refine b_143_126 ?_
  refine ⟨fun c5 => ?_, fun c5 => ?_⟩
  · have H := H.2 c5
    refine ⟨(Ly.t141 L :), ?_⟩
    rw [show jr h 141 13 = 147 from (Ly.r141_13 L :)]
    obtain ⟨z1, z2, H⟩ := H
    refine ⟨inA_mk (N := 12) (Ly.t147 L :) (Ly.n147 L :) z1 z2, ?_⟩
    exact H
  · have c5 := Decidable.not_not.mp c5
    have H := H.1 c5
    refine ⟨(Ly.t141 L :), ?_⟩
    rw [show jr h 141 17 = 150 from (Ly.r141_17 L :)]
    obtain ⟨z3, z4, H⟩ := H
    refine ⟨inA_mk (N := 12) (Ly.t150 L :) (Ly.n150 L :) z3 z4, ?_⟩
    exact H
set_option maxRecDepth 100000 in
theorem c_143_156 {p : Lpar} {d : Nat} {h : AH} {Q : Option AV → AH → Prop} {v1 : Int} {v2 : Int} {v3 : Int} {v4 : Int} {v5 : Int} {z6 : AV} {z7 : AV} (hd : 9 ≤ d) (L : Ly p h) (H : WF d 143 159 [jP 141, jI v1, jI v2, jI v3, jI v4, jI v5, jI 0, z7] [] h Q) : WF d 143 156 [jP 141, jI v1, jI v2, jI v3, jI v4, jI v5, z6, z7] [] h Q := by
  refine b_143_156 ?_
  exact H
set_option maxRecDepth 100000 in
theorem c_143_159 {p : Lpar} {d : Nat} {h : AH} {Q : Option AV → AH → Prop} {v1 : Int} {v2 : Int} {v3 : Int} {v4 : Int} {v5 : Int} {v6 : Int} {z7 : AV} (hd : 9 ≤ d) (L : Ly p h) (H : WF d 143 162 [jP 141, jI v1, jI v2, jI v3, jI v4, jI v5, jI v6, jI 0] [] h Q) : WF d 143 159 [jP 141, jI v1, jI v2, jI v3, jI v4, jI v5, jI v6, z7] [] h Q := by
  refine b_143_159 ?_
  exact H
set_option maxRecDepth 100000 in
theorem c_143_162 {p : Lpar} {d : Nat} {h : AH} {Q : Option AV → AH → Prop} {v1 : Int} {v2 : Int} {v3 : Int} {v4 : Int} {v5 : Int} {v6 : Int} {v7 : Int} (hd : 9 ≤ d) (L : Ly p h) (H : (v4 = (-1) → WF d 143 211 [jP 141, jI v1, jI v2, jI v3, jI v4, jI v5, jI v6, jI v7] [] h Q) ∧ (¬ (v4 = (-1)) → ∃ x4 h1, jE d 121 [jP 141, jI 91] h (some (jI x4)) h1 ∧ Ly p h1 ∧ WF d 143 175 [jP 141, jI v1, jI v2, jI v3, jI v4, jI v5, jI v6, jI v7] [] h1 Q)) : WF d 143 162 [jP 141, jI v1, jI v2, jI v3, jI v4, jI v5, jI v6, jI v7] [] h Q := by
  refine b_143_162 ?_
  refine ⟨fun c5 => ?_, fun c5 => ?_⟩
  · have H := H.1 c5
    exact H
  · have H := H.2 c5
    refine ⟨(Ly.t141 L :), ?_⟩
    obtain ⟨x4, h1, e3, L2, H⟩ := H
    refine ⟨x4, h1, e3, ?_⟩
    exact H
set_option maxRecDepth 100000 in
theorem c_143_175 {p : Lpar} {d : Nat} {h : AH} {Q : Option AV → AH → Prop} {v1 : Int} {v2 : Int} {v3 : Int} {v4 : Int} {v5 : Int} {v6 : Int} {v7 : Int} (hd : 9 ≤ d) (L : Ly p h) (H : ∃ x4 h1, jE d 141 [jP 141, jI v4] h (some (jI x4)) h1 ∧ Ly p h1 ∧ WF d 143 183 [jP 141, jI v1, jI v2, jI v3, jI v4, jI v5, jI x4, jI v7] [] h1 Q) : WF d 143 175 [jP 141, jI v1, jI v2, jI v3, jI v4, jI v5, jI v6, jI v7] [] h Q := by
  refine b_143_175 ?_
  refine ⟨(Ly.t141 L :), ?_⟩
  obtain ⟨x4, h1, e3, L2, H⟩ := H
  refine ⟨x4, h1, e3, ?_⟩
  exact H
set_option maxRecDepth 100000 in
theorem c_143_183 {p : Lpar} {d : Nat} {h : AH} {Q : Option AV → AH → Prop} {v1 : Int} {v2 : Int} {v3 : Int} {v4 : Int} {v5 : Int} {v6 : Int} {v7 : Int} (hd : 9 ≤ d) (L : Ly p h) (H : (v5 = (-1) → WF d 143 204 [jP 141, jI v1, jI v2, jI v3, jI v4, jI v5, jI v6, jI v7] [] h Q) ∧ (¬ (v5 = (-1)) → ∃ x4 h1, jE d 121 [jP 141, jI 44] h (some (jI x4)) h1 ∧ Ly p h1 ∧ WF d 143 196 [jP 141, jI v1, jI v2, jI v3, jI v4, jI v5, jI v6, jI v7] [] h1 Q)) : WF d 143 183 [jP 141, jI v1, jI v2, jI v3, jI v4, jI v5, jI v6, jI v7] [] h Q := by
  refine b_143_183 ?_
  refine ⟨fun c5 => ?_, fun c5 => ?_⟩
  · have H := H.1 c5
    exact H
  · have H := H.2 c5
    refine ⟨(Ly.t141 L :), ?_⟩
    obtain ⟨x4, h1, e3, L2, H⟩ := H
    refine ⟨x4, h1, e3, ?_⟩
    exact H
set_option maxRecDepth 100000 in
theorem c_143_196 {p : Lpar} {d : Nat} {h : AH} {Q : Option AV → AH → Prop} {v1 : Int} {v2 : Int} {v3 : Int} {v4 : Int} {v5 : Int} {v6 : Int} {v7 : Int} (hd : 9 ≤ d) (L : Ly p h) (H : ∃ x4 h1, jE d 141 [jP 141, jI v5] h (some (jI x4)) h1 ∧ Ly p h1 ∧ WF d 143 204 [jP 141, jI v1, jI v2, jI v3, jI v4, jI v5, jI v6, jI x4] [] h1 Q) : WF d 143 196 [jP 141, jI v1, jI v2, jI v3, jI v4, jI v5, jI v6, jI v7] [] h Q := by
  refine b_143_196 ?_
  refine ⟨(Ly.t141 L :), ?_⟩
  obtain ⟨x4, h1, e3, L2, H⟩ := H
  refine ⟨x4, h1, e3, ?_⟩
  exact H
set_option maxRecDepth 100000 in
theorem c_143_204 {p : Lpar} {d : Nat} {h : AH} {Q : Option AV → AH → Prop} {v1 : Int} {v2 : Int} {v3 : Int} {v4 : Int} {v5 : Int} {v6 : Int} {v7 : Int} (hd : 9 ≤ d) (L : Ly p h) (H : ∃ x4 h1, jE d 121 [jP 141, jI 93] h (some (jI x4)) h1 ∧ Ly p h1 ∧ WF d 143 211 [jP 141, jI v1, jI v2, jI v3, jI v4, jI v5, jI v6, jI v7] [] h1 Q) : WF d 143 204 [jP 141, jI v1, jI v2, jI v3, jI v4, jI v5, jI v6, jI v7] [] h Q := by
  refine b_143_204 ?_
  refine ⟨(Ly.t141 L :), ?_⟩
  obtain ⟨x4, h1, e3, L2, H⟩ := H
  refine ⟨x4, h1, e3, ?_⟩
  exact H
set_option maxRecDepth 100000 in
theorem c_143_211 {p : Lpar} {d : Nat} {h : AH} {Q : Option AV → AH → Prop} {v1 : Int} {v2 : Int} {v3 : Int} {v4 : Int} {v5 : Int} {v6 : Int} {v7 : Int} (hd : 9 ≤ d) (L : Ly p h) (H : (v2 = (-1) → (Ly p (wi h 141 51 1) → WF d 143 225 [jP 141, jI v1, jI v2, jI v3, jI v4, jI v5, jI v6, jI v7] [] (wi h 141 51 1) Q)) ∧ (¬ v2 = (-1) → (Ly p (wi h 141 51 0) → WF d 143 225 [jP 141, jI v1, jI v2, jI v3, jI v4, jI v5, jI v6, jI v7] [] (wi h 141 51 0) Q))) : WF d 143 211 [jP 141, jI v1, jI v2, jI v3, jI v4, jI v5, jI v6, jI v7] [] h Q := by
  refine b_143_211 ?_
  refine ⟨fun c1 => ?_, fun c1 => ?_⟩
  · have H := H.2 c1
    refine ⟨Or.inl rfl, ?_⟩
    refine ⟨(Ly.t141 L :), ?_⟩
    exact H (Ly.wi L (a := 141) (k := 51) (x := 0) (by decide))
  · have c1 := Decidable.not_not.mp c1
    have H := H.1 c1
    refine ⟨Or.inr rfl, ?_⟩
    refine ⟨(Ly.t141 L :), ?_⟩
    exact H (Ly.wi L (a := 141) (k := 51) (x := 1) (by decide))
set_option maxRecDepth 100000 in
theorem c_143_225 {p : Lpar} {d : Nat} {h : AH} {Q : Option AV → AH → Prop} {v1 : Int} {v2 : Int} {v3 : Int} {v4 : Int} {v5 : Int} {v6 : Int} {v7 : Int} (hd : 9 ≤ d) (L : Ly p h) (H : (v2 = (-1) → (v2 = (-1) → 0 ≤ (ji h 141 33) ∧ (ji h 141 33) < 2000 ∧ (Ly p (wi (wi (wi (wi (wi h 160 (Int.toNat (ji h 141 33)) (5 : Int)) 161 (Int.toNat (ji h 141 33)) v3) 162 (Int.toNat (ji h 141 33)) v6) 163 (Int.toNat (ji h 141 33)) v7) 141 33 ((ji h 141 33) + 1)) → WF d 143 253 [jP 141, jI v1, jI v2, jI v3, jI v4, jI v5, jI v6, jI v7] [] (wi (wi (wi (wi (wi h 160 (Int.toNat (ji h 141 33)) (5 : Int)) 161 (Int.toNat (ji h 141 33)) v3) 162 (Int.toNat (ji h 141 33)) v6) 163 (Int.toNat (ji h 141 33)) v7) 141 33 ((ji h 141 33) + 1)) Q)) ∧ (¬ v2 = (-1) → 0 ≤ (ji h 141 33) ∧ (ji h 141 33) < 2000 ∧ (Ly p (wi (wi (wi (wi (wi h 160 (Int.toNat (ji h 141 33)) (5 : Int)) 161 (Int.toNat (ji h 141 33)) v2) 162 (Int.toNat (ji h 141 33)) v6) 163 (Int.toNat (ji h 141 33)) v7) 141 33 ((ji h 141 33) + 1)) → WF d 143 253 [jP 141, jI v1, jI v2, jI v3, jI v4, jI v5, jI v6, jI v7] [] (wi (wi (wi (wi (wi h 160 (Int.toNat (ji h 141 33)) (5 : Int)) 161 (Int.toNat (ji h 141 33)) v2) 162 (Int.toNat (ji h 141 33)) v6) 163 (Int.toNat (ji h 141 33)) v7) 141 33 ((ji h 141 33) + 1)) Q))) ∧ (¬ v2 = (-1) → (v2 = (-1) → 0 ≤ (ji h 141 33) ∧ (ji h 141 33) < 2000 ∧ (Ly p (wi (wi (wi (wi (wi h 160 (Int.toNat (ji h 141 33)) (4 : Int)) 161 (Int.toNat (ji h 141 33)) v3) 162 (Int.toNat (ji h 141 33)) v6) 163 (Int.toNat (ji h 141 33)) v7) 141 33 ((ji h 141 33) + 1)) → WF d 143 253 [jP 141, jI v1, jI v2, jI v3, jI v4, jI v5, jI v6, jI v7] [] (wi (wi (wi (wi (wi h 160 (Int.toNat (ji h 141 33)) (4 : Int)) 161 (Int.toNat (ji h 141 33)) v3) 162 (Int.toNat (ji h 141 33)) v6) 163 (Int.toNat (ji h 141 33)) v7) 141 33 ((ji h 141 33) + 1)) Q)) ∧ (¬ v2 = (-1) → 0 ≤ (ji h 141 33) ∧ (ji h 141 33) < 2000 ∧ (Ly p (wi (wi (wi (wi (wi h 160 (Int.toNat (ji h 141 33)) (4 : Int)) 161 (Int.toNat (ji h 141 33)) v2) 162 (Int.toNat (ji h 141 33)) v6) 163 (Int.toNat (ji h 141 33)) v7) 141 33 ((ji h 141 33) + 1)) → WF d 143 253 [jP 141, jI v1, jI v2, jI v3, jI v4, jI v5, jI v6, jI v7] [] (wi (wi (wi (wi (wi h 160 (Int.toNat (ji h 141 33)) (4 : Int)) 161 (Int.toNat (ji h 141 33)) v2) 162 (Int.toNat (ji h 141 33)) v6) 163 (Int.toNat (ji h 141 33)) v7) 141 33 ((ji h 141 33) + 1)) Q)))) : WF d 143 225 [jP 141, jI v1, jI v2, jI v3, jI v4, jI v5, jI v6, jI v7] [] h Q := by
  refine b_143_225 ?_
  refine ⟨fun c15 => ?_, fun c15 => ?_⟩
  · have H := H.2 c15
    refine ⟨fun c7 => ?_, fun c7 => ?_⟩
    · have H := H.2 c7
      refine ⟨(Ly.t141 L :), ?_⟩
      obtain ⟨z1, z2, H⟩ := H
      refine ⟨_, m_136 (d := d) (by omega) L z1 z2, ?_⟩
      exact H (Ly.wi (Ly.wi (Ly.wi (Ly.wi (Ly.wi L (a := 160) (k := Int.toNat (ji h 141 33)) (x := 4) (by decide)) (a := 161) (k := Int.toNat (ji h 141 33)) (x := v2) (by decide)) (a := 162) (k := Int.toNat (ji h 141 33)) (x := v6) (by decide)) (a := 163) (k := Int.toNat (ji h 141 33)) (x := v7) (by decide)) (a := 141) (k := 33) (x := (ji h 141 33) + 1) (by decide))
    · have c7 := Decidable.not_not.mp c7
      have H := H.1 c7
      refine ⟨(Ly.t141 L :), ?_⟩
      obtain ⟨z4, z5, H⟩ := H
      refine ⟨_, m_136 (d := d) (by omega) L z4 z5, ?_⟩
      exact H (Ly.wi (Ly.wi (Ly.wi (Ly.wi (Ly.wi L (a := 160) (k := Int.toNat (ji h 141 33)) (x := 4) (by decide)) (a := 161) (k := Int.toNat (ji h 141 33)) (x := v3) (by decide)) (a := 162) (k := Int.toNat (ji h 141 33)) (x := v6) (by decide)) (a := 163) (k := Int.toNat (ji h 141 33)) (x := v7) (by decide)) (a := 141) (k := 33) (x := (ji h 141 33) + 1) (by decide))
  · have c15 := Decidable.not_not.mp c15
    have H := H.1 c15
    refine ⟨fun c14 => ?_, fun c14 => ?_⟩
    · have H := H.2 c14
      refine ⟨(Ly.t141 L :), ?_⟩
      obtain ⟨z8, z9, H⟩ := H
      refine ⟨_, m_136 (d := d) (by omega) L z8 z9, ?_⟩
      exact H (Ly.wi (Ly.wi (Ly.wi (Ly.wi (Ly.wi L (a := 160) (k := Int.toNat (ji h 141 33)) (x := 5) (by decide)) (a := 161) (k := Int.toNat (ji h 141 33)) (x := v2) (by decide)) (a := 162) (k := Int.toNat (ji h 141 33)) (x := v6) (by decide)) (a := 163) (k := Int.toNat (ji h 141 33)) (x := v7) (by decide)) (a := 141) (k := 33) (x := (ji h 141 33) + 1) (by decide))
    · have c14 := Decidable.not_not.mp c14
      have H := H.1 c14
      refine ⟨(Ly.t141 L :), ?_⟩
      obtain ⟨z11, z12, H⟩ := H
      refine ⟨_, m_136 (d := d) (by omega) L z11 z12, ?_⟩
      exact H (Ly.wi (Ly.wi (Ly.wi (Ly.wi (Ly.wi L (a := 160) (k := Int.toNat (ji h 141 33)) (x := 5) (by decide)) (a := 161) (k := Int.toNat (ji h 141 33)) (x := v3) (by decide)) (a := 162) (k := Int.toNat (ji h 141 33)) (x := v6) (by decide)) (a := 163) (k := Int.toNat (ji h 141 33)) (x := v7) (by decide)) (a := 141) (k := 33) (x := (ji h 141 33) + 1) (by decide))
set_option maxRecDepth 100000 in
theorem c_143_253 {p : Lpar} {d : Nat} {h : AH} {Q : Option AV → AH → Prop} {v1 : Int} {v2 : Int} {v3 : Int} {v4 : Int} {v5 : Int} {v6 : Int} {v7 : Int} (hd : 9 ≤ d) (L : Ly p h) (H : Q none h) : WF d 143 253 [jP 141, jI v1, jI v2, jI v3, jI v4, jI v5, jI v6, jI v7] [] h Q := by
  refine b_143_253 ?_
  exact H
set_option maxRecDepth 100000 in
theorem c_140_0 {p : Lpar} {d : Nat} {h : AH} {Q : Option AV → AH → Prop}  (hd : 9 ≤ d) (L : Ly p h) (H : (Ly p (wi h 141 50 (ji h 141 3)) → WF d 140 8 [jP 141, jU, jU, jU, jU] [] (wi h 141 50 (ji h 141 3)) Q)) : WF d 140 0 [jP 141, jU, jU, jU, jU] [] h Q := by
  refine b_140_0 ?_
  refine ⟨(Ly.t141 L :), ?_⟩
  refine ⟨(Ly.t141 L :), ?_⟩
  exact H (Ly.wi L (a := 141) (k := 50) (x := ji h 141 3) (by decide))
set_option maxRecDepth 100000 in
theorem c_140_8 {p : Lpar} {d : Nat} {h : AH} {Q : Option AV → AH → Prop} {z1 : AV} {z2 : AV} {z3 : AV} {z4 : AV} (hd : 9 ≤ d) (L : Ly p h) (H : (Ly p (wi h 141 51 0) → WF d 140 13 [jP 141, z1, z2, z3, z4] [] (wi h 141 51 0) Q)) : WF d 140 8 [jP 141, z1, z2, z3, z4] [] h Q := by
  refine b_140_8 ?_
  refine ⟨Or.inl rfl, ?_⟩
  refine ⟨(Ly.t141 L :), ?_⟩
  exact H (Ly.wi L (a := 141) (k := 51) (x := 0) (by decide))
set_option maxRecDepth 100000 in
theorem c_140_13 {p : Lpar} {d : Nat} {h : AH} {Q : Option AV → AH → Prop} {z1 : AV} {z2 : AV} {z3 : AV} {z4 : AV} (hd : 9 ≤ d) (L : Ly p h) (H : ((ji h 141 2) = 2 → 0 ≤ (ji h 141 33) ∧ (ji h 141 33) < 2000 ∧ (Ly p (wi (wi (wi (wi (wi h 160 (Int.toNat (ji h 141 33)) (2 : Int)) 161 (Int.toNat (ji h 141 33)) (ji h 141 5)) 162 (Int.toNat (ji h 141 33)) (0 : Int)) 163 (Int.toNat (ji h 141 33)) (0 : Int)) 141 33 ((ji h 141 33) + 1)) → WF d 140 32 [jP 141, z1, z2, z3, z4] [] (wi (wi (wi (wi (wi h 160 (Int.toNat (ji h 141 33)) (2 : Int)) 161 (Int.toNat (ji h 141 33)) (ji h 141 5)) 162 (Int.toNat (ji h 141 33)) (0 : Int)) 163 (Int.toNat (ji h 141 33)) (0 : Int)) 141 33 ((ji h 141 33) + 1)) Q)) ∧ (¬ (ji h 141 2) = 2 → ((ji h 141 2) = 1 → ∃ h10, jE d 143 [jP 141] h none h10 ∧ Ly p h10 ∧ WF d 140 60 [jP 141, z1, z2, z3, z4] [] h10 Q) ∧ (¬ (ji h 141 2) = 1 → ((ji h 141 2) = 17 → ((ji h 141 38) = 8 → ((ji h 141 6) = -1 → (Ly p (wi h 141 6 (ji h 141 3)) → WF d 140 98 [jP 141, z1, z2, z3, z4] [] (wi h 141 6 (ji h 141 3)) Q)) ∧ (¬ ((ji h 141 6) = -1) → (Ly p (wi h 141 6 (ji h 141 6)) → WF d 140 98 [jP 141, z1, z2, z3, z4] [] (wi h 141 6 (ji h 141 6)) Q))) ∧ (¬ (ji h 141 38) = 8 → ((ji h 141 2) = 17 → WF d 140 115 [jP 141, jI 1, z2, z3, z4] [] h Q) ∧ (¬ (ji h 141 2) = 17 → WF d 140 115 [jP 141, jI 0, z2, z3, z4] [] h Q))) ∧ (¬ ((ji h 141 2) = 17) → ((ji h 141 2) = 140 → ((ji h 141 38) = 8 → ((ji h 141 6) = -1 → (Ly p (wi h 141 6 (ji h 141 3)) → WF d 140 98 [jP 141, z1, z2, z3, z4] [] (wi h 141 6 (ji h 141 3)) Q)) ∧ (¬ ((ji h 141 6) = -1) → (Ly p (wi h 141 6 (ji h 141 6)) → WF d 140 98 [jP 141, z1, z2, z3, z4] [] (wi h 141 6 (ji h 141 6)) Q))) ∧ (¬ (ji h 141 38) = 8 → ((ji h 141 2) = 17 → WF d 140 115 [jP 141, jI 1, z2, z3, z4] [] h Q) ∧ (¬ (ji h 141 2) = 17 → WF d 140 115 [jP 141, jI 0, z2, z3, z4] [] h Q))) ∧ (¬ (ji h 141 2) = 140 → ((ji h 141 6) = -1 → (Ly p (wi h 141 6 (ji h 141 3)) → WF d 140 98 [jP 141, z1, z2, z3, z4] [] (wi h 141 6 (ji h 141 3)) Q)) ∧ (¬ ((ji h 141 6) = -1) → (Ly p (wi h 141 6 (ji h 141 6)) → WF d 140 98 [jP 141, z1, z2, z3, z4] [] (wi h 141 6 (ji h 141 6)) Q))))))) : WF d 140 13 [jP 141, z1, z2, z3, z4] [] h Q := by
  refine b_140_13 ?_
  refine ⟨(Ly.t141 L :), ?_⟩
  refine ⟨fun c17 => ?_, fun c17 => ?_⟩
  · have H := H.2 c17
    refine ⟨(Ly.t141 L :), ?_⟩
    refine ⟨fun c13 => ?_, fun c13 => ?_⟩
    · have H := H.2 c13
      refine ⟨(Ly.t141 L :), ?_⟩
      refine ⟨fun c9 => ?_, fun c9 => ?_⟩
      · have H := H.1 c9
        refine ⟨(Ly.t141 L :), ?_⟩
        refine ⟨fun c3 => ?_, fun c3 => ?_⟩
        · have H := H.2 c3
          refine ⟨(Ly.t141 L :), ?_⟩
          refine ⟨fun c1 => ?_, fun c1 => ?_⟩
          · have H := H.2 c1
            exact H
          · have c1 := Decidable.not_not.mp c1
            have H := H.1 c1
            exact H
        · have c3 := Decidable.not_not.mp c3
          have H := H.1 c3
          refine ⟨(Ly.t141 L :), ?_⟩
          refine ⟨(Ly.t141 L :), ?_⟩
          by_cases c2 : (ji h 141 6) = -1
          · have H := H.1 c2
            refine ⟨_, m_119y (d := d) (by omega) L c2, ?_⟩
            exact H (Ly.wi L (a := 141) (k := 6) (x := ji h 141 3) (by decide))
          · have H := H.2 c2
            refine ⟨_, m_119n (d := d) (by omega) L c2, ?_⟩
            exact H (Ly.wi L (a := 141) (k := 6) (x := ji h 141 6) (by decide))
      · have H := H.2 c9
        refine ⟨(Ly.t141 L :), ?_⟩
        refine ⟨fun c8 => ?_, fun c8 => ?_⟩
        · have H := H.2 c8
          refine ⟨(Ly.t141 L :), ?_⟩
          refine ⟨(Ly.t141 L :), ?_⟩
          by_cases c4 : (ji h 141 6) = -1
          · have H := H.1 c4
            refine ⟨_, m_119y (d := d) (by omega) L c4, ?_⟩
            exact H (Ly.wi L (a := 141) (k := 6) (x := ji h 141 3) (by decide))
          · have H := H.2 c4
            refine ⟨_, m_119n (d := d) (by omega) L c4, ?_⟩
            exact H (Ly.wi L (a := 141) (k := 6) (x := ji h 141 6) (by decide))
        · have c8 := Decidable.not_not.mp c8
          have H := H.1 c8
          refine ⟨(Ly.t141 L :), ?_⟩
          refine ⟨fun c7 => ?_, fun c7 => ?_⟩
          · have H := H.2 c7
            refine ⟨(Ly.t141 L :), ?_⟩
            refine ⟨fun c5 => ?_, fun c5 => ?_⟩
            · have H := H.2 c5
              exact H
            · have c5 := Decidable.not_not.mp c5
              have H := H.1 c5
              exact H
          · have c7 := Decidable.not_not.mp c7
            have H := H.1 c7
            refine ⟨(Ly.t141 L :), ?_⟩
            refine ⟨(Ly.t141 L :), ?_⟩
            by_cases c6 : (ji h 141 6) = -1
            · have H := H.1 c6
              refine ⟨_, m_119y (d := d) (by omega) L c6, ?_⟩
              exact H (Ly.wi L (a := 141) (k := 6) (x := ji h 141 3) (by decide))
            · have H := H.2 c6
              refine ⟨_, m_119n (d := d) (by omega) L c6, ?_⟩
              exact H (Ly.wi L (a := 141) (k := 6) (x := ji h 141 6) (by decide))
    · have c13 := Decidable.not_not.mp c13
      have H := H.1 c13
      refine ⟨(Ly.t141 L :), ?_⟩
      obtain ⟨h10, e12, L11, H⟩ := H
      refine ⟨h10, e12, ?_⟩
      exact H
  · have c17 := Decidable.not_not.mp c17
    have H := H.1 c17
    refine ⟨(Ly.t141 L :), ?_⟩
    refine ⟨(Ly.t141 L :), ?_⟩
    obtain ⟨z14, z15, H⟩ := H
    refine ⟨_, m_136 (d := d) (by omega) L z14 z15, ?_⟩
    exact H (Ly.wi (Ly.wi (Ly.wi (Ly.wi (Ly.wi L (a := 160) (k := Int.toNat (ji h 141 33)) (x := 2) (by decide)) (a := 161) (k := Int.toNat (ji h 141 33)) (x := ji h 141 5) (by decide)) (a := 162) (k := Int.toNat (ji h 141 33)) (x := 0) (by decide)) (a := 163) (k := Int.toNat (ji h 141 33)) (x := 0) (by decide)) (a := 141) (k := 33) (x := (ji h 141 33) + 1) (by decide))
set_option maxRecDepth 100000 in
theorem c_140_32 {p : Lpar} {d : Nat} {h : AH} {Q : Option AV → AH → Prop} {z1 : AV} {z2 : AV} {z3 : AV} {z4 : AV} (hd : 9 ≤ d) (L : Ly p h) (H : (Ly p (wl h 141 52 (w64 ((jl h 141 52) + 1))) → WF d 140 42 [jP 141, z1, z2, z3, z4] [] (wl h 141 52 (w64 ((jl h 141 52) + 1))) Q)) : WF d 140 32 [jP 141, z1, z2, z3, z4] [] h Q := by
  refine b_140_32 ?_
  refine ⟨(Ly.t141 L :), ?_⟩
  refine ⟨(Ly.t141 L :), ?_⟩
  exact H (Ly.wl L (a := 141) (k := 52) (x := w64 ((jl h 141 52) + 1)))
set_option maxRecDepth 100000 in
theorem c_140_42 {p : Lpar} {d : Nat} {h : AH} {Q : Option AV → AH → Prop} {z1 : AV} {z2 : AV} {z3 : AV} {z4 : AV} (hd : 9 ≤ d) (L : Ly p h) (H : ∃ h1, jE d 118 [jP 141] h none h1 ∧ Ly p h1 ∧ WF d 140 46 [jP 141, z1, z2, z3, z4] [] h1 Q) : WF d 140 42 [jP 141, z1, z2, z3, z4] [] h Q := by
  refine b_140_42 ?_
  refine ⟨(Ly.t141 L :), ?_⟩
  obtain ⟨h1, e3, L2, H⟩ := H
  refine ⟨h1, e3, ?_⟩
  exact H
set_option maxRecDepth 100000 in
theorem c_140_46 {p : Lpar} {d : Nat} {h : AH} {Q : Option AV → AH → Prop} {z1 : AV} {z2 : AV} {z3 : AV} {z4 : AV} (hd : 9 ≤ d) (L : Ly p h) (H : Q (some (jI 1)) h) : WF d 140 46 [jP 141, z1, z2, z3, z4] [] h Q := by
  refine b_140_46 ?_
  exact H
set_option maxRecDepth 100000 in
theorem c_140_60 {p : Lpar} {d : Nat} {h : AH} {Q : Option AV → AH → Prop} {z1 : AV} {z2 : AV} {z3 : AV} {z4 : AV} (hd : 9 ≤ d) (L : Ly p h) (H : Q (some (jI 1)) h) : WF d 140 60 [jP 141, z1, z2, z3, z4] [] h Q := by
  refine b_140_60 ?_
  exact H
set_option maxRecDepth 100000 in
theorem c_140_98 {p : Lpar} {d : Nat} {h : AH} {Q : Option AV → AH → Prop} {z1 : AV} {z2 : AV} {z3 : AV} {z4 : AV} (hd : 9 ≤ d) (L : Ly p h) (H : Q (some (jI 2)) h) : WF d 140 98 [jP 141, z1, z2, z3, z4] [] h Q := by
  refine b_140_98 ?_
  exact H
set_option maxRecDepth 100000 in
theorem c_140_115 {p : Lpar} {d : Nat} {h : AH} {Q : Option AV → AH → Prop} {v1 : Int} {z2 : AV} {z3 : AV} {z4 : AV} (hd : 9 ≤ d) (L : Ly p h) (H : ∃ h1, jE d 118 [jP 141] h none h1 ∧ Ly p h1 ∧ WF d 140 119 [jP 141, jI v1, z2, z3, z4] [] h1 Q) : WF d 140 115 [jP 141, jI v1, z2, z3, z4] [] h Q := by
  refine b_140_115 ?_
  refine ⟨(Ly.t141 L :), ?_⟩
  obtain ⟨h1, e3, L2, H⟩ := H
  refine ⟨h1, e3, ?_⟩
  exact H
set_option maxRecDepth 100000 in
theorem c_140_119 {p : Lpar} {d : Nat} {h : AH} {Q : Option AV → AH → Prop} {v1 : Int} {z2 : AV} {z3 : AV} {z4 : AV} (hd : 9 ≤ d) (L : Ly p h) (H : WF d 140 124 [jP 141, jI v1, jI (ji h 141 30), z3, z4] [] h Q) : WF d 140 119 [jP 141, jI v1, z2, z3, z4] [] h Q := by
  refine b_140_119 ?_
  refine ⟨(Ly.t141 L :), ?_⟩
  exact H
set_option maxRecDepth 100000 in
theorem c_140_124 {p : Lpar} {d : Nat} {h : AH} {Q : Option AV → AH → Prop} {v1 : Int} {v2 : Int} {z3 : AV} {z4 : AV} (hd : 9 ≤ d) (L : Ly p h) (H : WF d 140 129 [jP 141, jI v1, jI v2, jI (ji h 141 33), z4] [] h Q) : WF d 140 124 [jP 141, jI v1, jI v2, z3, z4] [] h Q := by
  refine b_140_124 ?_
  refine ⟨(Ly.t141 L :), ?_⟩
  exact H
set_option maxRecDepth 100000 in
theorem c_140_129 {p : Lpar} {d : Nat} {h : AH} {Q : Option AV → AH → Prop} {v1 : Int} {v2 : Int} {v3 : Int} {z4 : AV} (hd : 9 ≤ d) (L : Ly p h) (H : WF d 140 132 [jP 141, jI v1, jI v2, jI v3, jI 0] [] h Q) : WF d 140 129 [jP 141, jI v1, jI v2, jI v3, z4] [] h Q := by
  refine b_140_129 ?_
  exact H
set_option maxRecDepth 100000 in
theorem c_140_132 {p : Lpar} {d : Nat} {h : AH} {Q : Option AV → AH → Prop} {v1 : Int} {v2 : Int} {v3 : Int} {v4 : Int} (hd : 9 ≤ d) (L : Ly p h) (H : (v1 = (0 : Int) → WF d 140 196 [jP 141, jI v1, jI v2, jI v3, jI v4] [] h Q) ∧ (¬ (v1 = (0 : Int)) → ∃ x4 h1, jE d 121 [jP 141, jI 40] h (some (jI x4)) h1 ∧ Ly p h1 ∧ WF d 140 143 [jP 141, jI v1, jI v2, jI v3, jI v4] [] h1 Q)) : WF d 140 132 [jP 141, jI v1, jI v2, jI v3, jI v4] [] h Q := by
  refine b_140_132 ?_
  refine ⟨fun c5 => ?_, fun c5 => ?_⟩
  · have H := H.1 c5
    exact H
  · have H := H.2 c5
    refine ⟨(Ly.t141 L :), ?_⟩
    obtain ⟨x4, h1, e3, L2, H⟩ := H
    refine ⟨x4, h1, e3, ?_⟩
    exact H
set_option maxRecDepth 100000 in
theorem c_140_143 {p : Lpar} {d : Nat} {h : AH} {Q : Option AV → AH → Prop} {v1 : Int} {v2 : Int} {v3 : Int} {v4 : Int} (hd : 9 ≤ d) (L : Ly p h) (H : ∃ x4 h1, jE d 132 [jP 141] h (some (jI x4)) h1 ∧ Ly p h1 ∧ WF d 140 149 [jP 141, jI v1, jI v2, jI v3, jI x4] [] h1 Q) : WF d 140 143 [jP 141, jI v1, jI v2, jI v3, jI v4] [] h Q := by
  refine b_140_143 ?_
  refine ⟨(Ly.t141 L :), ?_⟩
  obtain ⟨x4, h1, e3, L2, H⟩ := H
  refine ⟨x4, h1, e3, ?_⟩
  exact H
set_option maxRecDepth 100000 in
theorem c_140_149 {p : Lpar} {d : Nat} {h : AH} {Q : Option AV → AH → Prop} {v1 : Int} {v2 : Int} {v3 : Int} {v4 : Int} (hd : 9 ≤ d) (L : Ly p h) (H : ∃ x4 h1, jE d 121 [jP 141, jI 58] h (some (jI x4)) h1 ∧ Ly p h1 ∧ WF d 140 156 [jP 141, jI v1, jI v2, jI v3, jI v4] [] h1 Q) : WF d 140 149 [jP 141, jI v1, jI v2, jI v3, jI v4] [] h Q := by
  refine b_140_149 ?_
  refine ⟨(Ly.t141 L :), ?_⟩
  obtain ⟨x4, h1, e3, L2, H⟩ := H
  refine ⟨x4, h1, e3, ?_⟩
  exact H
set_option maxRecDepth 100000 in
theorem c_140_156 {p : Lpar} {d : Nat} {h : AH} {Q : Option AV → AH → Prop} {v1 : Int} {v2 : Int} {v3 : Int} {v4 : Int} (hd : 9 ≤ d) (L : Ly p h) (H : ((ji h 141 6) = -1 → 0 ≤ v2 ∧ v2 < 20 ∧ (v4 ≤ 1 → 0 ≤ (ji h 141 33) ∧ (ji h 141 33) < 2000 ∧ (Ly p (wi (wi (wi (wi (wi h 160 (Int.toNat (ji h 141 33)) (9 : Int)) 161 (Int.toNat (ji h 141 33)) v2) 162 (Int.toNat (ji h 141 33)) (ji h 159 (Int.toNat v2))) 163 (Int.toNat (ji h 141 33)) (-1 : Int)) 141 33 ((ji h 141 33) + 1)) → WF d 140 196 [jP 141, jI v1, jI v2, jI v3, jI v4] [] (wi (wi (wi (wi (wi h 160 (Int.toNat (ji h 141 33)) (9 : Int)) 161 (Int.toNat (ji h 141 33)) v2) 162 (Int.toNat (ji h 141 33)) (ji h 159 (Int.toNat v2))) 163 (Int.toNat (ji h 141 33)) (-1 : Int)) 141 33 ((ji h 141 33) + 1)) Q)) ∧ (¬ (v4 ≤ 1) → 0 ≤ (w32 (v2 + 1)) ∧ (w32 (v2 + 1)) < 20 ∧ 0 ≤ (ji h 141 33) ∧ (ji h 141 33) < 2000 ∧ (Ly p (wi (wi (wi (wi (wi h 160 (Int.toNat (ji h 141 33)) (9 : Int)) 161 (Int.toNat (ji h 141 33)) v2) 162 (Int.toNat (ji h 141 33)) (ji h 159 (Int.toNat v2))) 163 (Int.toNat (ji h 141 33)) (ji h 159 (Int.toNat (w32 (v2 + 1))))) 141 33 ((ji h 141 33) + 1)) → WF d 140 196 [jP 141, jI v1, jI v2, jI v3, jI v4] [] (wi (wi (wi (wi (wi h 160 (Int.toNat (ji h 141 33)) (9 : Int)) 161 (Int.toNat (ji h 141 33)) v2) 162 (Int.toNat (ji h 141 33)) (ji h 159 (Int.toNat v2))) 163 (Int.toNat (ji h 141 33)) (ji h 159 (Int.toNat (w32 (v2 + 1))))) 141 33 ((ji h 141 33) + 1)) Q))) ∧ (¬ ((ji h 141 6) = -1) → Q (some (jI 2)) h)) : WF d 140 156 [jP 141, jI v1, jI v2, jI v3, jI v4] [] h Q := by
  refine b_140_156 ?_
  refine ⟨(Ly.t141 L :), ?_⟩
  by_cases c1 : (ji h 141 6) = -1
  · have H := H.1 c1
    refine ⟨1, _, by have := m_122 (d := d) (by omega) L; rw [if_pos c1] at this; exact this, ?_⟩
    refine ⟨fun _ => ?_, fun c => absurd (by decide) c⟩
    refine ⟨(Ly.t141 L :), ?_⟩
    rw [show jr h 141 32 = 159 from (Ly.r141_32 L :)]
    obtain ⟨z2, z3, H⟩ := H
    refine ⟨inA_mk (N := 20) (Ly.t159 L :) (Ly.n159 L :) z2 z3, ?_⟩
    refine ⟨fun c12 => ?_, fun c12 => ?_⟩
    · have H := H.1 c12
      refine ⟨(Ly.t141 L :), ?_⟩
      obtain ⟨z4, z5, H⟩ := H
      refine ⟨_, m_136 (d := d) (by omega) L z4 z5, ?_⟩
      exact H (Ly.wi (Ly.wi (Ly.wi (Ly.wi (Ly.wi L (a := 160) (k := Int.toNat (ji h 141 33)) (x := 9) (by decide)) (a := 161) (k := Int.toNat (ji h 141 33)) (x := v2) (by decide)) (a := 162) (k := Int.toNat (ji h 141 33)) (x := ji h 159 (Int.toNat v2)) (by decide)) (a := 163) (k := Int.toNat (ji h 141 33)) (x := (-1)) (by decide)) (a := 141) (k := 33) (x := (ji h 141 33) + 1) (by decide))
    · have H := H.2 c12
      refine ⟨(Ly.t141 L :), ?_⟩
      obtain ⟨z7, z8, H⟩ := H
      refine ⟨inA_mk (N := 20) (Ly.t159 L :) (Ly.n159 L :) z7 z8, ?_⟩
      refine ⟨(Ly.t141 L :), ?_⟩
      obtain ⟨z9, z10, H⟩ := H
      refine ⟨_, m_136 (d := d) (by omega) L z9 z10, ?_⟩
      exact H (Ly.wi (Ly.wi (Ly.wi (Ly.wi (Ly.wi L (a := 160) (k := Int.toNat (ji h 141 33)) (x := 9) (by decide)) (a := 161) (k := Int.toNat (ji h 141 33)) (x := v2) (by decide)) (a := 162) (k := Int.toNat (ji h 141 33)) (x := ji h 159 (Int.toNat v2)) (by decide)) (a := 163) (k := Int.toNat (ji h 141 33)) (x := ji h 159 (Int.toNat (w32 (v2 + 1)))) (by decide)) (a := 141) (k := 33) (x := (ji h 141 33) + 1) (by decide))
  · have H := H.2 c1
    refine ⟨0, _, by have := m_122 (d := d) (by omega) L; rw [if_neg c1] at this; exact this, ?_⟩
    refine ⟨fun c => absurd c (by decide), fun _ => ?_⟩
    exact H
set_option maxRecDepth 100000 in
theorem c_140_196 {p : Lpar} {d : Nat} {h : AH} {Q : Option AV → AH → Prop} {v1 : Int} {v2 : Int} {v3 : Int} {v4 : Int} (hd : 9 ≤ d) (L : Ly p h) (H : 0 ≤ (ji h 141 38) ∧ (ji h 141 38) < 9 ∧ (v1 = 0 ∨ v1 = 1) ∧ (Ly p (wi h 164 (Int.toNat (ji h 141 38)) v1) → WF d 140 206 [jP 141, jI v1, jI v2, jI v3, jI v4] [] (wi h 164 (Int.toNat (ji h 141 38)) v1) Q)) : WF d 140 196 [jP 141, jI v1, jI v2, jI v3, jI v4] [] h Q := by
  refine b_140_196 ?_
  refine ⟨(Ly.t141 L :), ?_⟩
  rw [show jr h 141 39 = 164 from (Ly.r141_39 L :)]
  refine ⟨(Ly.t141 L :), ?_⟩
  obtain ⟨z1, z2, z3, H⟩ := H
  refine ⟨Or.inr ⟨inW_mk (N := 9) (Ly.t164 L :) (Ly.n164 L :) z1 z2, z3⟩, ?_⟩
  exact H (Ly.wi L (a := 164) (k := Int.toNat (ji h 141 38)) (x := v1) (by decide))
set_option maxRecDepth 100000 in
theorem c_140_206 {p : Lpar} {d : Nat} {h : AH} {Q : Option AV → AH → Prop} {v1 : Int} {v2 : Int} {v3 : Int} {v4 : Int} (hd : 9 ≤ d) (L : Ly p h) (H : 0 ≤ (ji h 141 38) ∧ (ji h 141 38) < 9 ∧ (Ly p (wi h 165 (Int.toNat (ji h 141 38)) (ji h 141 47)) → WF d 140 219 [jP 141, jI v1, jI v2, jI v3, jI v4] [] (wi h 165 (Int.toNat (ji h 141 38)) (ji h 141 47)) Q)) : WF d 140 206 [jP 141, jI v1, jI v2, jI v3, jI v4] [] h Q := by
  refine b_140_206 ?_
  refine ⟨(Ly.t141 L :), ?_⟩
  rw [show jr h 141 40 = 165 from (Ly.r141_40 L :)]
  refine ⟨(Ly.t141 L :), ?_⟩
  refine ⟨(Ly.t141 L :), ?_⟩
  obtain ⟨z1, z2, H⟩ := H
  refine ⟨inW_mk (N := 9) (Ly.t165 L :) (Ly.n165 L :) z1 z2, ?_⟩
  exact H (Ly.wi L (a := 165) (k := Int.toNat (ji h 141 38)) (x := ji h 141 47) (by decide))
set_option maxRecDepth 100000 in
theorem c_140_219 {p : Lpar} {d : Nat} {h : AH} {Q : Option AV → AH → Prop} {v1 : Int} {v2 : Int} {v3 : Int} {v4 : Int} (hd : 9 ≤ d) (L : Ly p h) (H : 0 ≤ (ji h 141 38) ∧ (ji h 141 38) < 9 ∧ ((ji h 141 48) = 0 ∨ (ji h 141 48) = 1) ∧ (Ly p (wi h 166 (Int.toNat (ji h 141 38)) (ji h 141 48)) → WF d 140 232 [jP 141, jI v1, jI v2, jI v3, jI v4] [] (wi h 166 (Int.toNat (ji h 141 38)) (ji h 141 48)) Q)) : WF d 140 219 [jP 141, jI v1, jI v2, jI v3, jI v4] [] h Q := by
  refine b_140_219 ?_
  refine ⟨(Ly.t141 L :), ?_⟩
  rw [show jr h 141 41 = 166 from (Ly.r141_41 L :)]
  refine ⟨(Ly.t141 L :), ?_⟩
  refine ⟨(Ly.t141 L :), ?_⟩
  obtain ⟨z1, z2, z3, H⟩ := H
  refine ⟨Or.inr ⟨inW_mk (N := 9) (Ly.t166 L :) (Ly.n166 L :) z1 z2, z3⟩, ?_⟩
  exact H (Ly.wi L (a := 166) (k := Int.toNat (ji h 141 38)) (x := ji h 141 48) (by decide))
set_option maxRecDepth 100000 in
theorem c_140_232 {p : Lpar} {d : Nat} {h : AH} {Q : Option AV → AH → Prop} {v1 : Int} {v2 : Int} {v3 : Int} {v4 : Int} (hd : 9 ≤ d) (L : Ly p h) (H : 0 ≤ (ji h 141 38) ∧ (ji h 141 38) < 9 ∧ ((ji h 141 49) = 0 ∨ (ji h 141 49) = 1) ∧ (Ly p (wi h 167 (Int.toNat (ji h 141 38)) (ji h 141 49)) → WF d 140 245 [jP 141, jI v1, jI v2, jI v3, jI v4] [] (wi h 167 (Int.toNat (ji h 141 38)) (ji h 141 49)) Q)) : WF d 140 232 [jP 141, jI v1, jI v2, jI v3, jI v4] [] h Q := by
  refine b_140_232 ?_
  refine ⟨(Ly.t141 L :), ?_⟩
  rw [show jr h 141 42 = 167 from (Ly.r141_42 L :)]
  refine ⟨(Ly.t141 L :), ?_⟩
  refine ⟨(Ly.t141 L :), ?_⟩
  obtain ⟨z1, z2, z3, H⟩ := H
  refine ⟨Or.inr ⟨inW_mk (N := 9) (Ly.t167 L :) (Ly.n167 L :) z1 z2, z3⟩, ?_⟩
  exact H (Ly.wi L (a := 167) (k := Int.toNat (ji h 141 38)) (x := ji h 141 49) (by decide))
set_option maxRecDepth 100000 in
theorem c_140_245 {p : Lpar} {d : Nat} {h : AH} {Q : Option AV → AH → Prop} {v1 : Int} {v2 : Int} {v3 : Int} {v4 : Int} (hd : 9 ≤ d) (L : Ly p h) (H : 0 ≤ (ji h 141 38) ∧ (ji h 141 38) < 9 ∧ (Ly p (wi h 168 (Int.toNat (ji h 141 38)) (ji h 141 50)) → WF d 140 258 [jP 141, jI v1, jI v2, jI v3, jI v4] [] (wi h 168 (Int.toNat (ji h 141 38)) (ji h 141 50)) Q)) : WF d 140 245 [jP 141, jI v1, jI v2, jI v3, jI v4] [] h Q := by
  refine b_140_245 ?_
  refine ⟨(Ly.t141 L :), ?_⟩
  rw [show jr h 141 43 = 168 from (Ly.r141_43 L :)]
  refine ⟨(Ly.t141 L :), ?_⟩
  refine ⟨(Ly.t141 L :), ?_⟩
  obtain ⟨z1, z2, H⟩ := H
  refine ⟨inW_mk (N := 9) (Ly.t168 L :) (Ly.n168 L :) z1 z2, ?_⟩
  exact H (Ly.wi L (a := 168) (k := Int.toNat (ji h 141 38)) (x := ji h 141 50) (by decide))
set_option maxRecDepth 100000 in
theorem c_140_258 {p : Lpar} {d : Nat} {h : AH} {Q : Option AV → AH → Prop} {v1 : Int} {v2 : Int} {v3 : Int} {v4 : Int} (hd : 9 ≤ d) (L : Ly p h) (H : 0 ≤ (ji h 141 38) ∧ (ji h 141 38) < 9 ∧ (Ly p (wl h 169 (Int.toNat (ji h 141 38)) (jl h 141 52)) → WF d 140 271 [jP 141, jI v1, jI v2, jI v3, jI v4] [] (wl h 169 (Int.toNat (ji h 141 38)) (jl h 141 52)) Q)) : WF d 140 258 [jP 141, jI v1, jI v2, jI v3, jI v4] [] h Q := by
  refine b_140_258 ?_
  refine ⟨(Ly.t141 L :), ?_⟩
  rw [show jr h 141 44 = 169 from (Ly.r141_44 L :)]
  refine ⟨(Ly.t141 L :), ?_⟩
  refine ⟨(Ly.t141 L :), ?_⟩
  obtain ⟨z1, z2, H⟩ := H
  refine ⟨inW_mk (N := 9) (Ly.t169 L :) (Ly.n169 L :) z1 z2, ?_⟩
  exact H (Ly.wl L (a := 169) (k := Int.toNat (ji h 141 38)) (x := jl h 141 52))
set_option maxRecDepth 100000 in
theorem c_140_271 {p : Lpar} {d : Nat} {h : AH} {Q : Option AV → AH → Prop} {v1 : Int} {v2 : Int} {v3 : Int} {v4 : Int} (hd : 9 ≤ d) (L : Ly p h) (H : 0 ≤ (ji h 141 38) ∧ (ji h 141 38) < 9 ∧ (Ly p (wi h 170 (Int.toNat (ji h 141 38)) v2) → WF d 140 281 [jP 141, jI v1, jI v2, jI v3, jI v4] [] (wi h 170 (Int.toNat (ji h 141 38)) v2) Q)) : WF d 140 271 [jP 141, jI v1, jI v2, jI v3, jI v4] [] h Q := by
  refine b_140_271 ?_
  refine ⟨(Ly.t141 L :), ?_⟩
  rw [show jr h 141 45 = 170 from (Ly.r141_45 L :)]
  refine ⟨(Ly.t141 L :), ?_⟩
  obtain ⟨z1, z2, H⟩ := H
  refine ⟨inW_mk (N := 9) (Ly.t170 L :) (Ly.n170 L :) z1 z2, ?_⟩
  exact H (Ly.wi L (a := 170) (k := Int.toNat (ji h 141 38)) (x := v2) (by decide))
set_option maxRecDepth 100000 in
theorem c_140_281 {p : Lpar} {d : Nat} {h : AH} {Q : Option AV → AH → Prop} {v1 : Int} {v2 : Int} {v3 : Int} {v4 : Int} (hd : 9 ≤ d) (L : Ly p h) (H : 0 ≤ (ji h 141 38) ∧ (ji h 141 38) < 9 ∧ (Ly p (wi h 171 (Int.toNat (ji h 141 38)) v3) → WF d 140 291 [jP 141, jI v1, jI v2, jI v3, jI v4] [] (wi h 171 (Int.toNat (ji h 141 38)) v3) Q)) : WF d 140 281 [jP 141, jI v1, jI v2, jI v3, jI v4] [] h Q := by
  refine b_140_281 ?_
  refine ⟨(Ly.t141 L :), ?_⟩
  rw [show jr h 141 46 = 171 from (Ly.r141_46 L :)]
  refine ⟨(Ly.t141 L :), ?_⟩
  obtain ⟨z1, z2, H⟩ := H
  refine ⟨inW_mk (N := 9) (Ly.t171 L :) (Ly.n171 L :) z1 z2, ?_⟩
  exact H (Ly.wi L (a := 171) (k := Int.toNat (ji h 141 38)) (x := v3) (by decide))
set_option maxRecDepth 100000 in
theorem c_140_291 {p : Lpar} {d : Nat} {h : AH} {Q : Option AV → AH → Prop} {v1 : Int} {v2 : Int} {v3 : Int} {v4 : Int} (hd : 9 ≤ d) (L : Ly p h) (H : (Ly p (wi h 141 38 (w32 ((ji h 141 38) + 1))) → WF d 140 301 [jP 141, jI v1, jI v2, jI v3, jI v4] [] (wi h 141 38 (w32 ((ji h 141 38) + 1))) Q)) : WF d 140 291 [jP 141, jI v1, jI v2, jI v3, jI v4] [] h Q := by
  refine b_140_291 ?_
  refine ⟨(Ly.t141 L :), ?_⟩
  refine ⟨(Ly.t141 L :), ?_⟩
  exact H (Ly.wi L (a := 141) (k := 38) (x := w32 ((ji h 141 38) + 1)) (by decide))
set_option maxRecDepth 100000 in
theorem c_140_301 {p : Lpar} {d : Nat} {h : AH} {Q : Option AV → AH → Prop} {v1 : Int} {v2 : Int} {v3 : Int} {v4 : Int} (hd : 9 ≤ d) (L : Ly p h) (H : ∃ h1, jE d 137 [jP 141] h none h1 ∧ Ly p h1 ∧ WF d 140 305 [jP 141, jI v1, jI v2, jI v3, jI v4] [] h1 Q) : WF d 140 301 [jP 141, jI v1, jI v2, jI v3, jI v4] [] h Q := by
  refine b_140_301 ?_
  refine ⟨(Ly.t141 L :), ?_⟩
  obtain ⟨h1, e3, L2, H⟩ := H
  refine ⟨h1, e3, ?_⟩
  exact H
set_option maxRecDepth 100000 in
theorem c_140_305 {p : Lpar} {d : Nat} {h : AH} {Q : Option AV → AH → Prop} {v1 : Int} {v2 : Int} {v3 : Int} {v4 : Int} (hd : 9 ≤ d) (L : Ly p h) (H : Q (some (jI 0)) h) : WF d 140 305 [jP 141, jI v1, jI v2, jI v3, jI v4] [] h Q := by
  refine b_140_305 ?_
  exact H
set_option maxRecDepth 100000 in
theorem c_144_0 {p : Lpar} {d : Nat} {h : AH} {Q : Option AV → AH → Prop}  (hd : 9 ≤ d) (L : Ly p h) (H : ((ji h 141 51) = (0 : Int) → ((ji h 141 48) = (0 : Int) → ((ji h 141 51) = (0 : Int) → (Ly p (wi h 141 48 0) → WF d 144 47 [jP 141] [] (wi h 141 48 0) Q)) ∧ (¬ ((ji h 141 51) = (0 : Int)) → (Ly p (wi h 141 48 1) → WF d 144 47 [jP 141] [] (wi h 141 48 1) Q))) ∧ (¬ (ji h 141 48) = (0 : Int) → (Ly p (wi h 141 48 1) → WF d 144 47 [jP 141] [] (wi h 141 48 1) Q))) ∧ (¬ ((ji h 141 51) = (0 : Int)) → ((ji h 141 48) = (0 : Int) → ((ji h 141 48) = (0 : Int) → ((ji h 141 51) = (0 : Int) → (Ly p (wi h 141 48 0) → WF d 144 47 [jP 141] [] (wi h 141 48 0) Q)) ∧ (¬ ((ji h 141 51) = (0 : Int)) → (Ly p (wi h 141 48 1) → WF d 144 47 [jP 141] [] (wi h 141 48 1) Q))) ∧ (¬ (ji h 141 48) = (0 : Int) → (Ly p (wi h 141 48 1) → WF d 144 47 [jP 141] [] (wi h 141 48 1) Q))) ∧ (¬ ((ji h 141 48) = (0 : Int)) → ((ji h 141 6) = -1 → (Ly p (wi h 141 6 (ji h 141 50)) → WF d 144 22 [jP 141] [] (wi h 141 6 (ji h 141 50)) Q)) ∧ (¬ ((ji h 141 6) = -1) → (Ly p (wi h 141 6 (ji h 141 6)) → WF d 144 22 [jP 141] [] (wi h 141 6 (ji h 141 6)) Q))))) : WF d 144 0 [jP 141] [] h Q := by
  refine b_144_0 ?_
  refine ⟨(Ly.t141 L :), ?_⟩
  refine ⟨fun c7 => ?_, fun c7 => ?_⟩
  · have H := H.1 c7
    refine ⟨(Ly.t141 L :), ?_⟩
    refine ⟨fun c2 => ?_, fun c2 => ?_⟩
    · have H := H.2 c2
      refine ⟨Or.inr rfl, ?_⟩
      refine ⟨(Ly.t141 L :), ?_⟩
      exact H (Ly.wi L (a := 141) (k := 48) (x := 1) (by decide))
    · have c2 := Decidable.not_not.mp c2
      have H := H.1 c2
      refine ⟨(Ly.t141 L :), ?_⟩
      refine ⟨fun c1 => ?_, fun c1 => ?_⟩
      · have H := H.1 c1
        refine ⟨Or.inl rfl, ?_⟩
        refine ⟨(Ly.t141 L :), ?_⟩
        exact H (Ly.wi L (a := 141) (k := 48) (x := 0) (by decide))
      · have H := H.2 c1
        refine ⟨Or.inr rfl, ?_⟩
        refine ⟨(Ly.t141 L :), ?_⟩
        exact H (Ly.wi L (a := 141) (k := 48) (x := 1) (by decide))
  · have H := H.2 c7
    refine ⟨(Ly.t141 L :), ?_⟩
    refine ⟨fun c6 => ?_, fun c6 => ?_⟩
    · have H := H.1 c6
      refine ⟨(Ly.t141 L :), ?_⟩
      refine ⟨fun c4 => ?_, fun c4 => ?_⟩
      · have H := H.2 c4
        refine ⟨Or.inr rfl, ?_⟩
        refine ⟨(Ly.t141 L :), ?_⟩
        exact H (Ly.wi L (a := 141) (k := 48) (x := 1) (by decide))
      · have c4 := Decidable.not_not.mp c4
        have H := H.1 c4
        refine ⟨(Ly.t141 L :), ?_⟩
        refine ⟨fun c3 => ?_, fun c3 => ?_⟩
        · have H := H.1 c3
          refine ⟨Or.inl rfl, ?_⟩
          refine ⟨(Ly.t141 L :), ?_⟩
          exact H (Ly.wi L (a := 141) (k := 48) (x := 0) (by decide))
        · have H := H.2 c3
          refine ⟨Or.inr rfl, ?_⟩
          refine ⟨(Ly.t141 L :), ?_⟩
          exact H (Ly.wi L (a := 141) (k := 48) (x := 1) (by decide))
    · have H := H.2 c6
      refine ⟨(Ly.t141 L :), ?_⟩
      refine ⟨(Ly.t141 L :), ?_⟩
      by_cases c5 : (ji h 141 6) = -1
      · have H := H.1 c5
        refine ⟨_, m_119y (d := d) (by omega) L c5, ?_⟩
        exact H (Ly.wi L (a := 141) (k := 6) (x := ji h 141 50) (by decide))
      · have H := H.2 c5
        refine ⟨_, m_119n (d := d) (by omega) L c5, ?_⟩
        exact H (Ly.wi L (a := 141) (k := 6) (x := ji h 141 6) (by decide))
set_option maxRecDepth 100000 in
theorem c_144_22 {p : Lpar} {d : Nat} {h : AH} {Q : Option AV → AH → Prop}  (hd : 9 ≤ d) (L : Ly p h) (H : Q (some (jI 2)) h) : WF d 144 22 [jP 141] [] h Q := by
  refine b_144_22 ?_
  exact H
set_option maxRecDepth 100000 in
theorem c_144_47 {p : Lpar} {d : Nat} {h : AH} {Q : Option AV → AH → Prop}  (hd : 9 ≤ d) (L : Ly p h) (H : 0 ≤ (ji h 141 33) ∧ (ji h 141 33) < 2000 ∧ (Ly p (wi (wi (wi (wi (wi h 160 (Int.toNat (ji h 141 33)) (6 : Int)) 161 (Int.toNat (ji h 141 33)) (0 : Int)) 162 (Int.toNat (ji h 141 33)) (0 : Int)) 163 (Int.toNat (ji h 141 33)) (0 : Int)) 141 33 ((ji h 141 33) + 1)) → WF d 144 56 [jP 141] [] (wi (wi (wi (wi (wi h 160 (Int.toNat (ji h 141 33)) (6 : Int)) 161 (Int.toNat (ji h 141 33)) (0 : Int)) 162 (Int.toNat (ji h 141 33)) (0 : Int)) 163 (Int.toNat (ji h 141 33)) (0 : Int)) 141 33 ((ji h 141 33) + 1)) Q)) : WF d 144 47 [jP 141] [] h Q := by
  refine b_144_47 ?_
  refine ⟨(Ly.t141 L :), ?_⟩
  obtain ⟨z1, z2, H⟩ := H
  refine ⟨_, m_136 (d := d) (by omega) L z1 z2, ?_⟩
  exact H (Ly.wi (Ly.wi (Ly.wi (Ly.wi (Ly.wi L (a := 160) (k := Int.toNat (ji h 141 33)) (x := 6) (by decide)) (a := 161) (k := Int.toNat (ji h 141 33)) (x := 0) (by decide)) (a := 162) (k := Int.toNat (ji h 141 33)) (x := 0) (by decide)) (a := 163) (k := Int.toNat (ji h 141 33)) (x := 0) (by decide)) (a := 141) (k := 33) (x := (ji h 141 33) + 1) (by decide))
set_option maxRecDepth 100000 in
theorem c_144_56 {p : Lpar} {d : Nat} {h : AH} {Q : Option AV → AH → Prop}  (hd : 9 ≤ d) (L : Ly p h) (H : ((ji h 141 2) = 142 → ∃ h8, jE d 118 [jP 141] h none h8 ∧ Ly p h8 ∧ WF d 144 70 [jP 141] [] h8 Q) ∧ (¬ (ji h 141 2) = 142 → ((ji h 141 47) ≤ 0 → 0 ≤ (ji h 141 33) ∧ (ji h 141 33) < 2000 ∧ (Ly p (wi (wi (wi (wi (wi h 160 (Int.toNat (ji h 141 33)) (8 : Int)) 161 (Int.toNat (ji h 141 33)) (0 : Int)) 162 (Int.toNat (ji h 141 33)) (0 : Int)) 163 (Int.toNat (ji h 141 33)) (0 : Int)) 141 33 ((ji h 141 33) + 1)) → WF d 144 93 [jP 141] [] (wi (wi (wi (wi (wi h 160 (Int.toNat (ji h 141 33)) (8 : Int)) 161 (Int.toNat (ji h 141 33)) (0 : Int)) 162 (Int.toNat (ji h 141 33)) (0 : Int)) 163 (Int.toNat (ji h 141 33)) (0 : Int)) 141 33 ((ji h 141 33) + 1)) Q)) ∧ (¬ ((ji h 141 47) ≤ 0) → 0 ≤ (ji h 141 33) ∧ (ji h 141 33) < 2000 ∧ (Ly p (wi (wi (wi (wi (wi h 160 (Int.toNat (ji h 141 33)) (7 : Int)) 161 (Int.toNat (ji h 141 33)) (0 : Int)) 162 (Int.toNat (ji h 141 33)) (0 : Int)) 163 (Int.toNat (ji h 141 33)) (0 : Int)) 141 33 ((ji h 141 33) + 1)) → WF d 144 93 [jP 141] [] (wi (wi (wi (wi (wi h 160 (Int.toNat (ji h 141 33)) (7 : Int)) 161 (Int.toNat (ji h 141 33)) (0 : Int)) 162 (Int.toNat (ji h 141 33)) (0 : Int)) 163 (Int.toNat (ji h 141 33)) (0 : Int)) 141 33 ((ji h 141 33) + 1)) Q)))) : WF d 144 56 [jP 141] [] h Q := by
  refine b_144_56 ?_
  refine ⟨(Ly.t141 L :), ?_⟩
  refine ⟨fun c11 => ?_, fun c11 => ?_⟩
  · have H := H.2 c11
    refine ⟨(Ly.t141 L :), ?_⟩
    refine ⟨fun c7 => ?_, fun c7 => ?_⟩
    · have H := H.1 c7
      refine ⟨(Ly.t141 L :), ?_⟩
      obtain ⟨z1, z2, H⟩ := H
      refine ⟨_, m_136 (d := d) (by omega) L z1 z2, ?_⟩
      exact H (Ly.wi (Ly.wi (Ly.wi (Ly.wi (Ly.wi L (a := 160) (k := Int.toNat (ji h 141 33)) (x := 8) (by decide)) (a := 161) (k := Int.toNat (ji h 141 33)) (x := 0) (by decide)) (a := 162) (k := Int.toNat (ji h 141 33)) (x := 0) (by decide)) (a := 163) (k := Int.toNat (ji h 141 33)) (x := 0) (by decide)) (a := 141) (k := 33) (x := (ji h 141 33) + 1) (by decide))
    · have H := H.2 c7
      refine ⟨(Ly.t141 L :), ?_⟩
      obtain ⟨z4, z5, H⟩ := H
      refine ⟨_, m_136 (d := d) (by omega) L z4 z5, ?_⟩
      exact H (Ly.wi (Ly.wi (Ly.wi (Ly.wi (Ly.wi L (a := 160) (k := Int.toNat (ji h 141 33)) (x := 7) (by decide)) (a := 161) (k := Int.toNat (ji h 141 33)) (x := 0) (by decide)) (a := 162) (k := Int.toNat (ji h 141 33)) (x := 0) (by decide)) (a := 163) (k := Int.toNat (ji h 141 33)) (x := 0) (by decide)) (a := 141) (k := 33) (x := (ji h 141 33) + 1) (by decide))
  · have c11 := Decidable.not_not.mp c11
    have H := H.1 c11
    refine ⟨(Ly.t141 L :), ?_⟩
    obtain ⟨h8, e10, L9, H⟩ := H
    refine ⟨h8, e10, ?_⟩
    exact H
set_option maxRecDepth 100000 in
theorem c_144_70 {p : Lpar} {d : Nat} {h : AH} {Q : Option AV → AH → Prop}  (hd : 9 ≤ d) (L : Ly p h) (H : Q (some (jI 0)) h) : WF d 144 70 [jP 141] [] h Q := by
  refine b_144_70 ?_
  exact H
set_option maxRecDepth 100000 in
theorem c_144_93 {p : Lpar} {d : Nat} {h : AH} {Q : Option AV → AH → Prop}  (hd : 9 ≤ d) (L : Ly p h) (H : ((ji h 141 49) = (0 : Int) → ((ji h 141 48) = (0 : Int) → (Ly p (wi h 141 49 0) → WF d 144 116 [jP 141] [] (wi h 141 49 0) Q)) ∧ (¬ ((ji h 141 48) = (0 : Int)) → (Ly p (wi h 141 49 1) → WF d 144 116 [jP 141] [] (wi h 141 49 1) Q))) ∧ (¬ (ji h 141 49) = (0 : Int) → (Ly p (wi h 141 49 1) → WF d 144 116 [jP 141] [] (wi h 141 49 1) Q))) : WF d 144 93 [jP 141] [] h Q := by
  refine b_144_93 ?_
  refine ⟨(Ly.t141 L :), ?_⟩
  refine ⟨fun c2 => ?_, fun c2 => ?_⟩
  · have H := H.2 c2
    refine ⟨Or.inr rfl, ?_⟩
    refine ⟨(Ly.t141 L :), ?_⟩
    exact H (Ly.wi L (a := 141) (k := 49) (x := 1) (by decide))
  · have c2 := Decidable.not_not.mp c2
    have H := H.1 c2
    refine ⟨(Ly.t141 L :), ?_⟩
    refine ⟨fun c1 => ?_, fun c1 => ?_⟩
    · have H := H.1 c1
      refine ⟨Or.inl rfl, ?_⟩
      refine ⟨(Ly.t141 L :), ?_⟩
      exact H (Ly.wi L (a := 141) (k := 49) (x := 0) (by decide))
    · have H := H.2 c1
      refine ⟨Or.inr rfl, ?_⟩
      refine ⟨(Ly.t141 L :), ?_⟩
      exact H (Ly.wi L (a := 141) (k := 49) (x := 1) (by decide))
set_option maxRecDepth 100000 in
theorem c_144_116 {p : Lpar} {d : Nat} {h : AH} {Q : Option AV → AH → Prop}  (hd : 9 ≤ d) (L : Ly p h) (H : ((ji h 141 2) = 143 → ((ji h 141 2) = 143 → (Ly p (wi h 141 47 1) → WF d 144 155 [jP 141] [] (wi h 141 47 1) Q)) ∧ (¬ (ji h 141 2) = 143 → (Ly p (wi h 141 47 (-1)) → WF d 144 155 [jP 141] [] (wi h 141 47 (-1)) Q))) ∧ (¬ ((ji h 141 2) = 143) → ((ji h 141 2) = 145 → ((ji h 141 2) = 143 → (Ly p (wi h 141 47 1) → WF d 144 155 [jP 141] [] (wi h 141 47 1) Q)) ∧ (¬ (ji h 141 2) = 143 → (Ly p (wi h 141 47 (-1)) → WF d 144 155 [jP 141] [] (wi h 141 47 (-1)) Q))) ∧ (¬ (ji h 141 2) = 145 → ((ji h 141 38) = (0 : Int) → Q (some (jI 2)) h) ∧ (¬ (ji h 141 38) = (0 : Int) → ∃ x5 h2, jE d 121 [jP 141, jI 41] h (some (jI x5)) h2 ∧ Ly p h2 ∧ (x5 = (0 : Int) → Q (some (jI 2)) h2) ∧ (¬ x5 = (0 : Int) → ∃ h6, jE d 145 [jP 141] h2 none h6 ∧ Ly p h6 ∧ WF d 144 189 [jP 141] [] h6 Q))))) : WF d 144 116 [jP 141] [] h Q := by
  refine b_144_116 ?_
  refine ⟨(Ly.t141 L :), ?_⟩
  refine ⟨fun c13 => ?_, fun c13 => ?_⟩
  · have H := H.1 c13
    refine ⟨(Ly.t141 L :), ?_⟩
    refine ⟨fun c1 => ?_, fun c1 => ?_⟩
    · have H := H.2 c1
      refine ⟨(Ly.t141 L :), ?_⟩
      exact H (Ly.wi L (a := 141) (k := 47) (x := (-1)) (by decide))
    · have c1 := Decidable.not_not.mp c1
      have H := H.1 c1
      refine ⟨(Ly.t141 L :), ?_⟩
      exact H (Ly.wi L (a := 141) (k := 47) (x := 1) (by decide))
  · have H := H.2 c13
    refine ⟨(Ly.t141 L :), ?_⟩
    refine ⟨fun c12 => ?_, fun c12 => ?_⟩
    · have H := H.2 c12
      refine ⟨(Ly.t141 L :), ?_⟩
      refine ⟨fun c10 => ?_, fun c10 => ?_⟩
      · have H := H.2 c10
        refine ⟨(Ly.t141 L :), ?_⟩
        obtain ⟨x5, h2, e4, L3, H⟩ := H
        refine ⟨x5, h2, e4, ?_⟩
        refine ⟨fun c9 => ?_, fun c9 => ?_⟩
        · have H := H.2 c9
          refine ⟨(Ly.t141 L3 :), ?_⟩
          obtain ⟨h6, e8, L7, H⟩ := H
          refine ⟨h6, e8, ?_⟩
          exact H
        · have c9 := Decidable.not_not.mp c9
          have H := H.1 c9
          exact H
      · have c10 := Decidable.not_not.mp c10
        have H := H.1 c10
        exact H
    · have c12 := Decidable.not_not.mp c12
      have H := H.1 c12
      refine ⟨(Ly.t141 L :), ?_⟩
      refine ⟨fun c11 => ?_, fun c11 => ?_⟩
      · have H := H.2 c11
        refine ⟨(Ly.t141 L :), ?_⟩
        exact H (Ly.wi L (a := 141) (k := 47) (x := (-1)) (by decide))
      · have c11 := Decidable.not_not.mp c11
        have H := H.1 c11
        refine ⟨(Ly.t141 L :), ?_⟩
        exact H (Ly.wi L (a := 141) (k := 47) (x := 1) (by decide))
set_option maxRecDepth 100000 in
theorem c_144_155 {p : Lpar} {d : Nat} {h : AH} {Q : Option AV → AH → Prop}  (hd : 9 ≤ d) (L : Ly p h) (H : ∃ h1, jE d 118 [jP 141] h none h1 ∧ Ly p h1 ∧ WF d 144 159 [jP 141] [] h1 Q) : WF d 144 155 [jP 141] [] h Q := by
  refine b_144_155 ?_
  refine ⟨(Ly.t141 L :), ?_⟩
  obtain ⟨h1, e3, L2, H⟩ := H
  refine ⟨h1, e3, ?_⟩
  exact H
set_option maxRecDepth 100000 in
theorem c_144_159 {p : Lpar} {d : Nat} {h : AH} {Q : Option AV → AH → Prop}  (hd : 9 ≤ d) (L : Ly p h) (H : ∃ h1, jE d 138 [jP 141] h none h1 ∧ Ly p h1 ∧ WF d 144 163 [jP 141] [] h1 Q) : WF d 144 159 [jP 141] [] h Q := by
  refine b_144_159 ?_
  refine ⟨(Ly.t141 L :), ?_⟩
  obtain ⟨h1, e3, L2, H⟩ := H
  refine ⟨h1, e3, ?_⟩
  exact H
set_option maxRecDepth 100000 in
theorem c_144_163 {p : Lpar} {d : Nat} {h : AH} {Q : Option AV → AH → Prop}  (hd : 9 ≤ d) (L : Ly p h) (H : Q (some (jI 0)) h) : WF d 144 163 [jP 141] [] h Q := by
  refine b_144_163 ?_
  exact H
set_option maxRecDepth 100000 in
theorem c_144_189 {p : Lpar} {d : Nat} {h : AH} {Q : Option AV → AH → Prop}  (hd : 9 ≤ d) (L : Ly p h) (H : Q (some (jI 1)) h) : WF d 144 189 [jP 141] [] h Q := by
  refine b_144_189 ?_
  exact H
