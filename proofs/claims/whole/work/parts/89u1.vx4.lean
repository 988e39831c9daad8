set_option maxRecDepth 100000 in
theorem c_108_0 {p : Lpar} {d : Nat} {h : AH} {Q : Option AV → AH → Prop} {v1 : Int} {v2 : Int} (hd : 9 ≤ d) (L : Ly p h) (H : (1 ≤ v1 ∧ v1 ≤ 8 → ((w32 ((ji h 141 1) + v1)) ≤ 400 → WF d 108 35 [jP 141, jI v1, jL v2, jU, jI (w32 (v1 - 1))] [] h Q) ∧ (¬ ((w32 ((ji h 141 1) + v1)) ≤ 400) → Q (some (jI (-100004))) h)) ∧ (¬ (1 ≤ v1 ∧ v1 ≤ 8) → Q (some (jI (-100002))) h)) : WF d 108 0 [jP 141, jI v1, jL v2, jU, jU] [] h Q := by
  refine b_108_0 ?_
  by_cases c1 : 1 ≤ v1 ∧ v1 ≤ 8
  · have H := H.1 c1
    refine ⟨1, _, by have := m_107 (d := d) (v := v1) (a := 1) (b := 8) (by omega) L; rw [if_pos c1] at this; exact this, ?_⟩
    refine ⟨fun _ => ?_, fun c => absurd (by decide) c⟩
    refine ⟨(Ly.t141 L :), ?_⟩
    refine ⟨fun c2 => ?_, fun c2 => ?_⟩
    · have H := H.1 c2
      exact H
    · have H := H.2 c2
      exact H
  · have H := H.2 c1
    refine ⟨0, _, by have := m_107 (d := d) (v := v1) (a := 1) (b := 8) (by omega) L; rw [if_neg c1] at this; exact this, ?_⟩
    refine ⟨fun c => absurd c (by decide), fun _ => ?_⟩
    exact H
set_option maxRecDepth 100000 in
theorem c_108_35 {p : Lpar} {d : Nat} {h : AH} {Q : Option AV → AH → Prop} {v1 : Int} {v2 : Int} {v4 : Int} (hd : 9 ≤ d) (L : Ly p h) (H : (v4 < 0 → Q (some (jI (ji h 141 1))) h) ∧ (¬ (v4 < 0) → 0 ≤ (ji h 141 1) ∧ (ji h 141 1) < 400 ∧ (Ly p (wi h 142 (Int.toNat (ji h 141 1)) (w32 (jandL (jshrL v2 (w32 (8 * v4))) 255))) → WF d 108 61 [jP 141, jI v1, jL v2, jU, jI v4] [] (wi h 142 (Int.toNat (ji h 141 1)) (w32 (jandL (jshrL v2 (w32 (8 * v4))) 255))) Q))) : WF d 108 35 [jP 141, jI v1, jL v2, jU, jI v4] [] h Q := by
  refine b_108_35 ?_
  refine ⟨fun c3 => ?_, fun c3 => ?_⟩
  · have H := H.1 c3
    refine ⟨(Ly.t141 L :), ?_⟩
    exact H
  · have H := H.2 c3
    refine ⟨(Ly.t141 L :), ?_⟩
    rw [show jr h 141 0 = 142 from (Ly.r141_0 L :)]
    refine ⟨(Ly.t141 L :), ?_⟩
    obtain ⟨z1, z2, H⟩ := H
    refine ⟨inW_mk (N := 400) (Ly.t142 L :) (Ly.n142 L :) z1 z2, ?_⟩
    exact H (Ly.wi L (a := 142) (k := Int.toNat (ji h 141 1)) (x := w32 (jandL (jshrL v2 (w32 (8 * v4))) 255)) (by decide))
set_option maxRecDepth 100000 in
theorem c_108_61 {p : Lpar} {d : Nat} {h : AH} {Q : Option AV → AH → Prop} {v1 : Int} {v2 : Int} {v4 : Int} (hd : 9 ≤ d) (L : Ly p h) (H : (Ly p (wi h 141 1 (w32 ((ji h 141 1) + 1))) → WF d 108 71 [jP 141, jI v1, jL v2, jU, jI v4] [] (wi h 141 1 (w32 ((ji h 141 1) + 1))) Q)) : WF d 108 61 [jP 141, jI v1, jL v2, jU, jI v4] [] h Q := by
  refine b_108_61 ?_
  refine ⟨(Ly.t141 L :), ?_⟩
  refine ⟨(Ly.t141 L :), ?_⟩
  exact H (Ly.wi L (a := 141) (k := 1) (x := w32 ((ji h 141 1) + 1)) (by decide))
set_option maxRecDepth 100000 in
theorem c_108_71 {p : Lpar} {d : Nat} {h : AH} {Q : Option AV → AH → Prop} {v1 : Int} {v2 : Int} {v4 : Int} (hd : 9 ≤ d) (L : Ly p h) (H : WF d 108 35 [jP 141, jI v1, jL v2, jU, jI (w32 (v4 + (-1)))] [] h Q) : WF d 108 71 [jP 141, jI v1, jL v2, jU, jI v4] [] h Q := by
  refine b_108_71 ?_
  exact H
set_option maxRecDepth 100000 in
theorem c_109_0 {p : Lpar} {d : Nat} {h : AH} {Q : Option AV → AH → Prop} {v1 : Int} (hd : 9 ≤ d) (L : Ly p h) (H : (0 ≤ v1 ∧ v1 ≤ (ji h 141 1) → (Ly p (wi h 141 1 v1) → Q (some (jI (w32 ((ji h 141 1) - v1)))) (wi h 141 1 v1))) ∧ (¬ (0 ≤ v1 ∧ v1 ≤ (ji h 141 1)) → Q (some (jI (-100002))) h)) : WF d 109 0 [jP 141, jI v1, jU] [] h Q := by
  refine b_109_0 ?_
  refine ⟨(Ly.t141 L :), ?_⟩
  by_cases c1 : 0 ≤ v1 ∧ v1 ≤ (ji h 141 1)
  · have H := H.1 c1
    refine ⟨1, _, by have := m_107 (d := d) (v := v1) (a := 0) (b := ji h 141 1) (by omega) L; rw [if_pos c1] at this; exact this, ?_⟩
    refine ⟨fun _ => ?_, fun c => absurd (by decide) c⟩
    refine ⟨(Ly.t141 L :), ?_⟩
    refine ⟨(Ly.t141 L :), ?_⟩
    exact H (Ly.wi L (a := 141) (k := 1) (x := v1) (by decide))
  · have H := H.2 c1
    refine ⟨0, _, by have := m_107 (d := d) (v := v1) (a := 0) (b := ji h 141 1) (by omega) L; rw [if_neg c1] at this; exact this, ?_⟩
    refine ⟨fun c => absurd c (by decide), fun _ => ?_⟩
    exact H
set_option maxRecDepth 100000 in
theorem c_160_0 {p : Lpar} {d : Nat} {h : AH} {Q : Option AV → AH → Prop} {v0 : Int} {v1 : Int} (hd : 9 ≤ d) (L : Ly p h) (H : WF d 160 4 [jI v0, jI v1, jI 0, jI v0, jU] [] h Q) : WF d 160 0 [jI v0, jI v1, jU, jU, jU] [] h Q := by
  refine b_160_0 ?_
  exact H
set_option maxRecDepth 100000 in
theorem c_160_4 {p : Lpar} {d : Nat} {h : AH} {Q : Option AV → AH → Prop} {v0 : Int} {v1 : Int} {v2 : Int} {v3 : Int} {z4 : AV} (hd : 9 ≤ d) (L : Ly p h) (H : (v3 ≤ 0 → (0 ≤ v1 ∧ v1 ≤ (w32 (v2 - 1)) → WF d 160 43 [jI v0, jI v1, jI v2, jI v0, jI (w32 (v2 - 1))] [] h Q) ∧ (¬ (0 ≤ v1 ∧ v1 ≤ (w32 (v2 - 1))) → Q (some (jI (-100001))) h)) ∧ (¬ (v3 ≤ 0) → WF d 160 4 [jI v0, jI v1, jI (w32 (v2 + 1)), jI (w32 (Int.tdiv v3 27)), z4] [] h Q)) : WF d 160 4 [jI v0, jI v1, jI v2, jI v3, z4] [] h Q := by
  refine b_160_4 ?_
  refine ⟨fun c2 => ?_, fun c2 => ?_⟩
  · have H := H.1 c2
    by_cases c1 : 0 ≤ v1 ∧ v1 ≤ (w32 (v2 - 1))
    · have H := H.1 c1
      refine ⟨1, _, by have := m_107 (d := d) (v := v1) (a := 0) (b := w32 (v2 - 1)) (by omega) L; rw [if_pos c1] at this; exact this, ?_⟩
      refine ⟨fun _ => ?_, fun c => absurd (by decide) c⟩
      exact H
    · have H := H.2 c1
      refine ⟨0, _, by have := m_107 (d := d) (v := v1) (a := 0) (b := w32 (v2 - 1)) (by omega) L; rw [if_neg c1] at this; exact this, ?_⟩
      refine ⟨fun c => absurd c (by decide), fun _ => ?_⟩
      exact H
  · have H := H.2 c2
    refine ⟨by decide, ?_⟩
    exact H
set_option maxRecDepth 100000 in
theorem c_160_43 {p : Lpar} {d : Nat} {h : AH} {Q : Option AV → AH → Prop} {v0 : Int} {v1 : Int} {v2 : Int} {v3 : Int} {v4 : Int} (hd : 9 ≤ d) (L : Ly p h) (H : (v4 ≤ v1 → Q (some (jI (w32 (96 + (w32 (Int.tmod v3 27)))))) h) ∧ (¬ (v4 ≤ v1) → WF d 160 43 [jI v0, jI v1, jI v2, jI (w32 (Int.tdiv v3 27)), jI (w32 (v4 + (-1)))] [] h Q)) : WF d 160 43 [jI v0, jI v1, jI v2, jI v3, jI v4] [] h Q := by
  refine b_160_43 ?_
  refine ⟨fun c1 => ?_, fun c1 => ?_⟩
  · have H := H.1 c1
    refine ⟨by decide, ?_⟩
    exact H
  · have H := H.2 c1
    refine ⟨by decide, ?_⟩
    exact H
set_option maxRecDepth 100000 in
theorem c_161_0 {p : Lpar} {d : Nat} {h : AH} {Q : Option AV → AH → Prop} {v1 : Int} {v2 : Int} {v3 : Int} (hd : 9 ≤ d) (L : Ly p h) (H : (0 ≤ v1 ∧ v1 ≤ 3 → 0 ≤ v1 ∧ v1 < 4 ∧ (0 ≤ v2 ∧ v2 ≤ (w32 ((ji h 175 (Int.toNat v1)) - 1)) → 0 ≤ (w32 ((w32 (10 * v1)) + v2)) ∧ (w32 ((w32 (10 * v1)) + v2)) < 40 ∧ ∃ x10 h7, jE d 160 [jI (ji h 176 (Int.toNat (w32 ((w32 (10 * v1)) + v2)))), jI v3] h (some (jI x10)) h7 ∧ Ly p h7 ∧ Q (some (jI x10)) h7) ∧ (¬ (0 ≤ v2 ∧ v2 ≤ (w32 ((ji h 175 (Int.toNat v1)) - 1))) → Q (some (jI (-100001))) h)) ∧ (¬ (0 ≤ v1 ∧ v1 ≤ 3) → Q (some (jI (-100001))) h)) : WF d 161 0 [jP 141, jI v1, jI v2, jI v3] [] h Q := by
  refine b_161_0 ?_
  by_cases c1 : 0 ≤ v1 ∧ v1 ≤ 3
  · have H := H.1 c1
    refine ⟨1, _, by have := m_107 (d := d) (v := v1) (a := 0) (b := 3) (by omega) L; rw [if_pos c1] at this; exact this, ?_⟩
    refine ⟨fun c => absurd c (by decide), fun _ => ?_⟩
    refine ⟨(Ly.t141 L :), ?_⟩
    rw [show jr h 141 57 = 175 from (Ly.r141_57 L :)]
    obtain ⟨z2, z3, H⟩ := H
    refine ⟨inA_mk (N := 4) (Ly.t175 L :) (Ly.n175 L :) z2 z3, ?_⟩
    by_cases c4 : 0 ≤ v2 ∧ v2 ≤ (w32 ((ji h 175 (Int.toNat v1)) - 1))
    · have H := H.1 c4
      refine ⟨1, _, by have := m_107 (d := d) (v := v2) (a := 0) (b := w32 ((ji h 175 (Int.toNat v1)) - 1)) (by omega) L; rw [if_pos c4] at this; exact this, ?_⟩
      refine ⟨fun c => absurd c (by decide), fun _ => ?_⟩
      refine ⟨(Ly.t141 L :), ?_⟩
      rw [show jr h 141 58 = 176 from (Ly.r141_58 L :)]
      obtain ⟨z5, z6, H⟩ := H
      refine ⟨inA_mk (N := 40) (Ly.t176 L :) (Ly.n176 L :) z5 z6, ?_⟩
      obtain ⟨x10, h7, e9, L8, H⟩ := H
      refine ⟨x10, h7, e9, ?_⟩
      exact H
    · have H := H.2 c4
      refine ⟨0, _, by have := m_107 (d := d) (v := v2) (a := 0) (b := w32 ((ji h 175 (Int.toNat v1)) - 1)) (by omega) L; rw [if_neg c4] at this; exact this, ?_⟩
      refine ⟨fun _ => ?_, fun c => absurd (by decide) c⟩
      exact H
  · have H := H.2 c1
    refine ⟨0, _, by have := m_107 (d := d) (v := v1) (a := 0) (b := 3) (by omega) L; rw [if_neg c1] at this; exact this, ?_⟩
    refine ⟨fun _ => ?_, fun c => absurd (by decide) c⟩
    exact H
set_option maxRecDepth 100000 in
theorem c_162_0 {p : Lpar} {d : Nat} {h : AH} {Q : Option AV → AH → Prop} {v1 : Int} {v2 : Int} (hd : 9 ≤ d) (L : Ly p h) (H : (0 ≤ v1 ∧ v1 ≤ (w32 ((ji h 175 (Int.toNat 0)) - 1)) → (0 ≤ v2 ∧ v2 ≤ 1 → (v2 = (0 : Int) → 0 ≤ v1 ∧ v1 < 6 ∧ Q (some (jI (ji h 178 (Int.toNat v1)))) h) ∧ (¬ v2 = (0 : Int) → 0 ≤ v1 ∧ v1 < 6 ∧ Q (some (jI (ji h 177 (Int.toNat v1)))) h)) ∧ (¬ (0 ≤ v2 ∧ v2 ≤ 1) → Q (some (jI (-100001))) h)) ∧ (¬ (0 ≤ v1 ∧ v1 ≤ (w32 ((ji h 175 (Int.toNat 0)) - 1))) → Q (some (jI (-100001))) h)) : WF d 162 0 [jP 141, jI v1, jI v2] [] h Q := by
  refine b_162_0 ?_
  refine ⟨(Ly.t141 L :), ?_⟩
  rw [show jr h 141 57 = 175 from (Ly.r141_57 L :)]
  refine ⟨inA_mk (N := 4) (Ly.t175 L :) (Ly.n175 L :) (by decide) (by decide), ?_⟩
  by_cases c1 : 0 ≤ v1 ∧ v1 ≤ (w32 ((ji h 175 (Int.toNat 0)) - 1))
  · have H := H.1 c1
    refine ⟨1, _, by have := m_107 (d := d) (v := v1) (a := 0) (b := w32 ((ji h 175 (Int.toNat 0)) - 1)) (by omega) L; rw [if_pos c1] at this; exact this, ?_⟩
    refine ⟨fun c => absurd c (by decide), fun _ => ?_⟩
    by_cases c2 : 0 ≤ v2 ∧ v2 ≤ 1
    · have H := H.1 c2
      refine ⟨1, _, by have := m_107 (d := d) (v := v2) (a := 0) (b := 1) (by omega) L; rw [if_pos c2] at this; exact this, ?_⟩
      refine ⟨fun c => absurd c (by decide), fun _ => ?_⟩
      refine ⟨fun c7 => ?_, fun c7 => ?_⟩
      · have H := H.2 c7
        refine ⟨(Ly.t141 L :), ?_⟩
        rw [show jr h 141 59 = 177 from (Ly.r141_59 L :)]
        obtain ⟨z3, z4, H⟩ := H
        refine ⟨inA_mk (N := 6) (Ly.t177 L :) (Ly.n177 L :) z3 z4, ?_⟩
        exact H
      · have c7 := Decidable.not_not.mp c7
        have H := H.1 c7
        refine ⟨(Ly.t141 L :), ?_⟩
        rw [show jr h 141 60 = 178 from (Ly.r141_60 L :)]
        obtain ⟨z5, z6, H⟩ := H
        refine ⟨inA_mk (N := 6) (Ly.t178 L :) (Ly.n178 L :) z5 z6, ?_⟩
        exact H
    · have H := H.2 c2
      refine ⟨0, _, by have := m_107 (d := d) (v := v2) (a := 0) (b := 1) (by omega) L; rw [if_neg c2] at this; exact this, ?_⟩
      refine ⟨fun _ => ?_, fun c => absurd (by decide) c⟩
      exact H
  · have H := H.2 c1
    refine ⟨0, _, by have := m_107 (d := d) (v := v1) (a := 0) (b := w32 ((ji h 175 (Int.toNat 0)) - 1)) (by omega) L; rw [if_neg c1] at this; exact this, ?_⟩
    refine ⟨fun _ => ?_, fun c => absurd (by decide) c⟩
    exact H
set_option maxRecDepth 100000 in
theorem c_163_0 {p : Lpar} {d : Nat} {h : AH} {Q : Option AV → AH → Prop} {v1 : Int} {v2 : Int} (hd : 9 ≤ d) (L : Ly p h) (H : (v1 = (-1) → Q (some (jI 1)) h) ∧ (¬ (v1 = (-1)) → 0 ≤ v1 ∧ v1 < 6 ∧ 0 ≤ v1 ∧ v1 < 6 ∧ 0 ≤ v1 ∧ v1 < 6 ∧ ((ji h 177 (Int.toNat v1)) ≤ v2 ∧ v2 ≤ (w32 ((w32 ((ji h 177 (Int.toNat v1)) + (ji h 178 (Int.toNat v1)))) - 1)) → Q (some (jI 1)) h) ∧ (¬ ((ji h 177 (Int.toNat v1)) ≤ v2 ∧ v2 ≤ (w32 ((w32 ((ji h 177 (Int.toNat v1)) + (ji h 178 (Int.toNat v1)))) - 1))) → Q (some (jI 0)) h))) : WF d 163 0 [jP 141, jI v1, jI v2] [] h Q := by
  refine b_163_0 ?_
  refine ⟨fun c8 => ?_, fun c8 => ?_⟩
  · have H := H.1 c8
    refine ⟨Or.inr rfl, ?_⟩
    exact H
  · have H := H.2 c8
    refine ⟨(Ly.t141 L :), ?_⟩
    rw [show jr h 141 59 = 177 from (Ly.r141_59 L :)]
    obtain ⟨z1, z2, H⟩ := H
    refine ⟨inA_mk (N := 6) (Ly.t177 L :) (Ly.n177 L :) z1 z2, ?_⟩
    refine ⟨(Ly.t141 L :), ?_⟩
    obtain ⟨z3, z4, H⟩ := H
    refine ⟨inA_mk (N := 6) (Ly.t177 L :) (Ly.n177 L :) z3 z4, ?_⟩
    refine ⟨(Ly.t141 L :), ?_⟩
    rw [show jr h 141 60 = 178 from (Ly.r141_60 L :)]
    obtain ⟨z5, z6, H⟩ := H
    refine ⟨inA_mk (N := 6) (Ly.t178 L :) (Ly.n178 L :) z5 z6, ?_⟩
    by_cases c7 : (ji h 177 (Int.toNat v1)) ≤ v2 ∧ v2 ≤ (w32 ((w32 ((ji h 177 (Int.toNat v1)) + (ji h 178 (Int.toNat v1)))) - 1))
    · have H := H.1 c7
      refine ⟨1, _, by have := m_107 (d := d) (v := v2) (a := ji h 177 (Int.toNat v1)) (b := w32 ((w32 ((ji h 177 (Int.toNat v1)) + (ji h 178 (Int.toNat v1)))) - 1)) (by omega) L; rw [if_pos c7] at this; exact this, ?_⟩
      refine ⟨fun c => absurd c (by decide), fun _ => ?_⟩
      refine ⟨Or.inr rfl, ?_⟩
      exact H
    · have H := H.2 c7
      refine ⟨0, _, by have := m_107 (d := d) (v := v2) (a := ji h 177 (Int.toNat v1)) (b := w32 ((w32 ((ji h 177 (Int.toNat v1)) + (ji h 178 (Int.toNat v1)))) - 1)) (by omega) L; rw [if_neg c7] at this; exact this, ?_⟩
      refine ⟨fun _ => ?_, fun c => absurd (by decide) c⟩
      refine ⟨Or.inl rfl, ?_⟩
      exact H
set_option maxRecDepth 100000 in
theorem c_164_0 {p : Lpar} {d : Nat} {h : AH} {Q : Option AV → AH → Prop} {v1 : Int} {v2 : Int} {v3 : Int} {v4 : Int} (hd : 9 ≤ d) (L : Ly p h) (H : (v1 = (-1) → (v2 = (-1) → Q (some (jI 0)) h) ∧ (¬ v2 = (-1) → 0 ≤ v2 ∧ v2 < 6 ∧ 0 ≤ v2 ∧ v2 < 6 ∧ Q (some (jI (w32 ((w32 ((w32 (0 * (ji h 178 (Int.toNat v2)))) + v4)) - (ji h 177 (Int.toNat v2)))))) h)) ∧ (¬ v1 = (-1) → 0 ≤ v1 ∧ v1 < 6 ∧ (v2 = (-1) → Q (some (jI (w32 (v3 - (ji h 177 (Int.toNat v1)))))) h) ∧ (¬ v2 = (-1) → 0 ≤ v2 ∧ v2 < 6 ∧ 0 ≤ v2 ∧ v2 < 6 ∧ Q (some (jI (w32 ((w32 ((w32 ((w32 (v3 - (ji h 177 (Int.toNat v1)))) * (ji h 178 (Int.toNat v2)))) + v4)) - (ji h 177 (Int.toNat v2)))))) h))) : WF d 164 0 [jP 141, jI v1, jI v2, jI v3, jI v4, jU] [] h Q := by
  refine b_164_0 ?_
  refine ⟨fun c13 => ?_, fun c13 => ?_⟩
  · have H := H.2 c13
    refine ⟨(Ly.t141 L :), ?_⟩
    rw [show jr h 141 59 = 177 from (Ly.r141_59 L :)]
    obtain ⟨z1, z2, H⟩ := H
    refine ⟨inA_mk (N := 6) (Ly.t177 L :) (Ly.n177 L :) z1 z2, ?_⟩
    refine ⟨fun c7 => ?_, fun c7 => ?_⟩
    · have H := H.2 c7
      refine ⟨(Ly.t141 L :), ?_⟩
      rw [show jr h 141 60 = 178 from (Ly.r141_60 L :)]
      obtain ⟨z3, z4, H⟩ := H
      refine ⟨inA_mk (N := 6) (Ly.t178 L :) (Ly.n178 L :) z3 z4, ?_⟩
      refine ⟨(Ly.t141 L :), ?_⟩
      obtain ⟨z5, z6, H⟩ := H
      refine ⟨inA_mk (N := 6) (Ly.t177 L :) (Ly.n177 L :) z5 z6, ?_⟩
      exact H
    · have c7 := Decidable.not_not.mp c7
      have H := H.1 c7
      exact H
  · have c13 := Decidable.not_not.mp c13
    have H := H.1 c13
    refine ⟨fun c12 => ?_, fun c12 => ?_⟩
    · have H := H.2 c12
      refine ⟨(Ly.t141 L :), ?_⟩
      rw [show jr h 141 60 = 178 from (Ly.r141_60 L :)]
      obtain ⟨z8, z9, H⟩ := H
      refine ⟨inA_mk (N := 6) (Ly.t178 L :) (Ly.n178 L :) z8 z9, ?_⟩
      refine ⟨(Ly.t141 L :), ?_⟩
      rw [show jr h 141 59 = 177 from (Ly.r141_59 L :)]
      obtain ⟨z10, z11, H⟩ := H
      refine ⟨inA_mk (N := 6) (Ly.t177 L :) (Ly.n177 L :) z10 z11, ?_⟩
      exact H
    · have c12 := Decidable.not_not.mp c12
      have H := H.1 c12
      exact H
set_option maxRecDepth 100000 in
theorem c_165_0 {p : Lpar} {d : Nat} {h : AH} {Q : Option AV → AH → Prop} {v1 : Int} {v2 : Int} {v3 : Int} (hd : 9 ≤ d) (L : Ly p h) (H : (0 ≤ v1 ∧ v1 ≤ (w32 ((ji h 175 (Int.toNat 1)) - 1)) → 0 ≤ (w32 (2 * v1)) ∧ (w32 (2 * v1)) < 12 ∧ ∃ x7 h4, jE d 163 [jP 141, jI (ji h 179 (Int.toNat (w32 (2 * v1)))), jI v2] h (some (jI x7)) h4 ∧ Ly p h4 ∧ (x7 = (0 : Int) → Q (some (jI (-100001))) h4) ∧ (¬ (x7 = (0 : Int)) → 0 ≤ (w32 ((w32 (2 * v1)) + 1)) ∧ (w32 ((w32 (2 * v1)) + 1)) < 12 ∧ ∃ x13 h10, jE d 163 [jP 141, jI (ji h4 179 (Int.toNat (w32 ((w32 (2 * v1)) + 1)))), jI v3] h4 (some (jI x13)) h10 ∧ Ly p h10 ∧ (x13 = (0 : Int) → Q (some (jI (-100001))) h10) ∧ (¬ x13 = (0 : Int) → 0 ≤ (w32 (2 * v1)) ∧ (w32 (2 * v1)) < 12 ∧ 0 ≤ (w32 ((w32 (2 * v1)) + 1)) ∧ (w32 ((w32 (2 * v1)) + 1)) < 12 ∧ ∃ x21 h18, jE d 164 [jP 141, jI (ji h10 179 (Int.toNat (w32 (2 * v1)))), jI (ji h10 179 (Int.toNat (w32 ((w32 (2 * v1)) + 1)))), jI v2, jI v3] h10 (some (jI x21)) h18 ∧ Ly p h18 ∧ 0 ≤ (w32 ((w32 (64 * v1)) + x21)) ∧ (w32 ((w32 (64 * v1)) + x21)) < 384 ∧ Q (some (jI (ji h18 180 (Int.toNat (w32 ((w32 (64 * v1)) + x21)))))) h18))) ∧ (¬ (0 ≤ v1 ∧ v1 ≤ (w32 ((ji h 175 (Int.toNat 1)) - 1))) → Q (some (jI (-100001))) h)) : WF d 165 0 [jP 141, jI v1, jI v2, jI v3] [] h Q := by
  refine b_165_0 ?_
  refine ⟨(Ly.t141 L :), ?_⟩
  rw [show jr h 141 57 = 175 from (Ly.r141_57 L :)]
  refine ⟨inA_mk (N := 4) (Ly.t175 L :) (Ly.n175 L :) (by decide) (by decide), ?_⟩
  by_cases c1 : 0 ≤ v1 ∧ v1 ≤ (w32 ((ji h 175 (Int.toNat 1)) - 1))
  · have H := H.1 c1
    refine ⟨1, _, by have := m_107 (d := d) (v := v1) (a := 0) (b := w32 ((ji h 175 (Int.toNat 1)) - 1)) (by omega) L; rw [if_pos c1] at this; exact this, ?_⟩
    refine ⟨fun c => absurd c (by decide), fun _ => ?_⟩
    refine ⟨(Ly.t141 L :), ?_⟩
    rw [show jr h 141 61 = 179 from (Ly.r141_61 L :)]
    obtain ⟨z2, z3, H⟩ := H
    refine ⟨inA_mk (N := 12) (Ly.t179 L :) (Ly.n179 L :) z2 z3, ?_⟩
    refine ⟨(Ly.t141 L :), ?_⟩
    obtain ⟨x7, h4, e6, L5, H⟩ := H
    refine ⟨x7, h4, e6, ?_⟩
    refine ⟨fun c25 => ?_, fun c25 => ?_⟩
    · have H := H.1 c25
      exact H
    · have H := H.2 c25
      refine ⟨(Ly.t141 L5 :), ?_⟩
      rw [show jr h4 141 61 = 179 from (Ly.r141_61 L5 :)]
      obtain ⟨z8, z9, H⟩ := H
      refine ⟨inA_mk (N := 12) (Ly.t179 L5 :) (Ly.n179 L5 :) z8 z9, ?_⟩
      refine ⟨(Ly.t141 L5 :), ?_⟩
      obtain ⟨x13, h10, e12, L11, H⟩ := H
      refine ⟨x13, h10, e12, ?_⟩
      refine ⟨fun c24 => ?_, fun c24 => ?_⟩
      · have H := H.2 c24
        refine ⟨(Ly.t141 L11 :), ?_⟩
        rw [show jr h10 141 62 = 180 from (Ly.r141_62 L11 :)]
        refine ⟨(Ly.t141 L11 :), ?_⟩
        rw [show jr h10 141 61 = 179 from (Ly.r141_61 L11 :)]
        obtain ⟨z14, z15, H⟩ := H
        refine ⟨inA_mk (N := 12) (Ly.t179 L11 :) (Ly.n179 L11 :) z14 z15, ?_⟩
        refine ⟨(Ly.t141 L11 :), ?_⟩
        obtain ⟨z16, z17, H⟩ := H
        refine ⟨inA_mk (N := 12) (Ly.t179 L11 :) (Ly.n179 L11 :) z16 z17, ?_⟩
        refine ⟨(Ly.t141 L11 :), ?_⟩
        obtain ⟨x21, h18, e20, L19, H⟩ := H
        refine ⟨x21, h18, e20, ?_⟩
        obtain ⟨z22, z23, H⟩ := H
        refine ⟨inA_mk (N := 384) (Ly.t180 L19 :) (Ly.n180 L19 :) z22 z23, ?_⟩
        exact H
      · have c24 := Decidable.not_not.mp c24
        have H := H.1 c24
        exact H
  · have H := H.2 c1
    refine ⟨0, _, by have := m_107 (d := d) (v := v1) (a := 0) (b := w32 ((ji h 175 (Int.toNat 1)) - 1)) (by omega) L; rw [if_neg c1] at this; exact this, ?_⟩
    refine ⟨fun _ => ?_, fun c => absurd (by decide) c⟩
    exact H
set_option maxRecDepth 100000 in
theorem c_166_0 {p : Lpar} {d : Nat} {h : AH} {Q : Option AV → AH → Prop} {v1 : Int} {v2 : Int} {v3 : Int} (hd : 9 ≤ d) (L : Ly p h) (H : (0 ≤ v1 ∧ v1 ≤ (w32 ((ji h 175 (Int.toNat 2)) - 1)) → 0 ≤ (w32 (2 * v1)) ∧ (w32 (2 * v1)) < 12 ∧ ∃ x7 h4, jE d 163 [jP 141, jI (ji h 181 (Int.toNat (w32 (2 * v1)))), jI v2] h (some (jI x7)) h4 ∧ Ly p h4 ∧ (x7 = (0 : Int) → Q (some (jI (-100001))) h4) ∧ (¬ (x7 = (0 : Int)) → 0 ≤ (w32 ((w32 (2 * v1)) + 1)) ∧ (w32 ((w32 (2 * v1)) + 1)) < 12 ∧ ∃ x13 h10, jE d 163 [jP 141, jI (ji h4 181 (Int.toNat (w32 ((w32 (2 * v1)) + 1)))), jI v3] h4 (some (jI x13)) h10 ∧ Ly p h10 ∧ (x13 = (0 : Int) → Q (some (jI (-100001))) h10) ∧ (¬ x13 = (0 : Int) → 0 ≤ v1 ∧ v1 < 7 ∧ 0 ≤ (w32 (2 * v1)) ∧ (w32 (2 * v1)) < 12 ∧ 0 ≤ (w32 ((w32 (2 * v1)) + 1)) ∧ (w32 ((w32 (2 * v1)) + 1)) < 12 ∧ ∃ x23 h20, jE d 164 [jP 141, jI (ji h10 181 (Int.toNat (w32 (2 * v1)))), jI (ji h10 181 (Int.toNat (w32 ((w32 (2 * v1)) + 1)))), jI v2, jI v3] h10 (some (jI x23)) h20 ∧ Ly p h20 ∧ Q (some (jI (w32 ((ji h10 182 (Int.toNat v1)) + x23)))) h20))) ∧ (¬ (0 ≤ v1 ∧ v1 ≤ (w32 ((ji h 175 (Int.toNat 2)) - 1))) → Q (some (jI (-100001))) h)) : WF d 166 0 [jP 141, jI v1, jI v2, jI v3] [] h Q := by
  refine b_166_0 ?_
  refine ⟨(Ly.t141 L :), ?_⟩
  rw [show jr h 141 57 = 175 from (Ly.r141_57 L :)]
  refine ⟨inA_mk (N := 4) (Ly.t175 L :) (Ly.n175 L :) (by decide) (by decide), ?_⟩
  by_cases c1 : 0 ≤ v1 ∧ v1 ≤ (w32 ((ji h 175 (Int.toNat 2)) - 1))
  · have H := H.1 c1
    refine ⟨1, _, by have := m_107 (d := d) (v := v1) (a := 0) (b := w32 ((ji h 175 (Int.toNat 2)) - 1)) (by omega) L; rw [if_pos c1] at this; exact this, ?_⟩
    refine ⟨fun c => absurd c (by decide), fun _ => ?_⟩
    refine ⟨(Ly.t141 L :), ?_⟩
    rw [show jr h 141 63 = 181 from (Ly.r141_63 L :)]
    obtain ⟨z2, z3, H⟩ := H
    refine ⟨inA_mk (N := 12) (Ly.t181 L :) (Ly.n181 L :) z2 z3, ?_⟩
    refine ⟨(Ly.t141 L :), ?_⟩
    obtain ⟨x7, h4, e6, L5, H⟩ := H
    refine ⟨x7, h4, e6, ?_⟩
    refine ⟨fun c25 => ?_, fun c25 => ?_⟩
    · have H := H.1 c25
      exact H
    · have H := H.2 c25
      refine ⟨(Ly.t141 L5 :), ?_⟩
      rw [show jr h4 141 63 = 181 from (Ly.r141_63 L5 :)]
      obtain ⟨z8, z9, H⟩ := H
      refine ⟨inA_mk (N := 12) (Ly.t181 L5 :) (Ly.n181 L5 :) z8 z9, ?_⟩
      refine ⟨(Ly.t141 L5 :), ?_⟩
      obtain ⟨x13, h10, e12, L11, H⟩ := H
      refine ⟨x13, h10, e12, ?_⟩
      refine ⟨fun c24 => ?_, fun c24 => ?_⟩
      · have H := H.2 c24
        refine ⟨(Ly.t141 L11 :), ?_⟩
        rw [show jr h10 141 64 = 182 from (Ly.r141_64 L11 :)]
        obtain ⟨z14, z15, H⟩ := H
        refine ⟨inA_mk (N := 7) (Ly.t182 L11 :) (Ly.n182 L11 :) z14 z15, ?_⟩
        refine ⟨(Ly.t141 L11 :), ?_⟩
        rw [show jr h10 141 63 = 181 from (Ly.r141_63 L11 :)]
        obtain ⟨z16, z17, H⟩ := H
        refine ⟨inA_mk (N := 12) (Ly.t181 L11 :) (Ly.n181 L11 :) z16 z17, ?_⟩
        refine ⟨(Ly.t141 L11 :), ?_⟩
        obtain ⟨z18, z19, H⟩ := H
        refine ⟨inA_mk (N := 12) (Ly.t181 L11 :) (Ly.n181 L11 :) z18 z19, ?_⟩
        refine ⟨(Ly.t141 L11 :), ?_⟩
        obtain ⟨x23, h20, e22, L21, H⟩ := H
        refine ⟨x23, h20, e22, ?_⟩
        exact H
      · have c24 := Decidable.not_not.mp c24
        have H := H.1 c24
        exact H
  · have H := H.2 c1
    refine ⟨0, _, by have := m_107 (d := d) (v := v1) (a := 0) (b := w32 ((ji h 175 (Int.toNat 2)) - 1)) (by omega) L; rw [if_neg c1] at this; exact this, ?_⟩
    refine ⟨fun _ => ?_, fun c => absurd (by decide) c⟩
    exact H
set_option maxRecDepth 100000 in
theorem c_167_0 {p : Lpar} {d : Nat} {h : AH} {Q : Option AV → AH → Prop} {v1 : Int} (hd : 9 ≤ d) (L : Ly p h) (H : (0 ≤ v1 ∧ v1 ≤ (w32 ((ji h 141 65) - 1)) → Q (some (jI 1)) h) ∧ (¬ (0 ≤ v1 ∧ v1 ≤ (w32 ((ji h 141 65) - 1))) → Q (some (jI 0)) h)) : WF d 167 0 [jP 141, jI v1] [] h Q := by
  refine b_167_0 ?_
  refine ⟨(Ly.t141 L :), ?_⟩
  by_cases c1 : 0 ≤ v1 ∧ v1 ≤ (w32 ((ji h 141 65) - 1))
  · have H := H.1 c1
    refine ⟨1, _, by have := m_107 (d := d) (v := v1) (a := 0) (b := w32 ((ji h 141 65) - 1)) (by omega) L; rw [if_pos c1] at this; exact this, ?_⟩
    refine ⟨Or.inr rfl, ?_⟩
    exact H
  · have H := H.2 c1
    refine ⟨0, _, by have := m_107 (d := d) (v := v1) (a := 0) (b := w32 ((ji h 141 65) - 1)) (by omega) L; rw [if_neg c1] at this; exact this, ?_⟩
    refine ⟨Or.inl rfl, ?_⟩
    exact H
set_option maxRecDepth 100000 in
theorem c_168_0 {p : Lpar} {d : Nat} {h : AH} {Q : Option AV → AH → Prop} {v1 : Int} (hd : 9 ≤ d) (L : Ly p h) (H : (0 ≤ v1 ∧ v1 ≤ (w32 ((ji h 141 72) - 1)) → Q (some (jI 1)) h) ∧ (¬ (0 ≤ v1 ∧ v1 ≤ (w32 ((ji h 141 72) - 1))) → Q (some (jI 0)) h)) : WF d 168 0 [jP 141, jI v1] [] h Q := by
  refine b_168_0 ?_
  refine ⟨(Ly.t141 L :), ?_⟩
  by_cases c1 : 0 ≤ v1 ∧ v1 ≤ (w32 ((ji h 141 72) - 1))
  · have H := H.1 c1
    refine ⟨1, _, by have := m_107 (d := d) (v := v1) (a := 0) (b := w32 ((ji h 141 72) - 1)) (by omega) L; rw [if_pos c1] at this; exact this, ?_⟩
    refine ⟨Or.inr rfl, ?_⟩
    exact H
  · have H := H.2 c1
    refine ⟨0, _, by have := m_107 (d := d) (v := v1) (a := 0) (b := w32 ((ji h 141 72) - 1)) (by omega) L; rw [if_neg c1] at this; exact this, ?_⟩
    refine ⟨Or.inl rfl, ?_⟩
    exact H
set_option maxRecDepth 100000 in
theorem c_169_0 {p : Lpar} {d : Nat} {h : AH} {Q : Option AV → AH → Prop} {v1 : Int} {v2 : Int} (hd : 9 ≤ d) (L : Ly p h) (H : ∃ x4 h1, jE d 167 [jP 141, jI v1] h (some (jI x4)) h1 ∧ Ly p h1 ∧ (x4 = (0 : Int) → Q (some (jI (-100001))) h1) ∧ (¬ x4 = (0 : Int) → ((v2 < 0 ∨ 5 < v2) → WF d 169 94 [jP 141, jI v1, jI v2] [] h1 Q) ∧ (v2 = 0 → WF d 169 52 [jP 141, jI v1, jI v2] [] h1 Q) ∧ (v2 = 1 → WF d 169 59 [jP 141, jI v1, jI v2] [] h1 Q) ∧ (v2 = 2 → WF d 169 66 [jP 141, jI v1, jI v2] [] h1 Q) ∧ (v2 = 3 → WF d 169 73 [jP 141, jI v1, jI v2] [] h1 Q) ∧ (v2 = 4 → WF d 169 80 [jP 141, jI v1, jI v2] [] h1 Q) ∧ (v2 = 5 → WF d 169 87 [jP 141, jI v1, jI v2] [] h1 Q))) : WF d 169 0 [jP 141, jI v1, jI v2] [] h Q := by
  refine b_169_0 ?_
  refine ⟨(Ly.t141 L :), ?_⟩
  obtain ⟨x4, h1, e3, L2, H⟩ := H
  refine ⟨x4, h1, e3, ?_⟩
  refine ⟨fun c6 => ?_, fun c6 => ?_⟩
  · have H := H.2 c6
    obtain ⟨H0, H1, H2, H3, H4, H5, H6⟩ := H
    refine ⟨fun c5 => ?_, fun c5 => ?_, fun c5 => ?_, fun c5 => ?_, fun c5 => ?_, fun c5 => ?_, fun c5 => ?_, trivial⟩
    · have H := H0 c5
      exact H
    · have H := H1 c5
      exact H
    · have H := H2 c5
      exact H
    · have H := H3 c5
      exact H
    · have H := H4 c5
      exact H
    · have H := H5 c5
      exact H
    · have H := H6 c5
      exact H
  · have c6 := Decidable.not_not.mp c6
    have H := H.1 c6
    exact H
set_option maxRecDepth 100000 in
theorem c_169_52 {p : Lpar} {d : Nat} {h : AH} {Q : Option AV → AH → Prop} {v1 : Int} {v2 : Int} (hd : 9 ≤ d) (L : Ly p h) (H : 0 ≤ v1 ∧ v1 < 40 ∧ Q (some (jI (ji h 183 (Int.toNat v1)))) h) : WF d 169 52 [jP 141, jI v1, jI v2] [] h Q := by
  refine b_169_52 ?_
  refine ⟨(Ly.t141 L :), ?_⟩
  rw [show jr h 141 66 = 183 from (Ly.r141_66 L :)]
  obtain ⟨z1, z2, H⟩ := H
  refine ⟨inA_mk (N := 40) (Ly.t183 L :) (Ly.n183 L :) z1 z2, ?_⟩
  exact H
set_option maxRecDepth 100000 in
theorem c_169_59 {p : Lpar} {d : Nat} {h : AH} {Q : Option AV → AH → Prop} {v1 : Int} {v2 : Int} (hd : 9 ≤ d) (L : Ly p h) (H : 0 ≤ v1 ∧ v1 < 40 ∧ Q (some (jI (ji h 184 (Int.toNat v1)))) h) : WF d 169 59 [jP 141, jI v1, jI v2] [] h Q := by
  refine b_169_59 ?_
  refine ⟨(Ly.t141 L :), ?_⟩
  rw [show jr h 141 67 = 184 from (Ly.r141_67 L :)]
  obtain ⟨z1, z2, H⟩ := H
  refine ⟨inA_mk (N := 40) (Ly.t184 L :) (Ly.n184 L :) z1 z2, ?_⟩
  exact H
set_option maxRecDepth 100000 in
theorem c_169_66 {p : Lpar} {d : Nat} {h : AH} {Q : Option AV → AH → Prop} {v1 : Int} {v2 : Int} (hd : 9 ≤ d) (L : Ly p h) (H : 0 ≤ v1 ∧ v1 < 40 ∧ Q (some (jI (ji h 185 (Int.toNat v1)))) h) : WF d 169 66 [jP 141, jI v1, jI v2] [] h Q := by
  refine b_169_66 ?_
  refine ⟨(Ly.t141 L :), ?_⟩
  rw [show jr h 141 68 = 185 from (Ly.r141_68 L :)]
  obtain ⟨z1, z2, H⟩ := H
  refine ⟨inA_mk (N := 40) (Ly.t185 L :) (Ly.n185 L :) z1 z2, ?_⟩
  exact H
set_option maxRecDepth 100000 in
theorem c_169_73 {p : Lpar} {d : Nat} {h : AH} {Q : Option AV → AH → Prop} {v1 : Int} {v2 : Int} (hd : 9 ≤ d) (L : Ly p h) (H : 0 ≤ v1 ∧ v1 < 40 ∧ Q (some (jI (ji h 186 (Int.toNat v1)))) h) : WF d 169 73 [jP 141, jI v1, jI v2] [] h Q := by
  refine b_169_73 ?_
  refine ⟨(Ly.t141 L :), ?_⟩
  rw [show jr h 141 69 = 186 from (Ly.r141_69 L :)]
  obtain ⟨z1, z2, H⟩ := H
  refine ⟨inA_mk (N := 40) (Ly.t186 L :) (Ly.n186 L :) z1 z2, ?_⟩
  exact H
set_option maxRecDepth 100000 in
theorem c_169_80 {p : Lpar} {d : Nat} {h : AH} {Q : Option AV → AH → Prop} {v1 : Int} {v2 : Int} (hd : 9 ≤ d) (L : Ly p h) (H : 0 ≤ v1 ∧ v1 < 40 ∧ Q (some (jI (ji h 187 (Int.toNat v1)))) h) : WF d 169 80 [jP 141, jI v1, jI v2] [] h Q := by
  refine b_169_80 ?_
  refine ⟨(Ly.t141 L :), ?_⟩
  rw [show jr h 141 70 = 187 from (Ly.r141_70 L :)]
  obtain ⟨z1, z2, H⟩ := H
  refine ⟨inA_mk (N := 40) (Ly.t187 L :) (Ly.n187 L :) z1 z2, ?_⟩
  exact H
set_option maxRecDepth 100000 in
theorem c_169_87 {p : Lpar} {d : Nat} {h : AH} {Q : Option AV → AH → Prop} {v1 : Int} {v2 : Int} (hd : 9 ≤ d) (L : Ly p h) (H : 0 ≤ v1 ∧ v1 < 40 ∧ Q (some (jI (ji h 188 (Int.toNat v1)))) h) : WF d 169 87 [jP 141, jI v1, jI v2] [] h Q := by
  refine b_169_87 ?_
  refine ⟨(Ly.t141 L :), ?_⟩
  rw [show jr h 141 71 = 188 from (Ly.r141_71 L :)]
  obtain ⟨z1, z2, H⟩ := H
  refine ⟨inA_mk (N := 40) (Ly.t188 L :) (Ly.n188 L :) z1 z2, ?_⟩
  exact H
set_option maxRecDepth 100000 in
theorem c_169_94 {p : Lpar} {d : Nat} {h : AH} {Q : Option AV → AH → Prop} {v1 : Int} {v2 : Int} (hd : 9 ≤ d) (L : Ly p h) (H : Q (some (jI (-100001))) h) : WF d 169 94 [jP 141, jI v1, jI v2] [] h Q := by
  refine b_169_94 ?_
  exact H
set_option maxRecDepth 100000 in
theorem c_170_0 {p : Lpar} {d : Nat} {h : AH} {Q : Option AV → AH → Prop} {v1 : Int} {v2 : Int} (hd : 9 ≤ d) (L : Ly p h) (H : ∃ x4 h1, jE d 168 [jP 141, jI v1] h (some (jI x4)) h1 ∧ Ly p h1 ∧ (x4 = (0 : Int) → Q (some (jI (-100001))) h1) ∧ (¬ x4 = (0 : Int) → ((v2 < 0 ∨ 3 < v2) → WF d 170 72 [jP 141, jI v1, jI v2] [] h1 Q) ∧ (v2 = 0 → WF d 170 44 [jP 141, jI v1, jI v2] [] h1 Q) ∧ (v2 = 1 → WF d 170 51 [jP 141, jI v1, jI v2] [] h1 Q) ∧ (v2 = 2 → WF d 170 58 [jP 141, jI v1, jI v2] [] h1 Q) ∧ (v2 = 3 → WF d 170 65 [jP 141, jI v1, jI v2] [] h1 Q))) : WF d 170 0 [jP 141, jI v1, jI v2] [] h Q := by
  refine b_170_0 ?_
  refine ⟨(Ly.t141 L :), ?_⟩
  obtain ⟨x4, h1, e3, L2, H⟩ := H
  refine ⟨x4, h1, e3, ?_⟩
  refine ⟨fun c6 => ?_, fun c6 => ?_⟩
  · have H := H.2 c6
    obtain ⟨H0, H1, H2, H3, H4⟩ := H
    refine ⟨fun c5 => ?_, fun c5 => ?_, fun c5 => ?_, fun c5 => ?_, fun c5 => ?_, trivial⟩
    · have H := H0 c5
      exact H
    · have H := H1 c5
      exact H
    · have H := H2 c5
      exact H
    · have H := H3 c5
      exact H
    · have H := H4 c5
      exact H
  · have c6 := Decidable.not_not.mp c6
    have H := H.1 c6
    exact H
set_option maxRecDepth 100000 in
theorem c_170_44 {p : Lpar} {d : Nat} {h : AH} {Q : Option AV → AH → Prop} {v1 : Int} {v2 : Int} (hd : 9 ≤ d) (L : Ly p h) (H : 0 ≤ v1 ∧ v1 < 40 ∧ Q (some (jI (ji h 189 (Int.toNat v1)))) h) : WF d 170 44 [jP 141, jI v1, jI v2] [] h Q := by
  refine b_170_44 ?_
  refine ⟨(Ly.t141 L :), ?_⟩
  rw [show jr h 141 73 = 189 from (Ly.r141_73 L :)]
  obtain ⟨z1, z2, H⟩ := H
  refine ⟨inA_mk (N := 40) (Ly.t189 L :) (Ly.n189 L :) z1 z2, ?_⟩
  exact H
set_option maxRecDepth 100000 in
theorem c_170_51 {p : Lpar} {d : Nat} {h : AH} {Q : Option AV → AH → Prop} {v1 : Int} {v2 : Int} (hd : 9 ≤ d) (L : Ly p h) (H : 0 ≤ v1 ∧ v1 < 40 ∧ Q (some (jI (ji h 190 (Int.toNat v1)))) h) : WF d 170 51 [jP 141, jI v1, jI v2] [] h Q := by
  refine b_170_51 ?_
  refine ⟨(Ly.t141 L :), ?_⟩
  rw [show jr h 141 74 = 190 from (Ly.r141_74 L :)]
  obtain ⟨z1, z2, H⟩ := H
  refine ⟨inA_mk (N := 40) (Ly.t190 L :) (Ly.n190 L :) z1 z2, ?_⟩
  exact H
set_option maxRecDepth 100000 in
theorem c_170_58 {p : Lpar} {d : Nat} {h : AH} {Q : Option AV → AH → Prop} {v1 : Int} {v2 : Int} (hd : 9 ≤ d) (L : Ly p h) (H : 0 ≤ v1 ∧ v1 < 40 ∧ Q (some (jI (ji h 191 (Int.toNat v1)))) h) : WF d 170 58 [jP 141, jI v1, jI v2] [] h Q := by
  refine b_170_58 ?_
  refine ⟨(Ly.t141 L :), ?_⟩
  rw [show jr h 141 75 = 191 from (Ly.r141_75 L :)]
  obtain ⟨z1, z2, H⟩ := H
  refine ⟨inA_mk (N := 40) (Ly.t191 L :) (Ly.n191 L :) z1 z2, ?_⟩
  exact H
set_option maxRecDepth 100000 in
theorem c_170_65 {p : Lpar} {d : Nat} {h : AH} {Q : Option AV → AH → Prop} {v1 : Int} {v2 : Int} (hd : 9 ≤ d) (L : Ly p h) (H : 0 ≤ v1 ∧ v1 < 40 ∧ Q (some (jI (ji h 192 (Int.toNat v1)))) h) : WF d 170 65 [jP 141, jI v1, jI v2] [] h Q := by
  refine b_170_65 ?_
  refine ⟨(Ly.t141 L :), ?_⟩
  rw [show jr h 141 76 = 192 from (Ly.r141_76 L :)]
  obtain ⟨z1, z2, H⟩ := H
  refine ⟨inA_mk (N := 40) (Ly.t192 L :) (Ly.n192 L :) z1 z2, ?_⟩
  exact H
set_option maxRecDepth 100000 in
theorem c_170_72 {p : Lpar} {d : Nat} {h : AH} {Q : Option AV → AH → Prop} {v1 : Int} {v2 : Int} (hd : 9 ≤ d) (L : Ly p h) (H : Q (some (jI (-100001))) h) : WF d 170 72 [jP 141, jI v1, jI v2] [] h Q := by
  refine b_170_72 ?_
  exact H
set_option maxRecDepth 100000 in
theorem c_171_0 {p : Lpar} {d : Nat} {h : AH} {Q : Option AV → AH → Prop} {v1 : Int} {v2 : Int} (hd : 9 ≤ d) (L : Ly p h) (H : ∃ x4 h1, jE d 168 [jP 141, jI v1] h (some (jI x4)) h1 ∧ Ly p h1 ∧ (x4 = (0 : Int) → Q (some (jL (-100001))) h1) ∧ (¬ (x4 = (0 : Int)) → ∃ x8 h5, jE d 167 [jP 141, jI v2] h1 (some (jI x8)) h5 ∧ Ly p h5 ∧ (x8 = (0 : Int) → Q (some (jL (-100001))) h5) ∧ (¬ (x8 = (0 : Int)) → 0 ≤ (w32 ((w32 (41 * v1)) + v2)) ∧ (w32 ((w32 (41 * v1)) + v2)) < 1640 ∧ Q (some (jL (jl h5 193 (Int.toNat (w32 ((w32 (41 * v1)) + v2)))))) h5))) : WF d 171 0 [jP 141, jI v1, jI v2] [] h Q := by
  refine b_171_0 ?_
  refine ⟨(Ly.t141 L :), ?_⟩
  obtain ⟨x4, h1, e3, L2, H⟩ := H
  refine ⟨x4, h1, e3, ?_⟩
  refine ⟨fun c12 => ?_, fun c12 => ?_⟩
  · have H := H.1 c12
    exact H
  · have H := H.2 c12
    refine ⟨(Ly.t141 L2 :), ?_⟩
    obtain ⟨x8, h5, e7, L6, H⟩ := H
    refine ⟨x8, h5, e7, ?_⟩
    refine ⟨fun c11 => ?_, fun c11 => ?_⟩
    · have H := H.1 c11
      exact H
    · have H := H.2 c11
      refine ⟨(Ly.t141 L6 :), ?_⟩
      rw [show jr h5 141 77 = 193 from (Ly.r141_77 L6 :)]
      obtain ⟨z9, z10, H⟩ := H
      refine ⟨inA_mk (N := 1640) (Ly.t193 L6 :) (Ly.n193 L6 :) z9 z10, ?_⟩
      exact H
set_option maxRecDepth 100000 in
theorem c_172_0 {p : Lpar} {d : Nat} {h : AH} {Q : Option AV → AH → Prop} {v1 : Int} (hd : 9 ≤ d) (L : Ly p h) (H : ∃ x4 h1, jE d 168 [jP 141, jI v1] h (some (jI x4)) h1 ∧ Ly p h1 ∧ (x4 = (0 : Int) → Q (some (jL (-100001))) h1) ∧ (¬ (x4 = (0 : Int)) → 0 ≤ (w32 ((w32 (41 * v1)) + 40)) ∧ (w32 ((w32 (41 * v1)) + 40)) < 1640 ∧ Q (some (jL (jl h1 193 (Int.toNat (w32 ((w32 (41 * v1)) + 40)))))) h1)) : WF d 172 0 [jP 141, jI v1] [] h Q := by
  refine b_172_0 ?_
  refine ⟨(Ly.t141 L :), ?_⟩
  obtain ⟨x4, h1, e3, L2, H⟩ := H
  refine ⟨x4, h1, e3, ?_⟩
  refine ⟨fun c7 => ?_, fun c7 => ?_⟩
  · have H := H.1 c7
    exact H
  · have H := H.2 c7
    refine ⟨(Ly.t141 L2 :), ?_⟩
    rw [show jr h1 141 77 = 193 from (Ly.r141_77 L2 :)]
    obtain ⟨z5, z6, H⟩ := H
    refine ⟨inA_mk (N := 1640) (Ly.t193 L2 :) (Ly.n193 L2 :) z5 z6, ?_⟩
    exact H
set_option maxRecDepth 100000 in
theorem c_173_0 {p : Lpar} {d : Nat} {h : AH} {Q : Option AV → AH → Prop} {v1 : Int} (hd : 9 ≤ d) (L : Ly p h) (H : (v1 = (-1) → ((ji h 141 78) = (0 : Int) → Q (some (jL (-100003))) h) ∧ (¬ (ji h 141 78) = (0 : Int) → (v1 = (-1) → Q (some (jL (jl h 194 (Int.toNat 40)))) h) ∧ (¬ v1 = (-1) → 0 ≤ v1 ∧ v1 < 41 ∧ Q (some (jL (jl h 194 (Int.toNat v1)))) h))) ∧ (¬ (v1 = (-1)) → ∃ x8 h5, jE d 167 [jP 141, jI v1] h (some (jI x8)) h5 ∧ Ly p h5 ∧ (x8 = (0 : Int) → Q (some (jL (-100001))) h5) ∧ (¬ x8 = (0 : Int) → ((ji h5 141 78) = (0 : Int) → Q (some (jL (-100003))) h5) ∧ (¬ (ji h5 141 78) = (0 : Int) → (v1 = (-1) → Q (some (jL (jl h5 194 (Int.toNat 40)))) h5) ∧ (¬ v1 = (-1) → 0 ≤ v1 ∧ v1 < 41 ∧ Q (some (jL (jl h5 194 (Int.toNat v1)))) h5))))) : WF d 173 0 [jP 141, jI v1] [] h Q := by
  refine b_173_0 ?_
  refine ⟨fun c14 => ?_, fun c14 => ?_⟩
  · have H := H.1 c14
    refine ⟨(Ly.t141 L :), ?_⟩
    refine ⟨fun c4 => ?_, fun c4 => ?_⟩
    · have H := H.2 c4
      refine ⟨(Ly.t141 L :), ?_⟩
      rw [show jr h 141 79 = 194 from (Ly.r141_79 L :)]
      refine ⟨fun c3 => ?_, fun c3 => ?_⟩
      · have H := H.2 c3
        obtain ⟨z1, z2, H⟩ := H
        refine ⟨inA_mk (N := 41) (Ly.t194 L :) (Ly.n194 L :) z1 z2, ?_⟩
        exact H
      · have c3 := Decidable.not_not.mp c3
        have H := H.1 c3
        refine ⟨inA_mk (N := 41) (Ly.t194 L :) (Ly.n194 L :) (by decide) (by decide), ?_⟩
        exact H
    · have c4 := Decidable.not_not.mp c4
      have H := H.1 c4
      exact H
  · have H := H.2 c14
    refine ⟨(Ly.t141 L :), ?_⟩
    obtain ⟨x8, h5, e7, L6, H⟩ := H
    refine ⟨x8, h5, e7, ?_⟩
    refine ⟨fun c13 => ?_, fun c13 => ?_⟩
    · have H := H.2 c13
      refine ⟨(Ly.t141 L6 :), ?_⟩
      refine ⟨fun c12 => ?_, fun c12 => ?_⟩
      · have H := H.2 c12
        refine ⟨(Ly.t141 L6 :), ?_⟩
        rw [show jr h5 141 79 = 194 from (Ly.r141_79 L6 :)]
        refine ⟨fun c11 => ?_, fun c11 => ?_⟩
        · have H := H.2 c11
          obtain ⟨z9, z10, H⟩ := H
          refine ⟨inA_mk (N := 41) (Ly.t194 L6 :) (Ly.n194 L6 :) z9 z10, ?_⟩
          exact H
        · have c11 := Decidable.not_not.mp c11
          have H := H.1 c11
          refine ⟨inA_mk (N := 41) (Ly.t194 L6 :) (Ly.n194 L6 :) (by decide) (by decide), ?_⟩
          exact H
      · have c12 := Decidable.not_not.mp c12
        have H := H.1 c12
        exact H
    · have c13 := Decidable.not_not.mp c13
      have H := H.1 c13
      exact H
set_option maxRecDepth 100000 in
theorem c_174_0 {p : Lpar} {d : Nat} {h : AH} {Q : Option AV → AH → Prop} {v1 : Int} (hd : 9 ≤ d) (L : Ly p h) (H : ((v1 < 0 ∨ 9 < v1) → Q (some (jI (-100001))) h) ∧ (v1 = 0 → 0 ≤ v1 ∧ v1 < 4 ∧ Q (some (jI (ji h 175 (Int.toNat v1)))) h) ∧ (v1 = 1 → 0 ≤ v1 ∧ v1 < 4 ∧ Q (some (jI (ji h 175 (Int.toNat v1)))) h) ∧ (v1 = 2 → 0 ≤ v1 ∧ v1 < 4 ∧ Q (some (jI (ji h 175 (Int.toNat v1)))) h) ∧ (v1 = 3 → 0 ≤ v1 ∧ v1 < 4 ∧ Q (some (jI (ji h 175 (Int.toNat v1)))) h) ∧ (v1 = 4 → Q (some (jI (ji h 141 65))) h) ∧ (v1 = 5 → Q (some (jI (ji h 141 72))) h) ∧ (v1 = 6 → Q (some (jI (w32 (jl h 141 80)))) h) ∧ (v1 = 7 → Q (some (jI (ji h 141 78))) h) ∧ (v1 = 8 → Q (some (jI (ji h 141 1))) h) ∧ (v1 = 9 → Q (some (jI (ji h 141 81))) h)) : WF d 174 0 [jP 141, jI v1] [] h Q := by
  refine b_174_0 ?_
  obtain ⟨H0, H1, H2, H3, H4, H5, H6, H7, H8, H9, H10⟩ := H
  refine ⟨fun c1 => ?_, fun c1 => ?_, fun c1 => ?_, fun c1 => ?_, fun c1 => ?_, fun c1 => ?_, fun c1 => ?_, fun c1 => ?_, fun c1 => ?_, fun c1 => ?_, fun c1 => ?_, trivial⟩
  · have H := H0 c1
    exact H
  · have H := H1 c1
    refine ⟨(Ly.t141 L :), ?_⟩
    rw [show jr h 141 57 = 175 from (Ly.r141_57 L :)]
    obtain ⟨z2, z3, H⟩ := H
    refine ⟨inA_mk (N := 4) (Ly.t175 L :) (Ly.n175 L :) z2 z3, ?_⟩
    exact H
  · have H := H2 c1
    refine ⟨(Ly.t141 L :), ?_⟩
    rw [show jr h 141 57 = 175 from (Ly.r141_57 L :)]
    obtain ⟨z4, z5, H⟩ := H
    refine ⟨inA_mk (N := 4) (Ly.t175 L :) (Ly.n175 L :) z4 z5, ?_⟩
    exact H
  · have H := H3 c1
    refine ⟨(Ly.t141 L :), ?_⟩
    rw [show jr h 141 57 = 175 from (Ly.r141_57 L :)]
    obtain ⟨z6, z7, H⟩ := H
    refine ⟨inA_mk (N := 4) (Ly.t175 L :) (Ly.n175 L :) z6 z7, ?_⟩
    exact H
  · have H := H4 c1
    refine ⟨(Ly.t141 L :), ?_⟩
    rw [show jr h 141 57 = 175 from (Ly.r141_57 L :)]
    obtain ⟨z8, z9, H⟩ := H
    refine ⟨inA_mk (N := 4) (Ly.t175 L :) (Ly.n175 L :) z8 z9, ?_⟩
    exact H
  · have H := H5 c1
    refine ⟨(Ly.t141 L :), ?_⟩
    exact H
  · have H := H6 c1
    refine ⟨(Ly.t141 L :), ?_⟩
    exact H
  · have H := H7 c1
    refine ⟨(Ly.t141 L :), ?_⟩
    exact H
  · have H := H8 c1
    refine ⟨(Ly.t141 L :), ?_⟩
    exact H
  · have H := H9 c1
    refine ⟨(Ly.t141 L :), ?_⟩
    exact H
  · have H := H10 c1
    refine ⟨(Ly.t141 L :), ?_⟩
    exact H
set_option maxRecDepth 100000 in
theorem c_175_0 {p : Lpar} {d : Nat} {h : AH} {Q : Option AV → AH → Prop} {v1 : Int} {v2 : Int} (hd : 9 ≤ d) (L : Ly p h) (H : ∃ x4 h1, jE d 167 [jP 141, jI v1] h (some (jI x4)) h1 ∧ Ly p h1 ∧ (x4 = (0 : Int) → Q (some (jI (-100001))) h1) ∧ (¬ x4 = (0 : Int) → 0 ≤ v1 ∧ v1 < 40 ∧ 0 ≤ v1 ∧ v1 < 40 ∧ ((ji h1 186 (Int.toNat v1)) ≤ v2 ∧ v2 ≤ (ji h1 187 (Int.toNat v1)) → 0 ≤ v1 ∧ v1 < 40 ∧ 0 ≤ v1 ∧ v1 < 40 ∧ (Ly p (wi h1 188 (Int.toNat v1) v2) → Q (some (jI (ji h1 188 (Int.toNat v1)))) (wi h1 188 (Int.toNat v1) v2))) ∧ (¬ ((ji h1 186 (Int.toNat v1)) ≤ v2 ∧ v2 ≤ (ji h1 187 (Int.toNat v1))) → Q (some (jI (-100002))) h1))) : WF d 175 0 [jP 141, jI v1, jI v2, jU] [] h Q := by
  refine b_175_0 ?_
  refine ⟨(Ly.t141 L :), ?_⟩
  obtain ⟨x4, h1, e3, L2, H⟩ := H
  refine ⟨x4, h1, e3, ?_⟩
  refine ⟨fun c14 => ?_, fun c14 => ?_⟩
  · have H := H.2 c14
    refine ⟨(Ly.t141 L2 :), ?_⟩
    rw [show jr h1 141 69 = 186 from (Ly.r141_69 L2 :)]
    obtain ⟨z5, z6, H⟩ := H
    refine ⟨inA_mk (N := 40) (Ly.t186 L2 :) (Ly.n186 L2 :) z5 z6, ?_⟩
    refine ⟨(Ly.t141 L2 :), ?_⟩
    rw [show jr h1 141 70 = 187 from (Ly.r141_70 L2 :)]
    obtain ⟨z7, z8, H⟩ := H
    refine ⟨inA_mk (N := 40) (Ly.t187 L2 :) (Ly.n187 L2 :) z7 z8, ?_⟩
    by_cases c9 : (ji h1 186 (Int.toNat v1)) ≤ v2 ∧ v2 ≤ (ji h1 187 (Int.toNat v1))
    · have H := H.1 c9
      refine ⟨1, _, by have := m_107 (d := d) (v := v2) (a := ji h1 186 (Int.toNat v1)) (b := ji h1 187 (Int.toNat v1)) (by omega) L2; rw [if_pos c9] at this; exact this, ?_⟩
      refine ⟨fun _ => ?_, fun c => absurd (by decide) c⟩
      refine ⟨(Ly.t141 L2 :), ?_⟩
      rw [show jr h1 141 71 = 188 from (Ly.r141_71 L2 :)]
      obtain ⟨z10, z11, H⟩ := H
      refine ⟨inA_mk (N := 40) (Ly.t188 L2 :) (Ly.n188 L2 :) z10 z11, ?_⟩
      refine ⟨(Ly.t141 L2 :), ?_⟩
      obtain ⟨z12, z13, H⟩ := H
      refine ⟨inW_mk (N := 40) (Ly.t188 L2 :) (Ly.n188 L2 :) z12 z13, ?_⟩
      exact H (Ly.wi L2 (a := 188) (k := Int.toNat v1) (x := v2) (by decide))
    · have H := H.2 c9
      refine ⟨0, _, by have := m_107 (d := d) (v := v2) (a := ji h1 186 (Int.toNat v1)) (b := ji h1 187 (Int.toNat v1)) (by omega) L2; rw [if_neg c9] at this; exact this, ?_⟩
      refine ⟨fun c => absurd c (by decide), fun _ => ?_⟩
      exact H
  · have c14 := Decidable.not_not.mp c14
    have H := H.1 c14
    exact H
set_option maxRecDepth 100000 in
theorem c_176_0 {p : Lpar} {d : Nat} {h : AH} {Q : Option AV → AH → Prop} {v1 : Int} (hd : 9 ≤ d) (L : Ly p h) (H : WF d 176 5 [jP 141, jI v1, jL 0, jU, jI 0] [] h Q) : WF d 176 0 [jP 141, jI v1, jU, jU, jU] [] h Q := by
  refine b_176_0 ?_
  exact H
set_option maxRecDepth 100000 in
theorem c_176_5 {p : Lpar} {d : Nat} {h : AH} {Q : Option AV → AH → Prop} {v1 : Int} {v2 : Int} {v4 : Int} (hd : 9 ≤ d) (L : Ly p h) (H : ((ji h 141 65) ≤ v4 → Q (some (jL v2)) h) ∧ (¬ ((ji h 141 65) ≤ v4) → 0 ≤ (w32 ((w32 (41 * v1)) + v4)) ∧ (w32 ((w32 (41 * v1)) + v4)) < 1640 ∧ 0 ≤ v4 ∧ v4 < 40 ∧ WF d 176 5 [jP 141, jI v1, jL (w64 (v2 + (w64 ((jl h 193 (Int.toNat (w32 ((w32 (41 * v1)) + v4)))) * (ji h 188 (Int.toNat v4)))))), jU, jI (w32 (v4 + 1))] [] h Q)) : WF d 176 5 [jP 141, jI v1, jL v2, jU, jI v4] [] h Q := by
  refine b_176_5 ?_
  refine ⟨(Ly.t141 L :), ?_⟩
  refine ⟨fun c5 => ?_, fun c5 => ?_⟩
  · have H := H.1 c5
    exact H
  · have H := H.2 c5
    refine ⟨(Ly.t141 L :), ?_⟩
    rw [show jr h 141 77 = 193 from (Ly.r141_77 L :)]
    obtain ⟨z1, z2, H⟩ := H
    refine ⟨inA_mk (N := 1640) (Ly.t193 L :) (Ly.n193 L :) z1 z2, ?_⟩
    refine ⟨(Ly.t141 L :), ?_⟩
    rw [show jr h 141 71 = 188 from (Ly.r141_71 L :)]
    obtain ⟨z3, z4, H⟩ := H
    refine ⟨inA_mk (N := 40) (Ly.t188 L :) (Ly.n188 L :) z3 z4, ?_⟩
    exact H
set_option maxRecDepth 100000 in
theorem c_177_0 {p : Lpar} {d : Nat} {h : AH} {Q : Option AV → AH → Prop} {v1 : Int} (hd : 9 ≤ d) (L : Ly p h) (H : ∃ x4 h1, jE d 168 [jP 141, jI v1] h (some (jI x4)) h1 ∧ Ly p h1 ∧ (x4 = (0 : Int) → Q (some (jL (-100001))) h1) ∧ (¬ (x4 = (0 : Int)) → ∃ l8 h5, jE d 176 [jP 141, jI v1] h1 (some (jL l8)) h5 ∧ Ly p h5 ∧ Q (some (jL l8)) h5)) : WF d 177 0 [jP 141, jI v1] [] h Q := by
  refine b_177_0 ?_
  refine ⟨(Ly.t141 L :), ?_⟩
  obtain ⟨x4, h1, e3, L2, H⟩ := H
  refine ⟨x4, h1, e3, ?_⟩
  refine ⟨fun c9 => ?_, fun c9 => ?_⟩
  · have H := H.1 c9
    exact H
  · have H := H.2 c9
    refine ⟨(Ly.t141 L2 :), ?_⟩
    obtain ⟨l8, h5, e7, L6, H⟩ := H
    refine ⟨l8, h5, e7, ?_⟩
    exact H
set_option maxRecDepth 100000 in
theorem c_178_0 {p : Lpar} {d : Nat} {h : AH} {Q : Option AV → AH → Prop} {v1 : Int} (hd : 9 ≤ d) (L : Ly p h) (H : ∃ l4 h1, jE d 176 [jP 141, jI v1] h (some (jL l4)) h1 ∧ Ly p h1 ∧ 0 ≤ (w32 ((w32 (41 * v1)) + 40)) ∧ (w32 ((w32 (41 * v1)) + 40)) < 1640 ∧ 0 ≤ v1 ∧ v1 < 40 ∧ (0 ≤ (ji h1 192 (Int.toNat v1)) → 0 ≤ v1 ∧ v1 < 40 ∧ ((ji h1 192 (Int.toNat v1)) ≤ 0 → ((jcmp l4 (jl h1 193 (Int.toNat (w32 ((w32 (41 * v1)) + 40))))) = (0 : Int) → Q (some (jI 1)) h1) ∧ (¬ (jcmp l4 (jl h1 193 (Int.toNat (w32 ((w32 (41 * v1)) + 40))))) = (0 : Int) → Q (some (jI 0)) h1)) ∧ (¬ ((ji h1 192 (Int.toNat v1)) ≤ 0) → ((jcmp l4 (jl h1 193 (Int.toNat (w32 ((w32 (41 * v1)) + 40))))) < 0 → Q (some (jI 0)) h1) ∧ (¬ ((jcmp l4 (jl h1 193 (Int.toNat (w32 ((w32 (41 * v1)) + 40))))) < 0) → Q (some (jI 1)) h1))) ∧ (¬ (0 ≤ (ji h1 192 (Int.toNat v1))) → (0 < (jcmp l4 (jl h1 193 (Int.toNat (w32 ((w32 (41 * v1)) + 40))))) → Q (some (jI 0)) h1) ∧ (¬ (0 < (jcmp l4 (jl h1 193 (Int.toNat (w32 ((w32 (41 * v1)) + 40)))))) → Q (some (jI 1)) h1))) : WF d 178 0 [jP 141, jI v1, jU, jU, jU, jU] [] h Q := by
  refine b_178_0 ?_
  refine ⟨(Ly.t141 L :), ?_⟩
  obtain ⟨l4, h1, e3, L2, H⟩ := H
  refine ⟨l4, h1, e3, ?_⟩
  refine ⟨(Ly.t141 L2 :), ?_⟩
  rw [show jr h1 141 77 = 193 from (Ly.r141_77 L2 :)]
  obtain ⟨z5, z6, H⟩ := H
  refine ⟨inA_mk (N := 1640) (Ly.t193 L2 :) (Ly.n193 L2 :) z5 z6, ?_⟩
  refine ⟨(Ly.t141 L2 :), ?_⟩
  rw [show jr h1 141 76 = 192 from (Ly.r141_76 L2 :)]
  obtain ⟨z7, z8, H⟩ := H
  refine ⟨inA_mk (N := 40) (Ly.t192 L2 :) (Ly.n192 L2 :) z7 z8, ?_⟩
  refine ⟨fun c15 => ?_, fun c15 => ?_⟩
  · have H := H.1 c15
    refine ⟨(Ly.t141 L2 :), ?_⟩
    obtain ⟨z9, z10, H⟩ := H
    refine ⟨inA_mk (N := 40) (Ly.t192 L2 :) (Ly.n192 L2 :) z9 z10, ?_⟩
    refine ⟨fun c13 => ?_, fun c13 => ?_⟩
    · have H := H.1 c13
      refine ⟨fun c11 => ?_, fun c11 => ?_⟩
      · have H := H.2 c11
        refine ⟨Or.inl rfl, ?_⟩
        exact H
      · have c11 := Decidable.not_not.mp c11
        have H := H.1 c11
        refine ⟨Or.inr rfl, ?_⟩
        exact H
    · have H := H.2 c13
      refine ⟨fun c12 => ?_, fun c12 => ?_⟩
      · have H := H.1 c12
        refine ⟨Or.inl rfl, ?_⟩
        exact H
      · have H := H.2 c12
        refine ⟨Or.inr rfl, ?_⟩
        exact H
  · have H := H.2 c15
    refine ⟨fun c14 => ?_, fun c14 => ?_⟩
    · have H := H.1 c14
      refine ⟨Or.inl rfl, ?_⟩
      exact H
    · have H := H.2 c14
      refine ⟨Or.inr rfl, ?_⟩
      exact H
set_option maxRecDepth 100000 in
theorem c_179_0 {p : Lpar} {d : Nat} {h : AH} {Q : Option AV → AH → Prop} {v1 : Int} (hd : 9 ≤ d) (L : Ly p h) (H : ∃ x4 h1, jE d 168 [jP 141, jI v1] h (some (jI x4)) h1 ∧ Ly p h1 ∧ (x4 = (0 : Int) → Q (some (jI (-100001))) h1) ∧ (¬ x4 = (0 : Int) → ∃ x8 h5, jE d 178 [jP 141, jI v1] h1 (some (jI x8)) h5 ∧ Ly p h5 ∧ (x8 = (0 : Int) → Q (some (jI 0)) h5) ∧ (¬ (x8 = (0 : Int)) → Q (some (jI 1)) h5))) : WF d 179 0 [jP 141, jI v1] [] h Q := by
  refine b_179_0 ?_
  refine ⟨(Ly.t141 L :), ?_⟩
  obtain ⟨x4, h1, e3, L2, H⟩ := H
  refine ⟨x4, h1, e3, ?_⟩
  refine ⟨fun c10 => ?_, fun c10 => ?_⟩
  · have H := H.2 c10
    refine ⟨(Ly.t141 L2 :), ?_⟩
    obtain ⟨x8, h5, e7, L6, H⟩ := H
    refine ⟨x8, h5, e7, ?_⟩
    refine ⟨fun c9 => ?_, fun c9 => ?_⟩
    · have H := H.1 c9
      exact H
    · have H := H.2 c9
      exact H
  · have c10 := Decidable.not_not.mp c10
    have H := H.1 c10
    exact H
set_option maxRecDepth 100000 in
theorem c_180_0 {p : Lpar} {d : Nat} {h : AH} {Q : Option AV → AH → Prop} {v1 : Int} (hd : 9 ≤ d) (L : Ly p h) (H : (0 ≤ v1 → WF d 180 12 [jP 141, jI v1, jI 0, jI 0] [] h Q) ∧ (¬ (0 ≤ v1) → Q (some (jI (-100001))) h)) : WF d 180 0 [jP 141, jI v1, jU, jU] [] h Q := by
  refine b_180_0 ?_
  refine ⟨fun c1 => ?_, fun c1 => ?_⟩
  · have H := H.1 c1
    exact H
  · have H := H.2 c1
    exact H
set_option maxRecDepth 100000 in
theorem c_180_12 {p : Lpar} {d : Nat} {h : AH} {Q : Option AV → AH → Prop} {v1 : Int} {v2 : Int} {v3 : Int} (hd : 9 ≤ d) (L : Ly p h) (H : ((ji h 141 72) ≤ v3 → Q (some (jI (-1))) h) ∧ (¬ ((ji h 141 72) ≤ v3) → ∃ x4 h1, jE d 178 [jP 141, jI v3] h (some (jI x4)) h1 ∧ Ly p h1 ∧ (x4 = (0 : Int) → (v2 = v1 → Q (some (jI v3)) h1) ∧ (¬ v2 = v1 → WF d 180 12 [jP 141, jI v1, jI (w32 (v2 + 1)), jI (w32 (v3 + 1))] [] h1 Q)) ∧ (¬ x4 = (0 : Int) → WF d 180 12 [jP 141, jI v1, jI v2, jI (w32 (v3 + 1))] [] h1 Q))) : WF d 180 12 [jP 141, jI v1, jI v2, jI v3] [] h Q := by
  refine b_180_12 ?_
  refine ⟨(Ly.t141 L :), ?_⟩
  refine ⟨fun c7 => ?_, fun c7 => ?_⟩
  · have H := H.1 c7
    exact H
  · have H := H.2 c7
    refine ⟨(Ly.t141 L :), ?_⟩
    obtain ⟨x4, h1, e3, L2, H⟩ := H
    refine ⟨x4, h1, e3, ?_⟩
    refine ⟨fun c6 => ?_, fun c6 => ?_⟩
    · have H := H.2 c6
      exact H
    · have c6 := Decidable.not_not.mp c6
      have H := H.1 c6
      refine ⟨fun c5 => ?_, fun c5 => ?_⟩
      · have H := H.2 c5
        exact H
      · have c5 := Decidable.not_not.mp c5
        have H := H.1 c5
        exact H
set_option maxRecDepth 100000 in
theorem c_181_0 {p : Lpar} {d : Nat} {h : AH} {Q : Option AV → AH → Prop}  (hd : 9 ≤ d) (L : Ly p h) (H : ((ji h 141 78) = (0 : Int) → Q (some (jL (-100003))) h) ∧ (¬ (ji h 141 78) = (0 : Int) → WF d 181 21 [jP 141, jL (jl h 194 (Int.toNat 40)), jU, jI 0] [] h Q)) : WF d 181 0 [jP 141, jU, jU, jU] [] h Q := by
  refine b_181_0 ?_
  refine ⟨(Ly.t141 L :), ?_⟩
  refine ⟨fun c1 => ?_, fun c1 => ?_⟩
  · have H := H.2 c1
    refine ⟨(Ly.t141 L :), ?_⟩
    rw [show jr h 141 79 = 194 from (Ly.r141_79 L :)]
    refine ⟨inA_mk (N := 41) (Ly.t194 L :) (Ly.n194 L :) (by decide) (by decide), ?_⟩
    exact H
  · have c1 := Decidable.not_not.mp c1
    have H := H.1 c1
    exact H
set_option maxRecDepth 100000 in
theorem c_181_21 {p : Lpar} {d : Nat} {h : AH} {Q : Option AV → AH → Prop} {v1 : Int} {v3 : Int} (hd : 9 ≤ d) (L : Ly p h) (H : ((ji h 141 65) ≤ v3 → Q (some (jL v1)) h) ∧ (¬ ((ji h 141 65) ≤ v3) → 0 ≤ v3 ∧ v3 < 41 ∧ 0 ≤ v3 ∧ v3 < 40 ∧ WF d 181 21 [jP 141, jL (w64 (v1 + (w64 ((jl h 194 (Int.toNat v3)) * (ji h 188 (Int.toNat v3)))))), jU, jI (w32 (v3 + 1))] [] h Q)) : WF d 181 21 [jP 141, jL v1, jU, jI v3] [] h Q := by
  refine b_181_21 ?_
  refine ⟨(Ly.t141 L :), ?_⟩
  refine ⟨fun c5 => ?_, fun c5 => ?_⟩
  · have H := H.1 c5
    exact H
  · have H := H.2 c5
    refine ⟨(Ly.t141 L :), ?_⟩
    rw [show jr h 141 79 = 194 from (Ly.r141_79 L :)]
    obtain ⟨z1, z2, H⟩ := H
    refine ⟨inA_mk (N := 41) (Ly.t194 L :) (Ly.n194 L :) z1 z2, ?_⟩
    refine ⟨(Ly.t141 L :), ?_⟩
    rw [show jr h 141 71 = 188 from (Ly.r141_71 L :)]
    obtain ⟨z3, z4, H⟩ := H
    refine ⟨inA_mk (N := 40) (Ly.t188 L :) (Ly.n188 L :) z3 z4, ?_⟩
    exact H
set_option maxRecDepth 100000 in
theorem c_187_0 {p : Lpar} {d : Nat} {h : AH} {Q : Option AV → AH → Prop} {v1 : Int} (hd : 9 ≤ d) (L : Ly p h) (H : (0 ≤ v1 ∧ v1 ≤ (w32 ((ji h 141 81) - 1)) → 0 ≤ v1 ∧ v1 < 2400 ∧ Q (some (jI (ji h 195 (Int.toNat v1)))) h) ∧ (¬ (0 ≤ v1 ∧ v1 ≤ (w32 ((ji h 141 81) - 1))) → Q (some (jI (-1))) h)) : WF d 187 0 [jP 141, jI v1] [] h Q := by
  refine b_187_0 ?_
  refine ⟨(Ly.t141 L :), ?_⟩
  by_cases c1 : 0 ≤ v1 ∧ v1 ≤ (w32 ((ji h 141 81) - 1))
  · have H := H.1 c1
    refine ⟨1, _, by have := m_107 (d := d) (v := v1) (a := 0) (b := w32 ((ji h 141 81) - 1)) (by omega) L; rw [if_pos c1] at this; exact this, ?_⟩
    refine ⟨fun c => absurd c (by decide), fun _ => ?_⟩
    refine ⟨(Ly.t141 L :), ?_⟩
    rw [show jr h 141 82 = 195 from (Ly.r141_82 L :)]
    obtain ⟨z2, z3, H⟩ := H
    refine ⟨inA_mk (N := 2400) (Ly.t195 L :) (Ly.n195 L :) z2 z3, ?_⟩
    exact H
  · have H := H.2 c1
    refine ⟨0, _, by have := m_107 (d := d) (v := v1) (a := 0) (b := w32 ((ji h 141 81) - 1)) (by omega) L; rw [if_neg c1] at this; exact this, ?_⟩
    refine ⟨fun _ => ?_, fun c => absurd (by decide) c⟩
    exact H
