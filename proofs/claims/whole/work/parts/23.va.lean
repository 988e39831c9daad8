-- needs: 20.num 21.lay
theorem inA_mk {h : AH} {a n N : Nat} {i : Int} (ht : jt h a = 20 + n) (hn : jn h a = N) (h0 : 0 ≤ i) (h1 : i < (N : Int)) : inA h a n i := ⟨Or.inl ht, h0, by rw [hn]; exact h1⟩
theorem inW_mk {h : AH} {a n N : Nat} {i : Int} (ht : jt h a = 20 + n) (hn : jn h a = N) (h0 : 0 ≤ i) (h1 : i < (N : Int)) : inW h a n i := ⟨ht, h0, by rw [hn]; exact h1⟩
theorem layT_row : ∀ k, k < 40 → layT.getD (65 + k) 0 = 21 ∧ layN.getD (65 + k) 0 = 40 := by decide +kernel
theorem Ly.trow {p : Lpar} {h : AH} (L : Ly p h) {k : Nat} (hk : k < 40) : jt h (97 + k) = 21 := by
  have := (L.tn (65 + k) (by omega)).1
  rw [(layT_row k hk).1] at this
  rw [show 97 + k = 65 + k + 32 by omega]; exact this
theorem Ly.nrow {p : Lpar} {h : AH} (L : Ly p h) {k : Nat} (hk : k < 40) : jn h (97 + k) = 40 := by
  have := (L.tn (65 + k) (by omega)).2
  rw [(layT_row k hk).2] at this
  rw [show 97 + k = 65 + k + 32 by omega]; exact this
/-- things: data, vars, rules -/
def isTh (D t N : Nat) : Prop := isD D ∧ ((t = D + 14 ∧ N = 6) ∨ (t = D + 18 ∧ N = 6) ∨ (t = D + 22 ∧ N = 10))
def isBy (b N : Nat) : Prop := (b = 33 ∧ N = 400) ∨ (b = 35 ∧ N = 1551)
section THS
variable {p : Lpar} {h : AH} {D t N b : Nat}
theorem Ly.tt0 (L : Ly p h) (hT : isTh D t N) : jt h t = 9 := by
  obtain ⟨hD, ⟨rfl, rfl⟩ | ⟨rfl, rfl⟩ | ⟨rfl, rfl⟩⟩ := hT
  · exact L.dt14 hD
  · exact L.dt18 hD
  · exact L.dt22 hD
theorem Ly.tt1 (L : Ly p h) (hT : isTh D t N) : jt h (t + 1) = 20 := by
  obtain ⟨hD, ⟨rfl, rfl⟩ | ⟨rfl, rfl⟩ | ⟨rfl, rfl⟩⟩ := hT
  · exact L.dt15 hD
  · exact L.dt19 hD
  · exact L.dt23 hD
theorem Ly.tt2 (L : Ly p h) (hT : isTh D t N) : jt h (t + 2) = 20 := by
  obtain ⟨hD, ⟨rfl, rfl⟩ | ⟨rfl, rfl⟩ | ⟨rfl, rfl⟩⟩ := hT
  · exact L.dt16 hD
  · exact L.dt20 hD
  · exact L.dt24 hD
theorem Ly.tt3 (L : Ly p h) (hT : isTh D t N) : jt h (t + 3) = 20 := by
  obtain ⟨hD, ⟨rfl, rfl⟩ | ⟨rfl, rfl⟩ | ⟨rfl, rfl⟩⟩ := hT
  · exact L.dt17 hD
  · exact L.dt21 hD
  · exact L.dt25 hD
theorem Ly.tl1 (L : Ly p h) (hT : isTh D t N) : jn h (t + 1) = N := by
  obtain ⟨hD, ⟨rfl, rfl⟩ | ⟨rfl, rfl⟩ | ⟨rfl, rfl⟩⟩ := hT
  · exact L.dn15 hD
  · exact L.dn19 hD
  · exact L.dn23 hD
theorem Ly.tl2 (L : Ly p h) (hT : isTh D t N) : jn h (t + 2) = N := by
  obtain ⟨hD, ⟨rfl, rfl⟩ | ⟨rfl, rfl⟩ | ⟨rfl, rfl⟩⟩ := hT
  · exact L.dn16 hD
  · exact L.dn20 hD
  · exact L.dn24 hD
theorem Ly.tl3 (L : Ly p h) (hT : isTh D t N) : jn h (t + 3) = N := by
  obtain ⟨hD, ⟨rfl, rfl⟩ | ⟨rfl, rfl⟩ | ⟨rfl, rfl⟩⟩ := hT
  · exact L.dn17 hD
  · exact L.dn21 hD
  · exact L.dn25 hD
theorem Ly.tr0 (L : Ly p h) (hT : isTh D t N) : jr h t 0 = D + 5 := by
  obtain ⟨hD, ⟨rfl, rfl⟩ | ⟨rfl, rfl⟩ | ⟨rfl, rfl⟩⟩ := hT
  · exact L.dr14_0 hD
  · exact L.dr18_0 hD
  · exact L.dr22_0 hD
theorem Ly.tr1 (L : Ly p h) (hT : isTh D t N) : jr h t 1 = t + 1 := by
  obtain ⟨hD, ⟨rfl, rfl⟩ | ⟨rfl, rfl⟩ | ⟨rfl, rfl⟩⟩ := hT
  · exact L.dr14_1 hD
  · exact L.dr18_1 hD
  · exact L.dr22_1 hD
theorem Ly.tr2 (L : Ly p h) (hT : isTh D t N) : jr h t 2 = t + 2 := by
  obtain ⟨hD, ⟨rfl, rfl⟩ | ⟨rfl, rfl⟩ | ⟨rfl, rfl⟩⟩ := hT
  · exact L.dr14_2 hD
  · exact L.dr18_2 hD
  · exact L.dr22_2 hD
theorem Ly.tr3 (L : Ly p h) (hT : isTh D t N) : jr h t 3 = t + 3 := by
  obtain ⟨hD, ⟨rfl, rfl⟩ | ⟨rfl, rfl⟩ | ⟨rfl, rfl⟩⟩ := hT
  · exact L.dr14_3 hD
  · exact L.dr18_3 hD
  · exact L.dr22_3 hD
theorem Ly.bt0 (L : Ly p h) (hb : isBy b N) : jt h b = 1 := by
  obtain ⟨rfl, rfl⟩ | ⟨rfl, rfl⟩ := hb
  · exact L.t33
  · exact L.t35
theorem Ly.bt1 (L : Ly p h) (hb : isBy b N) : jt h (b + 1) = 22 := by
  obtain ⟨rfl, rfl⟩ | ⟨rfl, rfl⟩ := hb
  · exact L.t34
  · exact L.t36
theorem Ly.bl1 (L : Ly p h) (hb : isBy b N) : jn h (b + 1) = N := by
  obtain ⟨rfl, rfl⟩ | ⟨rfl, rfl⟩ := hb
  · exact L.n34
  · exact L.n36
theorem Ly.br0 (L : Ly p h) (hb : isBy b N) : jr h b 0 = b + 1 := by
  obtain ⟨rfl, rfl⟩ | ⟨rfl, rfl⟩ := hb
  · exact L.r33_0
  · exact L.r35_0
end THS
set_option maxRecDepth 100000 in
theorem c_70_0 {p : Lpar} {d : Nat} {h : AH} {Q : Option AV → AH → Prop}  (hd : 0 ≤ d) (L : Ly p h) (H : 0 ≤ (ji h 37 4) ∧ (ji h 37 4) < 401 ∧ Q (some (jI (ji h 38 (Int.toNat (ji h 37 4))))) h) : WF d 70 0 [jP 37] [] h Q := by
  refine b_70_0 ?_
  refine ⟨(Ly.t37 L :), ?_⟩
  rw [show jr h 37 0 = 38 from (Ly.r37_0 L :)]
  refine ⟨(Ly.t37 L :), ?_⟩
  obtain ⟨z1, z2, H⟩ := H
  refine ⟨inA_mk (N := 401) (Ly.t38 L :) (Ly.n38 L :) z1 z2, ?_⟩
  exact H
set_option maxRecDepth 100000 in
theorem c_71_0 {p : Lpar} {d : Nat} {h : AH} {Q : Option AV → AH → Prop}  (hd : 0 ≤ d) (L : Ly p h) (H : 0 ≤ (ji h 37 4) ∧ (ji h 37 4) < 401 ∧ Q (some (jI (ji h 39 (Int.toNat (ji h 37 4))))) h) : WF d 71 0 [jP 37] [] h Q := by
  refine b_71_0 ?_
  refine ⟨(Ly.t37 L :), ?_⟩
  rw [show jr h 37 1 = 39 from (Ly.r37_1 L :)]
  refine ⟨(Ly.t37 L :), ?_⟩
  obtain ⟨z1, z2, H⟩ := H
  refine ⟨inA_mk (N := 401) (Ly.t39 L :) (Ly.n39 L :) z1 z2, ?_⟩
  exact H
set_option maxRecDepth 100000 in
theorem c_72_0 {p : Lpar} {d : Nat} {h : AH} {Q : Option AV → AH → Prop}  (hd : 0 ≤ d) (L : Ly p h) (H : 0 ≤ (ji h 37 4) ∧ (ji h 37 4) < 401 ∧ Q (some (jI (ji h 40 (Int.toNat (ji h 37 4))))) h) : WF d 72 0 [jP 37] [] h Q := by
  refine b_72_0 ?_
  refine ⟨(Ly.t37 L :), ?_⟩
  rw [show jr h 37 2 = 40 from (Ly.r37_2 L :)]
  refine ⟨(Ly.t37 L :), ?_⟩
  obtain ⟨z1, z2, H⟩ := H
  refine ⟨inA_mk (N := 401) (Ly.t40 L :) (Ly.n40 L :) z1 z2, ?_⟩
  exact H
set_option maxRecDepth 100000 in
theorem c_73_0 {p : Lpar} {d : Nat} {h : AH} {Q : Option AV → AH → Prop}  (hd : 0 ≤ d) (L : Ly p h) (H : 0 ≤ (ji h 37 4) ∧ (ji h 37 4) < 401 ∧ ((ji h 38 (Int.toNat (ji h 37 4))) = 3 → 0 ≤ (ji h 37 4) ∧ (ji h 37 4) < 401 ∧ Q (some (jI (ji h 40 (Int.toNat (ji h 37 4))))) h) ∧ (¬ (ji h 38 (Int.toNat (ji h 37 4))) = 3 → Q (some (jI 0)) h)) : WF d 73 0 [jP 37] [] h Q := by
  refine b_73_0 ?_
  refine ⟨(Ly.t37 L :), ?_⟩
  rw [show jr h 37 0 = 38 from (Ly.r37_0 L :)]
  refine ⟨(Ly.t37 L :), ?_⟩
  obtain ⟨z1, z2, H⟩ := H
  refine ⟨inA_mk (N := 401) (Ly.t38 L :) (Ly.n38 L :) z1 z2, ?_⟩
  refine ⟨fun c5 => ?_, fun c5 => ?_⟩
  · have H := H.2 c5
    exact H
  · have c5 := Decidable.not_not.mp c5
    have H := H.1 c5
    refine ⟨(Ly.t37 L :), ?_⟩
    rw [show jr h 37 2 = 40 from (Ly.r37_2 L :)]
    refine ⟨(Ly.t37 L :), ?_⟩
    obtain ⟨z3, z4, H⟩ := H
    refine ⟨inA_mk (N := 401) (Ly.t40 L :) (Ly.n40 L :) z3 z4, ?_⟩
    exact H
set_option maxRecDepth 100000 in
theorem c_74_0 {p : Lpar} {d : Nat} {h : AH} {Q : Option AV → AH → Prop}  (hd : 0 ≤ d) (L : Ly p h) (H : ((ji h 37 3) ≤ (w32 ((ji h 37 4) + 1)) → Q none h) ∧ (¬ ((ji h 37 3) ≤ (w32 ((ji h 37 4) + 1))) → (Ly p (wi h 37 4 (w32 ((ji h 37 4) + 1))) → Q none (wi h 37 4 (w32 ((ji h 37 4) + 1)))))) : WF d 74 0 [jP 37] [] h Q := by
  refine b_74_0 ?_
  refine ⟨(Ly.t37 L :), ?_⟩
  refine ⟨(Ly.t37 L :), ?_⟩
  refine ⟨fun c1 => ?_, fun c1 => ?_⟩
  · have H := H.1 c1
    exact H
  · have H := H.2 c1
    refine ⟨(Ly.t37 L :), ?_⟩
    refine ⟨(Ly.t37 L :), ?_⟩
    exact H (Ly.wi L (a := 37) (k := 4) (x := w32 ((ji h 37 4) + 1)) (by decide))
set_option maxRecDepth 100000 in
theorem c_75_0 {p : Lpar} {d : Nat} {h : AH} {Q : Option AV → AH → Prop} {v1 : Int} (hd : 0 ≤ d) (L : Ly p h) (H : 0 ≤ (ji h 37 4) ∧ (ji h 37 4) < 401 ∧ ((ji h 38 (Int.toNat (ji h 37 4))) = v1 → ((ji h 37 3) ≤ (w32 ((ji h 37 4) + 1)) → Q (some (jI 1)) h) ∧ (¬ ((ji h 37 3) ≤ (w32 ((ji h 37 4) + 1))) → (Ly p (wi h 37 4 (w32 ((ji h 37 4) + 1))) → Q (some (jI 1)) (wi h 37 4 (w32 ((ji h 37 4) + 1)))))) ∧ (¬ ((ji h 38 (Int.toNat (ji h 37 4))) = v1) → 0 ≤ (ji h 37 4) ∧ (ji h 37 4) < 401 ∧ (Ly p (wi h 37 5 (w32 ((-10) - (ji h 39 (Int.toNat (ji h 37 4)))))) → Q (some (jI 0)) (wi h 37 5 (w32 ((-10) - (ji h 39 (Int.toNat (ji h 37 4))))))))) : WF d 75 0 [jP 37, jI v1] [] h Q := by
  refine b_75_0 ?_
  refine ⟨(Ly.t37 L :), ?_⟩
  rw [show jr h 37 0 = 38 from (Ly.r37_0 L :)]
  refine ⟨(Ly.t37 L :), ?_⟩
  obtain ⟨z1, z2, H⟩ := H
  refine ⟨inA_mk (N := 401) (Ly.t38 L :) (Ly.n38 L :) z1 z2, ?_⟩
  refine ⟨fun c6 => ?_, fun c6 => ?_⟩
  · have H := H.1 c6
    refine ⟨(Ly.t37 L :), ?_⟩
    refine ⟨(Ly.t37 L :), ?_⟩
    refine ⟨fun c3 => ?_, fun c3 => ?_⟩
    · have H := H.1 c3
      refine ⟨Or.inr rfl, ?_⟩
      exact H
    · have H := H.2 c3
      refine ⟨(Ly.t37 L :), ?_⟩
      refine ⟨(Ly.t37 L :), ?_⟩
      refine ⟨Or.inr rfl, ?_⟩
      exact H (Ly.wi L (a := 37) (k := 4) (x := w32 ((ji h 37 4) + 1)) (by decide))
  · have H := H.2 c6
    refine ⟨(Ly.t37 L :), ?_⟩
    rw [show jr h 37 1 = 39 from (Ly.r37_1 L :)]
    refine ⟨(Ly.t37 L :), ?_⟩
    obtain ⟨z4, z5, H⟩ := H
    refine ⟨inA_mk (N := 401) (Ly.t39 L :) (Ly.n39 L :) z4 z5, ?_⟩
    refine ⟨(Ly.t37 L :), ?_⟩
    refine ⟨Or.inl rfl, ?_⟩
    exact H (Ly.wi L (a := 37) (k := 5) (x := w32 ((-10) - (ji h 39 (Int.toNat (ji h 37 4))))) (by decide))
set_option maxRecDepth 100000 in
theorem c_76_0 {p : Lpar} {d : Nat} {h : AH} {Q : Option AV → AH → Prop}  (hd : 0 ≤ d) (L : Ly p h) (H : 0 ≤ (ji h 37 4) ∧ (ji h 37 4) < 401 ∧ (Ly p (wi h 37 5 (w32 ((-10) - (ji h 39 (Int.toNat (ji h 37 4)))))) → Q (some (jI 0)) (wi h 37 5 (w32 ((-10) - (ji h 39 (Int.toNat (ji h 37 4)))))))) : WF d 76 0 [jP 37] [] h Q := by
  refine b_76_0 ?_
  refine ⟨(Ly.t37 L :), ?_⟩
  rw [show jr h 37 1 = 39 from (Ly.r37_1 L :)]
  refine ⟨(Ly.t37 L :), ?_⟩
  obtain ⟨z1, z2, H⟩ := H
  refine ⟨inA_mk (N := 401) (Ly.t39 L :) (Ly.n39 L :) z1 z2, ?_⟩
  refine ⟨(Ly.t37 L :), ?_⟩
  refine ⟨Or.inl rfl, ?_⟩
  exact H (Ly.wi L (a := 37) (k := 5) (x := w32 ((-10) - (ji h 39 (Int.toNat (ji h 37 4))))) (by decide))
set_option maxRecDepth 100000 in
theorem c_77_0 {p : Lpar} {d : Nat} {h : AH} {Q : Option AV → AH → Prop} {v1 : Int} (hd : 0 ≤ d) (L : Ly p h) (H : (Ly p (wi h 37 5 (w32 ((-10) - v1))) → Q none (wi h 37 5 (w32 ((-10) - v1))))) : WF d 77 0 [jP 37, jI v1] [] h Q := by
  refine b_77_0 ?_
  refine ⟨(Ly.t37 L :), ?_⟩
  exact H (Ly.wi L (a := 37) (k := 5) (x := w32 ((-10) - v1)) (by decide))
set_option maxRecDepth 100000 in
theorem c_69_0 {p : Lpar} {d : Nat} {h : AH} {Q : Option AV → AH → Prop} {v1 : Int} {v2 : Int} {v3 : Int} (hd : 0 ≤ d) (L : Ly p h) (H : (401 ≤ (ji h 37 3) → Q none h) ∧ (¬ (401 ≤ (ji h 37 3)) → 0 ≤ (ji h 37 3) ∧ (ji h 37 3) < 401 ∧ 0 ≤ (ji h 37 3) ∧ (ji h 37 3) < 401 ∧ 0 ≤ (ji h 37 3) ∧ (ji h 37 3) < 401 ∧ (Ly p (wi (wi (wi (wi h 38 (Int.toNat (ji h 37 3)) v1) 39 (Int.toNat (ji h 37 3)) v2) 40 (Int.toNat (ji h 37 3)) v3) 37 3 (w32 ((ji h 37 3) + 1))) → Q none (wi (wi (wi (wi h 38 (Int.toNat (ji h 37 3)) v1) 39 (Int.toNat (ji h 37 3)) v2) 40 (Int.toNat (ji h 37 3)) v3) 37 3 (w32 ((ji h 37 3) + 1)))))) : WF d 69 0 [jP 37, jI v1, jI v2, jI v3] [] h Q := by
  refine b_69_0 ?_
  refine ⟨(Ly.t37 L :), ?_⟩
  refine ⟨(Ly.t37 L :), ?_⟩
  rw [show jr h 37 0 = 38 from (Ly.r37_0 L :)]
  refine ⟨by rw [show jt h 38 = _ from (Ly.t38 L :)]; decide, by rw [show jt h 38 = _ from (Ly.t38 L :)]; decide, ?_⟩
  rw [show (jn h 38 : Int) = 401 from by rw [show jn h 38 = 401 from (Ly.n38 L :)]; rfl]
  refine ⟨fun c7 => ?_, fun c7 => ?_⟩
  · have H := H.1 c7
    exact H
  · have H := H.2 c7
    refine ⟨(Ly.t37 L :), ?_⟩
    refine ⟨(Ly.t37 L :), ?_⟩
    obtain ⟨z5, z6, H⟩ := H
    refine ⟨inW_mk (N := 401) (Ly.t38 L :) (Ly.n38 L :) z5 z6, ?_⟩
    refine ⟨(Ly.t37 L :), ?_⟩
    rw [show jr (wi h 38 (Int.toNat (ji h 37 3)) v1) 37 1 = 39 from (Ly.r37_1 L :)]
    refine ⟨(Ly.t37 L :), ?_⟩
    obtain ⟨z3, z4, H⟩ := H
    refine ⟨inW_mk (N := 401) (Ly.t39 L :) (Ly.n39 L :) z3 z4, ?_⟩
    refine ⟨(Ly.t37 L :), ?_⟩
    rw [show jr (wi (wi h 38 (Int.toNat (ji h 37 3)) v1) 39 (Int.toNat (ji (wi h 38 (Int.toNat (ji h 37 3)) v1) 37 3)) v2) 37 2 = 40 from (Ly.r37_2 L :)]
    refine ⟨(Ly.t37 L :), ?_⟩
    obtain ⟨z1, z2, H⟩ := H
    refine ⟨inW_mk (N := 401) (Ly.t40 L :) (Ly.n40 L :) z1 z2, ?_⟩
    refine ⟨(Ly.t37 L :), ?_⟩
    refine ⟨(Ly.t37 L :), ?_⟩
    exact H (Ly.wi (Ly.wi (Ly.wi (Ly.wi L (a := 38) (k := Int.toNat (ji h 37 3)) (x := v1) (by decide)) (a := 39) (k := Int.toNat (ji (wi h 38 (Int.toNat (ji h 37 3)) v1) 37 3)) (x := v2) (by decide)) (a := 40) (k := Int.toNat (ji (wi (wi h 38 (Int.toNat (ji h 37 3)) v1) 39 (Int.toNat (ji (wi h 38 (Int.toNat (ji h 37 3)) v1) 37 3)) v2) 37 3)) (x := v3) (by decide)) (a := 37) (k := 3) (x := w32 ((ji (wi (wi (wi h 38 (Int.toNat (ji h 37 3)) v1) 39 (Int.toNat (ji (wi h 38 (Int.toNat (ji h 37 3)) v1) 37 3)) v2) 40 (Int.toNat (ji (wi (wi h 38 (Int.toNat (ji h 37 3)) v1) 39 (Int.toNat (ji (wi h 38 (Int.toNat (ji h 37 3)) v1) 37 3)) v2) 37 3)) v3) 37 3) + 1)) (by decide))
set_option maxRecDepth 100000 in
theorem c_78_0 {p : Lpar} {d : Nat} {h : AH} {Q : Option AV → AH → Prop} {v0 : Int} (hd : 0 ≤ d) (L : Ly p h) (H : (v0 < 97 → Q (some (jI 0)) h) ∧ (¬ (v0 < 97) → (122 < v0 → Q (some (jI 0)) h) ∧ (¬ (122 < v0) → Q (some (jI 1)) h))) : WF d 78 0 [jI v0] [] h Q := by
  refine b_78_0 ?_
  refine ⟨fun c2 => ?_, fun c2 => ?_⟩
  · have H := H.1 c2
    refine ⟨Or.inl rfl, ?_⟩
    exact H
  · have H := H.2 c2
    refine ⟨fun c1 => ?_, fun c1 => ?_⟩
    · have H := H.1 c1
      refine ⟨Or.inl rfl, ?_⟩
      exact H
    · have H := H.2 c1
      refine ⟨Or.inr rfl, ?_⟩
      exact H
set_option maxRecDepth 100000 in
theorem c_79_0 {p : Lpar} {d : Nat} {h : AH} {Q : Option AV → AH → Prop} {v0 : Int} (hd : 0 ≤ d) (L : Ly p h) (H : (v0 < 48 → Q (some (jI 0)) h) ∧ (¬ (v0 < 48) → (57 < v0 → Q (some (jI 0)) h) ∧ (¬ (57 < v0) → Q (some (jI 1)) h))) : WF d 79 0 [jI v0] [] h Q := by
  refine b_79_0 ?_
  refine ⟨fun c2 => ?_, fun c2 => ?_⟩
  · have H := H.1 c2
    refine ⟨Or.inl rfl, ?_⟩
    exact H
  · have H := H.2 c2
    refine ⟨fun c1 => ?_, fun c1 => ?_⟩
    · have H := H.1 c1
      refine ⟨Or.inl rfl, ?_⟩
      exact H
    · have H := H.2 c1
      refine ⟨Or.inr rfl, ?_⟩
      exact H
set_option maxRecDepth 100000 in
theorem c_107_0 {p : Lpar} {d : Nat} {h : AH} {Q : Option AV → AH → Prop} {v0 : Int} {v2 : Int} {v4 : Int} (hd : 0 ≤ d) (L : Ly p h) (H : ((jcmp v0 v2) < 0 → Q (some (jI 0)) h) ∧ (¬ ((jcmp v0 v2) < 0) → (0 < (jcmp v0 v4) → Q (some (jI 0)) h) ∧ (¬ (0 < (jcmp v0 v4)) → Q (some (jI 1)) h))) : WF d 107 0 [jL v0, jU, jL v2, jU, jL v4, jU] [] h Q := by
  refine b_107_0 ?_
  refine ⟨fun c2 => ?_, fun c2 => ?_⟩
  · have H := H.1 c2
    refine ⟨Or.inl rfl, ?_⟩
    exact H
  · have H := H.2 c2
    refine ⟨fun c1 => ?_, fun c1 => ?_⟩
    · have H := H.1 c1
      refine ⟨Or.inl rfl, ?_⟩
      exact H
    · have H := H.2 c1
      refine ⟨Or.inr rfl, ?_⟩
      exact H
set_option maxRecDepth 100000 in
theorem c_110_0 {p : Lpar} {d : Nat} {h : AH} {Q : Option AV → AH → Prop} {v1 : Int} (hd : 0 ≤ d) (L : Ly p h) (H : ((ji h 141 1) ≤ v1 → Q (some (jI (-1))) h) ∧ (¬ ((ji h 141 1) ≤ v1) → 0 ≤ v1 ∧ v1 < 400 ∧ Q (some (jI (ji h 142 (Int.toNat v1)))) h)) : WF d 110 0 [jP 141, jI v1] [] h Q := by
  refine b_110_0 ?_
  refine ⟨(Ly.t141 L :), ?_⟩
  refine ⟨fun c3 => ?_, fun c3 => ?_⟩
  · have H := H.1 c3
    exact H
  · have H := H.2 c3
    refine ⟨(Ly.t141 L :), ?_⟩
    rw [show jr h 141 0 = 142 from (Ly.r141_0 L :)]
    obtain ⟨z1, z2, H⟩ := H
    refine ⟨inA_mk (N := 400) (Ly.t142 L :) (Ly.n142 L :) z1 z2, ?_⟩
    exact H
set_option maxRecDepth 100000 in
theorem c_111_0 {p : Lpar} {d : Nat} {h : AH} {Q : Option AV → AH → Prop} {v0 : Int} (hd : 0 ≤ d) (L : Ly p h) (H : ∃ x4 h1, jE d 107 [jL v0, jL 97, jL 122] h (some (jI x4)) h1 ∧ Ly p h1 ∧ (x4 = 0 ∨ x4 = 1) ∧ Q (some (jI x4)) h1) : WF d 111 0 [jI v0] [] h Q := by
  refine b_111_0 ?_
  obtain ⟨x4, h1, e3, L2, H⟩ := H
  refine ⟨x4, h1, e3, ?_⟩
  obtain ⟨z5, H⟩ := H
  refine ⟨z5, ?_⟩
  exact H
set_option maxRecDepth 100000 in
theorem c_112_0 {p : Lpar} {d : Nat} {h : AH} {Q : Option AV → AH → Prop} {v0 : Int} (hd : 0 ≤ d) (L : Ly p h) (H : ∃ x4 h1, jE d 107 [jL v0, jL 48, jL 57] h (some (jI x4)) h1 ∧ Ly p h1 ∧ (x4 = 0 ∨ x4 = 1) ∧ Q (some (jI x4)) h1) : WF d 112 0 [jI v0] [] h Q := by
  refine b_112_0 ?_
  obtain ⟨x4, h1, e3, L2, H⟩ := H
  refine ⟨x4, h1, e3, ?_⟩
  obtain ⟨z5, H⟩ := H
  refine ⟨z5, ?_⟩
  exact H
set_option maxRecDepth 100000 in
theorem c_119_0 {p : Lpar} {d : Nat} {h : AH} {Q : Option AV → AH → Prop} {v1 : Int} (hd : 0 ≤ d) (L : Ly p h) (H : ((ji h 141 6) = (-1) → (Ly p (wi h 141 6 v1) → Q none (wi h 141 6 v1))) ∧ (¬ (ji h 141 6) = (-1) → (Ly p (wi h 141 6 (ji h 141 6)) → Q none (wi h 141 6 (ji h 141 6))))) : WF d 119 0 [jP 141, jI v1] [] h Q := by
  refine b_119_0 ?_
  refine ⟨(Ly.t141 L :), ?_⟩
  refine ⟨fun c1 => ?_, fun c1 => ?_⟩
  · have H := H.2 c1
    refine ⟨(Ly.t141 L :), ?_⟩
    refine ⟨(Ly.t141 L :), ?_⟩
    exact H (Ly.wi L (a := 141) (k := 6) (x := ji h 141 6) (by decide))
  · have c1 := Decidable.not_not.mp c1
    have H := H.1 c1
    refine ⟨(Ly.t141 L :), ?_⟩
    exact H (Ly.wi L (a := 141) (k := 6) (x := v1) (by decide))
set_option maxRecDepth 100000 in
theorem c_122_0 {p : Lpar} {d : Nat} {h : AH} {Q : Option AV → AH → Prop}  (hd : 0 ≤ d) (L : Ly p h) (H : ((ji h 141 6) = (-1) → Q (some (jI 1)) h) ∧ (¬ (ji h 141 6) = (-1) → Q (some (jI 0)) h)) : WF d 122 0 [jP 141] [] h Q := by
  refine b_122_0 ?_
  refine ⟨(Ly.t141 L :), ?_⟩
  refine ⟨fun c1 => ?_, fun c1 => ?_⟩
  · have H := H.2 c1
    refine ⟨Or.inl rfl, ?_⟩
    exact H
  · have c1 := Decidable.not_not.mp c1
    have H := H.1 c1
    refine ⟨Or.inr rfl, ?_⟩
    exact H
set_option maxRecDepth 100000 in
theorem c_123_0 {p : Lpar} {d : Nat} {h : AH} {Q : Option AV → AH → Prop} {a0 : Nat} {v1 : Int} {v2 : Int} (hd : 0 ≤ d) (L : Ly p h) (H : WF d 123 2 [jP a0, jI v1, jI v2, jI 0] [] h Q) : WF d 123 0 [jP a0, jI v1, jI v2, jU] [] h Q := by
  refine b_123_0 ?_
  exact H
set_option maxRecDepth 100000 in
theorem c_123_2 {p : Lpar} {d : Nat} {h : AH} {Q : Option AV → AH → Prop} {a0 : Nat} {v1 : Int} {v2 : Int} {v3 : Int} (hd : 0 ≤ d) (L : Ly p h) (H : (v1 ≤ v3 → Q (some (jI (-1))) h) ∧ (¬ (v1 ≤ v3) → inA h a0 0 v3 ∧ ((ji h a0 (Int.toNat v3)) = v2 → Q (some (jI v3)) h) ∧ (¬ (ji h a0 (Int.toNat v3)) = v2 → WF d 123 2 [jP a0, jI v1, jI v2, jI (w32 (v3 + 1))] [] h Q))) : WF d 123 2 [jP a0, jI v1, jI v2, jI v3] [] h Q := by
  refine b_123_2 ?_
  refine ⟨fun c3 => ?_, fun c3 => ?_⟩
  · have H := H.1 c3
    exact H
  · have H := H.2 c3
    obtain ⟨z2, H⟩ := H
    refine ⟨z2, ?_⟩
    refine ⟨fun c1 => ?_, fun c1 => ?_⟩
    · have H := H.2 c1
      exact H
    · have c1 := Decidable.not_not.mp c1
      have H := H.1 c1
      exact H
set_option maxRecDepth 100000 in
theorem c_127_0 {p : Lpar} {d : Nat} {h : AH} {Q : Option AV → AH → Prop} {v1 : Int} (hd : 0 ≤ d) (L : Ly p h) (H : (v1 = (-1) → Q (some (jI 1)) h) ∧ (¬ v1 = (-1) → 0 ≤ v1 ∧ v1 < 6 ∧ Q (some (jI (ji h 145 (Int.toNat v1)))) h)) : WF d 127 0 [jP 141, jI v1] [] h Q := by
  refine b_127_0 ?_
  refine ⟨fun c3 => ?_, fun c3 => ?_⟩
  · have H := H.2 c3
    refine ⟨(Ly.t141 L :), ?_⟩
    rw [show jr h 141 10 = 145 from (Ly.r141_10 L :)]
    obtain ⟨z1, z2, H⟩ := H
    refine ⟨inA_mk (N := 6) (Ly.t145 L :) (Ly.n145 L :) z1 z2, ?_⟩
    exact H
  · have c3 := Decidable.not_not.mp c3
    have H := H.1 c3
    exact H
set_option maxRecDepth 100000 in
theorem c_147_0 {p : Lpar} {d : Nat} {h : AH} {Q : Option AV → AH → Prop} {v1 : Int} (hd : 0 ≤ d) (L : Ly p h) (H : (0 ≤ v1 → Q (some (jI v1)) h) ∧ (¬ (0 ≤ v1) → 0 ≤ (w32 ((-1) - v1)) ∧ (w32 ((-1) - v1)) < 20 ∧ Q (some (jI (ji h 173 (Int.toNat (w32 ((-1) - v1)))))) h)) : WF d 147 0 [jP 141, jI v1] [] h Q := by
  refine b_147_0 ?_
  refine ⟨fun c3 => ?_, fun c3 => ?_⟩
  · have H := H.1 c3
    exact H
  · have H := H.2 c3
    refine ⟨(Ly.t141 L :), ?_⟩
    rw [show jr h 141 55 = 173 from (Ly.r141_55 L :)]
    obtain ⟨z1, z2, H⟩ := H
    refine ⟨inA_mk (N := 20) (Ly.t173 L :) (Ly.n173 L :) z1 z2, ?_⟩
    exact H
set_option maxRecDepth 100000 in
theorem c_142_0 {p : Lpar} {d : Nat} {h : AH} {Q : Option AV → AH → Prop} {v1 : Int} {v2 : Int} (hd : 0 ≤ d) (L : Ly p h) (H : 0 ≤ v1 ∧ v1 < 6 ∧ ((ji h 145 (Int.toNat v1)) = (0 : Int) → Q (some (jI 1)) h) ∧ (¬ ((ji h 145 (Int.toNat v1)) = (0 : Int)) → 0 ≤ v1 ∧ v1 < 6 ∧ 0 ≤ v2 ∧ v2 < 6 ∧ ((ji h 144 (Int.toNat v1)) < (ji h 144 (Int.toNat v2)) → Q (some (jI 0)) h) ∧ (¬ ((ji h 144 (Int.toNat v1)) < (ji h 144 (Int.toNat v2))) → 0 ≤ v1 ∧ v1 < 6 ∧ 0 ≤ v1 ∧ v1 < 6 ∧ 0 ≤ v2 ∧ v2 < 6 ∧ 0 ≤ v2 ∧ v2 < 6 ∧ ((w32 ((ji h 144 (Int.toNat v2)) + (ji h 145 (Int.toNat v2)))) < (w32 ((ji h 144 (Int.toNat v1)) + (ji h 145 (Int.toNat v1)))) → Q (some (jI 0)) h) ∧ (¬ ((w32 ((ji h 144 (Int.toNat v2)) + (ji h 145 (Int.toNat v2)))) < (w32 ((ji h 144 (Int.toNat v1)) + (ji h 145 (Int.toNat v1))))) → Q (some (jI 1)) h)))) : WF d 142 0 [jP 141, jI v1, jI v2] [] h Q := by
  refine b_142_0 ?_
  refine ⟨(Ly.t141 L :), ?_⟩
  rw [show jr h 141 10 = 145 from (Ly.r141_10 L :)]
  obtain ⟨z1, z2, H⟩ := H
  refine ⟨inA_mk (N := 6) (Ly.t145 L :) (Ly.n145 L :) z1 z2, ?_⟩
  refine ⟨fun c17 => ?_, fun c17 => ?_⟩
  · have H := H.1 c17
    refine ⟨Or.inr rfl, ?_⟩
    exact H
  · have H := H.2 c17
    refine ⟨(Ly.t141 L :), ?_⟩
    rw [show jr h 141 9 = 144 from (Ly.r141_9 L :)]
    obtain ⟨z3, z4, H⟩ := H
    refine ⟨inA_mk (N := 6) (Ly.t144 L :) (Ly.n144 L :) z3 z4, ?_⟩
    refine ⟨(Ly.t141 L :), ?_⟩
    obtain ⟨z5, z6, H⟩ := H
    refine ⟨inA_mk (N := 6) (Ly.t144 L :) (Ly.n144 L :) z5 z6, ?_⟩
    refine ⟨fun c16 => ?_, fun c16 => ?_⟩
    · have H := H.1 c16
      refine ⟨Or.inl rfl, ?_⟩
      exact H
    · have H := H.2 c16
      refine ⟨(Ly.t141 L :), ?_⟩
      obtain ⟨z7, z8, H⟩ := H
      refine ⟨inA_mk (N := 6) (Ly.t144 L :) (Ly.n144 L :) z7 z8, ?_⟩
      refine ⟨(Ly.t141 L :), ?_⟩
      obtain ⟨z9, z10, H⟩ := H
      refine ⟨inA_mk (N := 6) (Ly.t145 L :) (Ly.n145 L :) z9 z10, ?_⟩
      refine ⟨(Ly.t141 L :), ?_⟩
      obtain ⟨z11, z12, H⟩ := H
      refine ⟨inA_mk (N := 6) (Ly.t144 L :) (Ly.n144 L :) z11 z12, ?_⟩
      refine ⟨(Ly.t141 L :), ?_⟩
      obtain ⟨z13, z14, H⟩ := H
      refine ⟨inA_mk (N := 6) (Ly.t145 L :) (Ly.n145 L :) z13 z14, ?_⟩
      refine ⟨fun c15 => ?_, fun c15 => ?_⟩
      · have H := H.1 c15
        refine ⟨Or.inl rfl, ?_⟩
        exact H
      · have H := H.2 c15
        refine ⟨Or.inr rfl, ?_⟩
        exact H
set_option maxRecDepth 100000 in
theorem c_136_0 {p : Lpar} {d : Nat} {h : AH} {Q : Option AV → AH → Prop} {v1 : Int} {v2 : Int} {v3 : Int} {v4 : Int} (hd : 0 ≤ d) (L : Ly p h) (H : 0 ≤ (ji h 141 33) ∧ (ji h 141 33) < 2000 ∧ 0 ≤ (ji h 141 33) ∧ (ji h 141 33) < 2000 ∧ 0 ≤ (ji h 141 33) ∧ (ji h 141 33) < 2000 ∧ 0 ≤ (ji h 141 33) ∧ (ji h 141 33) < 2000 ∧ (Ly p (wi (wi (wi (wi (wi h 160 (Int.toNat (ji h 141 33)) v1) 161 (Int.toNat (ji h 141 33)) v2) 162 (Int.toNat (ji h 141 33)) v3) 163 (Int.toNat (ji h 141 33)) v4) 141 33 (w32 ((ji h 141 33) + 1))) → Q none (wi (wi (wi (wi (wi h 160 (Int.toNat (ji h 141 33)) v1) 161 (Int.toNat (ji h 141 33)) v2) 162 (Int.toNat (ji h 141 33)) v3) 163 (Int.toNat (ji h 141 33)) v4) 141 33 (w32 ((ji h 141 33) + 1))))) : WF d 136 0 [jP 141, jI v1, jI v2, jI v3, jI v4] [] h Q := by
  refine b_136_0 ?_
  refine ⟨(Ly.t141 L :), ?_⟩
  rw [show jr h 141 34 = 160 from (Ly.r141_34 L :)]
  refine ⟨(Ly.t141 L :), ?_⟩
  obtain ⟨z7, z8, H⟩ := H
  refine ⟨inW_mk (N := 2000) (Ly.t160 L :) (Ly.n160 L :) z7 z8, ?_⟩
  refine b_136_10 ?_
  refine ⟨(Ly.t141 L :), ?_⟩
  rw [show jr (wi h 160 (Int.toNat (ji h 141 33)) v1) 141 35 = 161 from (Ly.r141_35 L :)]
  refine ⟨(Ly.t141 L :), ?_⟩
  obtain ⟨z5, z6, H⟩ := H
  refine ⟨inW_mk (N := 2000) (Ly.t161 L :) (Ly.n161 L :) z5 z6, ?_⟩
  refine b_136_20 ?_
  refine ⟨(Ly.t141 L :), ?_⟩
  rw [show jr (wi (wi h 160 (Int.toNat (ji h 141 33)) v1) 161 (Int.toNat (ji (wi h 160 (Int.toNat (ji h 141 33)) v1) 141 33)) v2) 141 36 = 162 from (Ly.r141_36 L :)]
  refine ⟨(Ly.t141 L :), ?_⟩
  obtain ⟨z3, z4, H⟩ := H
  refine ⟨inW_mk (N := 2000) (Ly.t162 L :) (Ly.n162 L :) z3 z4, ?_⟩
  refine b_136_30 ?_
  refine ⟨(Ly.t141 L :), ?_⟩
  rw [show jr (wi (wi (wi h 160 (Int.toNat (ji h 141 33)) v1) 161 (Int.toNat (ji (wi h 160 (Int.toNat (ji h 141 33)) v1) 141 33)) v2) 162 (Int.toNat (ji (wi (wi h 160 (Int.toNat (ji h 141 33)) v1) 161 (Int.toNat (ji (wi h 160 (Int.toNat (ji h 141 33)) v1) 141 33)) v2) 141 33)) v3) 141 37 = 163 from (Ly.r141_37 L :)]
  refine ⟨(Ly.t141 L :), ?_⟩
  obtain ⟨z1, z2, H⟩ := H
  refine ⟨inW_mk (N := 2000) (Ly.t163 L :) (Ly.n163 L :) z1 z2, ?_⟩
  refine b_136_41 ?_
  refine ⟨(Ly.t141 L :), ?_⟩
  refine ⟨(Ly.t141 L :), ?_⟩
  refine b_136_51 ?_
  exact H (Ly.wi (Ly.wi (Ly.wi (Ly.wi (Ly.wi L (a := 160) (k := Int.toNat (ji h 141 33)) (x := v1) (by decide)) (a := 161) (k := Int.toNat (ji (wi h 160 (Int.toNat (ji h 141 33)) v1) 141 33)) (x := v2) (by decide)) (a := 162) (k := Int.toNat (ji (wi (wi h 160 (Int.toNat (ji h 141 33)) v1) 161 (Int.toNat (ji (wi h 160 (Int.toNat (ji h 141 33)) v1) 141 33)) v2) 141 33)) (x := v3) (by decide)) (a := 163) (k := Int.toNat (ji (wi (wi (wi h 160 (Int.toNat (ji h 141 33)) v1) 161 (Int.toNat (ji (wi h 160 (Int.toNat (ji h 141 33)) v1) 141 33)) v2) 162 (Int.toNat (ji (wi (wi h 160 (Int.toNat (ji h 141 33)) v1) 161 (Int.toNat (ji (wi h 160 (Int.toNat (ji h 141 33)) v1) 141 33)) v2) 141 33)) v3) 141 33)) (x := v4) (by decide)) (a := 141) (k := 33) (x := w32 ((ji (wi (wi (wi (wi h 160 (Int.toNat (ji h 141 33)) v1) 161 (Int.toNat (ji (wi h 160 (Int.toNat (ji h 141 33)) v1) 141 33)) v2) 162 (Int.toNat (ji (wi (wi h 160 (Int.toNat (ji h 141 33)) v1) 161 (Int.toNat (ji (wi h 160 (Int.toNat (ji h 141 33)) v1) 141 33)) v2) 141 33)) v3) 163 (Int.toNat (ji (wi (wi (wi h 160 (Int.toNat (ji h 141 33)) v1) 161 (Int.toNat (ji (wi h 160 (Int.toNat (ji h 141 33)) v1) 141 33)) v2) 162 (Int.toNat (ji (wi (wi h 160 (Int.toNat (ji h 141 33)) v1) 161 (Int.toNat (ji (wi h 160 (Int.toNat (ji h 141 33)) v1) 141 33)) v2) 141 33)) v3) 141 33)) v4) 141 33) + 1)) (by decide))
set_option maxRecDepth 100000 in
theorem c_182_0 {p : Lpar} {d : Nat} {h : AH} {Q : Option AV → AH → Prop} {v1 : Int} (hd : 0 ≤ d) (L : Ly p h) (H : 0 ≤ (ji h 141 81) ∧ (ji h 141 81) < 2400 ∧ (Ly p (wi (wi h 195 (Int.toNat (ji h 141 81)) v1) 141 81 (w32 ((ji h 141 81) + 1))) → Q none (wi (wi h 195 (Int.toNat (ji h 141 81)) v1) 141 81 (w32 ((ji h 141 81) + 1))))) : WF d 182 0 [jP 141, jI v1] [] h Q := by
  refine b_182_0 ?_
  refine ⟨(Ly.t141 L :), ?_⟩
  rw [show jr h 141 82 = 195 from (Ly.r141_82 L :)]
  refine ⟨(Ly.t141 L :), ?_⟩
  obtain ⟨z1, z2, H⟩ := H
  refine ⟨inW_mk (N := 2400) (Ly.t195 L :) (Ly.n195 L :) z1 z2, ?_⟩
  refine ⟨(Ly.t141 L :), ?_⟩
  refine ⟨(Ly.t141 L :), ?_⟩
  exact H (Ly.wi (Ly.wi L (a := 195) (k := Int.toNat (ji h 141 81)) (x := v1) (by decide)) (a := 141) (k := 81) (x := w32 ((ji (wi h 195 (Int.toNat (ji h 141 81)) v1) 141 81) + 1)) (by decide))
set_option maxRecDepth 100000 in
theorem c_138_0 {p : Lpar} {d : Nat} {h : AH} {Q : Option AV → AH → Prop}  (hd : 0 ≤ d) (L : Ly p h) (H : ∃ h1, jE d 136 [jP 141, jI 1, jI 0, jI 0, jI 0] h none h1 ∧ Ly p h1 ∧ (Ly p (wi h1 141 48 0) → Q none (wi h1 141 48 0))) : WF d 138 0 [jP 141] [] h Q := by
  refine b_138_0 ?_
  refine ⟨(Ly.t141 L :), ?_⟩
  obtain ⟨h1, e3, L2, H⟩ := H
  refine ⟨h1, e3, ?_⟩
  refine ⟨Or.inl rfl, ?_⟩
  refine ⟨(Ly.t141 L2 :), ?_⟩
  exact H (Ly.wi L2 (a := 141) (k := 48) (x := 0) (by decide))
set_option maxRecDepth 100000 in
theorem c_114_0 {p : Lpar} {d : Nat} {h : AH} {Q : Option AV → AH → Prop} {v0 : Int} {v1 : Int} {v2 : Int} {v3 : Int} (hd : 0 ≤ d) (L : Ly p h) (H : (v1 ≤ 0 → (v2 ≤ 0 → (v3 ≤ 0 → Q (some (jI (w32 (v0 - 96)))) h) ∧ (¬ (v3 ≤ 0) → Q (some (jI (w32 ((w32 ((w32 (27 * (w32 (v0 - 96)))) + v3)) - 96)))) h)) ∧ (¬ (v2 ≤ 0) → (v3 ≤ 0 → Q (some (jI (w32 ((w32 ((w32 (27 * (w32 (v0 - 96)))) + v2)) - 96)))) h) ∧ (¬ (v3 ≤ 0) → Q (some (jI (w32 ((w32 ((w32 (27 * (w32 ((w32 ((w32 (27 * (w32 (v0 - 96)))) + v2)) - 96)))) + v3)) - 96)))) h))) ∧ (¬ (v1 ≤ 0) → (v2 ≤ 0 → (v3 ≤ 0 → Q (some (jI (w32 ((w32 ((w32 (27 * (w32 (v0 - 96)))) + v1)) - 96)))) h) ∧ (¬ (v3 ≤ 0) → Q (some (jI (w32 ((w32 ((w32 (27 * (w32 ((w32 ((w32 (27 * (w32 (v0 - 96)))) + v1)) - 96)))) + v3)) - 96)))) h)) ∧ (¬ (v2 ≤ 0) → (v3 ≤ 0 → Q (some (jI (w32 ((w32 ((w32 (27 * (w32 ((w32 ((w32 (27 * (w32 (v0 - 96)))) + v1)) - 96)))) + v2)) - 96)))) h) ∧ (¬ (v3 ≤ 0) → Q (some (jI (w32 ((w32 ((w32 (27 * (w32 ((w32 ((w32 (27 * (w32 ((w32 ((w32 (27 * (w32 (v0 - 96)))) + v1)) - 96)))) + v2)) - 96)))) + v3)) - 96)))) h)))) : WF d 114 0 [jI v0, jI v1, jI v2, jI v3, jU] [] h Q := by
  refine b_114_0 ?_
  refine ⟨fun c7 => ?_, fun c7 => ?_⟩
  · have H := H.1 c7
    refine ⟨fun c3 => ?_, fun c3 => ?_⟩
    · have H := H.1 c3
      refine ⟨fun c1 => ?_, fun c1 => ?_⟩
      · have H := H.1 c1
        exact H
      · have H := H.2 c1
        exact H
    · have H := H.2 c3
      refine ⟨fun c2 => ?_, fun c2 => ?_⟩
      · have H := H.1 c2
        exact H
      · have H := H.2 c2
        exact H
  · have H := H.2 c7
    refine ⟨fun c6 => ?_, fun c6 => ?_⟩
    · have H := H.1 c6
      refine ⟨fun c4 => ?_, fun c4 => ?_⟩
      · have H := H.1 c4
        exact H
      · have H := H.2 c4
        exact H
    · have H := H.2 c6
      refine ⟨fun c5 => ?_, fun c5 => ?_⟩
      · have H := H.1 c5
        exact H
      · have H := H.2 c5
        exact H
set_option maxRecDepth 100000 in
theorem c_24_0 {p : Lpar} {d : Nat} {h : AH} {Q : Option AV → AH → Prop} {v1 : Int} {v2 : Int} {v3 : Int} (hd : 0 ≤ d) (L : Ly p h) {D : Nat} (hD : isD D) (H : (46 ≤ (ji h (D + 1) 3) → Q none h) ∧ (¬ (46 ≤ (ji h (D + 1) 3)) → 0 ≤ (ji h (D + 1) 3) ∧ (ji h (D + 1) 3) < 46 ∧ 0 ≤ (ji (wi h (D + 2) (Int.toNat (ji h (D + 1) 3)) v1) (D + 1) 3) ∧ (ji (wi h (D + 2) (Int.toNat (ji h (D + 1) 3)) v1) (D + 1) 3) < 46 ∧ 0 ≤ (ji (wi (wi h (D + 2) (Int.toNat (ji h (D + 1) 3)) v1) (D + 3) (Int.toNat (ji (wi h (D + 2) (Int.toNat (ji h (D + 1) 3)) v1) (D + 1) 3)) v2) (D + 1) 3) ∧ (ji (wi (wi h (D + 2) (Int.toNat (ji h (D + 1) 3)) v1) (D + 3) (Int.toNat (ji (wi h (D + 2) (Int.toNat (ji h (D + 1) 3)) v1) (D + 1) 3)) v2) (D + 1) 3) < 46 ∧ (Ly p (wi (wi (wi (wi h (D + 2) (Int.toNat (ji h (D + 1) 3)) v1) (D + 3) (Int.toNat (ji (wi h (D + 2) (Int.toNat (ji h (D + 1) 3)) v1) (D + 1) 3)) v2) (D + 4) (Int.toNat (ji (wi (wi h (D + 2) (Int.toNat (ji h (D + 1) 3)) v1) (D + 3) (Int.toNat (ji (wi h (D + 2) (Int.toNat (ji h (D + 1) 3)) v1) (D + 1) 3)) v2) (D + 1) 3)) v3) (D + 1) 3 (w32 ((ji (wi (wi (wi h (D + 2) (Int.toNat (ji h (D + 1) 3)) v1) (D + 3) (Int.toNat (ji (wi h (D + 2) (Int.toNat (ji h (D + 1) 3)) v1) (D + 1) 3)) v2) (D + 4) (Int.toNat (ji (wi (wi h (D + 2) (Int.toNat (ji h (D + 1) 3)) v1) (D + 3) (Int.toNat (ji (wi h (D + 2) (Int.toNat (ji h (D + 1) 3)) v1) (D + 1) 3)) v2) (D + 1) 3)) v3) (D + 1) 3) + 1))) → Q none (wi (wi (wi (wi h (D + 2) (Int.toNat (ji h (D + 1) 3)) v1) (D + 3) (Int.toNat (ji (wi h (D + 2) (Int.toNat (ji h (D + 1) 3)) v1) (D + 1) 3)) v2) (D + 4) (Int.toNat (ji (wi (wi h (D + 2) (Int.toNat (ji h (D + 1) 3)) v1) (D + 3) (Int.toNat (ji (wi h (D + 2) (Int.toNat (ji h (D + 1) 3)) v1) (D + 1) 3)) v2) (D + 1) 3)) v3) (D + 1) 3 (w32 ((ji (wi (wi (wi h (D + 2) (Int.toNat (ji h (D + 1) 3)) v1) (D + 3) (Int.toNat (ji (wi h (D + 2) (Int.toNat (ji h (D + 1) 3)) v1) (D + 1) 3)) v2) (D + 4) (Int.toNat (ji (wi (wi h (D + 2) (Int.toNat (ji h (D + 1) 3)) v1) (D + 3) (Int.toNat (ji (wi h (D + 2) (Int.toNat (ji h (D + 1) 3)) v1) (D + 1) 3)) v2) (D + 1) 3)) v3) (D + 1) 3) + 1)))))) : WF d 24 0 [jP (D + 1), jI v1, jI v2, jI v3] [] h Q := by
  refine b_24_0 ?_
  refine ⟨(Ly.dt1 L hD :), ?_⟩
  refine ⟨fun c7 => ?_, fun c7 => ?_⟩
  · have H := H.1 c7
    exact H
  · have H := H.2 c7
    refine ⟨(Ly.dt1 L hD :), ?_⟩
    rw [show jr h (D + 1) 0 = (D + 2) from (Ly.dr1_0 L hD :)]
    refine ⟨(Ly.dt1 L hD :), ?_⟩
    obtain ⟨z5, z6, H⟩ := H
    refine ⟨inW_mk (N := 46) (Ly.dt2 L hD :) (Ly.dn2 L hD :) z5 z6, ?_⟩
    refine ⟨(Ly.dt1 L hD :), ?_⟩
    rw [show jr (wi h (D + 2) (Int.toNat (ji h (D + 1) 3)) v1) (D + 1) 1 = (D + 3) from (Ly.dr1_1 L hD :)]
    refine ⟨(Ly.dt1 L hD :), ?_⟩
    obtain ⟨z3, z4, H⟩ := H
    refine ⟨inW_mk (N := 46) (Ly.dt3 L hD :) (Ly.dn3 L hD :) z3 z4, ?_⟩
    refine ⟨(Ly.dt1 L hD :), ?_⟩
    rw [show jr (wi (wi h (D + 2) (Int.toNat (ji h (D + 1) 3)) v1) (D + 3) (Int.toNat (ji (wi h (D + 2) (Int.toNat (ji h (D + 1) 3)) v1) (D + 1) 3)) v2) (D + 1) 2 = (D + 4) from (Ly.dr1_2 L hD :)]
    refine ⟨(Ly.dt1 L hD :), ?_⟩
    obtain ⟨z1, z2, H⟩ := H
    refine ⟨inW_mk (N := 46) (Ly.dt4 L hD :) (Ly.dn4 L hD :) z1 z2, ?_⟩
    refine ⟨(Ly.dt1 L hD :), ?_⟩
    refine ⟨(Ly.dt1 L hD :), ?_⟩
    exact H (Ly.wi (Ly.wi (Ly.wi (Ly.wi L (a := (D + 2)) (k := Int.toNat (ji h (D + 1) 3)) (x := v1) (by have := hD; unfold isD at this; omega)) (a := (D + 3)) (k := Int.toNat (ji (wi h (D + 2) (Int.toNat (ji h (D + 1) 3)) v1) (D + 1) 3)) (x := v2) (by have := hD; unfold isD at this; omega)) (a := (D + 4)) (k := Int.toNat (ji (wi (wi h (D + 2) (Int.toNat (ji h (D + 1) 3)) v1) (D + 3) (Int.toNat (ji (wi h (D + 2) (Int.toNat (ji h (D + 1) 3)) v1) (D + 1) 3)) v2) (D + 1) 3)) (x := v3) (by have := hD; unfold isD at this; omega)) (a := (D + 1)) (k := 3) (x := w32 ((ji (wi (wi (wi h (D + 2) (Int.toNat (ji h (D + 1) 3)) v1) (D + 3) (Int.toNat (ji (wi h (D + 2) (Int.toNat (ji h (D + 1) 3)) v1) (D + 1) 3)) v2) (D + 4) (Int.toNat (ji (wi (wi h (D + 2) (Int.toNat (ji h (D + 1) 3)) v1) (D + 3) (Int.toNat (ji (wi h (D + 2) (Int.toNat (ji h (D + 1) 3)) v1) (D + 1) 3)) v2) (D + 1) 3)) v3) (D + 1) 3) + 1)) (by have := hD; unfold isD at this; omega))
set_option maxRecDepth 100000 in
theorem c_25_0 {p : Lpar} {d : Nat} {h : AH} {Q : Option AV → AH → Prop} {v1 : Int} (hd : 0 ≤ d) (L : Ly p h) {D : Nat} (hD : isD D) (H : WF d 25 2 [jP (D + 1), jI v1, jI 0] [] h Q) : WF d 25 0 [jP (D + 1), jI v1, jU] [] h Q := by
  refine b_25_0 ?_
  exact H
set_option maxRecDepth 100000 in
theorem c_25_2 {p : Lpar} {d : Nat} {h : AH} {Q : Option AV → AH → Prop} {v1 : Int} {v2 : Int} (hd : 0 ≤ d) (L : Ly p h) {D : Nat} (hD : isD D) (H : ((ji h (D + 1) 3) ≤ v2 → Q (some (jI (-1))) h) ∧ (¬ ((ji h (D + 1) 3) ≤ v2) → 0 ≤ v2 ∧ v2 < 46 ∧ ((ji h (D + 2) (Int.toNat v2)) = v1 → 0 ≤ v2 ∧ v2 < 46 ∧ Q (some (jI (ji h (D + 3) (Int.toNat v2)))) h) ∧ (¬ (ji h (D + 2) (Int.toNat v2)) = v1 → WF d 25 2 [jP (D + 1), jI v1, jI (w32 (v2 + 1))] [] h Q))) : WF d 25 2 [jP (D + 1), jI v1, jI v2] [] h Q := by
  refine b_25_2 ?_
  refine ⟨(Ly.dt1 L hD :), ?_⟩
  refine ⟨fun c6 => ?_, fun c6 => ?_⟩
  · have H := H.1 c6
    exact H
  · have H := H.2 c6
    refine ⟨(Ly.dt1 L hD :), ?_⟩
    rw [show jr h (D + 1) 0 = (D + 2) from (Ly.dr1_0 L hD :)]
    obtain ⟨z1, z2, H⟩ := H
    refine ⟨inA_mk (N := 46) (Ly.dt2 L hD :) (Ly.dn2 L hD :) z1 z2, ?_⟩
    refine ⟨fun c5 => ?_, fun c5 => ?_⟩
    · have H := H.2 c5
      exact H
    · have c5 := Decidable.not_not.mp c5
      have H := H.1 c5
      refine ⟨(Ly.dt1 L hD :), ?_⟩
      rw [show jr h (D + 1) 1 = (D + 3) from (Ly.dr1_1 L hD :)]
      obtain ⟨z3, z4, H⟩ := H
      refine ⟨inA_mk (N := 46) (Ly.dt3 L hD :) (Ly.dn3 L hD :) z3 z4, ?_⟩
      exact H
set_option maxRecDepth 100000 in
theorem c_26_0 {p : Lpar} {d : Nat} {h : AH} {Q : Option AV → AH → Prop} {v1 : Int} {v2 : Int} (hd : 0 ≤ d) (L : Ly p h) {D : Nat} (hD : isD D) (H : WF d 26 2 [jP (D + 1), jI v1, jI v2, jI 0] [] h Q) : WF d 26 0 [jP (D + 1), jI v1, jI v2, jU] [] h Q := by
  refine b_26_0 ?_
  exact H
set_option maxRecDepth 100000 in
theorem c_26_2 {p : Lpar} {d : Nat} {h : AH} {Q : Option AV → AH → Prop} {v1 : Int} {v2 : Int} {v3 : Int} (hd : 0 ≤ d) (L : Ly p h) {D : Nat} (hD : isD D) (H : ((ji h (D + 1) 3) ≤ v3 → Q (some (jI (-1))) h) ∧ (¬ ((ji h (D + 1) 3) ≤ v3) → 0 ≤ v3 ∧ v3 < 46 ∧ ((ji h (D + 2) (Int.toNat v3)) = v2 → 0 ≤ v3 ∧ v3 < 46 ∧ ((ji h (D + 3) (Int.toNat v3)) = v1 → 0 ≤ v3 ∧ v3 < 46 ∧ Q (some (jI (ji h (D + 4) (Int.toNat v3)))) h) ∧ (¬ (ji h (D + 3) (Int.toNat v3)) = v1 → WF d 26 2 [jP (D + 1), jI v1, jI v2, jI (w32 (v3 + 1))] [] h Q)) ∧ (¬ (ji h (D + 2) (Int.toNat v3)) = v2 → WF d 26 2 [jP (D + 1), jI v1, jI v2, jI (w32 (v3 + 1))] [] h Q))) : WF d 26 2 [jP (D + 1), jI v1, jI v2, jI v3] [] h Q := by
  refine b_26_2 ?_
  refine ⟨(Ly.dt1 L hD :), ?_⟩
  refine ⟨fun c9 => ?_, fun c9 => ?_⟩
  · have H := H.1 c9
    exact H
  · have H := H.2 c9
    refine ⟨(Ly.dt1 L hD :), ?_⟩
    rw [show jr h (D + 1) 0 = (D + 2) from (Ly.dr1_0 L hD :)]
    obtain ⟨z1, z2, H⟩ := H
    refine ⟨inA_mk (N := 46) (Ly.dt2 L hD :) (Ly.dn2 L hD :) z1 z2, ?_⟩
    refine ⟨fun c8 => ?_, fun c8 => ?_⟩
    · have H := H.2 c8
      exact H
    · have c8 := Decidable.not_not.mp c8
      have H := H.1 c8
      refine ⟨(Ly.dt1 L hD :), ?_⟩
      rw [show jr h (D + 1) 1 = (D + 3) from (Ly.dr1_1 L hD :)]
      obtain ⟨z3, z4, H⟩ := H
      refine ⟨inA_mk (N := 46) (Ly.dt3 L hD :) (Ly.dn3 L hD :) z3 z4, ?_⟩
      refine ⟨fun c7 => ?_, fun c7 => ?_⟩
      · have H := H.2 c7
        exact H
      · have c7 := Decidable.not_not.mp c7
        have H := H.1 c7
        refine ⟨(Ly.dt1 L hD :), ?_⟩
        rw [show jr h (D + 1) 2 = (D + 4) from (Ly.dr1_2 L hD :)]
        obtain ⟨z5, z6, H⟩ := H
        refine ⟨inA_mk (N := 46) (Ly.dt4 L hD :) (Ly.dn4 L hD :) z5 z6, ?_⟩
        exact H
set_option maxRecDepth 100000 in
theorem c_27_0 {p : Lpar} {d : Nat} {h : AH} {Q : Option AV → AH → Prop} {v1 : Int} {v2 : Int} (hd : 0 ≤ d) (L : Ly p h) {D : Nat} (hD : isD D) (H : WF d 27 2 [jP (D + 1), jI v1, jI v2, jI 0] [] h Q) : WF d 27 0 [jP (D + 1), jI v1, jI v2, jU] [] h Q := by
  refine b_27_0 ?_
  exact H
set_option maxRecDepth 100000 in
theorem c_27_2 {p : Lpar} {d : Nat} {h : AH} {Q : Option AV → AH → Prop} {v1 : Int} {v2 : Int} {v3 : Int} (hd : 0 ≤ d) (L : Ly p h) {D : Nat} (hD : isD D) (H : ((ji h (D + 1) 3) ≤ v3 → Q (some (jI 0)) h) ∧ (¬ ((ji h (D + 1) 3) ≤ v3) → 0 ≤ v3 ∧ v3 < 46 ∧ ((ji h (D + 3) (Int.toNat v3)) = v1 → 0 ≤ v3 ∧ v3 < 46 ∧ ((ji h (D + 4) (Int.toNat v3)) = v2 → 0 ≤ v3 ∧ v3 < 46 ∧ Q (some (jI (ji h (D + 2) (Int.toNat v3)))) h) ∧ (¬ (ji h (D + 4) (Int.toNat v3)) = v2 → WF d 27 2 [jP (D + 1), jI v1, jI v2, jI (w32 (v3 + 1))] [] h Q)) ∧ (¬ (ji h (D + 3) (Int.toNat v3)) = v1 → WF d 27 2 [jP (D + 1), jI v1, jI v2, jI (w32 (v3 + 1))] [] h Q))) : WF d 27 2 [jP (D + 1), jI v1, jI v2, jI v3] [] h Q := by
  refine b_27_2 ?_
  refine ⟨(Ly.dt1 L hD :), ?_⟩
  refine ⟨fun c9 => ?_, fun c9 => ?_⟩
  · have H := H.1 c9
    exact H
  · have H := H.2 c9
    refine ⟨(Ly.dt1 L hD :), ?_⟩
    rw [show jr h (D + 1) 1 = (D + 3) from (Ly.dr1_1 L hD :)]
    obtain ⟨z1, z2, H⟩ := H
    refine ⟨inA_mk (N := 46) (Ly.dt3 L hD :) (Ly.dn3 L hD :) z1 z2, ?_⟩
    refine ⟨fun c8 => ?_, fun c8 => ?_⟩
    · have H := H.2 c8
      exact H
    · have c8 := Decidable.not_not.mp c8
      have H := H.1 c8
      refine ⟨(Ly.dt1 L hD :), ?_⟩
      rw [show jr h (D + 1) 2 = (D + 4) from (Ly.dr1_2 L hD :)]
      obtain ⟨z3, z4, H⟩ := H
      refine ⟨inA_mk (N := 46) (Ly.dt4 L hD :) (Ly.dn4 L hD :) z3 z4, ?_⟩
      refine ⟨fun c7 => ?_, fun c7 => ?_⟩
      · have H := H.2 c7
        exact H
      · have c7 := Decidable.not_not.mp c7
        have H := H.1 c7
        refine ⟨(Ly.dt1 L hD :), ?_⟩
        rw [show jr h (D + 1) 0 = (D + 2) from (Ly.dr1_0 L hD :)]
        obtain ⟨z5, z6, H⟩ := H
        refine ⟨inA_mk (N := 46) (Ly.dt2 L hD :) (Ly.dn2 L hD :) z5 z6, ?_⟩
        exact H
set_option maxRecDepth 100000 in
theorem c_52_0 {p : Lpar} {d : Nat} {h : AH} {Q : Option AV → AH → Prop} {v1 : Int} {v2 : Int} (hd : 0 ≤ d) (L : Ly p h) {D : Nat} (hD : isD D) (H : (6 ≤ (ji h (D + 5) 2) → Q none h) ∧ (¬ (6 ≤ (ji h (D + 5) 2)) → 0 ≤ (ji h (D + 5) 2) ∧ (ji h (D + 5) 2) < 6 ∧ 0 ≤ (ji (wi h (D + 6) (Int.toNat (ji h (D + 5) 2)) v1) (D + 5) 2) ∧ (ji (wi h (D + 6) (Int.toNat (ji h (D + 5) 2)) v1) (D + 5) 2) < 6 ∧ (Ly p (wi (wi (wi h (D + 6) (Int.toNat (ji h (D + 5) 2)) v1) (D + 7) (Int.toNat (ji (wi h (D + 6) (Int.toNat (ji h (D + 5) 2)) v1) (D + 5) 2)) v2) (D + 5) 2 (w32 ((ji (wi (wi h (D + 6) (Int.toNat (ji h (D + 5) 2)) v1) (D + 7) (Int.toNat (ji (wi h (D + 6) (Int.toNat (ji h (D + 5) 2)) v1) (D + 5) 2)) v2) (D + 5) 2) + 1))) → Q none (wi (wi (wi h (D + 6) (Int.toNat (ji h (D + 5) 2)) v1) (D + 7) (Int.toNat (ji (wi h (D + 6) (Int.toNat (ji h (D + 5) 2)) v1) (D + 5) 2)) v2) (D + 5) 2 (w32 ((ji (wi (wi h (D + 6) (Int.toNat (ji h (D + 5) 2)) v1) (D + 7) (Int.toNat (ji (wi h (D + 6) (Int.toNat (ji h (D + 5) 2)) v1) (D + 5) 2)) v2) (D + 5) 2) + 1)))))) : WF d 52 0 [jP (D + 5), jI v1, jI v2] [] h Q := by
  refine b_52_0 ?_
  refine ⟨(Ly.dt5 L hD :), ?_⟩
  refine ⟨fun c5 => ?_, fun c5 => ?_⟩
  · have H := H.1 c5
    exact H
  · have H := H.2 c5
    refine ⟨(Ly.dt5 L hD :), ?_⟩
    rw [show jr h (D + 5) 0 = (D + 6) from (Ly.dr5_0 L hD :)]
    refine ⟨(Ly.dt5 L hD :), ?_⟩
    obtain ⟨z3, z4, H⟩ := H
    refine ⟨inW_mk (N := 6) (Ly.dt6 L hD :) (Ly.dn6 L hD :) z3 z4, ?_⟩
    refine ⟨(Ly.dt5 L hD :), ?_⟩
    rw [show jr (wi h (D + 6) (Int.toNat (ji h (D + 5) 2)) v1) (D + 5) 1 = (D + 7) from (Ly.dr5_1 L hD :)]
    refine ⟨(Ly.dt5 L hD :), ?_⟩
    obtain ⟨z1, z2, H⟩ := H
    refine ⟨inW_mk (N := 6) (Ly.dt7 L hD :) (Ly.dn7 L hD :) z1 z2, ?_⟩
    refine ⟨(Ly.dt5 L hD :), ?_⟩
    refine ⟨(Ly.dt5 L hD :), ?_⟩
    exact H (Ly.wi (Ly.wi (Ly.wi L (a := (D + 6)) (k := Int.toNat (ji h (D + 5) 2)) (x := v1) (by have := hD; unfold isD at this; omega)) (a := (D + 7)) (k := Int.toNat (ji (wi h (D + 6) (Int.toNat (ji h (D + 5) 2)) v1) (D + 5) 2)) (x := v2) (by have := hD; unfold isD at this; omega)) (a := (D + 5)) (k := 2) (x := w32 ((ji (wi (wi h (D + 6) (Int.toNat (ji h (D + 5) 2)) v1) (D + 7) (Int.toNat (ji (wi h (D + 6) (Int.toNat (ji h (D + 5) 2)) v1) (D + 5) 2)) v2) (D + 5) 2) + 1)) (by have := hD; unfold isD at this; omega))
set_option maxRecDepth 100000 in
theorem c_53_0 {p : Lpar} {d : Nat} {h : AH} {Q : Option AV → AH → Prop} {v1 : Int} (hd : 0 ≤ d) (L : Ly p h) {D : Nat} (hD : isD D) (H : (v1 < 0 → Q (some (jI 1)) h) ∧ (¬ (v1 < 0) → (v1 < (ji h (D + 5) 2) → 0 ≤ v1 ∧ v1 < 6 ∧ Q (some (jI (ji h (D + 7) (Int.toNat v1)))) h) ∧ (¬ (v1 < (ji h (D + 5) 2)) → Q (some (jI 1)) h))) : WF d 53 0 [jP (D + 5), jI v1] [] h Q := by
  refine b_53_0 ?_
  refine ⟨fun c4 => ?_, fun c4 => ?_⟩
  · have H := H.1 c4
    exact H
  · have H := H.2 c4
    refine ⟨(Ly.dt5 L hD :), ?_⟩
    refine ⟨fun c3 => ?_, fun c3 => ?_⟩
    · have H := H.1 c3
      refine ⟨(Ly.dt5 L hD :), ?_⟩
      rw [show jr h (D + 5) 1 = (D + 7) from (Ly.dr5_1 L hD :)]
      obtain ⟨z1, z2, H⟩ := H
      refine ⟨inA_mk (N := 6) (Ly.dt7 L hD :) (Ly.dn7 L hD :) z1 z2, ?_⟩
      exact H
    · have H := H.2 c3
      exact H
set_option maxRecDepth 100000 in
theorem c_54_0 {p : Lpar} {d : Nat} {h : AH} {Q : Option AV → AH → Prop} {v1 : Int} {v2 : Int} (hd : 0 ≤ d) (L : Ly p h) {D : Nat} (hD : isD D) (H : (v1 < 0 → Q (some (jI (-1))) h) ∧ (¬ (v1 < 0) → (v1 < (ji h (D + 5) 2) → 0 ≤ v1 ∧ v1 < 6 ∧ Q (some (jI (w32 ((ji h (D + 6) (Int.toNat v1)) + v2)))) h) ∧ (¬ (v1 < (ji h (D + 5) 2)) → Q (some (jI (-1))) h))) : WF d 54 0 [jP (D + 5), jI v1, jI v2] [] h Q := by
  refine b_54_0 ?_
  refine ⟨fun c4 => ?_, fun c4 => ?_⟩
  · have H := H.1 c4
    exact H
  · have H := H.2 c4
    refine ⟨(Ly.dt5 L hD :), ?_⟩
    refine ⟨fun c3 => ?_, fun c3 => ?_⟩
    · have H := H.1 c3
      refine ⟨(Ly.dt5 L hD :), ?_⟩
      rw [show jr h (D + 5) 0 = (D + 6) from (Ly.dr5_0 L hD :)]
      obtain ⟨z1, z2, H⟩ := H
      refine ⟨inA_mk (N := 6) (Ly.dt6 L hD :) (Ly.dn6 L hD :) z1 z2, ?_⟩
      exact H
    · have H := H.2 c3
      exact H
set_option maxRecDepth 100000 in
theorem c_55_0 {p : Lpar} {d : Nat} {h : AH} {Q : Option AV → AH → Prop} {v1 : Int} {v2 : Int} (hd : 0 ≤ d) (L : Ly p h) {D : Nat} (hD : isD D) (H : (v1 < 0 → Q (some (jI 0)) h) ∧ (¬ (v1 < 0) → (v1 < (ji h (D + 5) 2) → 0 ≤ v1 ∧ v1 < 6 ∧ (v2 < (ji h (D + 6) (Int.toNat v1)) → Q (some (jI (-1))) h) ∧ (¬ (v2 < (ji h (D + 6) (Int.toNat v1))) → 0 ≤ v1 ∧ v1 < 6 ∧ 0 ≤ v1 ∧ v1 < 6 ∧ ((w32 (v2 - (ji h (D + 6) (Int.toNat v1)))) < (ji h (D + 7) (Int.toNat v1)) → 0 ≤ v1 ∧ v1 < 6 ∧ Q (some (jI (w32 (v2 - (ji h (D + 6) (Int.toNat v1)))))) h) ∧ (¬ ((w32 (v2 - (ji h (D + 6) (Int.toNat v1)))) < (ji h (D + 7) (Int.toNat v1))) → Q (some (jI (-1))) h))) ∧ (¬ (v1 < (ji h (D + 5) 2)) → Q (some (jI 0)) h))) : WF d 55 0 [jP (D + 5), jI v1, jI v2] [] h Q := by
  refine b_55_0 ?_
  refine ⟨fun c12 => ?_, fun c12 => ?_⟩
  · have H := H.1 c12
    exact H
  · have H := H.2 c12
    refine ⟨(Ly.dt5 L hD :), ?_⟩
    refine ⟨fun c11 => ?_, fun c11 => ?_⟩
    · have H := H.1 c11
      refine ⟨(Ly.dt5 L hD :), ?_⟩
      rw [show jr h (D + 5) 0 = (D + 6) from (Ly.dr5_0 L hD :)]
      obtain ⟨z1, z2, H⟩ := H
      refine ⟨inA_mk (N := 6) (Ly.dt6 L hD :) (Ly.dn6 L hD :) z1 z2, ?_⟩
      refine ⟨fun c10 => ?_, fun c10 => ?_⟩
      · have H := H.1 c10
        exact H
      · have H := H.2 c10
        refine ⟨(Ly.dt5 L hD :), ?_⟩
        obtain ⟨z3, z4, H⟩ := H
        refine ⟨inA_mk (N := 6) (Ly.dt6 L hD :) (Ly.dn6 L hD :) z3 z4, ?_⟩
        refine ⟨(Ly.dt5 L hD :), ?_⟩
        rw [show jr h (D + 5) 1 = (D + 7) from (Ly.dr5_1 L hD :)]
        obtain ⟨z5, z6, H⟩ := H
        refine ⟨inA_mk (N := 6) (Ly.dt7 L hD :) (Ly.dn7 L hD :) z5 z6, ?_⟩
        refine ⟨fun c9 => ?_, fun c9 => ?_⟩
        · have H := H.1 c9
          refine ⟨(Ly.dt5 L hD :), ?_⟩
          obtain ⟨z7, z8, H⟩ := H
          refine ⟨inA_mk (N := 6) (Ly.dt6 L hD :) (Ly.dn6 L hD :) z7 z8, ?_⟩
          exact H
        · have H := H.2 c9
          exact H
    · have H := H.2 c11
      exact H
set_option maxRecDepth 100000 in
theorem c_56_0 {p : Lpar} {d : Nat} {h : AH} {Q : Option AV → AH → Prop} {v1 : Int} {v2 : Int} (hd : 0 ≤ d) (L : Ly p h) {D : Nat} (hD : isD D) (H : (v1 < 0 → Q (some (jI 0)) h) ∧ (¬ (v1 < 0) → ((ji h (D + 5) 2) ≤ v1 → Q (some (jI 0)) h) ∧ (¬ ((ji h (D + 5) 2) ≤ v1) → (v2 < 0 → Q (some (jI 0)) h) ∧ (¬ (v2 < 0) → (v2 < (ji h (D + 5) 2) → 0 ≤ v1 ∧ v1 < 6 ∧ ((ji h (D + 7) (Int.toNat v1)) = (0 : Int) → Q (some (jI 1)) h) ∧ (¬ ((ji h (D + 7) (Int.toNat v1)) = (0 : Int)) → 0 ≤ v1 ∧ v1 < 6 ∧ 0 ≤ v2 ∧ v2 < 6 ∧ ((ji h (D + 6) (Int.toNat v1)) < (ji h (D + 6) (Int.toNat v2)) → Q (some (jI 0)) h) ∧ (¬ ((ji h (D + 6) (Int.toNat v1)) < (ji h (D + 6) (Int.toNat v2))) → 0 ≤ v1 ∧ v1 < 6 ∧ 0 ≤ v1 ∧ v1 < 6 ∧ 0 ≤ v2 ∧ v2 < 6 ∧ 0 ≤ v2 ∧ v2 < 6 ∧ ((w32 ((ji h (D + 6) (Int.toNat v2)) + (ji h (D + 7) (Int.toNat v2)))) < (w32 ((ji h (D + 6) (Int.toNat v1)) + (ji h (D + 7) (Int.toNat v1)))) → Q (some (jI 0)) h) ∧ (¬ ((w32 ((ji h (D + 6) (Int.toNat v2)) + (ji h (D + 7) (Int.toNat v2)))) < (w32 ((ji h (D + 6) (Int.toNat v1)) + (ji h (D + 7) (Int.toNat v1))))) → Q (some (jI 1)) h)))) ∧ (¬ (v2 < (ji h (D + 5) 2)) → Q (some (jI 0)) h))))) : WF d 56 0 [jP (D + 5), jI v1, jI v2] [] h Q := by
  refine b_56_0 ?_
  refine ⟨fun c21 => ?_, fun c21 => ?_⟩
  · have H := H.1 c21
    refine ⟨Or.inl rfl, ?_⟩
    exact H
  · have H := H.2 c21
    refine ⟨(Ly.dt5 L hD :), ?_⟩
    refine ⟨fun c20 => ?_, fun c20 => ?_⟩
    · have H := H.1 c20
      refine ⟨Or.inl rfl, ?_⟩
      exact H
    · have H := H.2 c20
      refine ⟨fun c19 => ?_, fun c19 => ?_⟩
      · have H := H.1 c19
        refine ⟨Or.inl rfl, ?_⟩
        exact H
      · have H := H.2 c19
        refine ⟨(Ly.dt5 L hD :), ?_⟩
        refine ⟨fun c18 => ?_, fun c18 => ?_⟩
        · have H := H.1 c18
          refine ⟨(Ly.dt5 L hD :), ?_⟩
          rw [show jr h (D + 5) 1 = (D + 7) from (Ly.dr5_1 L hD :)]
          obtain ⟨z1, z2, H⟩ := H
          refine ⟨inA_mk (N := 6) (Ly.dt7 L hD :) (Ly.dn7 L hD :) z1 z2, ?_⟩
          refine ⟨fun c17 => ?_, fun c17 => ?_⟩
          · have H := H.1 c17
            refine ⟨Or.inr rfl, ?_⟩
            exact H
          · have H := H.2 c17
            refine ⟨(Ly.dt5 L hD :), ?_⟩
            rw [show jr h (D + 5) 0 = (D + 6) from (Ly.dr5_0 L hD :)]
            obtain ⟨z3, z4, H⟩ := H
            refine ⟨inA_mk (N := 6) (Ly.dt6 L hD :) (Ly.dn6 L hD :) z3 z4, ?_⟩
            refine ⟨(Ly.dt5 L hD :), ?_⟩
            obtain ⟨z5, z6, H⟩ := H
            refine ⟨inA_mk (N := 6) (Ly.dt6 L hD :) (Ly.dn6 L hD :) z5 z6, ?_⟩
            refine ⟨fun c16 => ?_, fun c16 => ?_⟩
            · have H := H.1 c16
              refine ⟨Or.inl rfl, ?_⟩
              exact H
            · have H := H.2 c16
              refine ⟨(Ly.dt5 L hD :), ?_⟩
              obtain ⟨z7, z8, H⟩ := H
              refine ⟨inA_mk (N := 6) (Ly.dt6 L hD :) (Ly.dn6 L hD :) z7 z8, ?_⟩
              refine ⟨(Ly.dt5 L hD :), ?_⟩
              obtain ⟨z9, z10, H⟩ := H
              refine ⟨inA_mk (N := 6) (Ly.dt7 L hD :) (Ly.dn7 L hD :) z9 z10, ?_⟩
              refine ⟨(Ly.dt5 L hD :), ?_⟩
              obtain ⟨z11, z12, H⟩ := H
              refine ⟨inA_mk (N := 6) (Ly.dt6 L hD :) (Ly.dn6 L hD :) z11 z12, ?_⟩
              refine ⟨(Ly.dt5 L hD :), ?_⟩
              obtain ⟨z13, z14, H⟩ := H
              refine ⟨inA_mk (N := 6) (Ly.dt7 L hD :) (Ly.dn7 L hD :) z13 z14, ?_⟩
              refine ⟨fun c15 => ?_, fun c15 => ?_⟩
              · have H := H.1 c15
                refine ⟨Or.inl rfl, ?_⟩
                exact H
              · have H := H.2 c15
                refine ⟨Or.inr rfl, ?_⟩
                exact H
        · have H := H.2 c18
          refine ⟨Or.inl rfl, ?_⟩
          exact H
set_option maxRecDepth 100000 in
theorem c_58_0 {p : Lpar} {d : Nat} {h : AH} {Q : Option AV → AH → Prop}  (hd : 0 ≤ d) (L : Ly p h) {D t N : Nat} (hD : isD D) (hT : isTh D t N) (H : (Ly p (wi (wi h t 4 0) t 5 0) → Q none (wi (wi h t 4 0) t 5 0))) : WF d 58 0 [jP t] [] h Q := by
  refine b_58_0 ?_
  refine ⟨(Ly.tt0 L hT :), ?_⟩
  refine ⟨(Ly.tt0 L hT :), ?_⟩
  exact H (Ly.wi (Ly.wi L (a := t) (k := 4) (x := 0) (by have := hT; unfold isTh isD at this; omega)) (a := t) (k := 5) (x := 0) (by have := hT; unfold isTh isD at this; omega))
set_option maxRecDepth 100000 in
theorem c_59_0 {p : Lpar} {d : Nat} {h : AH} {Q : Option AV → AH → Prop} {v1 : Int} {v2 : Int} (hd : 0 ≤ d) (L : Ly p h) {D t N : Nat} (hD : isD D) (hT : isTh D t N) (H : ((N : Int) ≤ (ji h t 4) → Q none h) ∧ (¬ ((N : Int) ≤ (ji h t 4)) → 0 ≤ (ji h t 4) ∧ (ji h t 4) < (N : Int) ∧ 0 ≤ (ji (wi h (t + 1) (Int.toNat (ji h t 4)) v1) t 4) ∧ (ji (wi h (t + 1) (Int.toNat (ji h t 4)) v1) t 4) < (N : Int) ∧ 0 ≤ (ji (wi (wi h (t + 1) (Int.toNat (ji h t 4)) v1) (t + 2) (Int.toNat (ji (wi h (t + 1) (Int.toNat (ji h t 4)) v1) t 4)) v2) t 4) ∧ (ji (wi (wi h (t + 1) (Int.toNat (ji h t 4)) v1) (t + 2) (Int.toNat (ji (wi h (t + 1) (Int.toNat (ji h t 4)) v1) t 4)) v2) t 4) < (N : Int) ∧ (Ly p (wi (wi (wi h (t + 1) (Int.toNat (ji h t 4)) v1) (t + 2) (Int.toNat (ji (wi h (t + 1) (Int.toNat (ji h t 4)) v1) t 4)) v2) (t + 3) (Int.toNat (ji (wi (wi h (t + 1) (Int.toNat (ji h t 4)) v1) (t + 2) (Int.toNat (ji (wi h (t + 1) (Int.toNat (ji h t 4)) v1) t 4)) v2) t 4)) (ji (wi (wi h (t + 1) (Int.toNat (ji h t 4)) v1) (t + 2) (Int.toNat (ji (wi h (t + 1) (Int.toNat (ji h t 4)) v1) t 4)) v2) t 5)) → ∃ x4 h1, jE d 53 [jP (D + 5), jI v1] (wi (wi (wi h (t + 1) (Int.toNat (ji h t 4)) v1) (t + 2) (Int.toNat (ji (wi h (t + 1) (Int.toNat (ji h t 4)) v1) t 4)) v2) (t + 3) (Int.toNat (ji (wi (wi h (t + 1) (Int.toNat (ji h t 4)) v1) (t + 2) (Int.toNat (ji (wi h (t + 1) (Int.toNat (ji h t 4)) v1) t 4)) v2) t 4)) (ji (wi (wi h (t + 1) (Int.toNat (ji h t 4)) v1) (t + 2) (Int.toNat (ji (wi h (t + 1) (Int.toNat (ji h t 4)) v1) t 4)) v2) t 5)) (some (jI x4)) h1 ∧ Ly p h1 ∧ ∃ x8 h5, jE d 53 [jP (D + 5), jI v2] h1 (some (jI x8)) h5 ∧ Ly p h5 ∧ (Ly p (wi (wi h5 t 5 (w32 ((ji (wi (wi (wi h (t + 1) (Int.toNat (ji h t 4)) v1) (t + 2) (Int.toNat (ji (wi h (t + 1) (Int.toNat (ji h t 4)) v1) t 4)) v2) (t + 3) (Int.toNat (ji (wi (wi h (t + 1) (Int.toNat (ji h t 4)) v1) (t + 2) (Int.toNat (ji (wi h (t + 1) (Int.toNat (ji h t 4)) v1) t 4)) v2) t 4)) (ji (wi (wi h (t + 1) (Int.toNat (ji h t 4)) v1) (t + 2) (Int.toNat (ji (wi h (t + 1) (Int.toNat (ji h t 4)) v1) t 4)) v2) t 5)) t 5) + (w32 (x4 * x8))))) t 4 (w32 ((ji (wi h5 t 5 (w32 ((ji (wi (wi (wi h (t + 1) (Int.toNat (ji h t 4)) v1) (t + 2) (Int.toNat (ji (wi h (t + 1) (Int.toNat (ji h t 4)) v1) t 4)) v2) (t + 3) (Int.toNat (ji (wi (wi h (t + 1) (Int.toNat (ji h t 4)) v1) (t + 2) (Int.toNat (ji (wi h (t + 1) (Int.toNat (ji h t 4)) v1) t 4)) v2) t 4)) (ji (wi (wi h (t + 1) (Int.toNat (ji h t 4)) v1) (t + 2) (Int.toNat (ji (wi h (t + 1) (Int.toNat (ji h t 4)) v1) t 4)) v2) t 5)) t 5) + (w32 (x4 * x8))))) t 4) + 1))) → Q none (wi (wi h5 t 5 (w32 ((ji (wi (wi (wi h (t + 1) (Int.toNat (ji h t 4)) v1) (t + 2) (Int.toNat (ji (wi h (t + 1) (Int.toNat (ji h t 4)) v1) t 4)) v2) (t + 3) (Int.toNat (ji (wi (wi h (t + 1) (Int.toNat (ji h t 4)) v1) (t + 2) (Int.toNat (ji (wi h (t + 1) (Int.toNat (ji h t 4)) v1) t 4)) v2) t 4)) (ji (wi (wi h (t + 1) (Int.toNat (ji h t 4)) v1) (t + 2) (Int.toNat (ji (wi h (t + 1) (Int.toNat (ji h t 4)) v1) t 4)) v2) t 5)) t 5) + (w32 (x4 * x8))))) t 4 (w32 ((ji (wi h5 t 5 (w32 ((ji (wi (wi (wi h (t + 1) (Int.toNat (ji h t 4)) v1) (t + 2) (Int.toNat (ji (wi h (t + 1) (Int.toNat (ji h t 4)) v1) t 4)) v2) (t + 3) (Int.toNat (ji (wi (wi h (t + 1) (Int.toNat (ji h t 4)) v1) (t + 2) (Int.toNat (ji (wi h (t + 1) (Int.toNat (ji h t 4)) v1) t 4)) v2) t 4)) (ji (wi (wi h (t + 1) (Int.toNat (ji h t 4)) v1) (t + 2) (Int.toNat (ji (wi h (t + 1) (Int.toNat (ji h t 4)) v1) t 4)) v2) t 5)) t 5) + (w32 (x4 * x8))))) t 4) + 1))))))) : WF d 59 0 [jP t, jI v1, jI v2] [] h Q := by
  refine b_59_0 ?_
  refine ⟨(Ly.tt0 L hT :), ?_⟩
  refine ⟨(Ly.tt0 L hT :), ?_⟩
  rw [show jr h t 3 = (t + 3) from (Ly.tr3 L hT :)]
  refine ⟨by rw [show jt h (t + 3) = _ from (Ly.tt3 L hT :)]; decide, by rw [show jt h (t + 3) = _ from (Ly.tt3 L hT :)]; decide, ?_⟩
  rw [show jn h (t + 3) = N from (Ly.tl3 L hT :)]
  refine ⟨fun c15 => ?_, fun c15 => ?_⟩
  · have H := H.1 c15
    refine b_59_81 ?_
    exact H
  · have H := H.2 c15
    refine ⟨(Ly.tt0 L hT :), ?_⟩
    rw [show jr h t 1 = (t + 1) from (Ly.tr1 L hT :)]
    refine ⟨(Ly.tt0 L hT :), ?_⟩
    obtain ⟨z13, z14, H⟩ := H
    refine ⟨inW_mk (N := N) (Ly.tt1 L hT :) (Ly.tl1 L hT :) z13 z14, ?_⟩
    refine b_59_22 ?_
    refine ⟨(Ly.tt0 L hT :), ?_⟩
    rw [show jr (wi h (t + 1) (Int.toNat (ji h t 4)) v1) t 2 = (t + 2) from (Ly.tr2 L hT :)]
    refine ⟨(Ly.tt0 L hT :), ?_⟩
    obtain ⟨z11, z12, H⟩ := H
    refine ⟨inW_mk (N := N) (Ly.tt2 L hT :) (Ly.tl2 L hT :) z11 z12, ?_⟩
    refine b_59_32 ?_
    refine ⟨(Ly.tt0 L hT :), ?_⟩
    rw [show jr (wi (wi h (t + 1) (Int.toNat (ji h t 4)) v1) (t + 2) (Int.toNat (ji (wi h (t + 1) (Int.toNat (ji h t 4)) v1) t 4)) v2) t 3 = (t + 3) from (Ly.tr3 L hT :)]
    refine ⟨(Ly.tt0 L hT :), ?_⟩
    refine ⟨(Ly.tt0 L hT :), ?_⟩
    obtain ⟨z9, z10, H⟩ := H
    refine ⟨inW_mk (N := N) (Ly.tt3 L hT :) (Ly.tl3 L hT :) z9 z10, ?_⟩
    refine b_59_45 ?_
    refine ⟨(Ly.tt0 L hT :), ?_⟩
    refine ⟨(Ly.tt0 L hT :), ?_⟩
    rw [show jr (wi (wi (wi h (t + 1) (Int.toNat (ji h t 4)) v1) (t + 2) (Int.toNat (ji (wi h (t + 1) (Int.toNat (ji h t 4)) v1) t 4)) v2) (t + 3) (Int.toNat (ji (wi (wi h (t + 1) (Int.toNat (ji h t 4)) v1) (t + 2) (Int.toNat (ji (wi h (t + 1) (Int.toNat (ji h t 4)) v1) t 4)) v2) t 4)) (ji (wi (wi h (t + 1) (Int.toNat (ji h t 4)) v1) (t + 2) (Int.toNat (ji (wi h (t + 1) (Int.toNat (ji h t 4)) v1) t 4)) v2) t 5)) t 0 = (D + 5) from (Ly.tr0 L hT :)]
    refine ⟨(Ly.dt5 L hD :), ?_⟩
    have H := H (Ly.wi (Ly.wi (Ly.wi L (a := (t + 1)) (k := Int.toNat (ji h t 4)) (x := v1) (by have := hT; unfold isTh isD at this; omega)) (a := (t + 2)) (k := Int.toNat (ji (wi h (t + 1) (Int.toNat (ji h t 4)) v1) t 4)) (x := v2) (by have := hT; unfold isTh isD at this; omega)) (a := (t + 3)) (k := Int.toNat (ji (wi (wi h (t + 1) (Int.toNat (ji h t 4)) v1) (t + 2) (Int.toNat (ji (wi h (t + 1) (Int.toNat (ji h t 4)) v1) t 4)) v2) t 4)) (x := ji (wi (wi h (t + 1) (Int.toNat (ji h t 4)) v1) (t + 2) (Int.toNat (ji (wi h (t + 1) (Int.toNat (ji h t 4)) v1) t 4)) v2) t 5) (by have := hT; unfold isTh isD at this; omega))
    obtain ⟨x4, h1, e3, L2, H⟩ := H
    refine ⟨x4, h1, e3, ?_⟩
    refine ⟨(Ly.tt0 L2 hT :), ?_⟩
    rw [show jr h1 t 0 = (D + 5) from (Ly.tr0 L2 hT :)]
    refine ⟨(Ly.dt5 L2 hD :), ?_⟩
    obtain ⟨x8, h5, e7, L6, H⟩ := H
    refine ⟨x8, h5, e7, ?_⟩
    refine ⟨(Ly.tt0 L6 hT :), ?_⟩
    refine b_59_71 ?_
    refine ⟨(Ly.tt0 L6 hT :), ?_⟩
    refine ⟨(Ly.tt0 L6 hT :), ?_⟩
    refine b_59_81 ?_
    exact H (Ly.wi (Ly.wi L6 (a := t) (k := 5) (x := w32 ((ji (wi (wi (wi h (t + 1) (Int.toNat (ji h t 4)) v1) (t + 2) (Int.toNat (ji (wi h (t + 1) (Int.toNat (ji h t 4)) v1) t 4)) v2) (t + 3) (Int.toNat (ji (wi (wi h (t + 1) (Int.toNat (ji h t 4)) v1) (t + 2) (Int.toNat (ji (wi h (t + 1) (Int.toNat (ji h t 4)) v1) t 4)) v2) t 4)) (ji (wi (wi h (t + 1) (Int.toNat (ji h t 4)) v1) (t + 2) (Int.toNat (ji (wi h (t + 1) (Int.toNat (ji h t 4)) v1) t 4)) v2) t 5)) t 5) + (w32 (x4 * x8)))) (by have := hT; unfold isTh isD at this; omega)) (a := t) (k := 4) (x := w32 ((ji (wi h5 t 5 (w32 ((ji (wi (wi (wi h (t + 1) (Int.toNat (ji h t 4)) v1) (t + 2) (Int.toNat (ji (wi h (t + 1) (Int.toNat (ji h t 4)) v1) t 4)) v2) (t + 3) (Int.toNat (ji (wi (wi h (t + 1) (Int.toNat (ji h t 4)) v1) (t + 2) (Int.toNat (ji (wi h (t + 1) (Int.toNat (ji h t 4)) v1) t 4)) v2) t 4)) (ji (wi (wi h (t + 1) (Int.toNat (ji h t 4)) v1) (t + 2) (Int.toNat (ji (wi h (t + 1) (Int.toNat (ji h t 4)) v1) t 4)) v2) t 5)) t 5) + (w32 (x4 * x8))))) t 4) + 1)) (by have := hT; unfold isTh isD at this; omega))
set_option maxRecDepth 100000 in
theorem c_60_0 {p : Lpar} {d : Nat} {h : AH} {Q : Option AV → AH → Prop} {v1 : Int} {v2 : Int} {v3 : Int} (hd : 0 ≤ d) (L : Ly p h) {D t N : Nat} (hD : isD D) (hT : isTh D t N) (H : (v1 < 0 → Q (some (jI (-1))) h) ∧ (¬ (v1 < 0) → (v1 < (ji h t 4) → 0 ≤ v1 ∧ v1 < (N : Int) ∧ ∃ x6 h3, jE d 55 [jP (D + 5), jI (ji h (t + 1) (Int.toNat v1)), jI v2] h (some (jI x6)) h3 ∧ Ly p h3 ∧ 0 ≤ v1 ∧ v1 < (N : Int) ∧ ∃ x12 h9, jE d 55 [jP (D + 5), jI (ji h3 (t + 2) (Int.toNat v1)), jI v3] h3 (some (jI x12)) h9 ∧ Ly p h9 ∧ (x6 = (-1) → Q (some (jI (-1))) h9) ∧ (¬ (x6 = (-1)) → (x12 = (-1) → Q (some (jI (-1))) h9) ∧ (¬ x12 = (-1) → 0 ≤ v1 ∧ v1 < (N : Int) ∧ 0 ≤ v1 ∧ v1 < (N : Int) ∧ ∃ x20 h17, jE d 53 [jP (D + 5), jI (ji h9 (t + 2) (Int.toNat v1))] h9 (some (jI x20)) h17 ∧ Ly p h17 ∧ Q (some (jI (w32 ((w32 ((ji h9 (t + 3) (Int.toNat v1)) + (w32 (x6 * x20)))) + x12)))) h17))) ∧ (¬ (v1 < (ji h t 4)) → Q (some (jI (-1))) h))) : WF d 60 0 [jP t, jI v1, jI v2, jI v3, jU, jU] [] h Q := by
  refine b_60_0 ?_
  refine ⟨fun c24 => ?_, fun c24 => ?_⟩
  · have H := H.1 c24
    exact H
  · have H := H.2 c24
    refine ⟨(Ly.tt0 L hT :), ?_⟩
    refine ⟨fun c23 => ?_, fun c23 => ?_⟩
    · have H := H.1 c23
      refine ⟨(Ly.tt0 L hT :), ?_⟩
      rw [show jr h t 0 = (D + 5) from (Ly.tr0 L hT :)]
      refine ⟨(Ly.tt0 L hT :), ?_⟩
      rw [show jr h t 1 = (t + 1) from (Ly.tr1 L hT :)]
      obtain ⟨z1, z2, H⟩ := H
      refine ⟨inA_mk (N := N) (Ly.tt1 L hT :) (Ly.tl1 L hT :) z1 z2, ?_⟩
      refine ⟨(Ly.dt5 L hD :), ?_⟩
      obtain ⟨x6, h3, e5, L4, H⟩ := H
      refine ⟨x6, h3, e5, ?_⟩
      refine ⟨(Ly.tt0 L4 hT :), ?_⟩
      rw [show jr h3 t 0 = (D + 5) from (Ly.tr0 L4 hT :)]
      refine ⟨(Ly.tt0 L4 hT :), ?_⟩
      rw [show jr h3 t 2 = (t + 2) from (Ly.tr2 L4 hT :)]
      obtain ⟨z7, z8, H⟩ := H
      refine ⟨inA_mk (N := N) (Ly.tt2 L4 hT :) (Ly.tl2 L4 hT :) z7 z8, ?_⟩
      refine ⟨(Ly.dt5 L4 hD :), ?_⟩
      obtain ⟨x12, h9, e11, L10, H⟩ := H
      refine ⟨x12, h9, e11, ?_⟩
      refine ⟨fun c22 => ?_, fun c22 => ?_⟩
      · have H := H.1 c22
        exact H
      · have H := H.2 c22
        refine ⟨fun c21 => ?_, fun c21 => ?_⟩
        · have H := H.2 c21
          refine ⟨(Ly.tt0 L10 hT :), ?_⟩
          rw [show jr h9 t 3 = (t + 3) from (Ly.tr3 L10 hT :)]
          obtain ⟨z13, z14, H⟩ := H
          refine ⟨inA_mk (N := N) (Ly.tt3 L10 hT :) (Ly.tl3 L10 hT :) z13 z14, ?_⟩
          refine ⟨(Ly.tt0 L10 hT :), ?_⟩
          rw [show jr h9 t 0 = (D + 5) from (Ly.tr0 L10 hT :)]
          refine ⟨(Ly.tt0 L10 hT :), ?_⟩
          rw [show jr h9 t 2 = (t + 2) from (Ly.tr2 L10 hT :)]
          obtain ⟨z15, z16, H⟩ := H
          refine ⟨inA_mk (N := N) (Ly.tt2 L10 hT :) (Ly.tl2 L10 hT :) z15 z16, ?_⟩
          refine ⟨(Ly.dt5 L10 hD :), ?_⟩
          obtain ⟨x20, h17, e19, L18, H⟩ := H
          refine ⟨x20, h17, e19, ?_⟩
          exact H
        · have c21 := Decidable.not_not.mp c21
          have H := H.1 c21
          exact H
    · have H := H.2 c23
      exact H
set_option maxRecDepth 100000 in
theorem c_61_0 {p : Lpar} {d : Nat} {h : AH} {Q : Option AV → AH → Prop} {v1 : Int} (hd : 0 ≤ d) (L : Ly p h) {D t N : Nat} (hD : isD D) (hT : isTh D t N) (H : (v1 < 0 → Q (some (jI (-1))) h) ∧ (¬ (v1 < 0) → (v1 < (ji h t 5) → WF d 61 21 [jP t, jI v1, jI (w32 ((ji h t 4) - 1))] [] h Q) ∧ (¬ (v1 < (ji h t 5)) → Q (some (jI (-1))) h))) : WF d 61 0 [jP t, jI v1, jU] [] h Q := by
  refine b_61_0 ?_
  refine ⟨fun c2 => ?_, fun c2 => ?_⟩
  · have H := H.1 c2
    exact H
  · have H := H.2 c2
    refine ⟨(Ly.tt0 L hT :), ?_⟩
    refine ⟨fun c1 => ?_, fun c1 => ?_⟩
    · have H := H.1 c1
      refine ⟨(Ly.tt0 L hT :), ?_⟩
      exact H
    · have H := H.2 c1
      exact H
set_option maxRecDepth 100000 in
theorem c_61_21 {p : Lpar} {d : Nat} {h : AH} {Q : Option AV → AH → Prop} {v1 : Int} {v2 : Int} (hd : 0 ≤ d) (L : Ly p h) {D t N : Nat} (hD : isD D) (hT : isTh D t N) (H : (v2 ≤ 0 → Q (some (jI v2)) h) ∧ (¬ (v2 ≤ 0) → 0 ≤ v2 ∧ v2 < (N : Int) ∧ ((ji h (t + 3) (Int.toNat v2)) ≤ v1 → Q (some (jI v2)) h) ∧ (¬ ((ji h (t + 3) (Int.toNat v2)) ≤ v1) → WF d 61 21 [jP t, jI v1, jI (w32 (v2 + (-1)))] [] h Q))) : WF d 61 21 [jP t, jI v1, jI v2] [] h Q := by
  refine b_61_21 ?_
  refine ⟨fun c4 => ?_, fun c4 => ?_⟩
  · have H := H.1 c4
    exact H
  · have H := H.2 c4
    refine ⟨(Ly.tt0 L hT :), ?_⟩
    rw [show jr h t 3 = (t + 3) from (Ly.tr3 L hT :)]
    obtain ⟨z1, z2, H⟩ := H
    refine ⟨inA_mk (N := N) (Ly.tt3 L hT :) (Ly.tl3 L hT :) z1 z2, ?_⟩
    refine ⟨fun c3 => ?_, fun c3 => ?_⟩
    · have H := H.1 c3
      exact H
    · have H := H.2 c3
      exact H
set_option maxRecDepth 100000 in
theorem c_62_0 {p : Lpar} {d : Nat} {h : AH} {Q : Option AV → AH → Prop} {v1 : Int} (hd : 0 ≤ d) (L : Ly p h) {D t N : Nat} (hD : isD D) (hT : isTh D t N) (H : ∃ x4 h1, jE d 61 [jP t, jI v1] h (some (jI x4)) h1 ∧ Ly p h1 ∧ (x4 = (-1) → Q (some (jI (-1))) h1) ∧ (¬ x4 = (-1) → 0 ≤ x4 ∧ x4 < (N : Int) ∧ ∃ x10 h7, jE d 53 [jP (D + 5), jI (ji h1 (t + 2) (Int.toNat x4))] h1 (some (jI x10)) h7 ∧ Ly p h7 ∧ (0 < x10 → 0 ≤ x4 ∧ x4 < (N : Int) ∧ 0 ≤ x4 ∧ x4 < (N : Int) ∧ ¬ x10 = 0 ∧ ∃ x18 h15, jE d 54 [jP (D + 5), jI (ji h7 (t + 1) (Int.toNat x4)), jI (w32 (Int.tdiv (w32 (v1 - (ji h7 (t + 3) (Int.toNat x4)))) x10))] h7 (some (jI x18)) h15 ∧ Ly p h15 ∧ Q (some (jI x18)) h15) ∧ (¬ (0 < x10) → Q (some (jI (-1))) h7))) : WF d 62 0 [jP t, jI v1, jU, jU] [] h Q := by
  refine b_62_0 ?_
  refine ⟨(Ly.tt0 L hT :), ?_⟩
  obtain ⟨x4, h1, e3, L2, H⟩ := H
  refine ⟨x4, h1, e3, ?_⟩
  refine ⟨fun c21 => ?_, fun c21 => ?_⟩
  · have H := H.2 c21
    refine ⟨(Ly.tt0 L2 hT :), ?_⟩
    rw [show jr h1 t 0 = (D + 5) from (Ly.tr0 L2 hT :)]
    refine ⟨(Ly.tt0 L2 hT :), ?_⟩
    rw [show jr h1 t 2 = (t + 2) from (Ly.tr2 L2 hT :)]
    obtain ⟨z5, z6, H⟩ := H
    refine ⟨inA_mk (N := N) (Ly.tt2 L2 hT :) (Ly.tl2 L2 hT :) z5 z6, ?_⟩
    refine ⟨(Ly.dt5 L2 hD :), ?_⟩
    obtain ⟨x10, h7, e9, L8, H⟩ := H
    refine ⟨x10, h7, e9, ?_⟩
    refine ⟨fun c20 => ?_, fun c20 => ?_⟩
    · have H := H.1 c20
      refine ⟨(Ly.tt0 L8 hT :), ?_⟩
      rw [show jr h7 t 0 = (D + 5) from (Ly.tr0 L8 hT :)]
      refine ⟨(Ly.tt0 L8 hT :), ?_⟩
      rw [show jr h7 t 1 = (t + 1) from (Ly.tr1 L8 hT :)]
      obtain ⟨z11, z12, H⟩ := H
      refine ⟨inA_mk (N := N) (Ly.tt1 L8 hT :) (Ly.tl1 L8 hT :) z11 z12, ?_⟩
      refine ⟨(Ly.tt0 L8 hT :), ?_⟩
      rw [show jr h7 t 3 = (t + 3) from (Ly.tr3 L8 hT :)]
      obtain ⟨z13, z14, H⟩ := H
      refine ⟨inA_mk (N := N) (Ly.tt3 L8 hT :) (Ly.tl3 L8 hT :) z13 z14, ?_⟩
      obtain ⟨z19, H⟩ := H
      refine ⟨z19, ?_⟩
      refine ⟨(Ly.dt5 L8 hD :), ?_⟩
      obtain ⟨x18, h15, e17, L16, H⟩ := H
      refine ⟨x18, h15, e17, ?_⟩
      exact H
    · have H := H.2 c20
      exact H
  · have c21 := Decidable.not_not.mp c21
    have H := H.1 c21
    refine ⟨fun c => absurd c (by decide), fun _ => ?_⟩
    exact H
set_option maxRecDepth 100000 in
theorem c_63_0 {p : Lpar} {d : Nat} {h : AH} {Q : Option AV → AH → Prop} {v1 : Int} (hd : 0 ≤ d) (L : Ly p h) {D t N : Nat} (hD : isD D) (hT : isTh D t N) (H : ∃ x4 h1, jE d 61 [jP t, jI v1] h (some (jI x4)) h1 ∧ Ly p h1 ∧ (x4 = (-1) → Q (some (jI (-1))) h1) ∧ (¬ x4 = (-1) → 0 ≤ x4 ∧ x4 < (N : Int) ∧ ∃ x10 h7, jE d 53 [jP (D + 5), jI (ji h1 (t + 2) (Int.toNat x4))] h1 (some (jI x10)) h7 ∧ Ly p h7 ∧ (0 < x10 → 0 ≤ x4 ∧ x4 < (N : Int) ∧ 0 ≤ x4 ∧ x4 < (N : Int) ∧ ¬ x10 = 0 ∧ ∃ x18 h15, jE d 54 [jP (D + 5), jI (ji h7 (t + 2) (Int.toNat x4)), jI (w32 (Int.tmod (w32 (v1 - (ji h7 (t + 3) (Int.toNat x4)))) x10))] h7 (some (jI x18)) h15 ∧ Ly p h15 ∧ Q (some (jI x18)) h15) ∧ (¬ (0 < x10) → Q (some (jI (-1))) h7))) : WF d 63 0 [jP t, jI v1, jU, jU] [] h Q := by
  refine b_63_0 ?_
  refine ⟨(Ly.tt0 L hT :), ?_⟩
  obtain ⟨x4, h1, e3, L2, H⟩ := H
  refine ⟨x4, h1, e3, ?_⟩
  refine ⟨fun c21 => ?_, fun c21 => ?_⟩
  · have H := H.2 c21
    refine ⟨(Ly.tt0 L2 hT :), ?_⟩
    rw [show jr h1 t 0 = (D + 5) from (Ly.tr0 L2 hT :)]
    refine ⟨(Ly.tt0 L2 hT :), ?_⟩
    rw [show jr h1 t 2 = (t + 2) from (Ly.tr2 L2 hT :)]
    obtain ⟨z5, z6, H⟩ := H
    refine ⟨inA_mk (N := N) (Ly.tt2 L2 hT :) (Ly.tl2 L2 hT :) z5 z6, ?_⟩
    refine ⟨(Ly.dt5 L2 hD :), ?_⟩
    obtain ⟨x10, h7, e9, L8, H⟩ := H
    refine ⟨x10, h7, e9, ?_⟩
    refine ⟨fun c20 => ?_, fun c20 => ?_⟩
    · have H := H.1 c20
      refine ⟨(Ly.tt0 L8 hT :), ?_⟩
      rw [show jr h7 t 0 = (D + 5) from (Ly.tr0 L8 hT :)]
      refine ⟨(Ly.tt0 L8 hT :), ?_⟩
      rw [show jr h7 t 2 = (t + 2) from (Ly.tr2 L8 hT :)]
      obtain ⟨z11, z12, H⟩ := H
      refine ⟨inA_mk (N := N) (Ly.tt2 L8 hT :) (Ly.tl2 L8 hT :) z11 z12, ?_⟩
      refine ⟨(Ly.tt0 L8 hT :), ?_⟩
      rw [show jr h7 t 3 = (t + 3) from (Ly.tr3 L8 hT :)]
      obtain ⟨z13, z14, H⟩ := H
      refine ⟨inA_mk (N := N) (Ly.tt3 L8 hT :) (Ly.tl3 L8 hT :) z13 z14, ?_⟩
      obtain ⟨z19, H⟩ := H
      refine ⟨z19, ?_⟩
      refine ⟨(Ly.dt5 L8 hD :), ?_⟩
      obtain ⟨x18, h15, e17, L16, H⟩ := H
      refine ⟨x18, h15, e17, ?_⟩
      exact H
    · have H := H.2 c20
      exact H
  · have c21 := Decidable.not_not.mp c21
    have H := H.1 c21
    refine ⟨fun c => absurd c (by decide), fun _ => ?_⟩
    exact H
set_option maxRecDepth 100000 in
theorem c_7_0 {p : Lpar} {d : Nat} {h : AH} {Q : Option AV → AH → Prop}  (hd : 0 ≤ d) (L : Ly p h) {D : Nat} (hD : isD D) (H : (Ly p (wi (wi h (D + 1) 3 0) (D + 5) 2 0) → ∃ h1, jE d 58 [jP (D + 14)] (wi (wi h (D + 1) 3 0) (D + 5) 2 0) none h1 ∧ Ly p h1 ∧ ∃ h4, jE d 58 [jP (D + 18)] h1 none h4 ∧ Ly p h4 ∧ ∃ h7, jE d 58 [jP (D + 22)] h4 none h7 ∧ Ly p h7 ∧ (Ly p (wl (wr (wi (wi h7 D 6 0) D 12 0) D 13 0) D 14 0) → Q none (wl (wr (wi (wi h7 D 6 0) D 12 0) D 13 0) D 14 0)))) : WF d 7 0 [jP D] [] h Q := by
  refine b_7_0 ?_
  refine ⟨(Ly.dt0 L hD :), ?_⟩
  rw [show jr h D 0 = (D + 1) from (Ly.dr0_0 L hD :)]
  refine ⟨(Ly.dt1 L hD :), ?_⟩
  refine b_7_8 ?_
  refine ⟨(Ly.dt0 L hD :), ?_⟩
  rw [show jr (wi h (D + 1) 3 0) D 1 = (D + 5) from (Ly.dr0_1 L hD :)]
  refine ⟨(Ly.dt5 L hD :), ?_⟩
  refine b_7_16 ?_
  refine ⟨(Ly.dt0 L hD :), ?_⟩
  rw [show jr (wi (wi h (D + 1) 3 0) (D + 5) 2 0) D 2 = (D + 14) from (Ly.dr0_2 L hD :)]
  refine ⟨(Ly.dt14 L hD :), ?_⟩
  have H := H (Ly.wi (Ly.wi L (a := (D + 1)) (k := 3) (x := 0) (by have := hD; unfold isD at this; omega)) (a := (D + 5)) (k := 2) (x := 0) (by have := hD; unfold isD at this; omega))
  obtain ⟨h1, e3, L2, H⟩ := H
  refine ⟨h1, e3, ?_⟩
  refine b_7_23 ?_
  refine ⟨(Ly.dt0 L2 hD :), ?_⟩
  rw [show jr h1 D 3 = (D + 18) from (Ly.dr0_3 L2 hD :)]
  refine ⟨(Ly.dt18 L2 hD :), ?_⟩
  obtain ⟨h4, e6, L5, H⟩ := H
  refine ⟨h4, e6, ?_⟩
  refine b_7_30 ?_
  refine ⟨(Ly.dt0 L5 hD :), ?_⟩
  rw [show jr h4 D 4 = (D + 22) from (Ly.dr0_4 L5 hD :)]
  refine ⟨(Ly.dt22 L5 hD :), ?_⟩
  obtain ⟨h7, e9, L8, H⟩ := H
  refine ⟨h7, e9, ?_⟩
  refine b_7_37 ?_
  refine ⟨(Ly.dt0 L8 hD :), ?_⟩
  refine b_7_42 ?_
  refine ⟨(Ly.dt0 L8 hD :), ?_⟩
  refine b_7_47 ?_
  refine ⟨(Ly.dt0 L8 hD :), ?_⟩
  refine b_7_52 ?_
  refine ⟨(Ly.dt0 (Ly.wr (Ly.wi (Ly.wi L8 (a := D) (k := 6) (x := 0) (by have := hD; unfold isD at this; omega)) (a := D) (k := 12) (x := 0) (by have := hD; unfold isD at this; omega)) (a := D) (k := 13) (b := 0) (by have := hD; unfold isD at this; unfold mutR; omega)) hD :), ?_⟩
  refine b_7_57 ?_
  exact H (Ly.wl (Ly.wr (Ly.wi (Ly.wi L8 (a := D) (k := 6) (x := 0) (by have := hD; unfold isD at this; omega)) (a := D) (k := 12) (x := 0) (by have := hD; unfold isD at this; omega)) (a := D) (k := 13) (b := 0) (by have := hD; unfold isD at this; unfold mutR; omega)))
set_option maxRecDepth 100000 in
theorem c_8_0 {p : Lpar} {d : Nat} {h : AH} {Q : Option AV → AH → Prop} {v1 : Int} (hd : 0 ≤ d) (L : Ly p h) {D : Nat} (hD : isD D) (H : (400 ≤ (ji h D 6) → Q none h) ∧ (¬ (400 ≤ (ji h D 6)) → 0 ≤ (ji h D 6) ∧ (ji h D 6) < 400 ∧ (Ly p (wi (wi h (D + 8) (Int.toNat (ji h D 6)) v1) D 6 (w32 ((ji (wi h (D + 8) (Int.toNat (ji h D 6)) v1) D 6) + 1))) → Q none (wi (wi h (D + 8) (Int.toNat (ji h D 6)) v1) D 6 (w32 ((ji (wi h (D + 8) (Int.toNat (ji h D 6)) v1) D 6) + 1)))))) : WF d 8 0 [jP D, jI v1] [] h Q := by
  refine b_8_0 ?_
  refine ⟨(Ly.dt0 L hD :), ?_⟩
  refine ⟨(Ly.dt0 L hD :), ?_⟩
  rw [show jr h D 5 = (D + 8) from (Ly.dr0_5 L hD :)]
  refine ⟨by rw [show jt h (D + 8) = _ from (Ly.dt8 L hD :)]; decide, by rw [show jt h (D + 8) = _ from (Ly.dt8 L hD :)]; decide, ?_⟩
  rw [show (jn h (D + 8) : Int) = 400 from by rw [show jn h (D + 8) = 400 from (Ly.dn8 L hD :)]; rfl]
  refine ⟨fun c3 => ?_, fun c3 => ?_⟩
  · have H := H.1 c3
    exact H
  · have H := H.2 c3
    refine ⟨(Ly.dt0 L hD :), ?_⟩
    refine ⟨(Ly.dt0 L hD :), ?_⟩
    obtain ⟨z1, z2, H⟩ := H
    refine ⟨inW_mk (N := 400) (Ly.dt8 L hD :) (Ly.dn8 L hD :) z1 z2, ?_⟩
    refine ⟨(Ly.dt0 L hD :), ?_⟩
    refine ⟨(Ly.dt0 L hD :), ?_⟩
    exact H (Ly.wi (Ly.wi L (a := (D + 8)) (k := Int.toNat (ji h D 6)) (x := v1) (by have := hD; unfold isD at this; omega)) (a := D) (k := 6) (x := w32 ((ji (wi h (D + 8) (Int.toNat (ji h D 6)) v1) D 6) + 1)) (by have := hD; unfold isD at this; omega))
set_option maxRecDepth 100000 in
theorem c_9_0 {p : Lpar} {d : Nat} {h : AH} {Q : Option AV → AH → Prop} {v1 : Int} (hd : 0 ≤ d) (L : Ly p h) {D : Nat} (hD : isD D) (H : (v1 < 0 → Q (some (jI 0)) h) ∧ (¬ (v1 < 0) → (v1 < (ji h D 6) → 0 ≤ v1 ∧ v1 < 400 ∧ Q (some (jI (ji h (D + 8) (Int.toNat v1)))) h) ∧ (¬ (v1 < (ji h D 6)) → Q (some (jI 0)) h))) : WF d 9 0 [jP D, jI v1] [] h Q := by
  refine b_9_0 ?_
  refine ⟨fun c4 => ?_, fun c4 => ?_⟩
  · have H := H.1 c4
    exact H
  · have H := H.2 c4
    refine ⟨(Ly.dt0 L hD :), ?_⟩
    refine ⟨fun c3 => ?_, fun c3 => ?_⟩
    · have H := H.1 c3
      refine ⟨(Ly.dt0 L hD :), ?_⟩
      rw [show jr h D 5 = (D + 8) from (Ly.dr0_5 L hD :)]
      obtain ⟨z1, z2, H⟩ := H
      refine ⟨inA_mk (N := 400) (Ly.dt8 L hD :) (Ly.dn8 L hD :) z1 z2, ?_⟩
      exact H
    · have H := H.2 c3
      exact H
set_option maxRecDepth 100000 in
theorem c_10_0 {p : Lpar} {d : Nat} {h : AH} {Q : Option AV → AH → Prop}  (hd : 0 ≤ d) (L : Ly p h) {D : Nat} (hD : isD D) (H : (40 < (ji h (D + 18) 5) → Q (some (jI 1)) h) ∧ (¬ (40 < (ji h (D + 18) 5)) → (40 < (ji h (D + 22) 5) → Q (some (jI 1)) h) ∧ (¬ (40 < (ji h (D + 22) 5)) → ((jcmp (jl h D 14) 20000) ≤ 0 → Q (some (jI 0)) h) ∧ (¬ ((jcmp (jl h D 14) 20000) ≤ 0) → Q (some (jI 1)) h)))) : WF d 10 0 [jP D] [] h Q := by
  refine b_10_0 ?_
  refine ⟨(Ly.dt0 L hD :), ?_⟩
  rw [show jr h D 3 = (D + 18) from (Ly.dr0_3 L hD :)]
  refine ⟨(Ly.dt18 L hD :), ?_⟩
  refine ⟨fun c3 => ?_, fun c3 => ?_⟩
  · have H := H.1 c3
    refine ⟨Or.inr rfl, ?_⟩
    exact H
  · have H := H.2 c3
    refine ⟨(Ly.dt0 L hD :), ?_⟩
    rw [show jr h D 4 = (D + 22) from (Ly.dr0_4 L hD :)]
    refine ⟨(Ly.dt22 L hD :), ?_⟩
    refine ⟨fun c2 => ?_, fun c2 => ?_⟩
    · have H := H.1 c2
      refine ⟨Or.inr rfl, ?_⟩
      exact H
    · have H := H.2 c2
      refine ⟨(Ly.dt0 L hD :), ?_⟩
      refine ⟨fun c1 => ?_, fun c1 => ?_⟩
      · have H := H.1 c1
        refine ⟨Or.inl rfl, ?_⟩
        exact H
      · have H := H.2 c1
        refine ⟨Or.inr rfl, ?_⟩
        exact H
set_option maxRecDepth 100000 in
theorem c_1_0 {p : Lpar} {d : Nat} {h : AH} {Q : Option AV → AH → Prop} {v1 : Int} (hd : 0 ≤ d) (L : Ly p h) {b N : Nat} (hb : isBy b N) (H : (v1 < 0 → Q (some (jI (-1))) h) ∧ (¬ (v1 < 0) → (v1 < (ji h b 1) → 0 ≤ v1 ∧ v1 < (N : Int) ∧ Q (some (jI (jand (ji h (b + 1) (Int.toNat v1)) 255))) h) ∧ (¬ (v1 < (ji h b 1)) → Q (some (jI (-1))) h))) : WF d 1 0 [jP b, jI v1] [] h Q := by
  refine b_1_0 ?_
  refine ⟨fun c4 => ?_, fun c4 => ?_⟩
  · have H := H.1 c4
    exact H
  · have H := H.2 c4
    refine ⟨(Ly.bt0 L hb :), ?_⟩
    refine ⟨fun c3 => ?_, fun c3 => ?_⟩
    · have H := H.1 c3
      refine ⟨(Ly.bt0 L hb :), ?_⟩
      rw [show jr h b 0 = (b + 1) from (Ly.br0 L hb :)]
      obtain ⟨z1, z2, H⟩ := H
      refine ⟨Or.inl (inA_mk (N := N) (Ly.bt1 L hb :) (Ly.bl1 L hb :) z1 z2), ?_⟩
      exact H
    · have H := H.2 c3
      exact H
set_option maxRecDepth 100000 in
theorem c_2_0 {p : Lpar} {d : Nat} {h : AH} {Q : Option AV → AH → Prop} {v1 : Int} (hd : 0 ≤ d) (L : Ly p h) {b N : Nat} (hb : isBy b N) (H : ((N : Int) ≤ (ji h b 1) → Q none h) ∧ (¬ ((N : Int) ≤ (ji h b 1)) → 0 ≤ (ji h b 1) ∧ (ji h b 1) < (N : Int) ∧ -128 ≤ (ji2b v1) ∧ (ji2b v1) ≤ 127 ∧ (Ly p (wi (wi h (b + 1) (Int.toNat (ji h b 1)) (ji2b v1)) b 1 (w32 ((ji (wi h (b + 1) (Int.toNat (ji h b 1)) (ji2b v1)) b 1) + 1))) → Q none (wi (wi h (b + 1) (Int.toNat (ji h b 1)) (ji2b v1)) b 1 (w32 ((ji (wi h (b + 1) (Int.toNat (ji h b 1)) (ji2b v1)) b 1) + 1)))))) : WF d 2 0 [jP b, jI v1] [] h Q := by
  refine b_2_0 ?_
  refine ⟨(Ly.bt0 L hb :), ?_⟩
  refine ⟨(Ly.bt0 L hb :), ?_⟩
  rw [show jr h b 0 = (b + 1) from (Ly.br0 L hb :)]
  refine ⟨by rw [show jt h (b + 1) = _ from (Ly.bt1 L hb :)]; decide, by rw [show jt h (b + 1) = _ from (Ly.bt1 L hb :)]; decide, ?_⟩
  rw [show jn h (b + 1) = N from (Ly.bl1 L hb :)]
  refine ⟨fun c5 => ?_, fun c5 => ?_⟩
  · have H := H.1 c5
    exact H
  · have H := H.2 c5
    refine ⟨(Ly.bt0 L hb :), ?_⟩
    refine ⟨(Ly.bt0 L hb :), ?_⟩
    obtain ⟨z1, z2, z3, z4, H⟩ := H
    refine ⟨Or.inl ⟨inW_mk (N := N) (Ly.bt1 L hb :) (Ly.bl1 L hb :) z1 z2, z3, z4⟩, ?_⟩
    refine ⟨(Ly.bt0 L hb :), ?_⟩
    refine ⟨(Ly.bt0 L hb :), ?_⟩
    exact H (Ly.wi (Ly.wi L (a := (b + 1)) (k := Int.toNat (ji h b 1)) (x := ji2b v1) (by have := hb; unfold isBy at this; omega)) (a := b) (k := 1) (x := w32 ((ji (wi h (b + 1) (Int.toNat (ji h b 1)) (ji2b v1)) b 1) + 1)) (by have := hb; unfold isBy at this; omega))
set_option maxRecDepth 100000 in
theorem c_3_0 {p : Lpar} {d : Nat} {h : AH} {Q : Option AV → AH → Prop} {a1 : Nat} (hd : 0 ≤ d) (L : Ly p h) {b N : Nat} (hb : isBy b N) (H : WF d 3 2 [jP b, jP a1, jI 0] [] h Q) : WF d 3 0 [jP b, jP a1, jU] [] h Q := by
  refine b_3_0 ?_
  exact H
set_option maxRecDepth 100000 in
theorem c_3_2 {p : Lpar} {d : Nat} {h : AH} {Q : Option AV → AH → Prop} {a1 : Nat} {v2 : Int} (hd : 0 ≤ d) (L : Ly p h) {b N : Nat} (hb : isBy b N) (H : jt h a1 = 60 ∧ ∃ x4 h1, jE d 189 [jP a1] h (some (jI x4)) h1 ∧ Ly p h1 ∧ (x4 ≤ v2 → Q none h1) ∧ (¬ (x4 ≤ v2) → jt h1 a1 = 60 ∧ ∃ x8 h5, jE d 190 [jP a1, jI v2] h1 (some (jI x8)) h5 ∧ Ly p h5 ∧ ∃ h9, jE d 2 [jP b, jI x8] h5 none h9 ∧ Ly p h9 ∧ WF d 3 2 [jP b, jP a1, jI (w32 (v2 + 1))] [] h9 Q)) : WF d 3 2 [jP b, jP a1, jI v2] [] h Q := by
  refine b_3_2 ?_
  obtain ⟨z14, H⟩ := H
  refine ⟨z14, ?_⟩
  obtain ⟨x4, h1, e3, L2, H⟩ := H
  refine ⟨x4, h1, e3, ?_⟩
  refine ⟨fun c13 => ?_, fun c13 => ?_⟩
  · have H := H.1 c13
    exact H
  · have H := H.2 c13
    obtain ⟨z12, H⟩ := H
    refine ⟨z12, ?_⟩
    obtain ⟨x8, h5, e7, L6, H⟩ := H
    refine ⟨x8, h5, e7, ?_⟩
    refine ⟨(Ly.bt0 L6 hb :), ?_⟩
    obtain ⟨h9, e11, L10, H⟩ := H
    refine ⟨h9, e11, ?_⟩
    exact H
set_option maxRecDepth 100000 in
theorem c_4_0 {p : Lpar} {d : Nat} {h : AH} {Q : Option AV → AH → Prop} {v1 : Int} (hd : 0 ≤ d) (L : Ly p h) {b N : Nat} (hb : isBy b N) (H : WF d 4 3 [jP b, jI v1, jI 24, jU] [] h Q) : WF d 4 0 [jP b, jI v1, jU, jU] [] h Q := by
  refine b_4_0 ?_
  exact H
set_option maxRecDepth 100000 in
theorem c_4_3 {p : Lpar} {d : Nat} {h : AH} {Q : Option AV → AH → Prop} {v1 : Int} {v2 : Int} {z3 : AV} (hd : 0 ≤ d) (L : Ly p h) {b N : Nat} (hb : isBy b N) (H : (v2 < 0 → Q none h) ∧ (¬ (v2 < 0) → ((jand (jush v1 v2) 255) = (0 : Int) → WF d 4 3 [jP b, jI v1, jI (w32 (v2 + (-8))), jI (jand (jush v1 v2) 255)] [] h Q) ∧ (¬ ((jand (jush v1 v2) 255) = (0 : Int)) → ∃ h1, jE d 2 [jP b, jI (jand (jush v1 v2) 255)] h none h1 ∧ Ly p h1 ∧ WF d 4 3 [jP b, jI v1, jI (w32 (v2 + (-8))), jI (jand (jush v1 v2) 255)] [] h1 Q))) : WF d 4 3 [jP b, jI v1, jI v2, z3] [] h Q := by
  refine b_4_3 ?_
  refine ⟨fun c5 => ?_, fun c5 => ?_⟩
  · have H := H.1 c5
    exact H
  · have H := H.2 c5
    refine ⟨fun c4 => ?_, fun c4 => ?_⟩
    · have H := H.1 c4
      exact H
    · have H := H.2 c4
      refine ⟨(Ly.bt0 L hb :), ?_⟩
      obtain ⟨h1, e3, L2, H⟩ := H
      refine ⟨h1, e3, ?_⟩
      exact H
set_option maxRecDepth 100000 in
theorem c_5_0 {p : Lpar} {d : Nat} {h : AH} {Q : Option AV → AH → Prop} {v1 : Int} (hd : 0 ≤ d) (L : Ly p h) {b N : Nat} (hb : isBy b N) (H : ((jcmp v1 0) ≤ 0 → WF d 5 23 [jP b, jL v1, jU, jL v1, jU, jI 1, jL (w64 (Int.tdiv v1 10)), jU] [] h Q) ∧ (¬ ((jcmp v1 0) ≤ 0) → WF d 5 23 [jP b, jL v1, jU, jL (w64 (-v1)), jU, jI 1, jL (w64 (Int.tdiv (w64 (-v1)) 10)), jU] [] h Q)) : WF d 5 0 [jP b, jL v1, jU, jU, jU, jU, jU, jU] [] h Q := by
  refine b_5_0 ?_
  refine ⟨fun c1 => ?_, fun c1 => ?_⟩
  · have H := H.1 c1
    refine b_5_13 ?_
    refine b_5_16 ?_
    refine ⟨by decide, ?_⟩
    exact H
  · have H := H.2 c1
    refine b_5_13 ?_
    refine b_5_16 ?_
    refine ⟨by decide, ?_⟩
    exact H
set_option maxRecDepth 100000 in
theorem c_5_23 {p : Lpar} {d : Nat} {h : AH} {Q : Option AV → AH → Prop} {v1 : Int} {v3 : Int} {v5 : Int} {v6 : Int} (hd : 0 ≤ d) (L : Ly p h) {b N : Nat} (hb : isBy b N) (H : ((jcmp v6 0) = (0 : Int) → ((w32 ((ji h b 1) + v5)) ≤ (N : Int) → WF d 5 77 [jP b, jL v1, jU, jL v3, jU, jI v5, jI (w32 ((ji h b 1) + v5)), jI (w32 ((w32 ((ji h b 1) + v5)) - 1))] [] h Q) ∧ (¬ ((w32 ((ji h b 1) + v5)) ≤ (N : Int)) → Q none h)) ∧ (¬ ((jcmp v6 0) = (0 : Int)) → (19 ≤ v5 → ((w32 ((ji h b 1) + v5)) ≤ (N : Int) → WF d 5 77 [jP b, jL v1, jU, jL v3, jU, jI v5, jI (w32 ((ji h b 1) + v5)), jI (w32 ((w32 ((ji h b 1) + v5)) - 1))] [] h Q) ∧ (¬ ((w32 ((ji h b 1) + v5)) ≤ (N : Int)) → Q none h)) ∧ (¬ (19 ≤ v5) → WF d 5 23 [jP b, jL v1, jU, jL v3, jU, jI (w32 (v5 + 1)), jL (w64 (Int.tdiv v6 10)), jU] [] h Q))) : WF d 5 23 [jP b, jL v1, jU, jL v3, jU, jI v5, jL v6, jU] [] h Q := by
  refine b_5_23 ?_
  refine ⟨fun c4 => ?_, fun c4 => ?_⟩
  · have H := H.1 c4
    refine ⟨(Ly.bt0 L hb :), ?_⟩
    refine b_5_60 ?_
    refine ⟨(Ly.bt0 L hb :), ?_⟩
    rw [show jr h b 0 = (b + 1) from (Ly.br0 L hb :)]
    refine ⟨by rw [show jt h (b + 1) = _ from (Ly.bt1 L hb :)]; decide, by rw [show jt h (b + 1) = _ from (Ly.bt1 L hb :)]; decide, ?_⟩
    rw [show jn h (b + 1) = N from (Ly.bl1 L hb :)]
    refine ⟨fun c1 => ?_, fun c1 => ?_⟩
    · have H := H.1 c1
      exact H
    · have H := H.2 c1
      exact H
  · have H := H.2 c4
    refine ⟨fun c3 => ?_, fun c3 => ?_⟩
    · have H := H.1 c3
      refine ⟨(Ly.bt0 L hb :), ?_⟩
      refine b_5_60 ?_
      refine ⟨(Ly.bt0 L hb :), ?_⟩
      rw [show jr h b 0 = (b + 1) from (Ly.br0 L hb :)]
      refine ⟨by rw [show jt h (b + 1) = _ from (Ly.bt1 L hb :)]; decide, by rw [show jt h (b + 1) = _ from (Ly.bt1 L hb :)]; decide, ?_⟩
      rw [show jn h (b + 1) = N from (Ly.bl1 L hb :)]
      refine ⟨fun c2 => ?_, fun c2 => ?_⟩
      · have H := H.1 c2
        exact H
      · have H := H.2 c2
        exact H
    · have H := H.2 c3
      refine ⟨by decide, ?_⟩
      refine b_5_48 ?_
      exact H
set_option maxRecDepth 100000 in
theorem c_5_77 {p : Lpar} {d : Nat} {h : AH} {Q : Option AV → AH → Prop} {v1 : Int} {v3 : Int} {v5 : Int} {v6 : Int} {v7 : Int} (hd : 0 ≤ d) (L : Ly p h) {b N : Nat} (hb : isBy b N) (H : (v7 < (ji h b 1) → (Ly p (wi h b 1 v6) → Q none (wi h b 1 v6))) ∧ (¬ (v7 < (ji h b 1)) → 0 ≤ v7 ∧ v7 < (N : Int) ∧ -128 ≤ (ji2b (w32 (w64 (48 - (w64 (Int.tmod v3 10)))))) ∧ (ji2b (w32 (w64 (48 - (w64 (Int.tmod v3 10)))))) ≤ 127 ∧ (Ly p (wi h (b + 1) (Int.toNat v7) (ji2b (w32 (w64 (48 - (w64 (Int.tmod v3 10))))))) → WF d 5 77 [jP b, jL v1, jU, jL (w64 (Int.tdiv v3 10)), jU, jI v5, jI v6, jI (w32 (v7 + (-1)))] [] (wi h (b + 1) (Int.toNat v7) (ji2b (w32 (w64 (48 - (w64 (Int.tmod v3 10))))))) Q))) : WF d 5 77 [jP b, jL v1, jU, jL v3, jU, jI v5, jI v6, jI v7] [] h Q := by
  refine b_5_77 ?_
  refine ⟨(Ly.bt0 L hb :), ?_⟩
  refine ⟨fun c5 => ?_, fun c5 => ?_⟩
  · have H := H.1 c5
    refine ⟨(Ly.bt0 L hb :), ?_⟩
    refine b_5_122 ?_
    exact H (Ly.wi L (a := b) (k := 1) (x := v6) (by have := hb; unfold isBy at this; omega))
  · have H := H.2 c5
    refine ⟨(Ly.bt0 L hb :), ?_⟩
    rw [show jr h b 0 = (b + 1) from (Ly.br0 L hb :)]
    refine ⟨by decide, ?_⟩
    obtain ⟨z1, z2, z3, z4, H⟩ := H
    refine ⟨Or.inl ⟨inW_mk (N := N) (Ly.bt1 L hb :) (Ly.bl1 L hb :) z1 z2, z3, z4⟩, ?_⟩
    refine b_5_104 ?_
    refine ⟨by decide, ?_⟩
    refine b_5_110 ?_
    exact H (Ly.wi L (a := (b + 1)) (k := Int.toNat v7) (x := ji2b (w32 (w64 (48 - (w64 (Int.tmod v3 10)))))) (by have := hb; unfold isBy at this; omega))
