/-! THE CLASS: the model is made -/
def lowP (c : Dc) (col : Nat) : Int := ((dB c).getD (owO (dS c) (dX c) col).toNat (0, 0)).1
def MdRw (h : AH) (c : Dc) (m : Nat) : Prop := ∀ row, row < m → (∀ j, j < 40 → jl h (97 + row) j = w64 (rowL c row j)) ∧ jl h 137 row = w64 (-(rowL c row 40))
def MdR (h : AH) (c : Dc) : Prop := MdRw h c (tot (dS c) (dR c)).toNat ∧ (¬ dG c = 0 → (∀ j, j < 40 → jl h 138 j = w64 (lin c (dE c) (fun _ => 0) j)) ∧ jl h 95 4 = w64 (lin c (dE c) (fun _ => 0) 40))
def PtR (h : AH) (m : Nat) (pt : Nat → Int) : Prop := ∀ col, col < m → ji h 139 col = pt col
abbrev pMo (p : Lpar) (a : Nat) : Lpar := (p.1, a, p.2.2)
section MMD
variable {p : Lpar} {d : Nat} {h h' h0 h1 h2 g : AH} {c : Dc} {row a1 : Nat} {Q : Option AV → AH → Prop}
theorem ly_mo (L : Ly p h) {a : Nat} (ha : isD a) : Ly (pMo p a) (wr h 95 0 a) := by
  obtain ⟨l1, l2, l3, l4, ⟨m1, -, m3, m4⟩, ⟨l6, l7, l8, l9⟩, l10⟩ := L
  have rj : ∀ b k, ¬ (b = 95 ∧ k = 0) → jr (wr h 95 0 a) b k = jr h b k := fun b k z => by rw [jr_wr, if_neg z]
  refine ⟨l1, fun e he => ?_, fun k hk => ?_, l4, ⟨m1, ha, m3, m4⟩, ⟨?_, by rw [jr_wr, if_pos ⟨rfl, rfl⟩], ?_, ?_⟩, fun b hb => ?_⟩
  · rw [rj _ _ (by have : ∀ e ∈ refL, ¬ (e.1 = 95 ∧ e.2.1 = 0) := by decide +kernel
                   exact this e he)]
    exact l2 e he
  · rw [rj _ _ (by omega)]; exact l3 k hk
  · rw [rj _ _ (by omega)]; exact l6
  · rw [rj _ _ (by omega)]; exact l8
  · rw [rj _ _ (by omega)]; exact l9
  · obtain ⟨q1, q2, q3⟩ := l10 b hb
    exact ⟨q1, q2, fun k => ⟨(q3 k).1, by rw [rj _ _ (by omega)]; exact (q3 k).2⟩⟩
theorem MdRw.fw {Z : Nat → Nat → Prop} {m : Nat} (M : MdRw h c m) (F : Fw Z h h') (z : ∀ row, row < m → (∀ j, ¬ Z (97 + row) j) ∧ ¬ Z 137 row) : MdRw h' c m := fun row hr => ⟨fun j hj => by rw [F.l ((z row hr).1 j)]; exact (M row hr).1 j hj, by rw [F.l (z row hr).2]; exact (M row hr).2⟩
theorem PtR.fw {Z : Nat → Nat → Prop} {m : Nat} {pt : Nat → Int} (M : PtR h m pt) (F : Fw Z h h') (z : ∀ k, ¬ Z 139 k) : PtR h' m pt := fun col hc => by rw [F.i (z col)]; exact M col hc
/-- the point stands at the lows -/
theorem mk_7 (hd : 10 ≤ d) (ht : tot (dS c) (dX c) ≤ 40) : ∀ (s i : Nat) (h : AH) (z3 : AV), (tot (dS c) (dX c)).toNat = i + s → MkC p c h → PtR h i (lowP c) → (∀ h' y3, MkC p c h' → Fw ZMd h h' → PtR h' (tot (dS c) (dX c)).toNat (lowP c) → WF d 13 71 [jP 95, jP a1, jI 0, y3] [] h' Q) → WF d 13 7 [jP 95, jP a1, jI (i : Int), z3] [] h Q := by
  intro s
  induction s with
  | zero =>
    intro i h z3 hi M P K
    have t0 := tot_r M.2.2.1.1.2.1 (dX c)
    have t0 : 0 ≤ tot (dS c) (dX c) := t0.1
    have e5 : ji h (pM p + 18) 5 = tot (dS c) (dX c) := M.2.1.2.2.1.2.1
    exact c_13_7 (by omega) M.1 ⟨fun _ => K h z3 M Fw.refl (by rw [hi]; exact P), fun z => by omega⟩
  | succ s ih =>
    intro i h z3 hi M P K
    have L := M.1
    have B := M.2.1
    have O := M.2.2.1
    have cn := O.cnt
    have t0 := tot_r O.1.2.1 (dX c)
    have t0 : 0 ≤ tot (dS c) (dX c) := t0.1
    have e5 : ji h (pM p + 18) 5 = tot (dS c) (dX c) := B.2.2.1.2.1
    have hT : isTh (pM p) (pM p + 18) 6 := ⟨L.iM, Or.inr (Or.inl ⟨rfl, rfl⟩)⟩
    have hk : ¬ owO (dS c) (dX c) (i : Int) = -1 := by
      unfold owO
      rw [if_neg (by omega)]
      omega
    obtain ⟨r1, r2, r3, r4, r5, r6⟩ := owO_r hk
    have ob := O.2.2.1
    have b6 := B.2.2.2.2.2.1 (owO (dS c) (dX c) (i : Int)).toNat (by omega)
    refine c_13_7 (by omega) L ⟨fun z => by omega, fun _ => ⟨fun z => by omega, fun _ => ⟨_, h, m_61 (S := dS c) (by omega) L L.iM hT O.1.2.1 B.2.2.1 O.1.2.2.2.2.1 cn.2.2.1, L, c_13_39 (by omega) L ⟨fun z => absurd z hk, fun _ => ⟨by omega, by omega, by omega, by omega, fun L2 => c_13_63 (by omega) L2 ?_⟩⟩⟩⟩⟩
    rw [b6.1, Int.toNat_natCast, w32_i (x := (i : Int) + 1) (by omega) (by omega)]
    have F : Fw ZMd h (wi h 139 i ((dB c).getD (owO (dS c) (dX c) (i : Int)).toNat (0, 0)).1) := (Fq.wi (by omega)).fm
    have q := ih (i + 1) (wi h 139 i ((dB c).getD (owO (dS c) (dX c) (i : Int)).toNat (0, 0)).1) (jI (owO (dS c) (dX c) (i : Int))) (by omega) (M.fm F) (fun col hc => by
      rw [ji_wi]
      by_cases z : col = i
      · rw [if_pos ⟨rfl, z⟩, z]; rfl
      · rw [if_neg (by omega)]; exact P col (by omega)) (fun h' y3 M' F' P' => K h' y3 M' (F.trans F') P')
    exact q
theorem mk_71 (hd : 45 ≤ d) (ht : tot (dS c) (dR c) ≤ 40) {m : Nat} {pt : Nat → Int} : ∀ (s i : Nat) (h : AH) (z3 : AV), (tot (dS c) (dR c)).toNat = i + s → MkC p c h → MdRw h c i → PtR h m pt → (∀ h' y2 y3, MkC p c h' → Fw ZMd h h' → MdRw h' c (tot (dS c) (dR c)).toNat → PtR h' m pt → ∃ h1, jE d 15 [jP 95, jP 138] h' none h1 ∧ Ly p h1 ∧ WF d 13 110 [jP 95, jP a1, jI y2, y3] [] h1 Q) → WF d 13 71 [jP 95, jP a1, jI (i : Int), z3] [] h Q := by
  intro s
  induction s with
  | zero =>
    intro i h z3 hi M W P K
    have t0 := tot_r M.2.2.1.1.2.1 (dR c)
    have t0 : 0 ≤ tot (dS c) (dR c) := t0.1
    have e5 : ji h (pM p + 22) 5 = tot (dS c) (dR c) := M.2.1.2.2.2.1.2.1
    exact c_13_71 (by omega) M.1 ⟨fun _ => K h _ z3 M Fw.refl (by rw [hi]; exact W) P, fun z => by omega⟩
  | succ s ih =>
    intro i h z3 hi M W P K
    have t0 := tot_r M.2.2.1.1.2.1 (dR c)
    have t0 : 0 ≤ tot (dS c) (dR c) := t0.1
    have e5 : ji h (pM p + 22) 5 = tot (dS c) (dR c) := M.2.1.2.2.2.1.2.1
    obtain ⟨h1, hE1, M1, F1, q1, q2⟩ := m_14 (d := d) (row := i) (by omega) M (by omega) (by omega)
    refine c_13_71 (by omega) M.1 ⟨fun z => by omega, fun _ => ⟨fun z => by omega, fun _ => ⟨h1, hE1, M1.1, c_13_96 (by omega) M1.1 ?_⟩⟩⟩
    rw [w32_i (x := (i : Int) + 1) (by omega) (by omega)]
    have q := ih (i + 1) h1 z3 (by omega) M1 (fun row hr => by
      by_cases z : row = i
      · rw [z]; exact ⟨q1, q2⟩
      · exact (W.fw F1 (fun r hr => ⟨fun j => by omega, by omega⟩)) row (by omega)) (P.fw F1 (fun k => by omega)) (fun h' y2 y3 M' F' W' P' => K h' y2 y3 M' ((F1.mono (fun a k z => by omega)).trans F') W' P')
    exact q
theorem m_16z (hd : 10 ≤ d) (L : Ly p h) {v x : Int} : jE d 16 [jP 95, jP 0, jL v, jI x] h none h := by
  obtain ⟨d, rfl⟩ : ∃ d', d = d' + 1 := ⟨d - 1, by omega⟩
  exact jE_eq (Nat.le_of_ble_eq_true rfl) (c_16_0 (by omega) L (c_16_3 (by omega) L ⟨by decide, fun _ => ⟨rfl, rfl⟩, fun z => absurd rfl z⟩))
/-- THE MODEL IS MADE -/
theorem m_13 (hd : 46 ≤ d) (L : Ly p h) (ha : isD a1) (B : DecB a1 c h) (O : okD c) (hV : (dV c).length ≤ 400) (tX : tot (dS c) (dX c) ≤ 40) (tR' : tot (dS c) (dR c) ≤ 40) : ∃ h', jE d 13 [jP 95, jP a1] h none h' ∧ MkC (pMo p a1) c h' ∧ Fw ZMd (wr h 95 0 a1) h' ∧ MdR h' c ∧ PtR h' (tot (dS c) (dX c)).toNat (lowP c) := by
  obtain ⟨d, rfl⟩ : ∃ d', d = d' + 1 := ⟨d - 1, by omega⟩
  suffices hh : ∃ w h', jE (d + 1) 13 [jP 95, jP a1] h w h' ∧ w = none ∧ MkC (pMo p a1) c h' ∧ Fw ZMd (wr h 95 0 a1) h' ∧ MdR h' c ∧ PtR h' (tot (dS c) (dX c)).toNat (lowP c) by
    obtain ⟨w, h', hE, rfl, q⟩ := hh
    exact ⟨h', hE, q⟩
  have L1 := ly_mo L ha
  have hb : 41 ≤ a1 ∧ a1 ≤ 67 := by unfold isD at ha; omega
  have M1 : MkC (pMo p a1) c (wr h 95 0 a1) := by
    have rj : ∀ b k, ¬ (b = 95 ∧ k = 0) → jr (wr h 95 0 a1) b k = jr h b k := fun b k z => by rw [jr_wr, if_neg z]
    refine ⟨L1, ?_, O, hV⟩
    obtain ⟨b1, b2, b3, b4, b5, b6, b7, b8, b9, b10⟩ := B
    have tm : ∀ {x : Ex} {a : Nat}, tR h x 3 NF (jx h) a 0 → tR (wr h 95 0 a1) x 3 NF (jx (wr h 95 0 a1)) a 0 := fun {x a} z => tR_mono z (Nat.le_refl _) (Nat.le_refl _) (fun q h1 h2 => ⟨rfl, fun _ => rfl, fun k => rj q k (by have hN : NF = 197 := rfl; omega)⟩)
    refine ⟨b1, b2, b3, b4, b5, b6, fun k hk => ⟨(b7 k hk).1, ?_, ?_⟩, b8, fun z => (rj _ _ (by omega)).trans (b9 z), fun z => ?_⟩
    · show tR _ _ 3 NF _ (jr (wr h 95 0 a1) (a1 + 12) k) 0
      rw [rj _ _ (by omega)]; exact tm (b7 k hk).2.1
    · show tR _ _ 3 NF _ (jr (wr h 95 0 a1) (a1 + 13) k) 0
      rw [rj _ _ (by omega)]; exact tm (b7 k hk).2.2
    · show tR _ _ 3 NF _ (jr (wr h 95 0 a1) a1 13) 0
      rw [rj _ _ (by omega)]; exact tm (b10 z)
  refine jE_of (as := [jP 95, jP a1]) (Nat.le_of_ble_eq_true rfl) (b_13_0 ⟨L.t95, c_13_5 (p := pMo p a1) (by omega) L1 ?_⟩)
  refine mk_7 (by omega) tX (tot (dS c) (dX c)).toNat 0 _ _ (by omega) M1 (fun col hc => absurd hc (Nat.not_lt_zero col)) (fun h2 y3 M2 F2 P2 => ?_)
  refine mk_71 (by omega) tR' (tot (dS c) (dR c)).toNat 0 h2 y3 (by omega) M2 (fun r hr => absurd hr (Nat.not_lt_zero r)) P2 (fun h3 y2 y3 M3 F3 W3 P3 => ?_)
  have hW : isW 138 := Or.inr rfl
  obtain ⟨h4, hE4, L4, j7, A4, F4⟩ := m_15 (d := d) (by omega) M3.1 hW
  have M4 : MkC (pMo p a1) c h4 := M3.fm (F4.mono (fun a k z => by omega))
  have W4 := W3.fw F4 (fun r hr => ⟨fun j => by omega, by omega⟩)
  have P4 := P3.fw F4 (fun k => by omega)
  have F14 : Fw ZMd (wr h 95 0 a1) h4 := (F2.trans F3).trans (F4.mono (fun a k z => by omega))
  have fin : ∀ h5, MkC (pMo p a1) c h5 → Fw (ZEv 138) h4 h5 → (¬ dG c = 0 → Acc h5 138 (fun j => lin c (dE c) (fun _ => 0) j)) → WF d 13 123 [jP 95, jP a1, jI y2, y3] [] h5 (fun w h' => w = none ∧ MkC (pMo p a1) c h' ∧ Fw ZMd (wr h 95 0 a1) h' ∧ MdR h' c ∧ PtR h' (tot (dS c) (dX c)).toNat (lowP c)) := by
    intro h5 M5 F5 A5
    refine c_13_123 (by omega) M5.1 (fun L6 => c_13_131 (by omega) L6 ?_)
    have F6 : Fq (fun a k => a = 95 ∧ k = 4) h5 (wl h5 95 4 (jl h5 95 8)) := Fq.wl ⟨rfl, rfl⟩
    refine ⟨rfl, M5.fm (F6.fm.mono (fun a k z => by omega)), (F14.trans (F5.mono (fun a k z => by omega))).trans (F6.fm.mono (fun a k z => by omega)), ⟨(W4.fw F5 (fun r hr => ⟨fun j => by omega, by omega⟩)).fw F6.fm (fun r hr => ⟨fun j => by omega, by omega⟩), fun z => ⟨fun j hj => ?_, ?_⟩⟩, (P4.fw F5 (fun k => by omega)).fw F6.fm (fun k => by omega)⟩
    · rw [jl_wl, if_neg (by omega)]; exact (A5 z).1 j hj
    · rw [jl_wl, if_pos ⟨rfl, rfl⟩]; exact (A5 z).2
  refine ⟨h4, hE4, L4, c_13_110 (p := pMo p a1) (by omega) L4 ?_⟩
  by_cases c0 : dG c = 0
  · have e0 : jr h4 a1 13 = 0 := M4.2.1.2.2.2.2.2.2.2.2.1 c0
    refine ⟨h4, ?_, L4, fin h4 M4 Fw.refl (fun z => absurd c0 z)⟩
    show jE d 16 [jP 95, jP (jr h4 a1 13), jL 1, jI 0] h4 none h4
    rw [e0]; exact m_16z (by omega) L4
  · have b10 : tR h4 (dE c) 3 NF (jx h4) (jr h4 a1 13) 0 := M4.2.1.2.2.2.2.2.2.2.2.2 c0
    obtain ⟨d', rfl⟩ : ∃ d', d = d' + 3 := ⟨d - 3, by omega⟩
    have S := s16 (pMo p a1) c 138 8 d' (by omega)
    obtain ⟨h5, hE5, E5, F5, N5, A5⟩ := S h4 (dE c) [] (jr h4 a1 13) NF (jx h4) (fun _ => 0) _ 1 1 0 (M4.ev hW j7) O.2.2.2.2.2.2.2.2.2.2.1 (by decide) b10 (Nat.le_refl _) (fun s hs => absurd hs (Nat.not_lt_zero s)) A4 rfl (by omega)
    exact ⟨h5, hE5, E5.1, fin h5 (M4.fm (evM hW F5)) F5.fm (fun _ => A5.cg (fun j _ => by show (0 : Int) + 1 * _ = _; omega))⟩
end MMD
