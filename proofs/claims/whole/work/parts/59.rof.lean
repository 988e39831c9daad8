/-! THE REFERENCE: an OF -/
abbrev ZA (A m : Nat) (a k : Nat) : Prop := ZF a k ∨ (a = A ∧ (k = 2 * m ∨ k = 2 * m + 1))
section ROF
variable {p : Lpar} {d : Nat} {h h' h0 h1 g : AH} {T : Txt} {e i k A : Nat} {c : Dc} {G : NmL} {n : Nat → Nat}
theorem e_126d (hd : 12 ≤ d) (L : Ly p h) (hq : ¬ ji h 141 6 = -1) : jE d 126 [jP 141, jP 147, jI 0] h none (wi (wi h 147 0 (-1)) 147 1 (-1)) := by
  obtain ⟨d, rfl⟩ : ∃ d', d = d' + 1 := ⟨d - 1, by omega⟩
  exact jE_eq (Nat.le_of_ble_eq_true rfl) (c_126d_0 (by omega) L ⟨by decide, by decide, by decide, by decide, fun z => absurd z hq, fun _ _ => ⟨rfl, rfl⟩⟩)
theorem o_126d (hd : 20 ≤ d) (R : RT p T e h) (K : RtR T e i h) (M : NmM h G n) {m : Nat} (hm : m < 6) : ∃ w h', jE d 126 [jP 141, jP 147, jI ((2 * m : Nat) : Int)] h w h' ∧ (w = none ∧ Ly p h' ∧ Fq (ZA 147 m) h h' ∧ RV T e (pOf T G i) (fun o => o.2.2) (fun o => ji h' 147 (2 * m) = o.1 ∧ ji h' 147 (2 * m + 1) = o.2.1) h') := by
  obtain ⟨d, rfl⟩ : ∃ d', d = d' + 1 := ⟨d - 1, by omega⟩
  have L := R.1
  refine jE_of (as := [jP 141, jP 147, jI ((2 * m : Nat) : Int)]) (Nat.le_of_ble_eq_true rfl) (c_126d_0 (by omega) L ?_)
  rw [w32_i (x := ((2 * m : Nat) : Int) + 1) (by omega) (by omega), Int.toNat_natCast, show (((2 * m : Nat) : Int) + 1).toNat = 2 * m + 1 by omega]
  have g0 : ∀ {x : AH} {y : Int}, Fq (ZA 147 m) x (wi x 147 (2 * m) y) := Fq.wi (by omega)
  have g1 : ∀ {x : AH} {y : Int}, Fq (ZA 147 m) x (wi x 147 (2 * m + 1) y) := Fq.wi (by omega)
  have b0 : ∀ {x : AH} {y : Int}, Fq (fun a k => a = 147) x (wi x 147 (2 * m) y) := Fq.wi (by omega)
  have b1 : ∀ {x : AH} {y : Int}, Fq (fun a k => a = 147) x (wi x 147 (2 * m + 1) y) := Fq.wi (by omega)
  have rt : ∀ {x y : AH}, RT p T e x → Fq (ZA 147 m) x y → RT p T e y := fun r f => r.fq f (fun a k z => by omega) (by omega) (fun k => by omega)
  have nm : ∀ {x y : AH}, NmM x G n → Fq (ZA 147 m) x y → NmM y G n := fun r f => r.fq f (fun k z => by omega) (fun a k z => by omega)
  have zf : ∀ {x y : AH}, Fq ZF x y → Fq (ZA 147 m) x y := fun f => f.mono (fun a k z => by omega)
  have F1 : Fq (ZA 147 m) h (wi (wi h 147 (2 * m) (-1)) 147 (2 * m + 1) (-1)) := g0.trans g1
  have K1 : RtR T e i (wi (wi h 147 (2 * m) (-1)) 147 (2 * m + 1) (-1)) := (K.fq b0 (fun k _ _ => by omega)).fq b1 (fun k _ _ => by omega)
  have r1 : ji (wi (wi h 147 (2 * m) (-1)) 147 (2 * m + 1) (-1)) 147 (2 * m) = -1 := by rw [ji_wi, if_neg (by omega), ji_wi, if_pos ⟨rfl, rfl⟩]
  have r2 : ji (wi (wi h 147 (2 * m) (-1)) 147 (2 * m + 1) (-1)) 147 (2 * m + 1) = -1 := by rw [ji_wi, if_pos ⟨rfl, rfl⟩]
  generalize wi (wi h 147 (2 * m) (-1)) 147 (2 * m + 1) (-1) = g1' at *
  refine ⟨by omega, by omega, by omega, by omega, fun _ => ⟨fun c1 L1 => ?_, fun c1 L1 => ⟨rfl, L1, F1, ?_⟩⟩, fun z => absurd K.2.2.2.2.2.2 z⟩
  · have c1 : tkK T i = 191 := K.2.1.symm.trans c1
    have R1 := rt R F1
    obtain ⟨h2, hE2, L2, G2, K2⟩ := t_118 (d := d) (by omega) R1 K1 (by rw [c1]; decide)
    have F2 := F1.trans (zf G2.toF)
    obtain ⟨x8, h5, hE5, L5, G5, S5⟩ := t_125 (d := d) (s := .ok (i + 1)) (by omega) (rt R F2) K2 (nm M F2)
    have F5 := F2.trans (zf G5)
    have s5 : ji h5 147 (2 * m + 1) = -1 := by rw [G5.i (by omega), G2.i (by omega)]; exact r2
    refine ⟨h2, hE2, L2, x8, h5, hE5, L5, by omega, by omega, ?_⟩
    have eO : pOf T G i = xb (pSetN T G (i + 1)) fun q => if tkK T q.2 = 144 then xb (pSetN T G (q.2 + 1)) fun r => xb (pTake T 193 r.2) fun j => .ok (q.1, r.1, j) else xb (pTake T 193 q.2) fun j => .ok (q.1, -1, j) := by unfold pOf; rw [if_pos c1]
    have F6 : Fq (ZA 147 m) h (wi h5 147 (2 * m) x8) := F5.trans g0
    have S5 : RV T e (pSetN T G (i + 1)) (fun r => r.2) (fun r => x8 = r.1) h5 := S5
    rcases S5.cs with ⟨q, hr, h6⟩ | ⟨a, hr, va, K5⟩
    · rw [hr] at eO
      have e6 : ji (wi h5 147 (2 * m) x8) 141 6 = (q : Int) := by rw [ji_wi, if_neg (by omega)]; exact h6
      refine ⟨fun z => by omega, fun _ L6 => ⟨0, _, e_121 (by omega) L6 (nq e6), L6, rfl, L6, F6, ?_⟩⟩
      rw [eO]; exact e6
    · rw [hr, xb_pure] at eO
      have K6 : RtR T e a.2 (wi h5 147 (2 * m) x8) := K5.fq b0 (fun k _ _ => by omega)
      have s6 : ji (wi h5 147 (2 * m) x8) 147 (2 * m) = a.1 := by rw [ji_wi, if_pos ⟨rfl, rfl⟩]; exact va
      have t6 : ji (wi h5 147 (2 * m) x8) 147 (2 * m + 1) = -1 := by rw [ji_wi, if_neg (by omega)]; exact s5
      refine ⟨fun _ => ⟨fun c2 L6 => ?_, fun c2 L6 => ?_⟩, fun z => absurd K5.2.2.2.2.2.2 z⟩
      · have c2 : tkK T a.2 = 144 := K5.2.1.symm.trans c2
        rw [if_pos c2] at eO
        obtain ⟨h7, hE7, L7, G7, K7⟩ := t_118 (d := d) (by omega) (rt R F6) K6 (by rw [c2]; decide)
        have F7 := F6.trans (zf G7.toF)
        obtain ⟨x20, h8, hE8, L8, G8, S8⟩ := t_125 (d := d) (s := .ok (a.2 + 1)) (by omega) (rt R F7) K7 (nm M F7)
        have F8 := F7.trans (zf G8)
        have F9 : Fq (ZA 147 m) h (wi h8 147 (2 * m + 1) x20) := F8.trans g1
        have s9 : ji (wi h8 147 (2 * m + 1) x20) 147 (2 * m) = a.1 := by rw [ji_wi, if_neg (by omega), G8.i (by omega), G7.i (by omega)]; exact s6
        refine ⟨h7, hE7, L7, x20, h8, hE8, L8, by omega, by omega, fun L9 => ?_⟩
        have S8 : RV T e (pSetN T G (a.2 + 1)) (fun r => r.2) (fun r => x20 = r.1) h8 := S8
        rcases S8.cs with ⟨q, hr, h6⟩ | ⟨b, hr, vb, K8⟩
        · rw [hr] at eO
          have e6 : ji (wi h8 147 (2 * m + 1) x20) 141 6 = (q : Int) := by rw [ji_wi, if_neg (by omega)]; exact h6
          refine ⟨0, _, e_121 (by omega) L9 (nq e6), L9, rfl, L9, F9, ?_⟩
          rw [eO]; exact e6
        · rw [hr, xb_pure] at eO
          have K9 : RtR T e b.2 (wi h8 147 (2 * m + 1) x20) := K8.fq b1 (fun k _ _ => by omega)
          have t9 : ji (wi h8 147 (2 * m + 1) x20) 147 (2 * m + 1) = b.1 := by rw [ji_wi, if_pos ⟨rfl, rfl⟩]; exact vb
          by_cases c3 : tkK T b.2 = 193
          · obtain ⟨h10, hE10, L10, G10, K10⟩ := y_121 (d := d) (x := 93) (by omega) (rt R F9) K9 c3 (by decide) (by decide)
            refine ⟨1, h10, hE10, L10, rfl, L10, F9.trans (zf G10.toF), ?_⟩
            rw [eO, take_y c3]
            exact ⟨⟨by rw [G10.i (by omega)]; exact s9, by rw [G10.i (by omega)]; exact t9⟩, K10⟩
          · refine ⟨0, _, n_121 (by omega) L9 K9 c3 (by decide), L9.wi (by decide), rfl, L9.wi (by decide), F9.trans (zf f6), ?_⟩
            rw [eO, take_n c3]; exact w6_r
      · have c2 : ¬ tkK T a.2 = 144 := fun z => c2 (K5.2.1.trans z)
        rw [if_neg c2] at eO
        by_cases c3 : tkK T a.2 = 193
        · obtain ⟨h10, hE10, L10, G10, K10⟩ := y_121 (d := d) (x := 93) (by omega) (rt R F6) K6 c3 (by decide) (by decide)
          refine ⟨1, h10, hE10, L10, rfl, L10, F6.trans (zf G10.toF), ?_⟩
          rw [eO, take_y c3]
          exact ⟨⟨by rw [G10.i (by omega)]; exact s6, by rw [G10.i (by omega)]; exact t6⟩, K10⟩
        · refine ⟨0, _, n_121 (by omega) L6 K6 c3 (by decide), L6.wi (by decide), rfl, L6.wi (by decide), F6.trans (zf f6), ?_⟩
          rw [eO, take_n c3]; exact w6_r
  · have eO : pOf T G i = .ok (-1, -1, i) := by unfold pOf; rw [if_neg (fun z => c1 (K.2.1.trans z))]
    rw [eO]
    exact ⟨⟨r1, r2⟩, K1⟩
theorem e_126v (hd : 12 ≤ d) (L : Ly p h) (hq : ¬ ji h 141 6 = -1) : jE d 126 [jP 141, jP 150, jI 0] h none (wi (wi h 150 0 (-1)) 150 1 (-1)) := by
  obtain ⟨d, rfl⟩ : ∃ d', d = d' + 1 := ⟨d - 1, by omega⟩
  exact jE_eq (Nat.le_of_ble_eq_true rfl) (c_126v_0 (by omega) L ⟨by decide, by decide, by decide, by decide, fun z => absurd z hq, fun _ _ => ⟨rfl, rfl⟩⟩)
theorem o_126v (hd : 20 ≤ d) (R : RT p T e h) (K : RtR T e i h) (M : NmM h G n) {m : Nat} (hm : m < 6) : ∃ w h', jE d 126 [jP 141, jP 150, jI ((2 * m : Nat) : Int)] h w h' ∧ (w = none ∧ Ly p h' ∧ Fq (ZA 150 m) h h' ∧ RV T e (pOf T G i) (fun o => o.2.2) (fun o => ji h' 150 (2 * m) = o.1 ∧ ji h' 150 (2 * m + 1) = o.2.1) h') := by
  obtain ⟨d, rfl⟩ : ∃ d', d = d' + 1 := ⟨d - 1, by omega⟩
  have L := R.1
  refine jE_of (as := [jP 141, jP 150, jI ((2 * m : Nat) : Int)]) (Nat.le_of_ble_eq_true rfl) (c_126v_0 (by omega) L ?_)
  rw [w32_i (x := ((2 * m : Nat) : Int) + 1) (by omega) (by omega), Int.toNat_natCast, show (((2 * m : Nat) : Int) + 1).toNat = 2 * m + 1 by omega]
  have g0 : ∀ {x : AH} {y : Int}, Fq (ZA 150 m) x (wi x 150 (2 * m) y) := Fq.wi (by omega)
  have g1 : ∀ {x : AH} {y : Int}, Fq (ZA 150 m) x (wi x 150 (2 * m + 1) y) := Fq.wi (by omega)
  have b0 : ∀ {x : AH} {y : Int}, Fq (fun a k => a = 150) x (wi x 150 (2 * m) y) := Fq.wi (by omega)
  have b1 : ∀ {x : AH} {y : Int}, Fq (fun a k => a = 150) x (wi x 150 (2 * m + 1) y) := Fq.wi (by omega)
  have rt : ∀ {x y : AH}, RT p T e x → Fq (ZA 150 m) x y → RT p T e y := fun r f => r.fq f (fun a k z => by omega) (by omega) (fun k => by omega)
  have nm : ∀ {x y : AH}, NmM x G n → Fq (ZA 150 m) x y → NmM y G n := fun r f => r.fq f (fun k z => by omega) (fun a k z => by omega)
  have zf : ∀ {x y : AH}, Fq ZF x y → Fq (ZA 150 m) x y := fun f => f.mono (fun a k z => by omega)
  have F1 : Fq (ZA 150 m) h (wi (wi h 150 (2 * m) (-1)) 150 (2 * m + 1) (-1)) := g0.trans g1
  have K1 : RtR T e i (wi (wi h 150 (2 * m) (-1)) 150 (2 * m + 1) (-1)) := (K.fq b0 (fun k _ _ => by omega)).fq b1 (fun k _ _ => by omega)
  have r1 : ji (wi (wi h 150 (2 * m) (-1)) 150 (2 * m + 1) (-1)) 150 (2 * m) = -1 := by rw [ji_wi, if_neg (by omega), ji_wi, if_pos ⟨rfl, rfl⟩]
  have r2 : ji (wi (wi h 150 (2 * m) (-1)) 150 (2 * m + 1) (-1)) 150 (2 * m + 1) = -1 := by rw [ji_wi, if_pos ⟨rfl, rfl⟩]
  generalize wi (wi h 150 (2 * m) (-1)) 150 (2 * m + 1) (-1) = g1' at *
  refine ⟨by omega, by omega, by omega, by omega, fun _ => ⟨fun c1 L1 => ?_, fun c1 L1 => ⟨rfl, L1, F1, ?_⟩⟩, fun z => absurd K.2.2.2.2.2.2 z⟩
  · have c1 : tkK T i = 191 := K.2.1.symm.trans c1
    have R1 := rt R F1
    obtain ⟨h2, hE2, L2, G2, K2⟩ := t_118 (d := d) (by omega) R1 K1 (by rw [c1]; decide)
    have F2 := F1.trans (zf G2.toF)
    obtain ⟨x8, h5, hE5, L5, G5, S5⟩ := t_125 (d := d) (s := .ok (i + 1)) (by omega) (rt R F2) K2 (nm M F2)
    have F5 := F2.trans (zf G5)
    have s5 : ji h5 150 (2 * m + 1) = -1 := by rw [G5.i (by omega), G2.i (by omega)]; exact r2
    refine ⟨h2, hE2, L2, x8, h5, hE5, L5, by omega, by omega, ?_⟩
    have eO : pOf T G i = xb (pSetN T G (i + 1)) fun q => if tkK T q.2 = 144 then xb (pSetN T G (q.2 + 1)) fun r => xb (pTake T 193 r.2) fun j => .ok (q.1, r.1, j) else xb (pTake T 193 q.2) fun j => .ok (q.1, -1, j) := by unfold pOf; rw [if_pos c1]
    have F6 : Fq (ZA 150 m) h (wi h5 150 (2 * m) x8) := F5.trans g0
    have S5 : RV T e (pSetN T G (i + 1)) (fun r => r.2) (fun r => x8 = r.1) h5 := S5
    rcases S5.cs with ⟨q, hr, h6⟩ | ⟨a, hr, va, K5⟩
    · rw [hr] at eO
      have e6 : ji (wi h5 150 (2 * m) x8) 141 6 = (q : Int) := by rw [ji_wi, if_neg (by omega)]; exact h6
      refine ⟨fun z => by omega, fun _ L6 => ⟨0, _, e_121 (by omega) L6 (nq e6), L6, rfl, L6, F6, ?_⟩⟩
      rw [eO]; exact e6
    · rw [hr, xb_pure] at eO
      have K6 : RtR T e a.2 (wi h5 150 (2 * m) x8) := K5.fq b0 (fun k _ _ => by omega)
      have s6 : ji (wi h5 150 (2 * m) x8) 150 (2 * m) = a.1 := by rw [ji_wi, if_pos ⟨rfl, rfl⟩]; exact va
      have t6 : ji (wi h5 150 (2 * m) x8) 150 (2 * m + 1) = -1 := by rw [ji_wi, if_neg (by omega)]; exact s5
      refine ⟨fun _ => ⟨fun c2 L6 => ?_, fun c2 L6 => ?_⟩, fun z => absurd K5.2.2.2.2.2.2 z⟩
      · have c2 : tkK T a.2 = 144 := K5.2.1.symm.trans c2
        rw [if_pos c2] at eO
        obtain ⟨h7, hE7, L7, G7, K7⟩ := t_118 (d := d) (by omega) (rt R F6) K6 (by rw [c2]; decide)
        have F7 := F6.trans (zf G7.toF)
        obtain ⟨x20, h8, hE8, L8, G8, S8⟩ := t_125 (d := d) (s := .ok (a.2 + 1)) (by omega) (rt R F7) K7 (nm M F7)
        have F8 := F7.trans (zf G8)
        have F9 : Fq (ZA 150 m) h (wi h8 150 (2 * m + 1) x20) := F8.trans g1
        have s9 : ji (wi h8 150 (2 * m + 1) x20) 150 (2 * m) = a.1 := by rw [ji_wi, if_neg (by omega), G8.i (by omega), G7.i (by omega)]; exact s6
        refine ⟨h7, hE7, L7, x20, h8, hE8, L8, by omega, by omega, fun L9 => ?_⟩
        have S8 : RV T e (pSetN T G (a.2 + 1)) (fun r => r.2) (fun r => x20 = r.1) h8 := S8
        rcases S8.cs with ⟨q, hr, h6⟩ | ⟨b, hr, vb, K8⟩
        · rw [hr] at eO
          have e6 : ji (wi h8 150 (2 * m + 1) x20) 141 6 = (q : Int) := by rw [ji_wi, if_neg (by omega)]; exact h6
          refine ⟨0, _, e_121 (by omega) L9 (nq e6), L9, rfl, L9, F9, ?_⟩
          rw [eO]; exact e6
        · rw [hr, xb_pure] at eO
          have K9 : RtR T e b.2 (wi h8 150 (2 * m + 1) x20) := K8.fq b1 (fun k _ _ => by omega)
          have t9 : ji (wi h8 150 (2 * m + 1) x20) 150 (2 * m + 1) = b.1 := by rw [ji_wi, if_pos ⟨rfl, rfl⟩]; exact vb
          by_cases c3 : tkK T b.2 = 193
          · obtain ⟨h10, hE10, L10, G10, K10⟩ := y_121 (d := d) (x := 93) (by omega) (rt R F9) K9 c3 (by decide) (by decide)
            refine ⟨1, h10, hE10, L10, rfl, L10, F9.trans (zf G10.toF), ?_⟩
            rw [eO, take_y c3]
            exact ⟨⟨by rw [G10.i (by omega)]; exact s9, by rw [G10.i (by omega)]; exact t9⟩, K10⟩
          · refine ⟨0, _, n_121 (by omega) L9 K9 c3 (by decide), L9.wi (by decide), rfl, L9.wi (by decide), F9.trans (zf f6), ?_⟩
            rw [eO, take_n c3]; exact w6_r
      · have c2 : ¬ tkK T a.2 = 144 := fun z => c2 (K5.2.1.trans z)
        rw [if_neg c2] at eO
        by_cases c3 : tkK T a.2 = 193
        · obtain ⟨h10, hE10, L10, G10, K10⟩ := y_121 (d := d) (x := 93) (by omega) (rt R F6) K6 c3 (by decide) (by decide)
          refine ⟨1, h10, hE10, L10, rfl, L10, F6.trans (zf G10.toF), ?_⟩
          rw [eO, take_y c3]
          exact ⟨⟨by rw [G10.i (by omega)]; exact s6, by rw [G10.i (by omega)]; exact t6⟩, K10⟩
        · refine ⟨0, _, n_121 (by omega) L6 K6 c3 (by decide), L6.wi (by decide), rfl, L6.wi (by decide), F6.trans (zf f6), ?_⟩
          rw [eO, take_n c3]; exact w6_r
  · have eO : pOf T G i = .ok (-1, -1, i) := by unfold pOf; rw [if_neg (fun z => c1 (K.2.1.trans z))]
    rw [eO]
    exact ⟨⟨r1, r2⟩, K1⟩
end ROF
