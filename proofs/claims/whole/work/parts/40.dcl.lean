-- needs: 20.num 21.lay 22.spec 23.va 24.leaf 25.tbls 26.thg 27.tok 29.fr 30.tree 28.vb1 28.vb2 28.vb3 31.ctx 32.rd1 33.rd2 34.lvl 35.loop 36.inn 37.fac 38.eok 39.dok
/-! THE READER: names, OFs, values -/
abbrev ZN (D a : Nat) : Prop := a = 37 ∨ (D + 1 ≤ a ∧ a ≤ D + 4)
abbrev ZO (a : Nat) : Prop := a = 37 ∨ a = 93
section DCL
variable {p : Lpar} {d : Nat} {h h' h1 h2 : AH} {G : NmL} {T : Txt} {e i : Nat} {S : List (Int × Int)}
theorem r_33 (hd : 11 ≤ d) (L : Ly p h) (K : TokR T e i h) (hR : NmR h (pT p) G) (hG : okG G) (hl : G.length < 46) (hs : ¬ (tkK T i = 3 ∨ tkK T i = 4)) {s : Int} {n m : Nat} : ∃ v h', jE d 33 [jP 93, jI s, jI (n : Int), jI (m : Int)] h (some (jI v)) h' ∧ Ly p h' ∧ Fe (ZN (pT p)) h h' ∧ ∃ i', TokR T e i' h' ∧ i ≤ i' ∧ Rs (pName T G n m i) (fun q => v = 0 ∧ ji h' 37 5 = -10 - (q : Int)) (fun r => v = 1 ∧ i' = r.2 ∧ NmR h' (pT p) (G ++ [(r.1, s, (n : Int))])) := by
  obtain ⟨d, rfl⟩ : ∃ d', d = d' + 1 := ⟨d - 1, by omega⟩
  have hT := L.iT'
  have hx := L.nx
  have hN : NF = 197 := rfl
  have key : WF d 33 0 [jP 93, jI s, jI (n : Int), jI (m : Int)] [] h (fun w h' => ∃ v, w = some (jI v) ∧ Ly p h' ∧ Fe (ZN (pT p)) h h' ∧ ∃ i', TokR T e i' h' ∧ i ≤ i' ∧ Rs (pName T G n m i) (fun q => v = 0 ∧ ji h' 37 5 = -10 - (q : Int)) (fun r => v = 1 ∧ i' = r.2 ∧ NmR h' (pT p) (G ++ [(r.1, s, (n : Int))]))) := by
    have w37 : ∀ {h : AH} {k : Nat} {x : Int}, Fe (ZN (pT p)) h (wi h 37 k x) := fun {h k x} => Fe.wi (Or.inl rfl)
    refine c_33_0 (by omega) L K ⟨hs, fun c => ⟨fun c2 L1 K1 => ?_, fun c2 L1 K1 => ?_⟩, fun c L1 K1 => ?_⟩
    · refine ⟨0, rfl, L1, w37.trans w37, i + 1, K1, by omega, ?_⟩
      unfold pName
      rw [if_neg (by omega)]
      exact ⟨rfl, flt_r⟩
    · have R1 : NmR (wi h 37 4 ((i + 1 : Nat) : Int)) (pT p) G := hR.cg (fun a k g1 g2 => by rw [ji_wi, if_neg (by omega)])
      refine ⟨_, _, m_25 (by omega) L1 L1.iT R1 hG.1, L1, _, K1, ?_⟩
      rw [nmT_lk K1 hG]
      have el : lkT G T (i + 1) = lkNm G (tkN T (i + 1)) := by unfold lkT; rw [if_pos c]
      rw [el]
      refine ⟨fun c3 => ?_, fun c3 L2 K2 => ?_⟩
      · have nm : nmT T (i + 1) = c256 (tkN T (i + 1)) := by unfold nmT; rw [if_pos c, (K1.ok.2.2.2.1 c).1]
        rw [nm]
        obtain ⟨h3, hE, L3, f3, n3⟩ := m_24 (d := d) (by omega) L1 L1.iT R1 hl (l := tkN T (i + 1)) (s := s) (n := (n : Int))
        have K3 : TokR T e (i + 1) h3 := K1.cg (fun a k g1 g2 => f3.1.ji (by show a < jx h; omega) (by omega) k)
        refine ⟨h3, hE, L3, _, K3, ns c (by decide), fun L4 K4 => ?_⟩
        refine ⟨1, rfl, L4, (w37.trans (f3.mono (fun a _ z => Or.inr z))).trans w37, i + 1 + 1, K4, by omega, ?_⟩
        unfold pName
        rw [if_pos ⟨c, by omega, c3⟩]
        exact ⟨rfl, rfl, n3.cg (fun a k g1 g2 => by rw [ji_wi, if_neg (by omega)])⟩
      · refine ⟨0, rfl, L2, w37.trans w37, i + 1, K2, by omega, ?_⟩
        unfold pName
        rw [if_neg (fun z => c3 z.2.2)]
        exact ⟨rfl, flt_r⟩
    · refine ⟨0, rfl, L1, w37.trans w37, i + 1, K1, by omega, ?_⟩
      unfold pName
      rw [if_neg (fun z => c z.1)]
      exact ⟨rfl, flt_r⟩
  obtain ⟨w, h', hE, v, rfl, r⟩ := jE_of (as := [jP 93, jI s, jI (n : Int), jI (m : Int)]) (Nat.le_of_ble_eq_true rfl) key
  exact ⟨v, h', hE, r⟩
theorem r_41 (hd : 11 ≤ d) (L : Ly p h) (K : TokR T e i h) (hR : NmR h (pT p) G) (hG : okG G) : ∃ v h', jE d 41 [jP 93] h (some (jI v)) h' ∧ Ly p h' ∧ Fe Z37 h h' ∧ ∃ i', TokR T e i' h' ∧ i ≤ i' ∧ Rs (pSetN T G i) (fun q => v = -1 ∧ ji h' 37 5 = -10 - (q : Int)) (fun r => v = r.1 ∧ ¬ v = -1 ∧ i' = r.2) := by
  obtain ⟨d, rfl⟩ : ∃ d', d = d' + 1 := ⟨d - 1, by omega⟩
  have key : WF d 41 0 [jP 93, jU] [] h (fun w h' => ∃ v, w = some (jI v) ∧ Ly p h' ∧ Fe Z37 h h' ∧ ∃ i', TokR T e i' h' ∧ i ≤ i' ∧ Rs (pSetN T G i) (fun q => v = -1 ∧ ji h' 37 5 = -10 - (q : Int)) (fun r => v = r.1 ∧ ¬ v = -1 ∧ i' = r.2)) := by
    refine c_41_0 (by omega) L K ⟨_, _, m_26 (by omega) L L.iT hR hG.1, L, _, K, ?_⟩
    rw [nmT_fd K hG (by omega)]
    by_cases c : (lkT G T i).1 = 0
    · have m := lkT_mem (G := G) (T := T) (i := i) (by omega)
      have b := (hG.2.1 _ m.2).2.2.2.1
      have b : 0 ≤ (lkT G T i).2 := b
      rw [if_pos c]
      refine ⟨fun z => by omega, fun z => ⟨ns m.1 (by decide), fun L1 K1 => ⟨_, rfl, L1, F37, _, K1, by omega, ?_⟩⟩⟩
      unfold pSetN; rw [if_pos c]; exact ⟨rfl, z, rfl⟩
    · rw [if_neg c]
      refine ⟨fun _ L1 K1 => ⟨_, rfl, L1, F37, _, K1, by omega, ?_⟩, fun z => absurd rfl z⟩
      unfold pSetN; rw [if_neg c]; exact ⟨rfl, flt_r⟩
  obtain ⟨w, h', hE, v, rfl, r⟩ := jE_of (as := [jP 93]) (Nat.le_of_ble_eq_true rfl) key
  exact ⟨v, h', hE, r⟩
def P42 (p : Lpar) (T : Txt) (e i : Nat) (h : AH) (w : Option AV) (h' : AH) : Prop := ∃ v, w = some (jI v) ∧ Ly p h' ∧ Fe ZO h h' ∧ (∀ k, ¬ k = 2 → ji h' 93 k = ji h 93 k) ∧ (∀ k, jl h' 93 k = jl h 93 k) ∧ ∃ i', TokR T e i' h' ∧ i ≤ i' ∧ Rs (pVal T i) (fun q => v = 0 ∧ ji h' 37 5 = -10 - (q : Int)) (fun r => v = 1 ∧ i' = r.2 ∧ ji h' 93 2 = r.1)
theorem r_42 (hd : 10 ≤ d) (L : Ly p h) (K : TokR T e i h) : ∃ w h', jE d 42 [jP 93] h w h' ∧ P42 p T e i h w h' := by
  obtain ⟨d, rfl⟩ : ∃ d', d = d' + 1 := ⟨d - 1, by omega⟩
  have w37 : ∀ {h : AH} {k : Nat} {x : Int}, Fe ZO h (wi h 37 k x) := fun {h k x} => Fe.wi (Or.inl rfl)
  have w93 : ∀ {h : AH} {k : Nat} {x : Int}, Fe ZO h (wi h 93 k x) := fun {h k x} => Fe.wi (Or.inr rfl)
  refine jE_of (as := [jP 93]) (Nat.le_of_ble_eq_true rfl) (c_42_0 (by omega) L K ⟨fun c => ⟨fun c2 L1 K1 => ?_, fun c2 L1 K1 => ?_⟩, fun c => ⟨fun c2 L1 K1 => ?_, fun c2 L1 K1 => ?_⟩⟩)
  · have e2 := (K.1 (i + 1) (by have := K1.2.2.2.1; omega)).2.2.1 c2
    refine ⟨1, rfl, L1, (w37.trans w93).trans w37, fun k hk => by rw [ji_wi, if_neg (by omega), ji_wi, if_neg (by omega), ji_wi, if_neg (by omega)], fun _ => rfl, _, K1, by omega, ?_⟩
    unfold pVal; rw [if_pos c, take_y c2]
    refine ⟨rfl, rfl, ?_⟩
    show ji _ 93 2 = -tkV T (i + 1)
    rw [ji_wi, if_neg (by omega), ji_wi, if_pos ⟨rfl, rfl⟩, e2.1, w32_i (by omega) (by omega)]
  · refine ⟨0, rfl, L1, (w37.trans w93).trans w37, fun k hk => by rw [ji_wi, if_neg (by omega), ji_wi, if_neg (by omega), ji_wi, if_neg (by omega)], fun _ => rfl, _, K1, by omega, ?_⟩
    unfold pVal; rw [if_pos c, take_n c2]
    exact ⟨rfl, flt_r⟩
  · have e2 := K.ok.2.2.1 c2
    refine ⟨1, rfl, L1, w93.trans w37, fun k hk => by rw [ji_wi, if_neg (by omega), ji_wi, if_neg (by omega)], fun _ => rfl, _, K1, by omega, ?_⟩
    unfold pVal; rw [if_neg c, take_y c2]
    refine ⟨rfl, rfl, ?_⟩
    show ji _ 93 2 = tkV T i
    rw [ji_wi, if_neg (by omega), ji_wi, if_pos ⟨rfl, rfl⟩, e2.1]
  · refine ⟨0, rfl, L1, w93.trans w37, fun k hk => by rw [ji_wi, if_neg (by omega), ji_wi, if_neg (by omega)], fun _ => rfl, _, K1, by omega, ?_⟩
    unfold pVal; rw [if_neg c, take_n c2]
    exact ⟨rfl, flt_r⟩
def P40 (p : Lpar) (G : NmL) (T : Txt) (e i : Nat) (h : AH) (w : Option AV) (h' : AH) : Prop := ∃ v, w = some (jI v) ∧ Ly p h' ∧ Fe ZO h h' ∧ (∀ k, ¬ k = 3 → ¬ k = 4 → ji h' 93 k = ji h 93 k) ∧ ∃ i', TokR T e i' h' ∧ i ≤ i' ∧ Rs (pOf T G i) (fun q => v = 0 ∧ ji h' 37 5 = -10 - (q : Int)) (fun r => v = 1 ∧ i' = r.2.2 ∧ ji h' 93 3 = r.1 ∧ ji h' 93 4 = r.2.1)
theorem r_40 (hd : 12 ≤ d) (L : Ly p h) (K : TokR T e i h) (hR : NmR h (pT p) G) (hG : okG G) : ∃ w h', jE d 40 [jP 93] h w h' ∧ P40 p G T e i h w h' := by
  obtain ⟨d, rfl⟩ : ∃ d', d = d' + 1 := ⟨d - 1, by omega⟩
  have hT := L.iT'
  have hx := L.nx
  have hN : NF = 197 := rfl
  have w37 : ∀ {h : AH} {k : Nat} {x : Int}, Fe ZO h (wi h 37 k x) := fun {h k x} => Fe.wi (Or.inl rfl)
  have w93 : ∀ {h : AH} {k : Nat} {x : Int}, Fe ZO h (wi h 93 k x) := fun {h k x} => Fe.wi (Or.inr rfl)
  have e7 : ∀ {h h' : AH}, Fe Z37 h h' → Fe ZO h h' := fun {h h'} f => f.mono (fun a _ z => Or.inl z)
  have nr : ∀ {h h' : AH}, Ly p h → NmR h (pT p) G → Fe ZO h h' → NmR h' (pT p) G := fun {h h'} L hR f => hR.cg (fun a k g1 g2 => f.1.ji (by have := L.nx; omega) (by omega) k)
  refine jE_of (as := [jP 93]) (Nat.le_of_ble_eq_true rfl) (c_40_0 (by omega) L K ⟨fun c L1 K1 => ?_, fun c L1 K1 => ?_⟩)
  · have f1 : Fe ZO h (wi (wi (wi h 93 3 (-1)) 93 4 (-1)) 37 4 ((i + 1 : Nat) : Int)) := (w93.trans w93).trans w37
    have i1 : ∀ k, ¬ k = 3 → ¬ k = 4 → ji (wi (wi (wi h 93 3 (-1)) 93 4 (-1)) 37 4 ((i + 1 : Nat) : Int)) 93 k = ji h 93 k := fun k z1 z2 => by rw [ji_wi, if_neg (by omega), ji_wi, if_neg (by omega), ji_wi, if_neg (by omega)]
    have a4 : ji (wi (wi (wi h 93 3 (-1)) 93 4 (-1)) 37 4 ((i + 1 : Nat) : Int)) 93 4 = -1 := by rw [ji_wi, if_neg (by omega), ji_wi, if_pos ⟨rfl, rfl⟩]
    have R1 := nr L hR f1
    generalize wi (wi (wi h 93 3 (-1)) 93 4 (-1)) 37 4 ((i + 1 : Nat) : Int) = h1 at *
    obtain ⟨v, h2, hE, L2, f2, i2, K2, hi2, R⟩ := r_41 (d := d) (by omega) L1 K1 R1 hG
    have x2 : 93 < jx h1 := by have := L1.nx; omega
    have j2 : ∀ k, ji h2 93 k = ji h1 93 k := fun k => f2.1.ji x2 (by show ¬ 93 = 37; decide) k
    refine ⟨v, h2, hE, L2, i2, K2, ?_⟩
    have eP : pOf T G i = xb (pSetN T G (i + 1)) fun q => if tkK T q.2 = 144 then xb (pSetN T G (q.2 + 1)) fun r => xb (pTake T 193 r.2) fun j => .ok (q.1, r.1, j) else xb (pTake T 193 q.2) fun j => .ok (q.1, -1, j) := by unfold pOf; rw [if_pos c]
    generalize pSetN T G (i + 1) = B at R eP
    cases B with
    | error q =>
      obtain ⟨r1, r2⟩ := R
      refine ⟨fun _ L3 K3 => ⟨0, rfl, L3, (f1.trans (e7 f2)).trans w93, fun k z1 z2 => by rw [ji_wi, if_neg (by omega), j2, i1 k z1 z2], _, K3, by omega, ?_⟩, fun z => absurd r1 z⟩
      rw [eP]
      exact ⟨rfl, by rw [ji_wi, if_neg (by omega)]; exact r2⟩
    | ok q =>
      obtain ⟨r1, r2, r3⟩ := R
      subst r1
      have eP : pOf T G i = if tkK T i2 = 144 then xb (pSetN T G (i2 + 1)) fun r => xb (pTake T 193 r.2) fun j => .ok (q.1, r.1, j) else xb (pTake T 193 i2) fun j => .ok (q.1, -1, j) := by rw [eP, r3]; rfl
      refine ⟨fun z => absurd z r2, fun _ => ⟨fun c2 L3 K3 => ?_, fun c2 => ⟨fun c3 L3 K3 => ?_, fun c3 L3 K3 => ?_⟩⟩⟩
      · have f3 : Fe ZO h (wi (wi h2 93 3 q.1) 37 4 ((i2 + 1 : Nat) : Int)) := ((f1.trans (e7 f2)).trans w93).trans w37
        have i3 : ∀ k, ¬ k = 3 → ¬ k = 4 → ji (wi (wi h2 93 3 q.1) 37 4 ((i2 + 1 : Nat) : Int)) 93 k = ji h 93 k := fun k z1 z2 => by rw [ji_wi, if_neg (by omega), ji_wi, if_neg (by omega), j2, i1 k z1 z2]
        have a3 : ji (wi (wi h2 93 3 q.1) 37 4 ((i2 + 1 : Nat) : Int)) 93 3 = q.1 := by rw [ji_wi, if_neg (by omega), ji_wi, if_pos ⟨rfl, rfl⟩]
        have R3 := nr L hR f3
        generalize wi (wi h2 93 3 q.1) 37 4 ((i2 + 1 : Nat) : Int) = h3 at *
        obtain ⟨v4, h4, hE4, L4, f4, i4, K4, hi4, R⟩ := r_41 (d := d) (by omega) L3 K3 R3 hG
        have x3 : 93 < jx h3 := by have := L3.nx; omega
        have j4 : ∀ k, ji h4 93 k = ji h3 93 k := fun k => f4.1.ji x3 (by show ¬ 93 = 37; decide) k
        refine ⟨v4, h4, hE4, L4, i4, K4, ?_⟩
        rw [if_pos c2] at eP
        generalize pSetN T G (i2 + 1) = B at R eP
        cases B with
        | error q2 =>
          obtain ⟨s1, s2⟩ := R
          refine ⟨fun _ L5 K5 => ⟨0, rfl, L5, (f3.trans (e7 f4)).trans w93, fun k z1 z2 => by rw [ji_wi, if_neg (by omega), j4, i3 k z1 z2], _, K5, by omega, ?_⟩, fun z => absurd s1 z⟩
          rw [eP]
          exact ⟨rfl, by rw [ji_wi, if_neg (by omega)]; exact s2⟩
        | ok q2 =>
          obtain ⟨s1, s2, s3⟩ := R
          subst s1
          have eP : pOf T G i = xb (pTake T 193 i4) fun j => .ok (q.1, q2.1, j) := by rw [eP, s3]; rfl
          refine ⟨fun z => absurd z s2, fun _ => ⟨fun c3 L5 K5 => ?_, fun c3 L5 K5 => ?_⟩⟩
          · refine ⟨1, rfl, L5, ((f3.trans (e7 f4)).trans w93).trans w37, fun k z1 z2 => by rw [ji_wi, if_neg (by omega), ji_wi, if_neg (by omega), j4, i3 k z1 z2], _, K5, by omega, ?_⟩
            rw [eP, take_y c3]
            refine ⟨rfl, rfl, ?_, ?_⟩
            · rw [ji_wi, if_neg (by omega), ji_wi, if_neg (by omega), j4]; exact a3
            · rw [ji_wi, if_neg (by omega), ji_wi, if_pos ⟨rfl, rfl⟩]
          · refine ⟨0, rfl, L5, ((f3.trans (e7 f4)).trans w93).trans w37, fun k z1 z2 => by rw [ji_wi, if_neg (by omega), ji_wi, if_neg (by omega), j4, i3 k z1 z2], _, K5, by omega, ?_⟩
            rw [eP, take_n c3]
            exact ⟨rfl, flt_r⟩
      · refine ⟨1, rfl, L3, ((f1.trans (e7 f2)).trans w93).trans w37, fun k z1 z2 => by rw [ji_wi, if_neg (by omega), ji_wi, if_neg (by omega), j2, i1 k z1 z2], _, K3, by omega, ?_⟩
        rw [eP, if_neg c2, take_y c3]
        refine ⟨rfl, rfl, ?_, ?_⟩
        · rw [ji_wi, if_neg (by omega), ji_wi, if_pos ⟨rfl, rfl⟩]
        · rw [ji_wi, if_neg (by omega), ji_wi, if_neg (by omega), j2]; exact a4
      · refine ⟨0, rfl, L3, ((f1.trans (e7 f2)).trans w93).trans w37, fun k z1 z2 => by rw [ji_wi, if_neg (by omega), ji_wi, if_neg (by omega), j2, i1 k z1 z2], _, K3, by omega, ?_⟩
        rw [eP, if_neg c2, take_n c3]
        exact ⟨rfl, flt_r⟩
  · refine ⟨1, rfl, L1, w93.trans w93, fun k z1 z2 => by rw [ji_wi, if_neg (by omega), ji_wi, if_neg (by omega)], _, K1, by omega, ?_⟩
    unfold pOf; rw [if_neg c]
    refine ⟨rfl, rfl, ?_, ?_⟩
    · rw [ji_wi, if_neg (by omega), ji_wi, if_pos ⟨rfl, rfl⟩]
    · rw [ji_wi, if_pos ⟨rfl, rfl⟩]
end DCL
