-- needs: 20.num 21.lay 22.spec 23.va 24.leaf 25.tbls 26.thg 27.tok 29.fr 30.tree 28.vb1 28.vb2 28.vb3 31.ctx 32.rd1
/-! THE READER: indices -/
abbrev ZI (D a : Nat) : Prop := a = 37 ∨ a = 93 ∨ a = 94 ∨ (D + 1 ≤ a ∧ a ≤ D + 4)
def E43 (p : Lpar) (h h' : AH) : Prop := Fm (ZI (pT p)) h h' ∧ jx h' = jx h ∧ ∀ k, jl h' 93 k = jl h 93 k
theorem Ly.iT' {p : Lpar} {h : AH} (L : Ly p h) : pT p = 41 ∨ pT p = 67 := L.iT
theorem getD_app {α : Type} (l m : List α) (z : α) {k : Nat} (h : k < l.length) : (l ++ m).getD k z = l.getD k z := by
  rw [List.getD_eq_getElem?_getD, List.getD_eq_getElem?_getD, List.getElem?_append, if_pos h]
section RD2
variable {p : Lpar} {d : Nat} {h h1 h2 : AH} {C : Cx} {G : NmL} {sl : List Int} {T : Txt} {e i : Nat}
theorem E43.refl : E43 p h h := ⟨Fm.refl, rfl, fun _ => rfl⟩
theorem E43.trans (f : E43 p h h1) (g : E43 p h1 h2) : E43 p h h2 := ⟨f.1.trans g.1, g.2.1.trans f.2.1, fun k => (g.2.2 k).trans (f.2.2 k)⟩
theorem E43.swi {a k : Nat} {x : Int} (ha : ZI (pT p) a) : E43 p h (wi h a k x) := ⟨Fm.wi ha, rfl, fun _ => rfl⟩
theorem E43.w37 {k : Nat} {x : Int} : E43 p h (wi h 37 k x) := E43.swi (Or.inl rfl)
/-- one more index -/
theorem okX.ix (O : okX C G sl) (hl : sl.length < 18) {l : List Int} (hn : okN l) (hf : (lkNm G l).1 = -1) {s : Int} (h0 : 0 ≤ s) (h1 : s < (C.1.length : Int)) : okX C (G ++ [(l, 4, (sl.length : Int))]) (sl ++ [s]) := by
  obtain ⟨o1, o2, o3, o4, o5, o6, o7, o8, o9, o10⟩ := O
  refine ⟨⟨by rw [List.length_append]; show G.length + 1 ≤ 46; omega, fun e he => ?_, ?_⟩, o2, o3, o4, o5, o6, by rw [List.length_append]; show sl.length + 1 ≤ 18; omega, fun e he => ?_, by rw [List.length_append, List.length_append]; show G.length + 1 ≤ 28 + (sl.length + 1); omega, fun e he => ?_⟩
  · rcases List.mem_append.mp he with he | he
    · exact o1.2.1 e he
    · rw [List.mem_singleton.mp he]
      exact ⟨hn, by show (0 : Int) ≤ 4; decide, by show (4 : Int) ≤ 4; decide, by show (0 : Int) ≤ (sl.length : Int); omega, by show (sl.length : Int) < 46; omega⟩
  · rw [List.map_append]
    refine List.nodup_append.mpr ⟨o1.2.2, by simp, fun a ha b hb => ?_⟩
    obtain ⟨q, hq, rfl⟩ := List.mem_map.mp ha
    have hb := List.mem_singleton.mp hb
    rw [hb]
    exact lkNm_no (fun e he => (o1.2.1 e he).2.1) hf q hq
  · rcases List.mem_append.mp he with he | he
    · exact o8 e he
    · rw [List.mem_singleton.mp he]; exact ⟨h0, h1⟩
  · rcases List.mem_append.mp he with he | he
    · obtain ⟨q1, q2, q3, q4⟩ := o10 e he
      refine ⟨q1, q2, q3, fun z => ?_⟩
      have := q4 z
      rw [List.length_append]
      show e.2.2 < ((sl.length + 1 : Nat) : Int)
      omega
    · rw [List.mem_singleton.mp he]
      refine ⟨fun z => absurd (show (4 : Int) = 0 from z) (by decide), fun z => absurd (show (4 : Int) = 1 from z) (by decide), fun z => absurd (show (4 : Int) = 2 from z) (by decide), fun _ => ?_⟩
      rw [List.length_append]
      show (sl.length : Int) < ((sl.length + 1 : Nat) : Int)
      omega
theorem SlR.add (hs : SlR h sl) (hl : sl.length < 18) {x : Int} : SlR (wi (wi h 94 (Int.toNat (ji h 93 6)) x) 93 6 (w32 (ji h 93 6 + 1))) (sl ++ [x]) := by
  obtain ⟨s1, s2⟩ := hs
  refine ⟨?_, fun k hk => ?_⟩
  · rw [ji_wi, if_pos ⟨rfl, rfl⟩, s1, w32_i (by omega) (by omega), List.length_append]
    show ((sl.length : Int)) + 1 = ((sl.length + 1 : Nat) : Int)
    omega
  · rw [List.length_append] at hk
    have hk : k < sl.length + 1 := hk
    rw [ji_wi, if_neg (by omega), ji_wi, s1]
    by_cases c : k = sl.length
    · rw [if_pos (by omega), c, getD_snoc, if_neg (by omega), if_pos rfl]
    · rw [if_neg (by omega), s2 k (by omega), getD_snoc, if_pos (by omega)]
/-- what one more index leaves -/
def ixP (G : NmL) (sl : List Int) (r : NmL × List Int × Nat) (n : Nat) : Prop := ∃ g s, r.1 = G ++ g ∧ r.2.1 = sl ++ s ∧ g.length = s.length ∧ 1 ≤ s.length ∧ s.length ≤ n
theorem r43_step (hd : 10 ≤ d) (L : Ly p h) (K : TokR T e i h) (X : SmX (pT p) C G sl h) (O : okX C G sl) (hl : sl.length < 18) {v1 : Int} (h0 : 0 ≤ v1) {z2 z3 : AV} {Q : Option AV → AH → Prop} (HE : ∀ h' i' q, pInd1 T G sl i = .error q → Ly p h' → TokR T e i' h' → i ≤ i' → E43 p h h' → ji h' 37 5 = -10 - (q : Int) → Q (some (jI 0)) h') (HO : ∀ h' r, pInd1 T G sl i = .ok r → Ly p h' → TokR T e r.2.2 h' → i < r.2.2 → E43 p h h' → SmX (pT p) C r.1 r.2.1 h' → okX C r.1 r.2.1 → ixP G sl r 1 → (v1 = 0 → Q (some (jI 1)) h') ∧ (¬ v1 = 0 → (tkK T r.2.2 = 144 → ∀ y2 y3, Ly p (wi h' 37 4 ((r.2.2 + 1 : Nat) : Int)) → TokR T e (r.2.2 + 1) (wi h' 37 4 ((r.2.2 + 1 : Nat) : Int)) → WF d 43 2 [jP 93, jI (w32 (v1 + (-1))), y2, y3] [] (wi h' 37 4 ((r.2.2 + 1 : Nat) : Int)) Q) ∧ (¬ tkK T r.2.2 = 144 → Q (some (jI 1)) h'))) : WF d 43 2 [jP 93, jI v1, z2, z3] [] h Q := by
  have hG := O.1
  have hx := L.nx
  have hT := L.iT'
  have hN : NF = 197 := rfl
  refine c_43_2 (by omega) L K ⟨fun c => by omega, fun _ => ⟨fun c => ⟨_, _, m_25 (by omega) L L.iT X.1 hG.1, L, _, K, ?_⟩, fun c L1 K1 => ?_⟩⟩
  · rw [nmT_lk K hG]
    have el : lkT G T i = lkNm G (tkN T i) := by unfold lkT; rw [if_pos c]
    rw [el]
    refine ⟨fun c2 => ⟨ns c (by decide), fun c3 L1 K1 => ?_, fun c3 L1 K1 => ?_⟩, fun c2 L1 K1 => ?_⟩
    · have hp : pInd1 T G sl i = if (lkT G T (i + 2)).1 = 0 then .ok (G ++ [(tkN T i, 4, (sl.length : Int))], sl ++ [(lkT G T (i + 2)).2], i + 2 + 1) else .error (tkP T (i + 2)) := by
        unfold pInd1; rw [if_pos ⟨c, c2⟩, take_y c3]; rfl
      have X1 := (X.tok (k := 4) (x := ((i + 1 : Nat) : Int)) L.iT).tok (k := 4) (x := ((i + 2 : Nat) : Int)) L.iT
      refine ⟨_, _, m_26 (by omega) L1 L1.iT X1.1 hG.1, L1, _, K1, ?_⟩
      rw [nmT_fd K1 hG (by omega)]
      refine ⟨fun c4 L2 K2 => ?_, fun c4 => ?_⟩
      · have c5 : ¬ (lkT G T (i + 2)).1 = 0 := by
          intro z
          rw [if_pos z] at c4
          have := O.lk (T := T) (i := i + 2) (by omega)
          omega
        rw [if_neg c5] at hp
        exact HE _ _ _ hp L2 K2 (by omega) ((E43.w37.trans E43.w37).trans E43.w37) flt_r
      · have c5 : (lkT G T (i + 2)).1 = 0 := by
          by_cases z : (lkT G T (i + 2)).1 = 0
          · exact z
          · rw [if_neg z] at c4; exact absurd rfl c4
        rw [if_pos c5] at c4 hp ⊢
        have lk := O.lk (T := T) (i := i + 2) (by omega)
        have e6 : ji (wi (wi h 37 4 ((i + 1 : Nat) : Int)) 37 4 ((i + 2 : Nat) : Int)) 93 6 = (sl.length : Int) := X1.2.2.2.2.1
        refine ⟨ns lk.1 (by decide), fun z => by omega, fun _ L2 K2 => ?_⟩
        have nm : nmT T i = c256 (tkN T i) := by unfold nmT; rw [if_pos c, (K.ok.2.2.2.1 c).1]
        have X2 := X1.tok (k := 4) (x := ((i + 2 + 1 : Nat) : Int)) L.iT
        rw [e6, nm]
        obtain ⟨h3, hE, L3, f3, n3⟩ := m_24 (d := d) (by omega) L2 L2.iT X2.1 (by have := O.2.2.2.2.2.2.2.2.1; omega) (l := tkN T i) (s := 4) (n := (sl.length : Int))
        have hk : ∀ a k, (a < pT p + 1 ∨ pT p + 4 < a) → a < NF → ji h3 a k = ji (wi (wi (wi h 37 4 ((i + 1 : Nat) : Int)) 37 4 ((i + 2 : Nat) : Int)) 37 4 ((i + 2 + 1 : Nat) : Int)) a k := fun a k g1 g2 => f3.1.ji (Nat.lt_of_lt_of_le g2 hx) (by omega) k
        have K3 : TokR T e (i + 2 + 1) h3 := K2.cg (fun a k g1 g2 => hk a k (by omega) (by omega))
        have s3 : SlR h3 sl := ⟨by rw [hk 93 6 (by omega) (by omega)]; exact X2.2.2.2.2.1, fun k q => by rw [hk 94 k (by omega) (by omega)]; exact X2.2.2.2.2.2 k q⟩
        refine ⟨h3, hE, L3, _, K3, by rw [s3.1]; omega, by rw [s3.1]; omega, ?_⟩
        have E3 : E43 p h h3 := ⟨((((E43.w37 (p := p) (h := h)).trans E43.w37).trans E43.w37).1).trans (f3.1.mono (fun a _ q => Or.inr (Or.inr (Or.inr q)))), f3.2, fun k => f3.1.jl (Nat.lt_of_lt_of_le (by decide) hx) (by omega) k⟩
        have E4 : E43 p h (wi (wi h3 94 (Int.toNat (ji h3 93 6)) (lkT G T (i + 2)).2) 93 6 (w32 (ji h3 93 6 + 1))) := (E3.trans (E43.swi (by omega))).trans (E43.swi (by omega))
        have L4 : Ly p (wi (wi h3 94 (Int.toNat (ji h3 93 6)) (lkT G T (i + 2)).2) 93 6 (w32 (ji h3 93 6 + 1))) := (L3.wi (by decide)).wi (by decide)
        have K4 : TokR T e (i + 2 + 1) (wi (wi h3 94 (Int.toNat (ji h3 93 6)) (lkT G T (i + 2)).2) 93 6 (w32 (ji h3 93 6 + 1))) := (K3.swi (by omega)).swi (by omega)
        have X4 : SmX (pT p) C (G ++ [(tkN T i, 4, (sl.length : Int))]) (sl ++ [(lkT G T (i + 2)).2]) (wi (wi h3 94 (Int.toNat (ji h3 93 6)) (lkT G T (i + 2)).2) 93 6 (w32 (ji h3 93 6 + 1))) := by
          obtain ⟨x1, x2, x3, x4, x5⟩ := X2
          have st : ∀ a k, a < 93 → ji (wi (wi h3 94 (Int.toNat (ji h3 93 6)) (lkT G T (i + 2)).2) 93 6 (w32 (ji h3 93 6 + 1))) a k = ji h3 a k := fun a k g => by rw [ji_wi, if_neg (by omega), ji_wi, if_neg (by omega)]
          refine ⟨n3.cg (fun a k g1 g2 => st a k (by omega)), x2.cg (fun a k g1 g2 => ?_), x3.cg (fun a k g1 g2 => ?_), x4.cg (fun a k g1 g2 => ?_), s3.add hl⟩
          · rw [st a k (by omega), hk a k (by omega) (by omega)]
          · rw [st a k (by omega), hk a k (by omega) (by omega)]
          · rw [st a k (by omega), hk a k (by omega) (by omega)]
        have O4 := O.ix hl (K.ok.2.2.2.1 c).2 c2 lk.2.1 (lk.2.2.2.1 c5)
        have g := HO _ _ hp L4 K4 (by show i < i + 2 + 1; omega) E4 X4 O4 ⟨_, _, rfl, rfl, rfl, Nat.le_refl _, Nat.le_refl _⟩
        exact ⟨fun z _ _ => g.1 z, fun z => ⟨fun z2 L5 K5 => (g.2 z).1 z2 _ _ L5 K5, fun z2 _ _ => (g.2 z).2 z2⟩⟩
    · have hp : pInd1 T G sl i = .error (tkP T (i + 1)) := by unfold pInd1; rw [if_pos ⟨c, c2⟩, take_n c3]; rfl
      exact HE _ _ _ hp L1 K1 (by omega) (E43.w37.trans E43.w37) flt_r
    · have hp : pInd1 T G sl i = .error (tkP T i) := by unfold pInd1; rw [if_neg (fun z => c2 z.2)]
      exact HE _ _ _ hp L1 K1 (by omega) E43.w37 flt_r
  · have hp : pInd1 T G sl i = .error (tkP T i) := by unfold pInd1; rw [if_neg (fun z => c z.1)]
    exact HE _ _ _ hp L1 K1 (by omega) E43.w37 flt_r
theorem ixP.trans {r q : NmL × List Int × Nat} (a : ixP G sl r 1) (b : ixP r.1 r.2.1 q 1) : ixP G sl q 2 := by
  obtain ⟨g, s, a1, a2, a3, a4, a5⟩ := a
  obtain ⟨g', s', b1, b2, b3, b4, b5⟩ := b
  exact ⟨g ++ g', s ++ s', by rw [b1, a1, List.append_assoc], by rw [b2, a2, List.append_assoc], by rw [List.length_append, List.length_append]; omega, by rw [List.length_append]; omega, by rw [List.length_append]; omega⟩
theorem ixP.two {r : NmL × List Int × Nat} (a : ixP G sl r 1) : ixP G sl r 2 := by
  obtain ⟨g, s, a1, a2, a3, a4, a5⟩ := a
  exact ⟨g, s, a1, a2, a3, a4, by omega⟩
def P43 (p : Lpar) (C : Cx) (G : NmL) (sl : List Int) (T : Txt) (e i : Nat) (h : AH) (w : Option AV) (h' : AH) : Prop := ∃ v, w = some (jI v) ∧ Ly p h' ∧ E43 p h h' ∧ ∃ i', TokR T e i' h' ∧ i ≤ i' ∧ Rs (pInd T G sl i) (fun q => v = 0 ∧ ji h' 37 5 = -10 - (q : Int)) (fun r => v = 1 ∧ i' = r.2.2 ∧ i < i' ∧ SmX (pT p) C r.1 r.2.1 h' ∧ okX C r.1 r.2.1 ∧ ixP G sl r 2)
theorem r_43 (hd : 11 ≤ d) (L : Ly p h) (K : TokR T e i h) (X : SmX (pT p) C G sl h) (O : okX C G sl) (hl : sl.length ≤ 16) : ∃ w h', jE d 43 [jP 93] h w h' ∧ P43 p C G sl T e i h w h' := by
  obtain ⟨d, rfl⟩ : ∃ d', d = d' + 1 := ⟨d - 1, by omega⟩
  have key : WF d 43 0 [jP 93, jU, jU, jU] [] h (P43 p C G sl T e i h) := by
    refine c_43_0 (by omega) L K (r43_step (by omega) L K X O (by omega) (by decide) (fun h' i' q hp L1 K1 hi f hq => ?_) (fun h' r hp L1 K1 hi f X1 O1 hr => ⟨fun z => absurd z (by decide), fun _ => ⟨fun c y2 y3 L2 K2 => ?_, fun c => ?_⟩⟩))
    · refine ⟨0, rfl, L1, f, i', K1, hi, ?_⟩
      unfold pInd; rw [hp]; exact ⟨rfl, hq⟩
    · have hp2 : pInd T G sl i = pInd1 T r.1 r.2.1 (r.2.2 + 1) := by unfold pInd; rw [hp]; show (if tkK T r.2.2 = 144 then _ else _) = _; rw [if_pos c]
      have hl1 : r.2.1.length < 18 := by
        obtain ⟨g, s, a1, a2, a3, a4, a5⟩ := hr
        rw [a2, List.length_append]; omega
      refine r43_step (v1 := w32 (1 + -1)) (by omega) L2 K2 (X1.tok L.iT) O1 hl1 (by decide) (fun h'' i' q hq L3 K3 hi3 f3 hq2 => ?_) (fun h'' r2 hq L3 K3 hi3 f3 X3 O3 hr3 => ⟨fun _ => ?_, fun z => absurd (show w32 (1 + -1) = 0 by decide) z⟩)
      · refine ⟨0, rfl, L3, (f.trans E43.w37).trans f3, i', K3, by omega, ?_⟩
        rw [hp2, hq]; exact ⟨rfl, hq2⟩
      · refine ⟨1, rfl, L3, (f.trans E43.w37).trans f3, _, K3, by omega, ?_⟩
        rw [hp2, hq]
        exact ⟨rfl, rfl, by omega, X3, O3, hr.trans hr3⟩
    · refine ⟨1, rfl, L1, f, _, K1, by omega, ?_⟩
      unfold pInd; rw [hp]
      show Rs (if tkK T r.2.2 = 144 then _ else _) _ _
      rw [if_neg c]
      exact ⟨rfl, rfl, hi, X1, O1, hr.two⟩
  exact jE_of (as := [jP 93]) (Nat.le_of_ble_eq_true rfl) key
/-- the indices around go -/
theorem m_45 (hd : 10 ≤ d) (L : Ly p h) (K : TokR T e i h) {g : NmL} {s : List Int} (X : SmX (pT p) C (G ++ g) (sl ++ s) h) (O : okX C (G ++ g) (sl ++ s)) (hg : g.length = s.length) : ∃ h', jE d 45 [jP 93, jI (sl.length : Int)] h none h' ∧ Ly p h' ∧ E43 p h h' ∧ TokR T e i h' ∧ SmX (pT p) C G sl h' := by
  obtain ⟨d, rfl⟩ : ∃ d', d = d' + 1 := ⟨d - 1, by omega⟩
  have hT := L.iT'
  obtain ⟨x1, x2, x3, x4, x5⟩ := X
  have o1 := O.1.1
  have o2 := O.2.2.2.2.2.2.1
  rw [List.length_append] at o1 o2
  have y1 := x1.1
  have y5 := x5.1
  rw [List.length_append] at y1 y5
  obtain ⟨v, h', hE, rfl, r⟩ := jE_of (d := d) (y := 45) (h := h) (as := [jP 93, jI (sl.length : Int)]) (P := fun v h' => v = none ∧ Ly p h' ∧ E43 p h h' ∧ TokR T e i h' ∧ SmX (pT p) C G sl h') (Nat.le_of_ble_eq_true rfl) (c_45_0 (by omega) L K (fun L1 K1 => by
    rw [y1, y5, w32_i (x := ((sl.length + s.length : Nat) : Int) - (sl.length : Int)) (by omega) (by omega), w32_i (by omega) (by omega)] at L1 K1 ⊢
    refine ⟨rfl, L1, (E43.swi (by omega)).trans (E43.swi (by omega)), K1, ?_⟩
    generalize hz : ((G.length + g.length : Nat) : Int) - (((sl.length + s.length : Nat) : Int) - (sl.length : Int)) = z
    have hz : z = (G.length : Int) := by omega
    subst hz
    refine ⟨⟨by rw [ji_wi, if_neg (by omega), ji_wi, if_pos ⟨rfl, rfl⟩], fun k hk => ?_⟩, x2.cg (fun a k g1 g2 => ?_), x3.cg (fun a k g1 g2 => ?_), x4.cg (fun a k g1 g2 => ?_), ⟨by rw [ji_wi, if_pos ⟨rfl, rfl⟩], fun k hk => ?_⟩⟩
    · have := x1.2 k (by rw [List.length_append]; omega)
      rw [getD_app _ _ _ hk] at this
      simp only [ji_wi]
      rw [if_neg (by omega), if_neg (by omega), if_neg (by omega), if_neg (by omega), if_neg (by omega), if_neg (by omega)]
      exact this
    · rw [ji_wi, if_neg (by omega), ji_wi, if_neg (by omega)]
    · rw [ji_wi, if_neg (by omega), ji_wi, if_neg (by omega)]
    · rw [ji_wi, if_neg (by omega), ji_wi, if_neg (by omega)]
    · have := x5.2 k (by rw [List.length_append]; omega)
      rw [getD_app _ _ _ hk] at this
      rw [ji_wi, if_neg (by omega), ji_wi, if_neg (by omega)]
      exact this))
  exact ⟨h', hE, r⟩
end RD2
