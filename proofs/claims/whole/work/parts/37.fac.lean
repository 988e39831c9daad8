-- needs: 20.num 21.lay 22.spec 23.va 24.leaf 25.tbls 26.thg 27.tok 29.fr 30.tree 28.vb1 28.vb2 28.vb3 31.ctx 32.rd1 33.rd2 34.lvl 35.loop 36.inn
/-! THE READER: factors and sums of every depth -/
section FAC
variable {p : Lpar} {d n : Nat} {h h' h0 h1 h2 hb hh : AH} {C : Cx} {G : NmL} {sl : List Int} {T : Txt} {e i i0 j : Nat} {t w : Int}
theorem facW_in {deep : Bool} {rec : NmL → List Int → Nat → Er (Ex × Nat)} (hk : tkK T i = 17 ∨ tkK T i = 140) : facW T C deep rec G sl i = if deep = true then (if tkK T i = 140 then xb (rec G sl (i + 1)) fun q => xb (pTake T 141 q.2) fun j => .ok (xInn sl.length (-1) (-1) q.1, j) else xb (pTake T 140 (i + 1)) fun j => xb (pInd T G sl j) fun n => xb (pTake T 158 n.2.2) fun j => xb (rec n.1 n.2.1 j) fun q => xb (pTake T 141 q.2) fun j => .ok (xInn sl.length (n.2.1.getD sl.length (-1)) (n.2.1.getD (sl.length + 1) (-1)) q.1, j)) else .error (tkP T i) := by
  unfold facW
  rw [if_neg (by omega), if_neg (by omega)]
  cases deep with
  | false => rw [if_neg (by simp), if_neg (by simp), if_neg (by simp)]
  | true =>
    rw [if_pos rfl]
    by_cases c : tkK T i = 140
    · rw [if_pos ⟨rfl, c⟩, if_pos c]
    · rw [if_neg (fun z => c z.2), if_neg c, if_pos ⟨rfl, by omega⟩]
def HH (p : Lpar) (C : Cx) (G : NmL) (sl : List Int) (T : Txt) (e i : Nat) (h0 hh : AH) (t w : Int) : Prop := Ly p h0 ∧ Ly p hh ∧ TokR T e i hh ∧ SmX (pT p) C G sl hh ∧ jl hh 93 7 = t ∧ jl hh (pT p) 14 = w + t ∧ DS p h0 hh ∧ jx hh = jx h0 ∧ 0 ≤ t ∧ t ≤ 1000000000 ∧ 0 ≤ w ∧ w ≤ 1000000000 * (i : Int)
theorem getD_far (l : List Int) {k : Nat} (hk : l.length ≤ k) : l.getD k (-1) = -1 := by rw [List.getD_eq_getElem?_getD, List.getElem?_eq_none hk]; rfl
theorem r_50_0 (hd : 10 ≤ d) (H : HH p C G sl T e i h0 hh t w) (hk : tkK T i = 17 ∨ tkK T i = 140) : ∃ u h', jE d 50 [jP 93, jI 8] hh u h' ∧ FcP p C G sl T e i h0 t w (facR T C 0 G sl i) u h' := by
  obtain ⟨d, rfl⟩ : ∃ d', d = d' + 1 := ⟨d - 1, by omega⟩
  obtain ⟨L0, L, K, X, e1, e2, D, ex, b1, b2, b3, b4⟩ := H
  refine jE_of (as := [jP 93, jI 8]) (Nat.le_of_ble_eq_true rfl) (c_50_0 (by omega) L K ⟨fun z => absurd z (by decide), fun _ L1 K1 => ?_⟩)
  refine fc_bad (q := tkP T i) ?_ L1 K1 (D.trans (DS.w37 L)) (Nat.le_refl _) (by show jx hh ≤ _; omega) flt_r
  show facW T C false (fun _ _ _ => .error 0) G sl i = _
  rw [facW_in hk]; rfl
theorem r_50 (hn : n ≤ 7) (S : SumS p T e C n) (hd : 17 + 3 * n ≤ d) (H : HH p C G sl T e i h0 hh t w) (O : okX C G sl) (hsl : sl.length + 2 * (n + 1) ≤ 18) (hk : tkK T i = 17 ∨ tkK T i = 140) : ∃ u h', jE d 50 [jP 93, jI (7 - (n : Int))] hh u h' ∧ FcP p C G sl T e i h0 t w (facR T C (n + 1) G sl i) u h' := by
  obtain ⟨d, rfl⟩ : ∃ d', d = d' + 1 := ⟨d - 1, by omega⟩
  obtain ⟨L0, L, K, X, e1, e2, D, ex, b1, b2, b3, b4⟩ := H
  have hx := L0.nx
  have hN : NF = 197 := rfl
  have hT := L.iT'
  have fR : facR T C (n + 1) G sl i = facW T C true (pSum T C n) G sl i := rfl
  rw [fR, facW_in hk, if_pos rfl]
  refine jE_of (as := [jP 93, jI (7 - (n : Int))]) (Nat.le_of_ble_eq_true rfl) (c_50_0 (by omega) L K ?_)
  rw [X.2.2.2.2.1, e1]
  refine ⟨fun _ => ⟨fun c => ?_, fun c => ?_⟩, fun z => by omega⟩
  · rw [if_neg (by omega)]
    refine ⟨fun c2 L2 K2 => ?_, fun c2 L2 K2 => ?_⟩
    · rw [take_y c2]
      have X2 := (X.tok (k := 4) (x := ((i + 1 : Nat) : Int)) L.iT).tok (k := 4) (x := ((i + 2 : Nat) : Int)) L.iT
      obtain ⟨u, h3, hE, v, rfl, L3, E3, i3, K3, hi3, R⟩ := r_43 (d := d) (by omega) L2 K2 X2 O (by omega)
      have D3 : DS p h0 h3 := ((D.trans (DS.w37 L)).trans (DS.w37 (L.wi (by decide)))).trans (DS.of43 L2 E3)
      have x3 : jx h3 = jx h0 := E3.2.1.trans ex
      refine ⟨v, h3, hE, L3, i3, K3, ?_⟩
      show _ ∧ _
      have eR : (xb (.ok (i + 1 + 1) : Er Nat) fun j => xb (pInd T G sl j) fun n_1 => xb (pTake T 158 n_1.2.2) fun j => xb (pSum T C n n_1.1 n_1.2.1 j) fun q => xb (pTake T 141 q.2) fun j => .ok (xInn sl.length (n_1.2.1.getD sl.length (-1)) (n_1.2.1.getD (sl.length + 1) (-1)) q.1, j)) = xb (pInd T G sl (i + 2)) fun n_1 => xb (pTake T 158 n_1.2.2) fun j => xb (pSum T C n n_1.1 n_1.2.1 j) fun q => xb (pTake T 141 q.2) fun j => .ok (xInn sl.length (n_1.2.1.getD sl.length (-1)) (n_1.2.1.getD (sl.length + 1) (-1)) q.1, j) := rfl
      rw [eR]
      generalize pInd T G sl (i + 2) = B at R ⊢
      cases B with
      | error q =>
        obtain ⟨r1, r2⟩ := R
        exact ⟨fun _ => fc_bad rfl L3 K3 D3 (by omega) (by omega) r2, fun z => absurd r1 z⟩
      | ok r =>
        obtain ⟨rG, rs, rk⟩ := r
        obtain ⟨r1, r2, r3, X3, O3, g, s, q1, q2, q3, q4, q5⟩ := R
        have q1 : rG = G ++ g := q1
        have q2 : rs = sl ++ s := q2
        have r2 : i3 = rk := r2
        subst q1 q2 r2
        refine ⟨fun z => by omega, fun _ => ⟨fun c3 L4 K4 => ?_, fun c3 L4 K4 => ?_⟩⟩
        · have eR : (xb (.ok (G ++ g, sl ++ s, i3) : Er (NmL × List Int × Nat)) fun n_1 => xb (pTake T 158 n_1.2.2) fun j => xb (pSum T C n n_1.1 n_1.2.1 j) fun q => xb (pTake T 141 q.2) fun j => .ok (xInn sl.length (n_1.2.1.getD sl.length (-1)) (n_1.2.1.getD (sl.length + 1) (-1)) q.1, j)) = xb (pSum T C n (G ++ g) (sl ++ s) (i3 + 1)) fun q => xb (pTake T 141 q.2) fun j => .ok (xInn sl.length ((sl ++ s).getD sl.length (-1)) ((sl ++ s).getD (sl.length + 1) (-1)) q.1, j) := by
            show xb (pTake T 158 i3) _ = _
            rw [take_y c3]; rfl
          rw [eR]
          have L5 : Ly p (wi h3 37 4 ((i3 + 1 : Nat) : Int)) := L3.wi (by decide)
          have K5 := K3.adv (ns c3 (by decide))
          have l3 : ∀ k, jl h3 93 k = jl hh 93 k := E3.2.2
          have w3 : jl h3 (pT p) 14 = jl hh (pT p) 14 := E3.1.jl (by show pT p < jx hh; omega) (by omega) 14
          exact tl_50 hn S (by omega) q3 (by rw [List.length_append]; omega) O3 ⟨L5, K5, X3.tok L.iT, (l3 7).trans e1, w3.trans e2, b1, b2, by omega, by omega⟩ (D3.trans (DS.w37 L3)) x3 (by omega) L0 b3
        · refine fc_bad (q := tkP T i3) ?_ L4 K4 (D3.trans (DS.w37 L3)) (by omega) (by show jx h3 ≤ _; omega) flt_r
          show xb (pTake T 158 i3) _ = _
          rw [take_n c3]; rfl
    · refine fc_bad (q := tkP T (i + 1)) ?_ L2 K2 ((D.trans (DS.w37 L)).trans (DS.w37 (L.wi (by decide)))) (by omega) (by show jx hh ≤ _; omega) flt_r
      rw [take_n c2]; rfl
  · have c1 : tkK T i = 140 := by omega
    rw [if_pos c1]
    refine ⟨ns c1 (by decide), fun L2 K2 => ?_⟩
    have L5 : Ly p (wi hh 37 4 ((i + 1 : Nat) : Int)) := L.wi (by decide)
    have K5 := K.adv (ns c1 (by decide))
    have g := tl_50 (p := p) (d := d) (fl := 0) (g := []) (s := []) (i0 := i) (j := i + 1) (w := w) (t := t) (h0 := h0) (hb := wi hh 37 4 ((i + 1 : Nat) : Int)) (sl := sl) (G := G) hn S (by omega) rfl (by rw [List.append_nil]; omega) (by rw [List.append_nil, List.append_nil]; exact O) (by rw [List.append_nil, List.append_nil]; exact ⟨L5, K5, X.tok L.iT, e1, e2, b1, b2, by omega, by omega⟩) (D.trans (DS.w37 L)) ex (by omega) L0 b3
    rw [List.append_nil, List.append_nil, getD_far sl (Nat.le_refl _), getD_far sl (by omega)] at g
    exact g
theorem pNamed_w {r : Ex × Nat} (hr : pNamed T C G sl i = .ok r) (S : List (Int × Int)) : wkc S r.1 t = t := by
  unfold pNamed at hr
  split at hr
  · cases hr; rfl
  · split at hr
    · cases hp : pPlaces T C G sl (C.2.1.getD (lkT G T i).2.toNat (-1, -1)) (i + 1) with
      | error q => rw [hp] at hr; exact absurd hr (by intro z; cases z)
      | ok q => rw [hp] at hr; cases hr; rfl
    · split at hr
      · cases hp : pPlaces T C G sl (C.2.2.getD (lkT G T i).2.toNat (-1, -1)) (i + 1) with
        | error q => rw [hp] at hr; exact absurd hr (by intro z; cases z)
        | ok q => rw [hp] at hr; cases hr; rfl
      · cases hr
theorem fac_gen (hn : n ≤ 8) (hd : 15 + 3 * n ≤ d) (H : SmH p C G sl T e i h t w) (O : okX C G sl) (I : ∀ hh, HH p C G sl T e i h hh t w → tkK T i = 17 ∨ tkK T i = 140 → ∃ u h', jE (d - 1) 50 [jP 93, jI (8 - (n : Int))] hh u h' ∧ FcP p C G sl T e i h t w (facR T C n G sl i) u h') : ∃ u h', jE d 47 [jP 93, jI (8 - (n : Int))] h u h' ∧ FcP p C G sl T e i h t w (facR T C n G sl i) u h' := by
  obtain ⟨d, rfl⟩ : ∃ d', d = d' + 1 := ⟨d - 1, by omega⟩
  obtain ⟨L, K, X, e1, e2, b1, b2, b3, b4⟩ := H
  have hx := L.nx
  have hN : NF = 197 := rfl
  have hT := L.iT'
  have hi4 := K.2.2.2.1
  have he4 := K.2.2.1
  refine jE_of (as := [jP 93, jI (8 - (n : Int))]) (Nat.le_of_ble_eq_true rfl) (c_47_0 (by omega) L K ?_)
  rw [e1, e2, w64_id (x := w + t) (by unfold r64; omega)]
  have Lw : Ly p (wl h (pT p) 14 (w + t)) := L.wl
  have Kw : TokR T e i (wl h (pT p) 14 (w + t)) := K.swl
  have Xw : SmX (pT p) C G sl (wl h (pT p) 14 (w + t)) := X.cg (fun _ _ _ => rfl)
  have tw : jl (wl h (pT p) 14 (w + t)) 93 7 = t := by rw [jl_wl, if_neg (by omega)]; exact e1
  have ww : jl (wl h (pT p) 14 (w + t)) (pT p) 14 = w + t := by rw [jl_wl, if_pos ⟨rfl, rfl⟩]
  have Dw : DS p h (wl h (pT p) 14 (w + t)) := DS.swl L
  have xw : jx (wl h (pT p) 14 (w + t)) = jx h := rfl
  generalize wl h (pT p) 14 (w + t) = hh at Lw Kw Xw tw ww Dw xw ⊢
  have Hh : HH p C G sl T e i h hh t w := ⟨L, Lw, Kw, Xw, tw, ww, Dw, xw, b1, b2, b3, b4⟩
  have hw : ∃ deep rec, facR T C n G sl i = facW T C deep rec G sl i := by cases n with | zero => exact ⟨false, fun _ _ _ => .error 0, rfl⟩ | succ n => exact ⟨true, pSum T C n, rfl⟩
  obtain ⟨deep, rec, hw⟩ := hw
  refine ⟨fun c L1 K1 => ?_, fun c => ⟨fun c2 L1 K1 => ?_, fun c2 => ⟨fun c3 L1 K1 => ?_, fun c3 => ⟨fun c4 L1 K1 => ?_, fun c4 L1 K1 => ?_⟩⟩⟩⟩
  · -- a NAME
    obtain ⟨v, h3, hE, L3, f3, i3, K3, hi3, hj3, R⟩ := r_48 (d := d) (by omega) L1 K1 Xw O
    refine ⟨v, h3, hE, L3, i3, K3, ?_⟩
    have eR : facR T C n G sl i = pNamed T C G sl i := by rw [hw]; unfold facW; rw [if_neg (by omega), if_pos c]
    rw [eR]
    have D3 : DS p h h3 := Dw.trans (DS.of37 Lw f3)
    cases hB : pNamed T C G sl i with
    | error q =>
      rw [hB] at R
      obtain ⟨r1, r2⟩ := R
      subst r1
      exact fc_bad rfl L3 K3 D3 hi3 (by omega) r2
    | ok r =>
      rw [hB] at R
      obtain ⟨r1, r2, r3⟩ := R
      rw [xw] at r3
      have wk := pNamed_w hB C.1 (t := t)
      refine ⟨v, rfl, L3, D3, i3, K3, hi3, by omega, r1, r2, by omega, r3, L3, K3, Xw.fm37 Lw f3, ?_, ?_, b1, b2, by omega, by omega⟩
      · rw [f3.jl (by omega) (by show ¬ 93 = 37; decide)]; exact tw
      · rw [wk, f3.jl (by omega) (by show ¬ _ = 37; omega)]; exact ww
  · -- a NUMBER
    have LF := FcH_L Lw (k := 0) (w := tkW T i) (o := -1) (q := -1)
    have KF := FcH_K Lw Kw (k := 0) (w := tkW T i) (o := -1) (q := -1)
    have FF := FcH_F (Z := fun _ => False) (h := hh) (k := 0) (w := tkW T i) (o := -1) (q := -1)
    have xF := FcH_x hh 0 (tkW T i) (-1) (-1)
    have ft := FcH_t (h := hh) (t := 0) (by omega) (w := tkW T i) (o := -1) (q := -1) (o2 := 0) (q2 := 0) (fun z => by omega) (l := .leaf) (r := .leaf)
    refine ⟨_, FcH_ok (by omega) Lw, LF, _, KF, ns c2 (by decide), fun L2 K2 => ?_⟩
    have DF := FcH_D Lw (k := 0) (w := tkW T i) (o := -1) (q := -1)
    have eR : facR T C n G sl i = .ok (xNum (tkV T i), i + 1) := by rw [hw]; unfold facW; rw [if_pos c2]
    rw [eR]
    rw [((K.ok).2.2.1 c2).1] at *
    generalize FcH hh 0 (tkV T i) (-1) (-1) = hF at *
    have iF : ∀ a k, a < jx hh → ji hF a k = ji hh a k := fun a k ha => FF.ji ha (fun z => z) k
    have lF : ∀ a k, a < jx hh → jl hF a k = jl hh a k := fun a k ha => FF.jl ha (fun z => z) k
    have XF : SmX (pT p) C G sl hF := Xw.cg (fun a k _ => iF a k (by omega))
    refine ⟨jx hh, rfl, L2, (Dw.trans DF).trans (DS.w37 LF), i + 1, K2, by omega, by show jx hF ≤ _; omega, rfl, by omega, by show jx hF + 1 ≤ _; omega, ?_, L2, K2, XF.tok L.iT, ?_, ?_, b1, b2, ?_, ?_⟩
    · rw [← xw]
      show tR _ _ 0 (jx hh) (jx hF) (jx hh) 0
      rw [xF]
      exact (DS.w37 LF).tree LF ft (by omega) (by omega)
    · show jl hF 93 7 = t
      rw [lF _ _ (by omega)]; exact tw
    · show jl hF (pT p) 14 = w + t
      rw [lF _ _ (by omega)]; exact ww
    · show 0 ≤ w + t
      omega
    · show w + t ≤ _
      omega
  · obtain ⟨u, h3, hE, v, rfl, r⟩ := I hh Hh (by omega)
    obtain ⟨L3, D3, i3, K3, r2⟩ := r
    exact ⟨v, h3, hE, L3, i3, K3, ⟨v, rfl, L3, D3, i3, K3, r2⟩⟩
  · obtain ⟨u, h3, hE, v, rfl, r⟩ := I hh Hh (by omega)
    obtain ⟨L3, D3, i3, K3, r2⟩ := r
    exact ⟨v, h3, hE, L3, i3, K3, ⟨v, rfl, L3, D3, i3, K3, r2⟩⟩
  · refine fc_bad (q := tkP T i) ?_ L1 K1 (Dw.trans (DS.w37 Lw)) (Nat.le_refl _) (by show jx hh ≤ _; omega) flt_r
    rw [hw]
    unfold facW
    rw [if_neg c2, if_neg c, if_neg (fun z => c3 z.2), if_neg (fun z => c4 z.2)]
theorem levels (n : Nat) (hn : n ≤ 8) : FacS p T e C n ∧ SumS p T e C n := by
  induction n with
  | zero =>
    have F : FacS p T e C 0 := fun d G sl i h t w hd H O hsl => fac_gen (n := 0) (by omega) hd H O (fun hh Hh hk => r_50_0 (by omega) Hh hk)
    exact ⟨F, sum_of_fac (by omega) F⟩
  | succ n ih =>
    have S := (ih (by omega)).2
    have F : FacS p T e C (n + 1) := fun d G sl i h t w hd H O hsl => fac_gen (n := n + 1) hn hd H O (fun hh Hh hk => by
      rw [show (8 : Int) - ((n + 1 : Nat) : Int) = 7 - (n : Int) by omega]
      exact r_50 (by omega) S (by omega) Hh O hsl hk)
    exact ⟨F, sum_of_fac hn F⟩
end FAC
