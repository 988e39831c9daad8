-- needs: 20.num 21.lay 22.spec 23.va 24.leaf 25.tbls 26.thg 27.tok 29.fr 30.tree 28.vb1 28.vb2 28.vb3 31.ctx
/-! THE READER: places, names, indices -/
abbrev Z37 (a : Nat) : Prop := a = 37
section RD1
variable {p : Lpar} {d : Nat} {h : AH} {C : Cx} {G : NmL} {sl : List Int} {T : Txt} {e i : Nat}
/-- nothing but the tokens' place and fault has changed, nothing is new -/
abbrev E37 (h h' : AH) : Prop := Fe Z37 h h'
theorem F37 {k : Nat} {x : Int} : E37 h (wi h 37 k x) := ⟨Fm.wi rfl, rfl⟩
theorem flt_r {k : Nat} {x : Int} : ji (wi h 37 k x) 37 k = x := by rw [ji_wi, if_pos ⟨rfl, rfl⟩]
theorem r_49 (hd : 12 ≤ d) (L : Ly p h) (K : TokR T e i h) (X : SmX (pT p) C G sl h) (O : okX C G sl) {kc : Int} (hkc : cknL.any (fun e => e.1 == kc) = true) (hk3 : ¬ (kc = 3 ∨ kc = 4)) {set : Int} (h0 : 0 ≤ set) (h1 : set < (C.1.length : Int)) : ∃ v h', jE d 49 [jP 93, jI (ck kc), jI set] h (some (jI v)) h' ∧ Ly p h' ∧ E37 h h' ∧ ∃ i', TokR T e i' h' ∧ i ≤ i' ∧ Rs (xb (pTake T kc i) (fun j => pPlace T C G sl set j)) (fun q => v = -1000 ∧ ji h' 37 5 = -10 - (q : Int)) (fun r => v = r.1 ∧ i' = r.2 ∧ ¬ r.1 = -1000) := by
  obtain ⟨d, rfl⟩ : ∃ d', d = d' + 1 := ⟨d - 1, by omega⟩
  have hG := O.1
  have key : WF d 49 0 [jP 93, jI (ck kc), jI set, jU, jU] [] h (fun w h' => ∃ v, w = some (jI v) ∧ Ly p h' ∧ E37 h h' ∧ ∃ i', TokR T e i' h' ∧ i ≤ i' ∧ Rs (xb (pTake T kc i) (fun j => pPlace T C G sl set j)) (fun q => v = -1000 ∧ ji h' 37 5 = -10 - (q : Int)) (fun r => v = r.1 ∧ i' = r.2 ∧ ¬ r.1 = -1000)) := by
    refine c_49_0 hkc hk3 (by omega) L K ⟨fun c L1 K1 => ?_, fun c L1 K1 => ?_⟩
    · have X1 := X.tok (k := 4) (x := ((i + 1 : Nat) : Int)) L.iT
      have tw := K1.ok
      rw [take_y c]
      refine ⟨_, _, m_26 (by omega) L1 L1.iT X1.1 hG.1, L1, _, K1, ?_⟩
      rw [nmT_fd K1 hG (by omega)]
      refine ⟨fun q => ⟨fun q2 => ?_, fun q2 L2 K2 => ?_⟩, fun q => ?_⟩
      · -- a NUMBER
        have tv := tw.2.2.1 q2
        refine ⟨_, _, m_55 (by omega) L1 L1.iT X1.2.1 O.2.1 tw.2.2.2.2, L1, _, K1, fun q3 L2 K2 => ?_, fun q3 => ⟨fun q4 => by omega, fun q4 => ⟨ns q2 (by omega), fun L2 K2 => ?_⟩⟩⟩
        · refine ⟨-1000, rfl, L2, F37.trans F37, i + 1, K2, by omega, ?_⟩
          rw [tv.1] at q3
          show Rs (pPlace T C G sl set (i + 1)) _ _
          unfold pPlace
          rw [if_pos q2, if_pos q3]
          exact ⟨rfl, flt_r⟩
        · refine ⟨_, rfl, L2, F37.trans F37, i + 2, K2, by omega, ?_⟩
          rw [tv.1] at q3
          show Rs (pPlace T C G sl set (i + 1)) _ _
          unfold pPlace
          rw [if_pos q2, if_neg q3]
          exact ⟨tv.1, rfl, by omega⟩
      · -- no NUMBER, no index
        refine ⟨-1000, rfl, L2, F37.trans F37, i + 1, K2, by omega, ?_⟩
        show Rs (pPlace T C G sl set (i + 1)) _ _
        unfold pPlace
        rw [if_neg q2, if_neg]
        · exact ⟨rfl, flt_r⟩
        · intro z
          rw [if_pos z.1] at q
          have := O.lk (T := T) (i := i + 1) (by omega)
          omega
      · -- an index
        have c4 : (lkT G T (i + 1)).1 = 4 := by
          by_cases c4 : (lkT G T (i + 1)).1 = 4
          · exact c4
          · rw [if_neg c4] at q; exact absurd rfl q
        rw [if_pos c4] at q ⊢
        have lk := O.lk (T := T) (i := i + 1) (by omega)
        have l4 := lk.2.2.2.2.2.2.1 c4
        have n2 : ¬ tkK T (i + 1) = 2 := by rw [lk.1]; decide
        have hxo : jxor (lkT G T (i + 1)).2 (-1) = -1 - (lkT G T (i + 1)).2 := by rw [jxor_m1 (by unfold r32; omega)]; omega
        have es : slO sl (lkT G T (i + 1)).2 = sl.getD (lkT G T (i + 1)).2.toNat (-1) := by unfold slO; rw [if_neg (by omega)]
        refine ⟨_, _, m_44 (by omega) L1 K1 X1.2.2.2.2 O.2.2.2.2.2.2.1, L1, _, K1, _, _, m_56 (by omega) L1 L1.iT X1.2.1 O.2.1, L1, _, K1, fun q3 => ⟨fun q2 => absurd q2 n2, fun _ L2 K2 => ?_⟩, fun q3 => ⟨fun q2 => absurd q2 n2, fun _ => ?_⟩⟩
        · refine ⟨-1000, rfl, L2, F37.trans F37, i + 1, K2, by omega, ?_⟩
          show Rs (pPlace T C G sl set (i + 1)) _ _
          unfold pPlace
          rw [if_neg n2, if_neg]
          · exact ⟨rfl, flt_r⟩
          · intro z
            rw [es, if_pos z.2] at q3
            exact absurd q3 (by decide)
        · rw [hxo]
          refine ⟨fun q4 => by omega, fun q4 => ⟨ns lk.1 (by decide), fun L2 K2 => ?_⟩⟩
          refine ⟨_, rfl, L2, F37.trans F37, i + 2, K2, by omega, ?_⟩
          show Rs (pPlace T C G sl set (i + 1)) _ _
          unfold pPlace
          rw [if_neg n2, if_pos]
          · exact ⟨rfl, rfl, by omega⟩
          · refine ⟨c4, ?_⟩
            rw [es] at q3
            by_cases z : wiO C.1 (sl.getD (lkT G T (i + 1)).2.toNat (-1)) set = true
            · exact z
            · rw [if_neg z] at q3; exact absurd rfl q3
    · refine ⟨-1000, rfl, L1, F37, i, K1, by omega, ?_⟩
      rw [take_n c]
      exact ⟨rfl, flt_r⟩
  obtain ⟨w, h', hE, v, rfl, r⟩ := jE_of (as := [jP 93, jI (ck kc), jI set]) (Nat.le_of_ble_eq_true rfl) key
  exact ⟨v, h', hE, r⟩
/-- a new factor -/
def FcH (h : AH) (k w o q : Int) : AH := wi (wi (wi (wi (wi (nw h 3 7) (jx h) 0 k) (jx h) 1 w) (jx h) 2 o) (jx h) 3 q) (jx h) 5 (if k = 3 then 1 else 0)
theorem FcH_x (h : AH) (k w o q : Int) : jx (FcH h k w o q) = jx h + 1 := rfl
theorem FcH_ok (hd : 1 ≤ d) (L : Ly p h) {k w o q : Int} : jE d 11 [jP (jx h), jI k, jI w, jI o, jI q] (nw h 3 7) none (FcH h k w o q) := m_11 hd L.nx (by rw [jt_nw, if_pos rfl])
theorem FcH_L (L : Ly p h) {k w o q : Int} : Ly p (FcH h k w o q) := by
  have hx := L.nx
  have h32 : 32 ≤ jx h := Nat.le_trans (by decide) hx
  exact ((((L.nw.wi h32).wi h32).wi h32).wi h32).wi h32
theorem FcH_K (L : Ly p h) (K : TokR T e i h) {k w o q : Int} : TokR T e i (FcH h k w o q) := by
  have hx := L.nx
  have h32 : 40 < jx h := Nat.lt_of_lt_of_le (by decide) hx
  exact ((((TokR.snw K L).swi (Or.inr h32)).swi (Or.inr h32)).swi (Or.inr h32)).swi (Or.inr h32) |>.swi (Or.inr h32)
theorem FcH_F {Z : Nat → Prop} {k w o q : Int} : Fm Z h (FcH h k w o q) := by
  refine ⟨fun a ha _ j => ⟨?_, ?_, ?_⟩, fun a ha => ⟨?_, ?_⟩, by rw [FcH_x]; omega, ?_⟩
  · simp only [FcH, ji_wi, ji_nw]
    rw [if_neg (by omega), if_neg (by omega), if_neg (by omega), if_neg (by omega), if_neg (by omega), if_neg (by omega)]
  · show jl (nw h 3 7) a j = _
    rw [jl_nw, if_neg (by omega)]
  · show jr (nw h 3 7) a j = _
    rw [jr_nw, if_neg (by omega)]
  · show jt (nw h 3 7) a = _
    rw [jt_nw, if_neg (by omega)]
  · show jn (nw h 3 7) a = _
    rw [jn_nw, if_neg (by omega)]
  · show ju h + 7 + 7 * jx h ≤ ju h + 7 * (jx h + 1)
    omega
theorem FcH_f {k w o q : Int} : jt (FcH h k w o q) (jx h) = 3 ∧ ji (FcH h k w o q) (jx h) 0 = k ∧ ji (FcH h k w o q) (jx h) 1 = w ∧ ji (FcH h k w o q) (jx h) 2 = o ∧ ji (FcH h k w o q) (jx h) 3 = q ∧ ji (FcH h k w o q) (jx h) 5 = (if k = 3 then 1 else 0) := by
  refine ⟨?_, ?_, ?_, ?_, ?_, ?_⟩
  · show jt (nw h 3 7) (jx h) = 3
    rw [jt_nw, if_pos rfl]
  · simp [FcH, ji_wi]
  · simp [FcH, ji_wi]
  · simp [FcH, ji_wi]
  · simp [FcH, ji_wi]
  · simp [FcH, ji_wi]
theorem FcH_t {t : Nat} (ht : t ≤ 3) {w o q o2 q2 : Int} (ho : 2 ≤ t → o2 = o ∧ q2 = q) {l r : Ex} : tR (FcH h t w o q) (xNd t (w, o2, q2) l r) 0 (jx h) (jx h + 1) (jx h) 0 := by
  obtain ⟨f1, f2, f3, f4, f5, f6⟩ := FcH_f (h := h) (k := (t : Int)) (w := w) (o := o) (q := q)
  unfold tR
  rw [if_pos ht]
  refine ⟨rfl, Nat.le_refl _, by omega, f1, f2, f3, fun h2 => ?_, ?_⟩
  · rw [f4, f5, (ho h2).1, (ho h2).2]; exact ⟨rfl, rfl⟩
  · rw [f6]
    by_cases c : t = 3
    · rw [if_pos c, if_pos (by omega)]
    · rw [if_neg c, if_neg (by omega)]
theorem SmX.fm37 {h' : AH} (X : SmX (pT p) C G sl h) (L : Ly p h) (f : Fm Z37 h h') : SmX (pT p) C G sl h' := by
  have hx := L.nx
  have hD := L.iT
  unfold isD at hD
  have hN : NF = 197 := rfl
  exact X.cg (fun a k q => f.ji (by omega) (by show ¬ a = 37; omega) k)
theorem xb_as {α β γ : Type} (x : Er α) (f : α → Er β) (g : β → Er γ) : xb (xb x f) g = xb x (fun a => xb (f a) g) := by cases x <;> rfl
/-- what the reading of a named factor answers -/
def PN (p : Lpar) (T : Txt) (e i : Nat) (h : AH) (R : Er (Ex × Nat)) (w : Option AV) (h' : AH) : Prop := ∃ v, w = some (jP v) ∧ Ly p h' ∧ Fm Z37 h h' ∧ ∃ i', TokR T e i' h' ∧ i ≤ i' ∧ jx h' ≤ jx h + 1 ∧ Rs R (fun q => v = 0 ∧ ji h' 37 5 = -10 - (q : Int)) (fun r => i' = r.2 ∧ i < i' ∧ tR h' r.1 0 (jx h) (jx h') v 0)
theorem r_48 (hd : 13 ≤ d) (L : Ly p h) (K : TokR T e i h) (X : SmX (pT p) C G sl h) (O : okX C G sl) : ∃ v h', jE d 48 [jP 93] h (some (jP v)) h' ∧ Ly p h' ∧ Fm Z37 h h' ∧ ∃ i', TokR T e i' h' ∧ i ≤ i' ∧ jx h' ≤ jx h + 1 ∧ Rs (pNamed T C G sl i) (fun q => v = 0 ∧ ji h' 37 5 = -10 - (q : Int)) (fun r => i' = r.2 ∧ i < i' ∧ tR h' r.1 0 (jx h) (jx h') v 0) := by
  obtain ⟨d, rfl⟩ : ∃ d', d = d' + 1 := ⟨d - 1, by omega⟩
  have hG := O.1
  have hx := L.nx
  have tw := K.ok
  have hv0 : ∀ {x y : Int}, y = -1000 → ¬ x = -1000 → ¬ x = y := fun a b c => b (c.trans a)
  have key : WF d 48 0 [jP 93, jU, jU, jU, jU, jU] [] h (PN p T e i h (pNamed T C G sl i)) := by
    refine c_48_0 (by omega) L K ⟨_, _, m_25 (by omega) L L.iT X.1 hG.1, L, _, K, ?_⟩
    rw [nmT_lk K hG]
    refine c_48_18 (by omega) L K ⟨_, _, m_26 (by omega) L L.iT X.1 hG.1, L, _, K, ?_⟩
    refine c_48_37 (by omega) L K ?_
    by_cases c0 : (lkT G T i).1 = 4 ∨ (lkT G T i).1 = 1 ∨ (lkT G T i).1 = 2
    · have lk := O.lk (T := T) (i := i) (by omega)
      have fd : fdC G (lkT G T i).1 (nmT T i) = (lkT G T i).2 := by rw [nmT_fd K hG lk.2.2.2.2.2.2.2.1, if_pos rfl]
      rw [fd]
      have nst := ns lk.1 (by decide)
      have go : Ly p (wi h 37 4 ((i + 1 : Nat) : Int)) → TokR T e (i + 1) (wi h 37 4 ((i + 1 : Nat) : Int)) → WF d 48 74 [jP 93, jI (lkT G T i).1, jI (lkT G T i).2, jU, jU, jU] [] (wi h 37 4 ((i + 1 : Nat) : Int)) (PN p T e i h (pNamed T C G sl i)) := by
        intro L1 K1
        have X1 := X.tok (k := 4) (x := ((i + 1 : Nat) : Int)) L.iT
        refine c_48_74 (by omega) L1 K1 ⟨fun c L2 K2 => ?_, fun c => ?_⟩
        · refine ⟨_, FcH_ok (h := wi h 37 4 ((i + 1 : Nat) : Int)) (by omega) L1, FcH_L L1, _, FcH_K L1 K1, _, rfl, FcH_L L1, F37.1.trans FcH_F, _, FcH_K L1 K1, by omega, Nat.le_refl _, ?_⟩
          unfold pNamed
          rw [if_pos c]
          exact ⟨rfl, by omega, FcH_t (t := 1) (by omega) (fun z => by omega)⟩
        · -- data or a var
          have main : ∀ (t N : Nat) (O1 : List (Int × Int)) (kd : Nat), (kd = 2 ∧ (lkT G T i).1 = 1 ∨ kd = 3 ∧ ¬ (lkT G T i).1 = 1) → isTh (pT p) t N → ThR h t C.1 O1 → okO C.1 O1 → O1.length ≤ N → (lkT G T i).2 < (O1.length : Int) → pNamed T C G sl i = xb (pPlaces T C G sl (O1.getD (lkT G T i).2.toNat (-1, -1)) (i + 1)) (fun q => .ok (xNd kd ((lkT G T i).2, q.1, q.2.1) .leaf .leaf, q.2.2)) → WF d 48 114 [jP 93, jI (lkT G T i).1, jI (lkT G T i).2, jP t, jU, jU] [] (wi h 37 4 ((i + 1 : Nat) : Int)) (PN p T e i h (pNamed T C G sl i)) := by
            intro t N O1 kd hkd hT hR hO hN hl hp
            rw [hp]
            refine c_48_114 (by omega) L1 K1 (c_48_117 (by omega) L1 K1 (c_48_120 (by omega) L1 K1 ?_))
            have h0 := lk.2.1
            have hx0 : ∀ {h1 : AH}, E37 h h1 → Ly p h1 → ThR h1 t C.1 O1 := fun {h1} f L1 => hR.cg (fun a k g1 g2 => f.1.ji (by unfold isTh isD at hT; have hN : NF = 197 := rfl; omega) (by show ¬ a = 37; unfold isTh isD at hT; omega) k)
            have oo := hO.2 _ (getD_mem (k := (lkT G T i).2.toNat) (by omega) (-1, -1))
            have fin : ∀ {h1 : AH} {i1 : Nat} {q r : Int}, Ly p h1 → TokR T e i1 h1 → E37 h h1 → i < i1 → PN p T e i h (.ok (xNd kd ((lkT G T i).2, q, r) .leaf .leaf, i1)) (some (jP (jx h1))) (FcH h1 kd (lkT G T i).2 q r) := by
              intro h1 i1 q r L2 K2 f hi
              refine ⟨_, rfl, FcH_L L2, f.1.trans FcH_F, i1, FcH_K L2 K2, by omega, by rw [FcH_x, f.2]; omega, rfl, hi, ?_⟩
              rw [← f.2]
              exact FcH_t (by omega) (fun _ => ⟨rfl, rfl⟩)
            have bad : ∀ {h1 : AH} {i1 q : Nat}, Ly p h1 → TokR T e i1 h1 → E37 h h1 → i ≤ i1 → ji h1 37 5 = -10 - (q : Int) → PN p T e i h (.error q) (some (jP 0)) h1 := by
              intro h1 i1 q L2 K2 f hi hq
              exact ⟨_, rfl, L2, f.1, i1, K2, hi, by rw [f.2]; omega, rfl, hq⟩
            have fin177 : ∀ {h1 : AH} {i1 : Nat} {q r : Int}, Ly p h1 → TokR T e i1 h1 → E37 h h1 → i < i1 → ¬ r = -1000 → WF d 48 182 [jP 93, jI (lkT G T i).1, jI (lkT G T i).2, jP t, jI q, jI r] [] h1 (PN p T e i h (xb (pTake T 193 i1) fun j => .ok (xNd kd ((lkT G T i).2, q, r) .leaf .leaf, j))) := by
              intro h1 i1 q r L2 K2 f hi hr
              refine c_48_182 (by omega) L2 K2 ⟨fun z => absurd z hr, fun _ => ⟨fun c => ?_, fun c L3 K3 => ?_⟩⟩
              · rw [take_y c]
                have L3 : Ly p (wi h1 37 4 ((i1 + 1 : Nat) : Int)) := L2.wi (by decide)
                have K3 := K2.adv (ns c (by decide))
                have f3 : E37 h (wi h1 37 4 ((i1 + 1 : Nat) : Int)) := f.trans F37
                refine ⟨fun c2 _ _ => ?_, fun c2 _ _ => ?_⟩
                · obtain rfl : kd = 2 := by omega
                  exact ⟨_, FcH_ok (by omega) L3, FcH_L L3, _, FcH_K L3 K3, fin L3 K3 f3 (by omega)⟩
                · obtain rfl : kd = 3 := by omega
                  exact ⟨_, FcH_ok (by omega) L3, FcH_L L3, _, FcH_K L3 K3, fin L3 K3 f3 (by omega)⟩
              · rw [take_n c]
                exact bad L3 K3 (f.trans F37) (by omega) flt_r
            have e77 := hx0 F37 L1 |>.at h0 hl
            have ok77 : ∀ {h1 : AH}, Ly p h1 → jt h1 t = 9 ∧ inA h1 (jr h1 t 1) 0 (lkT G T i).2 ∧ inA h1 (jr h1 t 2) 0 (lkT G T i).2 := fun {h1} L2 => ⟨L2.tt0 hT, by rw [L2.tr1 hT]; exact inA_mk (L2.tt1 hT) (L2.tl1 hT) h0 (by omega), by rw [L2.tr2 hT]; exact inA_mk (L2.tt2 hT) (L2.tl2 hT) h0 (by omega)⟩
            have o77 := ok77 L1
            refine ⟨o77.1, o77.2.1, fun c1 => ?_, fun c1 => ⟨o77.1, o77.2.1, ?_⟩⟩
            · rw [L1.tr1 hT, e77.1] at c1
              have z : pPlaces T C G sl (O1.getD (lkT G T i).2.toNat (-1, -1)) (i + 1) = .ok (0, 0, i + 1) := by unfold pPlaces; rw [if_pos (show (O1.getD (lkT G T i).2.toNat (-1, -1)).1 = -1 from c1)]
              rw [z]
              refine ⟨fun c2 _ _ => ?_, fun c2 _ _ => ?_⟩
              · obtain rfl : kd = 2 := by omega
                exact ⟨_, FcH_ok (by omega) L1, FcH_L L1, _, FcH_K L1 K1, fin (i1 := i + 1) L1 K1 F37 (Nat.lt_succ_self i)⟩
              · obtain rfl : kd = 3 := by omega
                exact ⟨_, FcH_ok (by omega) L1, FcH_L L1, _, FcH_K L1 K1, fin (i1 := i + 1) L1 K1 F37 (Nat.lt_succ_self i)⟩
            · rw [L1.tr1 hT, e77.1] at c1 ⊢
              have c1 : ¬ (O1.getD (lkT G T i).2.toNat (-1, -1)).1 = -1 := c1
              have z : pPlaces T C G sl (O1.getD (lkT G T i).2.toNat (-1, -1)) (i + 1) = xb (xb (pTake T 191 (i + 1)) fun j => pPlace T C G sl (O1.getD (lkT G T i).2.toNat (-1, -1)).1 j) fun q => if (O1.getD (lkT G T i).2.toNat (-1, -1)).2 = -1 then xb (pTake T 193 q.2) fun i => .ok (q.1, 0, i) else xb (xb (pTake T 144 q.2) fun j => pPlace T C G sl (O1.getD (lkT G T i).2.toNat (-1, -1)).2 j) fun r => xb (pTake T 193 r.2) fun i => .ok (q.1, r.1, i) := by
                unfold pPlaces; rw [if_neg c1]; simp only [xb_as]
              rw [z]
              obtain ⟨v, h2, hE, L2, f2, i2, K2, hi2, R⟩ := r_49 (d := d) (by omega) L1 K1 X1 O (kc := 191) (by decide) (by decide) (set := (O1.getD (lkT G T i).2.toNat (-1, -1)).1) (by omega) (by omega)
              refine ⟨v, h2, hE, L2, i2, K2, ?_⟩
              have f21 := f2.1
              have f2 : E37 h h2 := F37.trans f2
              generalize xb (pTake T 191 (i + 1)) (fun j => pPlace T C G sl (O1.getD (lkT G T i).2.toNat (-1, -1)).1 j) = A at R ⊢
              refine c_48_144 (by omega) L2 K2 ?_
              have e2 := (hx0 f2 L2).at h0 hl
              have o2 := ok77 L2
              cases A with
              | error q => exact ⟨fun _ => bad L2 K2 f2 (by omega) R.2, fun z => absurd R.1 z⟩
              | ok a =>
                obtain ⟨R1, R2, R3⟩ := R
                refine ⟨fun z => absurd (R1 ▸ z) R3, fun _ => ⟨o2.1, o2.2.2, fun c2 => ?_, fun c2 => ⟨o2.1, o2.2.2, ?_⟩⟩⟩
                · rw [L2.tr2 hT, e2.2.1] at c2
                  have c2 : (O1.getD (lkT G T i).2.toNat (-1, -1)).2 = -1 := c2
                  have g := fin177 (q := v) (r := 0) L2 K2 f2 (by omega) (by decide)
                  rw [R1, R2] at g
                  rw [R1]
                  show WF d 48 182 _ [] h2 (PN p T e i h (xb (if (O1.getD (lkT G T i).2.toNat (-1, -1)).2 = -1 then xb (pTake T 193 a.2) fun i => .ok (a.1, 0, i) else _) _))
                  rw [if_pos c2, xb_as]
                  exact g
                · rw [L2.tr2 hT, e2.2.1] at c2 ⊢
                  have c2 : ¬ (O1.getD (lkT G T i).2.toNat (-1, -1)).2 = -1 := c2
                  obtain ⟨v3, h3, hE3, L3, f3, i3, K3, hi3, R⟩ := r_49 (d := d) (by omega) L2 K2 (X1.fm37 L1 (show Fm Z37 _ h2 from f21)) O (kc := 144) (by decide) (by decide) (set := (O1.getD (lkT G T i).2.toNat (-1, -1)).2) (by omega) (by omega)
                  refine ⟨v3, h3, hE3, L3, i3, K3, ?_⟩
                  have f3 : E37 h h3 := f2.trans f3
                  show WF d 48 182 _ [] h3 (PN p T e i h (xb (if (O1.getD (lkT G T i).2.toNat (-1, -1)).2 = -1 then xb (pTake T 193 a.2) fun i => .ok (a.1, 0, i) else _) _))
                  rw [if_neg c2, xb_as]
                  rw [R2] at R
                  generalize xb (pTake T 144 a.2) (fun j => pPlace T C G sl (O1.getD (lkT G T i).2.toNat (-1, -1)).2 j) = B at R ⊢
                  cases B with
                  | error q =>
                    refine c_48_182 (by omega) L3 K3 ⟨fun _ => bad L3 K3 f3 (by omega) R.2, fun z => absurd R.1 z⟩
                  | ok b =>
                    obtain ⟨S1, S2, S3⟩ := R
                    have g := fin177 (q := v) (r := v3) L3 K3 f3 (by omega) (by rw [S1]; exact S3)
                    rw [R1, S1, S2] at g
                    rw [R1, S1]
                    show WF d 48 182 _ [] h3 (PN p T e i h (xb (xb (pTake T 193 b.2) fun i => .ok (a.1, b.1, i)) _))
                    rw [xb_as]
                    exact g
          refine ⟨fun c1 => main (pT p + 14) 6 C.2.1 2 (Or.inl ⟨rfl, c1⟩) ⟨L.iT, Or.inl ⟨rfl, rfl⟩⟩ X.2.2.1 O.2.2.1 O.2.2.2.1 (lk.2.2.2.2.1 c1) ?_, fun c1 => main (pT p + 18) 6 C.2.2 3 (Or.inr ⟨rfl, c1⟩) ⟨L.iT, Or.inr (Or.inl ⟨rfl, rfl⟩)⟩ X.2.2.2.1 O.2.2.2.2.1 O.2.2.2.2.2.1 (lk.2.2.2.2.2.1 (by omega)) ?_⟩
          · unfold pNamed; rw [if_neg c, if_pos c1]
          · unfold pNamed; rw [if_neg c, if_neg c1, if_pos (by omega)]
      have lk0 := lk.2.1
      refine ⟨fun c => absurd c (by omega), fun _ => ⟨fun c => ⟨nst, go⟩, fun c => ⟨fun c => ⟨nst, go⟩, fun c => ⟨fun c => ⟨nst, go⟩, fun c2 => by omega⟩⟩⟩⟩
    · have no : Ly p (wi h 37 5 (-10 - (tkP T i : Int))) → TokR T e i (wi h 37 5 (-10 - (tkP T i : Int))) → PN p T e i h (pNamed T C G sl i) (some (jP 0)) (wi h 37 5 (-10 - (tkP T i : Int))) := by
        intro L1 K1
        refine ⟨0, rfl, L1, F37.1, i, K1, by omega, by show jx h ≤ _; omega, ?_⟩
        unfold pNamed
        rw [if_neg (by omega), if_neg (by omega), if_neg (by omega)]
        exact ⟨rfl, flt_r⟩
      exact ⟨fun _ L1 K1 => c_48_65 (by omega) L1 K1 (no L1 K1), fun _ => ⟨fun c => absurd (Or.inl c) c0, fun _ => ⟨fun c => absurd (Or.inr (Or.inl c)) c0, fun _ => ⟨fun c => absurd (Or.inr (Or.inr c)) c0, fun _ L1 K1 => c_48_65 (by omega) L1 K1 (no L1 K1)⟩⟩⟩⟩
  obtain ⟨w, h', hE, v, rfl, r⟩ := jE_of (as := [jP 93]) (Nat.le_of_ble_eq_true rfl) key
  exact ⟨v, h', hE, r⟩
end RD1
