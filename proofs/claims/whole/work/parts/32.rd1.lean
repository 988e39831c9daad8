-- needs: 20.num 21.lay 22.spec 23.va 24.leaf 25.tbls 26.thg 27.tok 29.fr 30.tree 28.vb1 28.vb2 28.vb3 31.ctx
/-! THE READER: places, names, indices -/
abbrev Z37 (a : Nat) : Prop := a = 37
section RD1
variable {p : Lpar} {d : Nat} {h : AH} {C : Cx} {G : NmL} {sl : List Int} {T : Txt} {e i : Nat}
theorem F37 {k : Nat} {x : Int} : Fm Z37 h (wi h 37 k x) := Fm.wi rfl
theorem flt_r {k : Nat} {x : Int} : ji (wi h 37 k x) 37 k = x := by rw [ji_wi, if_pos ⟨rfl, rfl⟩]
theorem r_49 (hd : 12 ≤ d) (L : Ly p h) (K : TokR T e i h) (X : SmX (pT p) C G sl h) (O : okX C G sl) {kc : Int} (hkc : cknL.any (fun e => e.1 == kc) = true) (hk3 : ¬ (kc = 3 ∨ kc = 4)) {set : Int} (h0 : 0 ≤ set) (h1 : set < (C.1.length : Int)) : ∃ v h', jE d 49 [jP 93, jI (ck kc), jI set] h (some (jI v)) h' ∧ Ly p h' ∧ Fm Z37 h h' ∧ ∃ i', TokR T e i' h' ∧ i ≤ i' ∧ Rs (xb (pTake T kc i) (fun j => pPlace T C G sl set j)) (fun q => v = -1000 ∧ ji h' 37 5 = -10 - (q : Int)) (fun r => v = r.1 ∧ i' = r.2 ∧ ¬ r.1 = -1000) := by
  obtain ⟨d, rfl⟩ : ∃ d', d = d' + 1 := ⟨d - 1, by omega⟩
  have hG := O.1
  have key : WF d 49 0 [jP 93, jI (ck kc), jI set, jU, jU] [] h (fun w h' => ∃ v, w = some (jI v) ∧ Ly p h' ∧ Fm Z37 h h' ∧ ∃ i', TokR T e i' h' ∧ i ≤ i' ∧ Rs (xb (pTake T kc i) (fun j => pPlace T C G sl set j)) (fun q => v = -1000 ∧ ji h' 37 5 = -10 - (q : Int)) (fun r => v = r.1 ∧ i' = r.2 ∧ ¬ r.1 = -1000)) := by
    refine c_49_0 hkc hk3 (by omega) L K ⟨fun c L1 K1 => ?_, fun c L1 K1 => ?_⟩
    · have X1 := X.tok (k := 4) (x := ((i + 1 : Nat) : Int)) L.iT
      have tw := K1.ok
      rw [take_y c]
      refine ⟨_, _, m_26 (by omega) L1 L1.iT X1.1 hG.1, L1, _, K1, ?_⟩
      rw [nmT_fd K1 hG (by omega)]
      refine ⟨fun q => ⟨fun q2 => ?_, fun q2 L2 K2 => ?_⟩, fun q => ?_⟩
      · -- a NUMBER
        have tv := tw.2.2.1 q2
        refine ⟨_, _, m_55 (by omega) L1 L1.iT X1.2.1 O.2.1 tw.2.2.2.2, L1, _, K1, fun q3 L2 K2 => ?_, fun q3 => ⟨fun q4 => by omega, fun q4 => ⟨ns q2 (by omega), fun L2 K2 => ?_⟩⟩⟩
        · refine ⟨-1000, rfl, L2, F37.trans F37, i + 1, K2, by omega, ?_⟩
          rw [tv.1] at q3
          show Rs (pPlace T C G sl set (i + 1)) _ _
          unfold pPlace
          rw [if_pos q2, if_pos q3]
          exact ⟨rfl, flt_r⟩
        · refine ⟨_, rfl, L2, F37.trans F37, i + 2, K2, by omega, ?_⟩
          rw [tv.1] at q3
          show Rs (pPlace T C G sl set (i + 1)) _ _
          unfold pPlace
          rw [if_pos q2, if_neg q3]
          exact ⟨tv.1, rfl, by omega⟩
      · -- no NUMBER, no index
        refine ⟨-1000, rfl, L2, F37.trans F37, i + 1, K2, by omega, ?_⟩
        show Rs (pPlace T C G sl set (i + 1)) _ _
        unfold pPlace
        rw [if_neg q2, if_neg]
        · exact ⟨rfl, flt_r⟩
        · intro z
          rw [if_pos z.1] at q
          have := O.lk (T := T) (i := i + 1) (by omega)
          omega
      · -- an index
        have c4 : (lkT G T (i + 1)).1 = 4 := by
          by_cases c4 : (lkT G T (i + 1)).1 = 4
          · exact c4
          · rw [if_neg c4] at q; exact absurd rfl q
        rw [if_pos c4] at q ⊢
        have lk := O.lk (T := T) (i := i + 1) (by omega)
        have l4 := lk.2.2.2.2.2.2.1 c4
        have n2 : ¬ tkK T (i + 1) = 2 := by rw [lk.1]; decide
        have hxo : jxor (lkT G T (i + 1)).2 (-1) = -1 - (lkT G T (i + 1)).2 := by rw [jxor_m1 (by unfold r32; omega)]; omega
        have es : slO sl (lkT G T (i + 1)).2 = sl.getD (lkT G T (i + 1)).2.toNat (-1) := by unfold slO; rw [if_neg (by omega)]
        refine ⟨_, _, m_44 (by omega) L1 K1 X1.2.2.2.2 O.2.2.2.2.2.2.1, L1, _, K1, _, _, m_56 (by omega) L1 L1.iT X1.2.1 O.2.1, L1, _, K1, fun q3 => ⟨fun q2 => absurd q2 n2, fun _ L2 K2 => ?_⟩, fun q3 => ⟨fun q2 => absurd q2 n2, fun _ => ?_⟩⟩
        · refine ⟨-1000, rfl, L2, F37.trans F37, i + 1, K2, by omega, ?_⟩
          show Rs (pPlace T C G sl set (i + 1)) _ _
          unfold pPlace
          rw [if_neg n2, if_neg]
          · exact ⟨rfl, flt_r⟩
          · intro z
            rw [es, if_pos z.2] at q3
            exact absurd q3 (by decide)
        · rw [hxo]
          refine ⟨fun q4 => by omega, fun q4 => ⟨ns lk.1 (by decide), fun L2 K2 => ?_⟩⟩
          refine ⟨_, rfl, L2, F37.trans F37, i + 2, K2, by omega, ?_⟩
          show Rs (pPlace T C G sl set (i + 1)) _ _
          unfold pPlace
          rw [if_neg n2, if_pos]
          · exact ⟨rfl, rfl, by omega⟩
          · refine ⟨c4, ?_⟩
            rw [es] at q3
            by_cases z : wiO C.1 (sl.getD (lkT G T (i + 1)).2.toNat (-1)) set = true
            · exact z
            · rw [if_neg z] at q3; exact absurd rfl q3
    · refine ⟨-1000, rfl, L1, F37, i, K1, by omega, ?_⟩
      rw [take_n c]
      exact ⟨rfl, flt_r⟩
  obtain ⟨w, h', hE, v, rfl, r⟩ := jE_of (as := [jP 93, jI (ck kc), jI set]) (Nat.le_of_ble_eq_true rfl) key
  exact ⟨v, h', hE, r⟩
/-- a new factor -/
def FcH (h : AH) (k w o q : Int) : AH := wi (wi (wi (wi (wi (nw h 3 7) (jx h) 0 k) (jx h) 1 w) (jx h) 2 o) (jx h) 3 q) (jx h) 5 (if k = 3 then 1 else 0)
theorem FcH_x (h : AH) (k w o q : Int) : jx (FcH h k w o q) = jx h + 1 := rfl
theorem FcH_ok (hd : 1 ≤ d) (L : Ly p h) {k w o q : Int} : jE d 11 [jP (jx h), jI k, jI w, jI o, jI q] (nw h 3 7) none (FcH h k w o q) := m_11 hd L.nx (by rw [jt_nw, if_pos rfl])
theorem FcH_L (L : Ly p h) {k w o q : Int} : Ly p (FcH h k w o q) := by
  have hx := L.nx
  have h32 : 32 ≤ jx h := Nat.le_trans (by decide) hx
  exact ((((L.nw.wi h32).wi h32).wi h32).wi h32).wi h32
theorem FcH_K (L : Ly p h) (K : TokR T e i h) {k w o q : Int} : TokR T e i (FcH h k w o q) := by
  have hx := L.nx
  have h32 : 40 < jx h := Nat.lt_of_lt_of_le (by decide) hx
  exact ((((TokR.snw K L).swi (Or.inr h32)).swi (Or.inr h32)).swi (Or.inr h32)).swi (Or.inr h32) |>.swi (Or.inr h32)
theorem FcH_F {Z : Nat → Prop} {k w o q : Int} : Fm Z h (FcH h k w o q) := by
  refine ⟨fun a ha _ j => ⟨?_, ?_, ?_⟩, fun a ha => ⟨?_, ?_⟩, by rw [FcH_x]; omega, ?_⟩
  · simp only [FcH, ji_wi, ji_nw]
    rw [if_neg (by omega), if_neg (by omega), if_neg (by omega), if_neg (by omega), if_neg (by omega), if_neg (by omega)]
  · show jl (nw h 3 7) a j = _
    rw [jl_nw, if_neg (by omega)]
  · show jr (nw h 3 7) a j = _
    rw [jr_nw, if_neg (by omega)]
  · show jt (nw h 3 7) a = _
    rw [jt_nw, if_neg (by omega)]
  · show jn (nw h 3 7) a = _
    rw [jn_nw, if_neg (by omega)]
  · show ju h + 7 + 7 * jx h ≤ ju h + 7 * (jx h + 1)
    omega
theorem FcH_f {k w o q : Int} : jt (FcH h k w o q) (jx h) = 3 ∧ ji (FcH h k w o q) (jx h) 0 = k ∧ ji (FcH h k w o q) (jx h) 1 = w ∧ ji (FcH h k w o q) (jx h) 2 = o ∧ ji (FcH h k w o q) (jx h) 3 = q ∧ ji (FcH h k w o q) (jx h) 5 = (if k = 3 then 1 else 0) := by
  refine ⟨?_, ?_, ?_, ?_, ?_, ?_⟩
  · show jt (nw h 3 7) (jx h) = 3
    rw [jt_nw, if_pos rfl]
  · simp [FcH, ji_wi]
  · simp [FcH, ji_wi]
  · simp [FcH, ji_wi]
  · simp [FcH, ji_wi]
  · simp [FcH, ji_wi]
theorem FcH_t {t : Nat} (ht : t ≤ 3) {w o q o2 q2 : Int} (ho : 2 ≤ t → o2 = o ∧ q2 = q) {l r : Ex} : tR (FcH h t w o q) (xNd t (w, o2, q2) l r) 0 (jx h) (jx h + 1) (jx h) 0 := by
  obtain ⟨f1, f2, f3, f4, f5, f6⟩ := FcH_f (h := h) (k := (t : Int)) (w := w) (o := o) (q := q)
  unfold tR
  rw [if_pos ht]
  refine ⟨rfl, Nat.le_refl _, by omega, f1, f2, f3, fun h2 => ?_, ?_⟩
  · rw [f4, f5, (ho h2).1, (ho h2).2]; exact ⟨rfl, rfl⟩
  · rw [f6]
    by_cases c : t = 3
    · rw [if_pos c, if_pos (by omega)]
    · rw [if_neg c, if_neg (by omega)]
theorem SmX.fm37 {h' : AH} (X : SmX (pT p) C G sl h) (L : Ly p h) (f : Fm Z37 h h') : SmX (pT p) C G sl h' := by
  have hx := L.nx
  have hD := L.iT
  unfold isD at hD
  have hN : NF = 197 := rfl
  exact X.cg (fun a k q => f.ji (by omega) (by show ¬ a = 37; omega) k)
theorem r_48 (hd : 13 ≤ d) (L : Ly p h) (K : TokR T e i h) (X : SmX (pT p) C G sl h) (O : okX C G sl) : ∃ v h', jE d 48 [jP 93] h (some (jP v)) h' ∧ Ly p h' ∧ Fm Z37 h h' ∧ ∃ i', TokR T e i' h' ∧ i ≤ i' ∧ jx h' ≤ jx h + 1 ∧ Rs (pNamed T C G sl i) (fun q => v = 0 ∧ ji h' 37 5 = -10 - (q : Int)) (fun r => i' = r.2 ∧ i < i' ∧ tR h' r.1 0 (jx h) (jx h') v 0) := by
  obtain ⟨d, rfl⟩ : ∃ d', d = d' + 1 := ⟨d - 1, by omega⟩
  have hG := O.1
  have hx := L.nx
  have tw := K.ok
  have hv0 : ∀ {x y : Int}, y = -1000 → ¬ x = -1000 → ¬ x = y := fun a b c => b (c.trans a)
  have key : WF d 48 0 [jP 93, jU, jU, jU, jU, jU] [] h (fun w h' => ∃ v, w = some (jP v) ∧ Ly p h' ∧ Fm Z37 h h' ∧ ∃ i', TokR T e i' h' ∧ i ≤ i' ∧ jx h' ≤ jx h + 1 ∧ Rs (pNamed T C G sl i) (fun q => v = 0 ∧ ji h' 37 5 = -10 - (q : Int)) (fun r => i' = r.2 ∧ i < i' ∧ tR h' r.1 0 (jx h) (jx h') v 0)) := by
    refine c_48_0 (by omega) L K ⟨_, _, m_25 (by omega) L L.iT X.1 hG.1, L, _, K, ?_⟩
    rw [nmT_lk K hG]
    refine c_48_18 (by omega) L K ⟨_, _, m_26 (by omega) L L.iT X.1 hG.1, L, _, K, ?_⟩
    refine c_48_37 (by omega) L K ?_
    by_cases c0 : (lkT G T i).1 = 4 ∨ (lkT G T i).1 = 1 ∨ (lkT G T i).1 = 2
    · have lk := O.lk (T := T) (i := i) (by omega)
      have fd : fdC G (lkT G T i).1 (nmT T i) = (lkT G T i).2 := by rw [nmT_fd K hG lk.2.2.2.2.2.2.2.1, if_pos rfl]
      rw [fd]
      have nst := ns lk.1 (by decide)
      have go : Ly p (wi h 37 4 ((i + 1 : Nat) : Int)) → TokR T e (i + 1) (wi h 37 4 ((i + 1 : Nat) : Int)) → WF d 48 69 [jP 93, jI (lkT G T i).1, jI (lkT G T i).2, jU, jU, jU] [] (wi h 37 4 ((i + 1 : Nat) : Int)) (fun w h' => ∃ v, w = some (jP v) ∧ Ly p h' ∧ Fm Z37 h h' ∧ ∃ i', TokR T e i' h' ∧ i ≤ i' ∧ jx h' ≤ jx h + 1 ∧ Rs (pNamed T C G sl i) (fun q => v = 0 ∧ ji h' 37 5 = -10 - (q : Int)) (fun r => i' = r.2 ∧ i < i' ∧ tR h' r.1 0 (jx h) (jx h') v 0)) := by
        intro L1 K1
        have X1 := X.tok (k := 4) (x := ((i + 1 : Nat) : Int)) L.iT
        refine c_48_69 (by omega) L1 K1 ⟨fun c L2 K2 => ?_, fun c => ?_⟩
        · refine ⟨_, FcH_ok (h := wi h 37 4 ((i + 1 : Nat) : Int)) (by omega) L1, FcH_L L1, _, FcH_K L1 K1, _, rfl, FcH_L L1, F37.trans FcH_F, _, FcH_K L1 K1, by omega, Nat.le_refl _, ?_⟩
          unfold pNamed
          rw [if_pos c]
          exact ⟨rfl, by omega, FcH_t (t := 1) (by omega) (fun z => by omega)⟩
        · -- data or a var
          have main : ∀ (t N : Nat) (O1 : List (Int × Int)) (kd : Nat), (kd = 2 ∧ (lkT G T i).1 = 1 ∨ kd = 3 ∧ ¬ (lkT G T i).1 = 1) → isTh (pT p) t N → ThR h t C.1 O1 → okO C.1 O1 → O1.length ≤ N → (lkT G T i).2 < (O1.length : Int) → pNamed T C G sl i = xb (pPlaces T C G sl (O1.getD (lkT G T i).2.toNat (-1, -1)) (i + 1)) (fun q => .ok (xNd kd ((lkT G T i).2, q.1, q.2.1) .leaf .leaf, q.2.2)) → WF d 48 109 [jP 93, jI (lkT G T i).1, jI (lkT G T i).2, jP t, jU, jU] [] (wi h 37 4 ((i + 1 : Nat) : Int)) (fun w h' => ∃ v, w = some (jP v) ∧ Ly p h' ∧ Fm Z37 h h' ∧ ∃ i', TokR T e i' h' ∧ i ≤ i' ∧ jx h' ≤ jx h + 1 ∧ Rs (pNamed T C G sl i) (fun q => v = 0 ∧ ji h' 37 5 = -10 - (q : Int)) (fun r => i' = r.2 ∧ i < i' ∧ tR h' r.1 0 (jx h) (jx h') v 0)) := by
            intro t N O1 kd hkd hT hR hO hN hl hp
            rw [hp]
            refine c_48_109 (by omega) L1 K1 (c_48_112 (by omega) L1 K1 (c_48_115 (by omega) L1 K1 ?_))
            sorry
          rw [show (lkT G T i).1 = (lkT G T i).1 from rfl]
          sorry
      refine ⟨fun c => ⟨nst, go⟩, fun c => ⟨fun c => ⟨nst, go⟩, fun c => ⟨fun c => ⟨nst, go⟩, fun c2 => by omega⟩⟩⟩
    · refine ⟨fun c => absurd (Or.inl c) c0, fun _ => ⟨fun c => absurd (Or.inr (Or.inl c)) c0, fun _ => ⟨fun c => absurd (Or.inr (Or.inr c)) c0, fun _ L1 K1 => c_48_60 (by omega) L1 K1 ?_⟩⟩⟩
      refine ⟨0, rfl, L1, F37, i, K1, by omega, by show jx h ≤ _; omega, ?_⟩
      unfold pNamed
      rw [if_neg (by omega), if_neg (by omega), if_neg (by omega)]
      exact ⟨rfl, flt_r⟩
  obtain ⟨w, h', hE, v, rfl, r⟩ := jE_of (as := [jP 93]) (Nat.le_of_ble_eq_true rfl) key
  exact ⟨v, h', hE, r⟩
end RD1
