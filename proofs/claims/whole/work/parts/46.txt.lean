/-! THE READER: a whole text -/
section TXT
variable {p : Lpar} {d D : Nat} {h h' h0 h1 h2 : AH} {T : Txt} {e i i0 : Nat} {c : Dc} {S : List (Int × Int)}
def P32 (p : Lpar) (T : Txt) (e : Nat) (h : AH) (R : Er Dc) (u : Option AV) (h' : AH) : Prop := ∃ v, u = some (jI v) ∧ Ly p h' ∧ DT p h h' ∧ jx h' ≤ jx h + 2 * e + 2 ∧ Rs R (fun q => v = 0 ∧ ji h' 37 5 = -10 - (q : Int)) (fun c => v = 1 ∧ okD c ∧ ∃ i', TxR p T e i' h' c)
theorem m_58 {t N : Nat} (hd : 1 ≤ d) (L : Ly p h) (hD : isD D) (hT : isTh D t N) : ∃ h', jE d 58 [jP t] h none h' ∧ Ly p h' ∧ h' = wi (wi h t 4 0) t 5 0 := by
  obtain ⟨d, rfl⟩ := Nat.exists_eq_add_of_le' hd
  obtain ⟨v, h', hE, rfl, r⟩ := jE_of (d := d) (y := 58) (h := h) (as := [jP t]) (P := fun v h' => v = none ∧ Ly p h' ∧ h' = wi (wi h t 4 0) t 5 0) (Nat.le_of_ble_eq_true rfl) (c_58_0 (Nat.zero_le _) L hD hT (fun L1 => ⟨rfl, L1, rfl⟩))
  exact ⟨h', hE, r⟩
def clrH (h : AH) (D : Nat) : AH := wl (wr (wi (wi (wi (wi (wi (wi (wi (wi (wi (wi h (D + 1) 3 0) (D + 5) 2 0) (D + 14) 4 0) (D + 14) 5 0) (D + 18) 4 0) (D + 18) 5 0) (D + 22) 4 0) (D + 22) 5 0) D 6 0) D 12 0) D 13 0) D 14 0
theorem m_7 (hd : 2 ≤ d) (L : Ly p h) (hD : isD D) : jE d 7 [jP D] h none (clrH h D) := by
  obtain ⟨d, rfl⟩ : ∃ d', d = d' + 1 := ⟨d - 1, by omega⟩
  refine jE_eq (Nat.le_of_ble_eq_true rfl) (c_7_0 (Nat.zero_le _) L hD (fun L1 => ?_))
  obtain ⟨h1, e1, L1, rfl⟩ := m_58 (d := d) (t := D + 14) (N := 6) (by omega) L1 hD ⟨hD, Or.inl ⟨rfl, rfl⟩⟩
  obtain ⟨h2, e2, L2, rfl⟩ := m_58 (d := d) (t := D + 18) (N := 6) (by omega) L1 hD ⟨hD, Or.inr (Or.inl ⟨rfl, rfl⟩)⟩
  obtain ⟨h3, e3, L3, rfl⟩ := m_58 (d := d) (t := D + 22) (N := 10) (by omega) L2 hD ⟨hD, Or.inr (Or.inr ⟨rfl, rfl⟩)⟩
  exact ⟨_, e1, L1, _, e2, L2, _, e3, L3, fun _ => ⟨rfl, rfl⟩⟩
theorem clrH_L (L : Ly p h) (hD : isD D) : Ly p (clrH h D) := by
  have hD' := hD
  unfold isD at hD'
  unfold clrH
  refine Ly.wl (Ly.wr ?_ (by unfold mutR; omega))
  exact (((((((((L.wi (by omega)).wi (by omega)).wi (by omega)).wi (by omega)).wi (by omega)).wi (by omega)).wi (by omega)).wi (by omega)).wi (by omega)).wi (by omega)
theorem clrH_F (hD : isD D) : Fm (fun a => D ≤ a ∧ a ≤ D + 25) h (clrH h D) := by
  unfold clrH
  exact ((((((((((((Fm.wi (by omega)).trans (Fm.wi (by omega))).trans (Fm.wi (by omega))).trans (Fm.wi (by omega))).trans (Fm.wi (by omega))).trans (Fm.wi (by omega))).trans (Fm.wi (by omega))).trans (Fm.wi (by omega))).trans (Fm.wi (by omega))).trans (Fm.wi (by omega))).trans (Fm.wr (by omega)))).trans (Fm.wl (by omega))
theorem clrH_s (a k : Nat) : ji (clrH h D) a k = ji (wi (wi (wi (wi (wi (wi (wi (wi (wi (wi h (D + 1) 3 0) (D + 5) 2 0) (D + 14) 4 0) (D + 14) 5 0) (D + 18) 4 0) (D + 18) 5 0) (D + 22) 4 0) (D + 22) 5 0) (D) 6 0) (D) 12 0) a k := rfl
theorem clrH_0 : ji (clrH h D) (D + 1) 3 = 0 := by rw [clrH_s, ji_wi, if_neg (by omega), ji_wi, if_neg (by omega), ji_wi, if_neg (by omega), ji_wi, if_neg (by omega), ji_wi, if_neg (by omega), ji_wi, if_neg (by omega), ji_wi, if_neg (by omega), ji_wi, if_neg (by omega), ji_wi, if_neg (by omega), ji_wi, if_pos ⟨rfl, rfl⟩]
theorem clrH_1 : ji (clrH h D) (D + 5) 2 = 0 := by rw [clrH_s, ji_wi, if_neg (by omega), ji_wi, if_neg (by omega), ji_wi, if_neg (by omega), ji_wi, if_neg (by omega), ji_wi, if_neg (by omega), ji_wi, if_neg (by omega), ji_wi, if_neg (by omega), ji_wi, if_neg (by omega), ji_wi, if_pos ⟨rfl, rfl⟩]
theorem clrH_2 : ji (clrH h D) (D + 14) 4 = 0 := by rw [clrH_s, ji_wi, if_neg (by omega), ji_wi, if_neg (by omega), ji_wi, if_neg (by omega), ji_wi, if_neg (by omega), ji_wi, if_neg (by omega), ji_wi, if_neg (by omega), ji_wi, if_neg (by omega), ji_wi, if_pos ⟨rfl, rfl⟩]
theorem clrH_3 : ji (clrH h D) (D + 14) 5 = 0 := by rw [clrH_s, ji_wi, if_neg (by omega), ji_wi, if_neg (by omega), ji_wi, if_neg (by omega), ji_wi, if_neg (by omega), ji_wi, if_neg (by omega), ji_wi, if_neg (by omega), ji_wi, if_pos ⟨rfl, rfl⟩]
theorem clrH_4 : ji (clrH h D) (D + 18) 4 = 0 := by rw [clrH_s, ji_wi, if_neg (by omega), ji_wi, if_neg (by omega), ji_wi, if_neg (by omega), ji_wi, if_neg (by omega), ji_wi, if_neg (by omega), ji_wi, if_pos ⟨rfl, rfl⟩]
theorem clrH_5 : ji (clrH h D) (D + 18) 5 = 0 := by rw [clrH_s, ji_wi, if_neg (by omega), ji_wi, if_neg (by omega), ji_wi, if_neg (by omega), ji_wi, if_neg (by omega), ji_wi, if_pos ⟨rfl, rfl⟩]
theorem clrH_6 : ji (clrH h D) (D + 22) 4 = 0 := by rw [clrH_s, ji_wi, if_neg (by omega), ji_wi, if_neg (by omega), ji_wi, if_neg (by omega), ji_wi, if_pos ⟨rfl, rfl⟩]
theorem clrH_7 : ji (clrH h D) (D + 22) 5 = 0 := by rw [clrH_s, ji_wi, if_neg (by omega), ji_wi, if_neg (by omega), ji_wi, if_pos ⟨rfl, rfl⟩]
theorem clrH_8 : ji (clrH h D) (D) 6 = 0 := by rw [clrH_s, ji_wi, if_neg (by omega), ji_wi, if_pos ⟨rfl, rfl⟩]
theorem clrH_9 : ji (clrH h D) (D) 12 = 0 := by rw [clrH_s, ji_wi, if_pos ⟨rfl, rfl⟩]
theorem clrH_i {a k : Nat} (hq : (a = D + 1 ∧ k = 3) ∨ (a = D + 5 ∧ k = 2) ∨ ((a = D + 14 ∨ a = D + 18 ∨ a = D + 22) ∧ (k = 4 ∨ k = 5)) ∨ (a = D ∧ (k = 6 ∨ k = 12))) : ji (clrH h D) a k = 0 := by
  rcases hq with ⟨rfl, rfl⟩ | ⟨rfl, rfl⟩ | ⟨rfl | rfl | rfl, rfl | rfl⟩ | ⟨rfl, rfl | rfl⟩
  · exact clrH_0
  · exact clrH_1
  · exact clrH_2
  · exact clrH_3
  · exact clrH_4
  · exact clrH_5
  · exact clrH_6
  · exact clrH_7
  · exact clrH_8
  · exact clrH_9
theorem clrH_r : jr (clrH h D) D 13 = 0 := by unfold clrH; rw [jr_wl, jr_wr, if_pos ⟨rfl, rfl⟩]
theorem clrH_l : jl (clrH h D) D 14 = 0 := by unfold clrH; rw [jl_wl, if_pos ⟨rfl, rfl⟩]
/-- an empty text's declarations -/
theorem tx_0 (L : Ly p h) (K : TokR T e 0 h) (hi : ∀ a k, ((a = pT p + 1 ∧ k = 3) ∨ (a = pT p + 5 ∧ k = 2) ∨ ((a = pT p + 14 ∨ a = pT p + 18 ∨ a = pT p + 22) ∧ (k = 4 ∨ k = 5)) ∨ (a = pT p ∧ (k = 6 ∨ k = 12))) → ji h a k = 0) (hr : jr h (pT p) 13 = 0) (hl : jl h (pT p) 14 = 0) (ha : ji h 93 6 = 0) : TxR p T e 0 h D0 := by
  refine ⟨L, K, ⟨hi _ _ (by omega), fun k hk => absurd hk (Nat.not_lt_zero k)⟩, ⟨⟨hi _ _ (by omega), fun k hk => absurd hk (Nat.not_lt_zero k)⟩, ⟨hi _ _ (by omega), hi _ _ (by omega), fun k hk => absurd hk (Nat.not_lt_zero k)⟩, ⟨hi _ _ (by omega), hi _ _ (by omega), fun k hk => absurd hk (Nat.not_lt_zero k)⟩, ⟨hi _ _ (by omega), hi _ _ (by omega), fun k hk => absurd hk (Nat.not_lt_zero k)⟩, ⟨hi _ _ (by omega), fun k hk => absurd hk (Nat.not_lt_zero k)⟩, fun k hk => absurd hk (Nat.not_lt_zero k), fun k hk => absurd hk (Nat.not_lt_zero k), hi _ _ (by omega), fun _ => hr, fun z => absurd rfl z⟩, hl, ⟨by decide, by decide⟩, ha, by decide⟩
theorem text_run (hd : 42 ≤ d) (g : tkG T) {a1 : Nat} : ∀ (m i : Nat) (h : AH) (c : Dc) (z3 : AV), m ≤ 400 → TxR p T e i h c → okD c → DT p h0 h → jx h ≤ jx h0 + 2 * i → WF d 32 19 [jP 93, jP a1, jI (400 - (m : Int)), z3] [] h (P32 p T e h0 (pText T m c i)) := by
  intro m
  induction m with
  | zero =>
    intro i h c z3 hm H O F hj
    have hi : i ≤ e := H.2.1.2.2.2.1
    refine c_32_19 (by omega) H.1 H.2.1 ⟨fun _ L1 K1 => ⟨0, rfl, L1, F.trans DT.w37, by show jx h ≤ _; omega, rfl, flt_r⟩, fun z => absurd (by omega) z⟩
  | succ m ih =>
    intro i h c z3 hm H O F hj
    have L := H.1
    have K := H.2.1
    have hi : i ≤ e := K.2.2.2.1
    have eT : ∀ (hn : ¬ tkK T i = 3), pText T (m + 1) c i = xb (pDecl T c i) fun q => pText T m q.1 q.2 := fun hn => by
      show (if tkK T i = 3 then _ else _) = _
      rw [if_neg hn]
    have go : ∀ {y : Nat} {R : Er (Dc × Nat)}, (∃ u h', jE d y [jP 93] h u h' ∧ TxP p T e i h R u h') → pDecl T c i = R → ¬ tkK T i = 3 → ∃ x8 h3, jE d y [jP 93] h (some (jI x8)) h3 ∧ Ly p h3 ∧ ∃ i6, TokR T e i6 h3 ∧ (x8 = (0 : Int) → P32 p T e h0 (pText T (m + 1) c i) (some (jI 0)) h3) ∧ (¬ x8 = (0 : Int) → WF d 32 19 [jP 93, jP a1, jI (w32 (400 - ((m + 1 : Nat) : Int) + 1)), jI x8] [] h3 (P32 p T e h0 (pText T (m + 1) c i))) := by
      intro y R hu hR hn
      obtain ⟨u, h3, hE, v, rfl, L3, F3, i3, K3, hi3, hb3, R3⟩ := hu
      have hi4 : i3 ≤ e := K3.2.2.2.1
      refine ⟨v, h3, hE, L3, i3, K3, ?_⟩
      rw [eT hn, hR]
      cases R with
      | error q =>
        obtain ⟨r1, r2⟩ := R3
        exact ⟨fun _ => ⟨0, rfl, L3, F.trans F3, by omega, rfl, r2⟩, fun z => absurd r1 z⟩
      | ok r =>
        obtain ⟨r1, r2, r3, r4⟩ := R3
        refine ⟨fun z => by omega, fun _ => ?_⟩
        rw [w32_i (by omega) (by omega), show (400 : Int) - ((m + 1 : Nat) : Int) + 1 = 400 - (m : Int) by omega]
        show WF d 32 19 _ [] h3 (P32 p T e h0 (pText T m r.1 r.2))
        rw [← r2]
        exact ih i3 h3 r.1 _ (by omega) r4 (pDecl_ok g O hR).1 (F.trans F3) (by omega)
    refine c_32_19 (by omega) L K ⟨fun z => by omega, fun _ => ⟨fun c1 => ?_, fun c1 => ⟨fun c2 => go (r_34 (by omega) H O g c2) (by unfold pDecl; rw [if_pos c2]) c1, fun c2 => ⟨fun c3 => go (r_36 (by omega) H O g c3) (by unfold pDecl; rw [if_neg c2, if_neg (by omega), if_pos c3]) c1, fun c3 => ⟨fun c4 => go (r_35 (by omega) H O g c4) (by unfold pDecl; rw [if_neg c2, if_pos c4]) c1, fun c4 => ⟨fun c5 => go (r_39 (by omega) H O c5) (by unfold pDecl; rw [if_neg c2, if_neg c4, if_neg c3, if_neg (by omega), if_pos c5]) c1, fun c5 => ⟨fun c6 => go (r_37 (by omega) H O g c6) (by unfold pDecl; rw [if_neg c2, if_neg c4, if_neg c3, if_pos c6]) c1, fun c6 L1 K1 => ?_⟩⟩⟩⟩⟩⟩⟩
    · refine ⟨1, rfl, L, F, by omega, ?_⟩
      show Rs (if tkK T i = 3 then _ else _) _ _
      rw [if_pos c1]
      exact ⟨rfl, O, i, H⟩
    · refine ⟨0, rfl, L1, F.trans DT.w37, by show jx h ≤ _; omega, ?_⟩
      rw [eT c1]
      unfold pDecl
      rw [if_neg c2, if_neg c4, if_neg c3, if_neg c6, if_neg c5]
      exact ⟨rfl, flt_r⟩
/-- another 'to' of the reader -/
abbrev pTo (p : Lpar) (a : Nat) : Lpar := (a, p.2)
theorem ly_to (L : Ly p h) {a : Nat} (ha : isD a) : Ly (pTo p a) (wr h 93 1 a) := by
  obtain ⟨l1, l2, l3, l4, ⟨-, m2, m3, m4⟩, ⟨l6, l7, l8, l9⟩, l10⟩ := L
  have rj : ∀ b k, ¬ (b = 93 ∧ k = 1) → jr (wr h 93 1 a) b k = jr h b k := fun b k z => by rw [jr_wr, if_neg z]
  refine ⟨l1, fun e he => ?_, fun k hk => ?_, l4, ⟨ha, m2, m3, m4⟩, ⟨by rw [jr_wr, if_pos ⟨rfl, rfl⟩], ?_, ?_, ?_⟩, fun b hb => ?_⟩
  · rw [rj _ _ (by have : ∀ e ∈ refL, ¬ (e.1 = 93 ∧ e.2.1 = 1) := by decide +kernel
                   exact this e he)]
    exact l2 e he
  · rw [rj _ _ (by omega)]; exact l3 k hk
  · rw [rj _ _ (by omega)]; exact l7
  · rw [rj _ _ (by omega)]; exact l8
  · rw [rj _ _ (by omega)]; exact l9
  · obtain ⟨q1, q2, q3⟩ := l10 b hb
    exact ⟨q1, q2, fun k => ⟨(q3 k).1, by rw [rj _ _ (by omega)]; exact (q3 k).2⟩⟩
end TXT
