/-! THE REFERENCE: a number without its sign is said -/
section RPZ
variable {p : Lpar} {d : Nat} {h h0 h' g : AH} {W : List Int} {v : Int} {Q : Option AV → AH → Prop}
theorem sz_16 (hd : 9 ≤ d) : ∀ (f m n : Nat) (g : AH) (z6 : AV), m ≤ 9223372036854775808 → m < 10 ^ f → 1 ≤ f → (n = 0 ∨ 0 < m) → n + (dgs f m).length ≤ 20 → Ly p g → Fq (fun a _ => a = 196) h0 g → (∀ g' v3, Ly p g' → Fq (fun a _ => a = 196) h0 g' → (∀ k, k < n → ji g' 196 k = ji g 196 k) → (∀ t, t < (dgs f m).length → ji g' 196 (n + t) = (dgs f m).getD ((dgs f m).length - 1 - t) 0 - 48) → WF d 184 59 [jP 141, jL v, jU, jL v3, jU, jI ((n + (dgs f m).length : Nat) : Int), jI (((n + (dgs f m).length : Nat) : Int) + -1)] [] g' Q) → WF d 184 16 [jP 141, jL v, jU, jL (-(m : Int)), jU, jI (n : Int), z6] [] g Q := by
  intro f
  induction f with
  | zero => intro m n g z6 _ _ h1; omega
  | succ f ih =>
    intro m n g z6 hb hm _ hn hl L F K
    have t := td10 m
    have ev : w32 (w64 (-(w64 (Int.tmod (-(m : Int)) 10)))) = ((m % 10 : Nat) : Int) := by
      rw [t.2, w64_id (x := -((m % 10 : Nat) : Int)) (by unfold r64; omega), Int.neg_neg, w64_id (by unfold r64; omega), w32_i (by omega) (by omega)]
    have ed2 : w64 (Int.tdiv (-(m : Int)) 10) = -((m / 10 : Nat) : Int) := by
      rw [t.1, w64_id (by unfold r64; omega)]
    clear t
    have body : Ly p (wi g 196 n ((m % 10 : Nat) : Int)) → WF d 184 16 [jP 141, jL v, jU, jL (-((m / 10 : Nat) : Int)), jU, jI ((n : Int) + 1), z6] [] (wi g 196 n ((m % 10 : Nat) : Int)) Q := by
      intro L2
      have F2 : Fq (fun a _ => a = 196) h0 (wi g 196 n ((m % 10 : Nat) : Int)) := F.trans (Fq.wi rfl)
      have e2 : ji (wi g 196 n ((m % 10 : Nat) : Int)) 196 n = ((m % 10 : Nat) : Int) := by rw [ji_wi, if_pos ⟨rfl, rfl⟩]
      have k2 : ∀ k, k < n → ji (wi g 196 n ((m % 10 : Nat) : Int)) 196 k = ji g 196 k := fun k hk => by rw [ji_wi, if_neg (by omega)]
      generalize wi g 196 n ((m % 10 : Nat) : Int) = g2 at L2 F2 e2 k2 ⊢
      by_cases z : m < 10
      · have ed : dgs (f + 1) m = [48 + (m : Int)] := by
          show (if m < 10 then _ else _) = _
          rw [if_pos z]
        rw [ed] at K hl
        have hl : n + 1 ≤ 20 := hl
        rw [show m / 10 = 0 by omega]
        refine c_184_16 hd L2 ⟨fun _ => ⟨fun y => by omega, fun _ => ?_⟩, fun y => absurd (by decide) y⟩
        rw [w32_i (x := (n : Int) + 1 - 1) (by omega) (by omega)]
        have q := K g2 (-((0 : Nat) : Int)) L2 F2 k2 (fun t ht => by
          have ht : t < 1 := ht
          have e : t = 0 := by omega
          subst e
          show ji g2 196 (n + 0) = 48 + (m : Int) - 48
          rw [Nat.add_zero, e2]; omega)
        have q : WF d 184 59 [jP 141, jL v, jU, jL (-((0 : Nat) : Int)), jU, jI ((n + 1 : Nat) : Int), jI (((n + 1 : Nat) : Int) + -1)] [] g2 Q := q
        rw [show ((n + 1 : Nat) : Int) = (n : Int) + 1 by omega, show (n : Int) + 1 + -1 = (n : Int) + 1 - 1 by omega] at q
        exact q
      · have ed : dgs (f + 1) m = dgs f (m / 10) ++ [48 + ((m % 10 : Nat) : Int)] := by
          show (if m < 10 then _ else _) = _
          rw [if_neg z]
        rw [Nat.pow_succ] at hm
        have f1 : 1 ≤ f := by
          by_cases y : f = 0
          · subst y; omega
          · omega
        rw [ed, List.length_append] at K hl
        have hl : n + ((dgs f (m / 10)).length + 1) ≤ 20 := hl
        have q := ih (m / 10) (n + 1) g2 z6 (by omega) (by omega) f1 (Or.inr (by omega)) (by omega) L2 F2 (fun g' v3 L' F' k' D' => ?_)
        · exact q
        · have q := K g' v3 L' F' (fun k hk => (k' k (by omega)).trans (k2 k hk)) (fun t ht => ?_)
          · have q : WF d 184 59 [jP 141, jL v, jU, jL v3, jU, jI ((n + ((dgs f (m / 10)).length + 1) : Nat) : Int), jI (((n + ((dgs f (m / 10)).length + 1) : Nat) : Int) + -1)] [] g' Q := q
            rw [show n + ((dgs f (m / 10)).length + 1) = n + 1 + (dgs f (m / 10)).length by omega] at q
            exact q
          · have ht : t < (dgs f (m / 10)).length + 1 := ht
            show ji g' 196 (n + t) = (dgs f (m / 10) ++ [48 + ((m % 10 : Nat) : Int)]).getD ((dgs f (m / 10)).length + 1 - 1 - t) 0 - 48
            by_cases e : t = 0
            · subst e
              rw [getD_app3 _ _ _ (by omega), show (dgs f (m / 10)).length + 1 - 1 - 0 - (dgs f (m / 10)).length = 0 by omega, Nat.add_zero, k' n (by omega), e2]
              show _ = 48 + ((m % 10 : Nat) : Int) - 48
              omega
            · have q := D' (t - 1) (by omega)
              rw [show n + 1 + (t - 1) = n + t by omega] at q
              rw [q, getD_app2 _ _ _ (by omega), show (dgs f (m / 10)).length + 1 - 1 - t = (dgs f (m / 10)).length - 1 - (t - 1) by omega]
    have n20 : n < 20 := by
      have := (dgs_len (f + 1) m (f + 1) (Nat.le_refl _) (by omega) hm).1
      omega
    refine c_184_16 hd L ?_
    rw [ev, ed2, Int.toNat_natCast, w32_i (x := (n : Int) + 1) (by omega) (by omega)]
    clear ev ed2
    refine ⟨fun z => ⟨fun y => ⟨by omega, by omega, body⟩, fun y => ?_⟩, fun z => ⟨by omega, by omega, body⟩⟩
    have := jcmp_0.mp z
    omega
theorem m_184 (hd : 10 ≤ d) (L : Ly p h) (P : PapM W h) (hv : r64 v) (hw : W.length + (szL v).length ≤ 1551) : ∃ h', jE d 184 [jP 141, jL v] h none h' ∧ PM p (W ++ szL v) h h' := by
  suffices hh : ∃ w h', jE d 184 [jP 141, jL v] h w h' ∧ w = none ∧ PM p (W ++ szL v) h h' by
    obtain ⟨w, h', hE, rfl, q⟩ := hh
    exact ⟨h', hE, q⟩
  obtain ⟨d, rfl⟩ : ∃ d', d = d' + 1 := ⟨d - 1, by omega⟩
  unfold r64 at hv
  have mb : v.natAbs ≤ 9223372036854775808 := by omega
  have ml : v.natAbs < 10 ^ 20 := by omega
  have dl := dgs_len 20 v.natAbs 20 (by omega) (by omega) ml
  have hw : W.length + (dgs 20 v.natAbs).length ≤ 1551 := hw
  have main : ∀ u : Int, u = -(v.natAbs : Int) → WF d 184 16 [jP 141, jL v, jU, jL u, jU, jI 0, jU] [] h (fun w h' => w = none ∧ PM p (W ++ szL v) h h') := by
    intro u hu
    rw [hu]
    refine sz_16 (h0 := h) (by omega) 20 v.natAbs 0 h _ mb ml (by omega) (Or.inl rfl) (by omega) L Fq.refl (fun g' v3 L' F' _ D' => ?_)
    have G' : PM p W h g' := ⟨L', ⟨(F'.i (by omega)).trans P.1, P.2.1, fun k hk => (F'.i (by omega)).trans (P.2.2 k hk)⟩, F'.mono (fun a k z => Or.inr (Or.inr z))⟩
    have q := sz_59 (W := W) (v := v) (v3 := v3) (v5 := ((0 + (dgs 20 v.natAbs).length : Nat) : Int)) (S := dgs 20 v.natAbs) (d := d) (by omega) dl.2 hw (dgs 20 v.natAbs).length g' (Nat.le_refl _) (by rw [Nat.sub_self, List.take_zero, List.append_nil]; exact G') (fun j hj => by
      have q := D' j hj
      rw [Nat.zero_add] at q
      exact q) (dgs_b 20 v.natAbs)
    rw [Nat.zero_add] at q ⊢
    exact q
  have cp := jcmp_p (a := v) (b := 0)
  refine jE_of (as := [jP 141, jL v]) (Nat.le_of_ble_eq_true rfl) (c_184_0 (by omega) L ⟨fun z => main v (by omega), fun z => main (w64 (-v)) ?_⟩)
  rw [w64_id (by unfold r64; omega)]
  omega
end RPZ
