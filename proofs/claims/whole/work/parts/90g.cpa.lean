/-! THE CLASS: what is added to the paper -/
theorem td10 (m : Nat) : Int.tdiv (-(m : Int)) 10 = -((m / 10 : Nat) : Int) ∧ Int.tmod (-(m : Int)) 10 = -((m % 10 : Nat) : Int) := by
  rw [Int.neg_tdiv, Int.neg_tmod, Int.tdiv_eq_ediv_of_nonneg (by omega), Int.tmod_eq_emod_of_nonneg (by omega)]
  omega
theorem take_sn {l : List Int} {k : Nat} (hk : k < l.length) : l.take (k + 1) = l.take k ++ [l.getD k 0] := by
  rw [List.take_add_one, List.getElem?_eq_getElem hk, List.getD_eq_getElem?_getD, List.getElem?_eq_getElem hk]; rfl
abbrev Z356 (a : Nat) : Prop := a = 35 ∨ a = 36
/-- the paper bears W, nothing else has changed -/
def PA (p : Lpar) (W : List Int) (h h' : AH) : Prop := Ly p h' ∧ Pap W h' ∧ Fe Z356 h h'
section CPA
variable {p : Lpar} {d : Nat} {h h0 h' g : AH} {W w l : List Int} {v : Int} {Q : Option AV → AH → Prop}
theorem PA.tr {h1 h2 : AH} (f : Fe Z356 h h1) (q : PA p W h1 h2) : PA p W h h2 := ⟨q.1, q.2.1, f.1.trans q.2.2.1, q.2.2.2.trans f.2⟩
theorem m_2p (hd : 1 ≤ d) (L : Ly p h) (P : Pap W h) (hl : W.length < 1551) (v0 : 0 ≤ v) (v1 : v ≤ 255) : ∃ h', jE d 2 [jP 35, jI v] h none h' ∧ PA p (W ++ [v]) h h' := by
  have E := m_2 (d := d) (b := 35) (N := 1551) (n := W.length) (v := v) hd L (Or.inr ⟨rfl, rfl⟩) P.1 hl v0 v1
  have bt := b2_and v.toNat (by omega)
  rw [show ((v.toNat : Nat) : Int) = v by omega] at bt
  refine ⟨_, E, (L.wi (by omega)).wi (by omega), ⟨?_, ?_, fun k hk => ?_⟩, (Fm.wi (by omega)).trans (Fm.wi (by omega)), rfl⟩
  · rw [ji_wi, if_pos ⟨rfl, rfl⟩, List.length_append]; rfl
  · rw [List.length_append]; show W.length + 1 ≤ 1551; omega
  · rw [List.length_append] at hk
    have hk : k < W.length + 1 := hk
    rw [ji_wi, if_neg (by omega), ji_wi]
    by_cases e : k = W.length
    · rw [if_pos ⟨rfl, e⟩, bt, e, getD_app3 _ _ _ (Nat.le_refl _), Nat.sub_self]; rfl
    · rw [if_neg (by omega), getD_app2 _ _ _ (by omega)]; exact P.2.2 k (by omega)
theorem m_3 (hd : 6 ≤ d) (L : Ly p h) (P : Pap W h) {i : Nat} (hi : i < 9) (hl : W.length + (sBy.getD i []).length ≤ 1551) (hb : ∀ x ∈ sBy.getD i [], 0 ≤ x ∧ x ≤ 255) : ∃ h', jE d 3 [jP 35, jP (i + 4)] h none h' ∧ PA p (W ++ sBy.getD i []) h h' := by
  suffices hh : ∃ w h', jE d 3 [jP 35, jP (i + 4)] h w h' ∧ w = none ∧ PA p (W ++ sBy.getD i []) h h' by
    obtain ⟨w, h', hE, rfl, q⟩ := hh
    exact ⟨h', hE, q⟩
  obtain ⟨d, rfl⟩ : ∃ d', d = d' + 1 := ⟨d - 1, by omega⟩
  have bb : isBy 35 1551 := Or.inr ⟨rfl, rfl⟩
  have key : ∀ (s k : Nat) (g : AH), (sBy.getD i []).length = k + s → PA p (W ++ (sBy.getD i []).take k) h g → WF d 3 2 [jP 35, jP (i + 4), jI (k : Int)] [] g (fun w h' => w = none ∧ PA p (W ++ sBy.getD i []) h h') := by
    intro s
    induction s with
    | zero =>
      intro k g hk G
      refine c_3_2 (by omega) G.1 bb ⟨G.1.sT hi, _, g, m_189 (by omega) G.1 hi, G.1, fun _ => ⟨rfl, ?_⟩, fun z => by omega⟩
      rw [List.take_of_length_le (by omega)] at G
      exact G
    | succ s ih =>
      intro k g hk G
      have hk' : k < (sBy.getD i []).length := by omega
      have b := hb _ (getD_mem hk' 0)
      obtain ⟨g1, E1, G1⟩ := m_2p (d := d) (v := (sBy.getD i []).getD k 0) (by omega) G.1 G.2.1 (by rw [List.length_append, List.length_take]; omega) b.1 b.2
      have l6 := (sBy_len i hi).1
      refine c_3_2 (by omega) G.1 bb ⟨G.1.sT hi, _, g, m_189 (by omega) G.1 hi, G.1, fun z => by omega, fun _ => ⟨G.1.sT hi, _, g, m_190 (by omega) G.1 hi hk', G.1, g1, E1, G1.1, ?_⟩⟩
      rw [w32_i (x := (k : Int) + 1) (by omega) (by omega)]
      refine ih (k + 1) g1 (by omega) ?_
      rw [take_sn hk', ← List.append_assoc]
      exact PA.tr G.2.2 G1
  refine jE_of (as := [jP 35, jP (i + 4)]) (Nat.le_of_ble_eq_true rfl) (c_3_0 (by omega) L bb ?_)
  refine key (sBy.getD i []).length 0 h (by omega) ⟨L, ?_, Fm.refl, rfl⟩
  rw [List.take_zero, List.append_nil]; exact P
theorem m_4 (hd : 3 ≤ d) (L : Ly p h) (P : Pap W h) (hl : okN0 l) (hw : W.length + l.length ≤ 1551) : ∃ h', jE d 4 [jP 35, jI (c256 l)] h none h' ∧ PA p (W ++ l) h h' := by
  suffices hh : ∃ w h', jE d 4 [jP 35, jI (c256 l)] h w h' ∧ w = none ∧ PA p (W ++ l) h h' by
    obtain ⟨w, h', hE, rfl, q⟩ := hh
    exact ⟨h', hE, q⟩
  obtain ⟨d, rfl⟩ : ∃ d', d = d' + 1 := ⟨d - 1, by omega⟩
  have bb : isBy 35 1551 := Or.inr ⟨rfl, rfl⟩
  obtain ⟨r0, r1, r2⟩ := c256_r hl
  have key : ∀ (k : Nat) (g : AH) (z3 : AV), k ≤ 4 → PA p (W ++ l.take (l.length - k)) h g → WF d 4 3 [jP 35, jI (c256 l), jI (8 * (k : Int) + -8), z3] [] g (fun w h' => w = none ∧ PA p (W ++ l) h h') := by
    intro k
    induction k with
    | zero =>
      intro g z3 _ G
      refine c_4_3 (by omega) G.1 bb ⟨fun _ => ⟨rfl, ?_⟩, fun z => absurd (by decide) z⟩
      rw [show l.length - 0 = l.length from rfl, List.take_length] at G
      exact G
    | succ k ih =>
      intro g z3 hk G
      have e8 : 8 * ((k + 1 : Nat) : Int) + -8 = 8 * (k : Int) := by omega
      rw [e8]
      refine c_4_3 (by omega) G.1 bb ⟨fun z => by omega, fun _ => ?_⟩
      rw [jush_8 r0 r1 (by omega), jand255, w32_i (x := 8 * (k : Int) + -8) (by omega) (by omega)]
      have q := c256_s hl (k := k) (by omega)
      by_cases z : k < l.length
      · obtain ⟨_, q2, q3, q4⟩ := q.2 z
        rw [q2]
        obtain ⟨g1, E1, G1⟩ := m_2p (d := d) (v := l.getD (l.length - 1 - k) 0) (by omega) G.1 G.2.1 (by rw [List.length_append, List.length_take]; omega) (by omega) (by omega)
        refine ⟨fun y => by omega, fun _ => ⟨g1, E1, G1.1, ih g1 _ (by omega) ?_⟩⟩
        have hj : l.length - (k + 1) < l.length := by omega
        have e : l.take (l.length - k) = l.take (l.length - (k + 1)) ++ [l.getD (l.length - 1 - k) 0] := by
          rw [show l.length - k = (l.length - (k + 1)) + 1 by omega, take_sn hj, show l.length - 1 - k = l.length - (k + 1) by omega]
        rw [e, ← List.append_assoc]
        exact PA.tr G.2.2 G1
      · rw [q.1 (by omega)]
        refine ⟨fun _ => ih g _ (by omega) ?_, fun y => absurd (by decide) y⟩
        rw [show l.length - (k + 1) = l.length - k by omega] at G
        exact G
  refine jE_of (as := [jP 35, jI (c256 l)]) (Nat.le_of_ble_eq_true rfl) (c_4_0 (by omega) L bb ?_)
  refine key 4 h _ (by omega) ⟨L, ?_, Fm.refl, rfl⟩
  rw [show l.length - 4 = 0 by omega, List.take_zero, List.append_nil]; exact P
end CPA
