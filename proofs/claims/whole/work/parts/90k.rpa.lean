/-! THE REFERENCE: what is said -/
abbrev ZPm (a k : Nat) : Prop := (a = 141 ∧ k = 81) ∨ a = 195 ∨ a = 196
def PM (p : Lpar) (W : List Int) (h h' : AH) : Prop := Ly p h' ∧ PapM W h' ∧ Fq ZPm h h'
section RPA
variable {p : Lpar} {d y pc : Nat} {h h0 h' g : AH} {W l : List Int} {v x : Int} {Q : Option AV → AH → Prop} {ls : List AV}
theorem PM.tr {h1 h2 : AH} (f : Fq ZPm h h1) (q : PM p W h1 h2) : PM p W h h2 := ⟨q.1, q.2.1, f.trans q.2.2⟩
theorem sayM (G : PM p W h g) (hl : W.length < 1551) (K : ∀ g', PM p (W ++ [x]) h g' → (∀ j, ji g' 196 j = ji g 196 j) → WF d y pc ls [] g' Q) : 0 ≤ ji g 141 81 ∧ ji g 141 81 < 2400 ∧ (Ly p (wi (wi g 195 (Int.toNat (ji g 141 81)) x) 141 81 (ji g 141 81 + 1)) → WF d y pc ls [] (wi (wi g 195 (Int.toNat (ji g 141 81)) x) 141 81 (ji g 141 81 + 1)) Q) := by
  have P := G.2.1
  rw [P.1, Int.toNat_natCast]
  refine ⟨by omega, by omega, fun L2 => K _ ⟨L2, ⟨?_, ?_, fun k hk => ?_⟩, (G.2.2.trans (Fq.wi (by omega))).trans (Fq.wi (by omega))⟩ (fun j => ?_)⟩
  · rw [ji_wi, if_pos ⟨rfl, rfl⟩, List.length_append]; rfl
  · rw [List.length_append]; show W.length + 1 ≤ 1551; omega
  · rw [List.length_append] at hk
    have hk : k < W.length + 1 := hk
    rw [ji_wi, if_neg (by omega), ji_wi]
    by_cases e : k = W.length
    · rw [if_pos ⟨rfl, e⟩, e, getD_app3 _ _ _ (Nat.le_refl _), Nat.sub_self]; rfl
    · rw [if_neg (fun q => e q.2), getD_app2 _ _ _ (by omega)]; exact P.2.2 k (by omega)
  · rw [ji_wi, if_neg (by omega), ji_wi, if_neg (by omega)]
theorem m_183 (hd : 11 ≤ d) (L : Ly p h) (P : PapM W h) (hl : okN0 l) (hw : W.length + l.length ≤ 1551) : ∃ h', jE d 183 [jP 141, jI (c27 l)] h none h' ∧ PM p (W ++ l) h h' := by
  suffices hh : ∃ w h', jE d 183 [jP 141, jI (c27 l)] h w h' ∧ w = none ∧ PM p (W ++ l) h h' by
    obtain ⟨w, h', hE, rfl, q⟩ := hh
    exact ⟨h', hE, q⟩
  obtain ⟨d, rfl⟩ : ∃ d', d = d' + 1 := ⟨d - 1, by omega⟩
  obtain ⟨⟨_, _, r2⟩, _, A⟩ := c27_s hl
  have key : ∀ (s k : Nat) (g : AH), l.length = k + s → PM p (W ++ l.take k) h g → WF d 183 2 [jP 141, jI (c27 l), jI (k : Int)] [] g (fun w h' => w = none ∧ PM p (W ++ l) h h') := by
    intro s
    induction s with
    | zero =>
      intro k g hk G
      have E := m_160 (d := d) (i := (k : Int)) (by omega) G.1 hl
      rw [if_neg (by omega)] at E
      rw [List.take_of_length_le (by omega)] at G
      exact c_183_2 (by omega) G.1 ⟨_, g, E, G.1, fun _ => ⟨rfl, G⟩, fun z => absurd rfl z⟩
    | succ s ih =>
      intro k g hk G
      have hk' : k < l.length := by omega
      have E := m_160 (d := d) (i := (k : Int)) (by omega) G.1 hl
      rw [if_pos ⟨by omega, by omega⟩, Int.toNat_natCast] at E
      have q := A (l.length - 1 - k) (by omega)
      rw [show l.length - 1 - (l.length - 1 - k) = k by omega] at q
      refine c_183_2 (by omega) G.1 ⟨_, g, E, G.1, fun z => by omega, fun _ => ⟨_, g, E, G.1, ?_⟩⟩
      refine sayM G (by rw [List.length_append, List.length_take]; omega) (fun g' G' _ => ?_)
      rw [w32_i (x := (k : Int) + 1) (by omega) (by omega)]
      refine ih (k + 1) g' (by omega) ?_
      rw [take_sn hk', ← List.append_assoc]
      exact G'
  refine jE_of (as := [jP 141, jI (c27 l)]) (Nat.le_of_ble_eq_true rfl) (c_183_0 (by omega) L ?_)
  refine key l.length 0 h (by omega) ⟨L, ?_, Fq.refl⟩
  rw [List.take_zero, List.append_nil]; exact P
/-- the digits are said, the highest first -/
theorem sz_59 (hd : 9 ≤ d) {S : List Int} (hS : S.length ≤ 20) (hw : W.length + S.length ≤ 1551) {v3 v5 : Int} : ∀ (k : Nat) (g : AH), k ≤ S.length → PM p (W ++ S.take (S.length - k)) h g → (∀ j, j < S.length → ji g 196 j = S.getD (S.length - 1 - j) 0 - 48) → (∀ y ∈ S, 48 ≤ y ∧ y ≤ 57) → WF d 184 59 [jP 141, jL v, jU, jL v3, jU, jI v5, jI ((k : Int) + -1)] [] g (fun w h' => w = none ∧ PM p (W ++ S) h h') := by
  intro k
  induction k with
  | zero =>
    intro g _ G D B
    rw [show S.length - 0 = S.length from rfl, List.take_length] at G
    exact c_184_59 hd G.1 ⟨fun _ => ⟨rfl, G⟩, fun z => absurd (by decide) z⟩
  | succ k ih =>
    intro g hk G D B
    have hj : S.length - (k + 1) < S.length := by omega
    have q := D k (by omega)
    have b := B _ (getD_mem hj 0)
    rw [show S.length - 1 - k = S.length - (k + 1) by omega] at q
    rw [show ((k + 1 : Nat) : Int) + -1 = (k : Int) by omega]
    refine c_184_59 hd G.1 ⟨fun z => by omega, fun _ => ?_⟩
    rw [Int.toNat_natCast, q, w32_i (x := 48 + (S.getD (S.length - (k + 1)) 0 - 48)) (by omega) (by omega), show 48 + (S.getD (S.length - (k + 1)) 0 - 48) = S.getD (S.length - (k + 1)) 0 by omega, w32_i (x := (k : Int) + -1) (by omega) (by omega)]
    refine ⟨by omega, by omega, sayM G (by rw [List.length_append, List.length_take]; omega) (fun g' G' e => ?_)⟩
    refine ih g' (by omega) ?_ (fun j hj => (e j).trans (D j hj)) B
    rw [show S.length - k = (S.length - (k + 1)) + 1 by omega, take_sn hj, ← List.append_assoc]
    exact G'
end RPA
