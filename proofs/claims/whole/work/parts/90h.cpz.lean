/-! THE CLASS: a number without its sign is added -/
section CPZ
variable {p : Lpar} {d : Nat} {h h0 h' g : AH} {W : List Int} {v : Int} {Q : Option AV → AH → Prop}
theorem sz_23 (hd : 1 ≤ d) (L : Ly p h) {v3 : Int} {n : Nat} (en : ji h 35 1 = (n : Int)) : ∀ (f m c : Nat), m ≤ 9223372036854775808 → m < 10 ^ f → 1 ≤ f → c + (dgs f m).length ≤ 20 → n + (c + (dgs f m).length) ≤ 1552 → WF d 5 77 [jP 35, jL v, jU, jL v3, jU, jI ((c + (dgs f m).length - 1 : Nat) : Int), jI ((n : Int) + ((c + (dgs f m).length - 1 : Nat) : Int)), jI ((n : Int) + ((c + (dgs f m).length - 1 : Nat) : Int) - 1)] [] h Q → WF d 5 23 [jP 35, jL v, jU, jL v3, jU, jI (c : Int), jL (-((m / 10 : Nat) : Int)), jU] [] h Q := by
  have bb : isBy 35 1551 := Or.inr ⟨rfl, rfl⟩
  intro f
  induction f with
  | zero => intro m c _ _ h1; omega
  | succ f ih =>
    intro m c hb hm _ hc hl K
    by_cases z : m < 10
    · have ed : dgs (f + 1) m = [48 + (m : Int)] := by
        show (if m < 10 then _ else _) = _
        rw [if_pos z]
      rw [ed] at K hl hc
      have K : WF d 5 77 [jP 35, jL v, jU, jL v3, jU, jI ((c + 1 - 1 : Nat) : Int), jI ((n : Int) + ((c + 1 - 1 : Nat) : Int)), jI ((n : Int) + ((c + 1 - 1 : Nat) : Int) - 1)] [] h Q := K
      have hl : n + (c + 1) ≤ 1552 := hl
      rw [show c + 1 - 1 = c by omega] at K
      rw [show m / 10 = 0 by omega]
      refine c_5_23 (by omega) L bb ?_
      rw [en, w32_i (x := (n : Int) + (c : Int)) (by omega) (by omega), w32_i (x := (n : Int) + (c : Int) - 1) (by omega) (by omega)]
      exact ⟨fun _ => ⟨fun _ => K, fun y => by omega⟩, fun y => absurd (by decide) y⟩
    · have ed : dgs (f + 1) m = dgs f (m / 10) ++ [48 + ((m % 10 : Nat) : Int)] := by
        show (if m < 10 then _ else _) = _
        rw [if_neg z]
      rw [Nat.pow_succ] at hm
      have f1 : 1 ≤ f := by
        by_cases y : f = 0
        · subst y; omega
        · omega
      have l1 := (dgs_len f (m / 10) f (Nat.le_refl _) f1 (by omega)).1
      rw [ed, List.length_append] at K hl hc
      have hl : n + (c + ((dgs f (m / 10)).length + 1)) ≤ 1552 := hl
      have hc : c + ((dgs f (m / 10)).length + 1) ≤ 20 := hc
      have K : WF d 5 77 [jP 35, jL v, jU, jL v3, jU, jI ((c + ((dgs f (m / 10)).length + 1) - 1 : Nat) : Int), jI ((n : Int) + ((c + ((dgs f (m / 10)).length + 1) - 1 : Nat) : Int)), jI ((n : Int) + ((c + ((dgs f (m / 10)).length + 1) - 1 : Nat) : Int) - 1)] [] h Q := K
      rw [show c + ((dgs f (m / 10)).length + 1) - 1 = c + 1 + (dgs f (m / 10)).length - 1 by omega] at K
      have q := ih (m / 10) (c + 1) (by omega) (by omega) f1 (by omega) (by omega) K
      have nz : ¬ jcmp (-((m / 10 : Nat) : Int)) 0 = 0 := fun y => by
        have := jcmp_0.mp y
        omega
      have t := (td10 (m / 10)).1
      have mb : m < 10 ^ f * 10 := hm
      refine c_5_23 (by omega) L bb ⟨fun y => absurd y nz, fun _ => ⟨fun y => absurd y (by omega), fun _ => ?_⟩⟩
      rw [t, w32_i (x := (c : Int) + 1) (by omega) (by omega)]
      rw [w64_id (x := -((m / 10 / 10 : Nat) : Int)) (by unfold r64; omega)]
      exact q
/-- the digits are written from the last on -/
theorem sz_77 (hd : 1 ≤ d) {D : Nat → Int} {v5 : Int} {n e : Nat} (he : e ≤ 1551) (K : ∀ g', Ly p g' → Fq (fun a k => (a = 36 ∧ n ≤ k) ∨ (a = 35 ∧ k = 1)) h0 g' → ji g' 35 1 = (e : Int) → (∀ j, n ≤ j → j < e → jand (ji g' 36 j) 255 = D (j - n)) → Q none g') : ∀ (f r i : Nat) (g : AH), r ≤ 9223372036854775808 → r < 10 ^ f → i + 1 = n + (dgs f r).length → 1 ≤ (dgs f r).length → i < e → Ly p g → Fq (fun a k => (a = 36 ∧ n ≤ k) ∨ (a = 35 ∧ k = 1)) h0 g → ji g 35 1 = (n : Int) → (∀ j, i < j → j < e → jand (ji g 36 j) 255 = D (j - n)) → (∀ t, t < (dgs f r).length → (dgs f r).getD t 0 = D t) → WF d 5 77 [jP 35, jL v, jU, jL (-(r : Int)), jU, jI v5, jI (e : Int), jI (i : Int)] [] g Q := by
  have bb : isBy 35 1551 := Or.inr ⟨rfl, rfl⟩
  intro f
  induction f with
  | zero => intro r i g _ _ _ h1; exact absurd h1 (by show ¬ 1 ≤ 0; omega)
  | succ f ih =>
    intro r i g hr hp hi _ ie L F e1 A B
    have t := td10 r
    have bt := b2_and (48 + r % 10) (by omega)
    have br := b2_r (48 + r % 10) (by omega)
    have ev : w32 (w64 (48 - w64 (Int.tmod (-(r : Int)) 10))) = ((48 + r % 10 : Nat) : Int) := by
      rw [t.2, w64_id (x := -((r % 10 : Nat) : Int)) (by unfold r64; omega), w64_id (by unfold r64; omega), w32_i (by omega) (by omega)]; omega
    have ed2 : w64 (Int.tdiv (-(r : Int)) 10) = -((r / 10 : Nat) : Int) := by
      rw [t.1, w64_id (by unfold r64; omega)]
    refine c_5_77 (by omega) L bb ?_
    rw [e1, ev, ed2, Int.toNat_natCast]
    clear ev ed2 t
    by_cases z : r < 10
    · have ed : dgs (f + 1) r = [48 + (r : Int)] := by
        show (if r < 10 then _ else _) = _
        rw [if_pos z]
      rw [ed] at hi B
      have hi : i + 1 = n + 1 := hi
      have b0 : 48 + (r : Int) = D 0 := B 0 (by show 0 < 1; omega)
      refine ⟨fun y => by omega, fun _ => ⟨by omega, by omega, br.1, br.2, fun L2 => ?_⟩⟩
      have F2 : Fq (fun a k => (a = 36 ∧ n ≤ k) ∨ (a = 35 ∧ k = 1)) h0 (wi g 36 i (ji2b ((48 + r % 10 : Nat) : Int))) := F.trans (Fq.wi (by omega))
      refine c_5_77 (by omega) L2 bb ⟨fun _ => ?_, fun y => ?_⟩
      · intro L3
        refine K _ L3 (F2.trans (Fq.wi (by omega))) (by rw [ji_wi, if_pos ⟨rfl, rfl⟩]) (fun j j1 j2 => ?_)
        rw [ji_wi, if_neg (by omega), ji_wi]
        by_cases ej : j = i
        · rw [if_pos ⟨rfl, ej⟩, bt, show j - n = 0 by omega, ← b0]; omega
        · rw [if_neg (by omega)]; exact A j (by omega) j2
      · rw [ji_wi, if_neg (by omega), e1, w32_i (x := (i : Int) + -1) (by omega) (by omega)] at y; omega
    · have ed : dgs (f + 1) r = dgs f (r / 10) ++ [48 + ((r % 10 : Nat) : Int)] := by
        show (if r < 10 then _ else _) = _
        rw [if_neg z]
      rw [ed, List.length_append] at hi B
      have hi : i + 1 = n + ((dgs f (r / 10)).length + 1) := hi
      have B : ∀ t, t < (dgs f (r / 10)).length + 1 → (dgs f (r / 10) ++ [48 + ((r % 10 : Nat) : Int)]).getD t 0 = D t := B
      have l1 : 1 ≤ (dgs f (r / 10)).length := by
        cases f with
        | zero => exact absurd hp (by show ¬ r < 10 ^ 1; omega)
        | succ f =>
          show 1 ≤ (if r / 10 < 10 then [48 + ((r / 10 : Nat) : Int)] else dgs f (r / 10 / 10) ++ [48 + ((r / 10 % 10 : Nat) : Int)]).length
          split
          · exact Nat.le_refl _
          · rw [List.length_append]; show 1 ≤ _ + 1; omega
      have b0 := B (dgs f (r / 10)).length (by omega)
      rw [getD_app3 _ _ _ (Nat.le_refl _), Nat.sub_self] at b0
      have b0 : 48 + ((r % 10 : Nat) : Int) = D (dgs f (r / 10)).length := b0
      refine ⟨fun y => by omega, fun _ => ⟨by omega, by omega, br.1, br.2, fun L2 => ?_⟩⟩
      rw [w32_i (x := (i : Int) + -1) (by omega) (by omega), show (i : Int) + -1 = ((i - 1 : Nat) : Int) by omega]
      refine ih (r / 10) (i - 1) _ (by omega) (by rw [Nat.pow_succ] at hp; omega) (by omega) l1 (by omega) L2 (F.trans (Fq.wi (by omega))) (by rw [ji_wi, if_neg (by omega)]; exact e1) (fun j j1 j2 => ?_) (fun t ht => ?_)
      · rw [ji_wi]
        by_cases ej : j = i
        · rw [if_pos ⟨rfl, ej⟩, bt, show j - n = (dgs f (r / 10)).length by omega, ← b0]; omega
        · rw [if_neg (by omega)]; exact A j (by omega) j2
      · have q := B t (by omega)
        rw [getD_app2 _ _ _ ht] at q
        exact q
theorem m_5 (hd : 3 ≤ d) (L : Ly p h) (P : Pap W h) (hv : r64 v) (hw : W.length + (szL v).length ≤ 1551) : ∃ h', jE d 5 [jP 35, jL v] h none h' ∧ PA p (W ++ szL v) h h' := by
  suffices hh : ∃ w h', jE d 5 [jP 35, jL v] h w h' ∧ w = none ∧ PA p (W ++ szL v) h h' by
    obtain ⟨w, h', hE, rfl, q⟩ := hh
    exact ⟨h', hE, q⟩
  obtain ⟨d, rfl⟩ : ∃ d', d = d' + 1 := ⟨d - 1, by omega⟩
  have bb : isBy 35 1551 := Or.inr ⟨rfl, rfl⟩
  unfold r64 at hv
  have mb : v.natAbs ≤ 9223372036854775808 := by omega
  have ml : v.natAbs < 10 ^ 20 := by omega
  have dl := dgs_len 20 v.natAbs 19 (by omega) (by omega) (by omega)
  have hw : W.length + (dgs 20 v.natAbs).length ≤ 1551 := hw
  have t := (td10 v.natAbs).1
  have main : WF d 5 23 [jP 35, jL v, jU, jL (-(v.natAbs : Int)), jU, jI ((1 : Nat) : Int), jL (-((v.natAbs / 10 : Nat) : Int)), jU] [] h (fun w h' => w = none ∧ PA p (W ++ szL v) h h') := by
    refine sz_23 (by omega) L P.1 20 v.natAbs 1 mb ml (by omega) (by omega) (by omega) ?_
    rw [show (W.length : Int) + ((1 + (dgs 20 v.natAbs).length - 1 : Nat) : Int) - 1 = ((W.length + (dgs 20 v.natAbs).length - 1 : Nat) : Int) by omega, show (W.length : Int) + ((1 + (dgs 20 v.natAbs).length - 1 : Nat) : Int) = ((W.length + (dgs 20 v.natAbs).length : Nat) : Int) by omega]
    refine sz_77 (h0 := h) (D := fun t => (dgs 20 v.natAbs).getD t 0) (n := W.length) (by omega) (by omega) (fun g' L' F' e' A' => ⟨rfl, L', ⟨?_, ?_, fun k hk => ?_⟩, ?_⟩) 20 v.natAbs _ h mb ml (by omega) dl.1 (by omega) L Fq.refl P.1 (fun j j1 j2 => by omega) (fun t _ => rfl)
    · rw [e', List.length_append]; rfl
    · rw [List.length_append]; exact hw
    · rw [List.length_append] at hk
      have hk : k < W.length + (dgs 20 v.natAbs).length := hk
      by_cases z : k < W.length
      · rw [F'.i (by omega), getD_app2 _ _ _ z]; exact P.2.2 k z
      · rw [A' k (by omega) hk, getD_app3 _ _ _ (by omega)]; rfl
    · exact ⟨⟨fun a _ z k => ⟨F'.i (by omega), F'.l (by omega), F'.2.1 a k⟩, fun a _ => F'.2.2.1 a, Nat.le_of_eq F'.2.2.2.1.symm, by rw [F'.2.2.2.1, F'.2.2.2.2]; exact Nat.le_refl _⟩, F'.2.2.2.1⟩
  have main2 : ∀ u : Int, u = -(v.natAbs : Int) → WF d 5 23 [jP 35, jL v, jU, jL u, jU, jI 1, jL (w64 (Int.tdiv u 10)), jU] [] h (fun w h' => w = none ∧ PA p (W ++ szL v) h h') := by
    intro u hu
    rw [hu, t, w64_id (x := -((v.natAbs / 10 : Nat) : Int)) (by unfold r64; omega)]
    exact main
  refine jE_of (as := [jP 35, jL v]) (Nat.le_of_ble_eq_true rfl) (c_5_0 (by omega) L bb ?_)
  have cp := jcmp_p (a := v) (b := 0)
  refine ⟨fun z => main2 v (by omega), fun z => main2 (w64 (-v)) ?_⟩
  rw [w64_id (by unfold r64; omega)]
  omega
end CPZ
