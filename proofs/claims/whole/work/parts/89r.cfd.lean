/-! THE CLASS: feed -/
def fdT (T : Txt) (n : Nat) (w : Int) : Txt := (T.1 + n, fun k => if k < T.1 then T.2 k else fdB w (n - 1 - (k - T.1)))
def aFeed (T : Txt) (n : Int) : Int := if 1 ≤ n ∧ n ≤ 8 then (if (T.1 : Int) + n ≤ 400 then (T.1 : Int) + n else -100004) else -100002
def tFeed (T : Txt) (n w : Int) : Txt := if 1 ≤ n ∧ n ≤ 8 ∧ (T.1 : Int) + n ≤ 400 then fdT T n.toNat w else T
theorem b2_r : ∀ v : Nat, v < 256 → -128 ≤ ji2b (v : Int) ∧ ji2b (v : Int) ≤ 127 := by decide +kernel
section CFD
variable {p : Lpar} {d b N n : Nat} {h h' g : AH} {c : Dc} {T : Txt} {pt : Nat → Int} {v w : Int}
theorem m_2 (hd : 1 ≤ d) (L : Ly p h) (hb : isBy b N) (e : ji h b 1 = (n : Int)) (hn : n < N) (v0 : 0 ≤ v) (v1 : v ≤ 255) : jE d 2 [jP b, jI v] h none (wi (wi h (b + 1) n (ji2b v)) b 1 ((n + 1 : Nat) : Int)) := by
  obtain ⟨d, rfl⟩ : ∃ d', d = d' + 1 := ⟨d - 1, by omega⟩
  have hN : N ≤ 1551 := by rcases hb with q | q <;> omega
  have r := b2_r v.toNat (by omega)
  rw [show ((v.toNat : Nat) : Int) = v by omega] at r
  refine jE_eq (Nat.le_of_ble_eq_true rfl) (c_2_0 (by omega) L hb ?_)
  rw [ji_wi, if_neg (by omega), e, Int.toNat_natCast, w32_i (x := (n : Int) + 1) (by omega) (by omega)]
  exact ⟨fun z => by omega, fun _ => ⟨by omega, by omega, r.1, r.2, fun _ => ⟨rfl, rfl⟩⟩⟩
theorem okT_fd (hT : okT T) (hn : T.1 + n ≤ 400) : okT (fdT T n w) := ⟨hn, fun k _ => by
  show 0 ≤ (if k < T.1 then T.2 k else fdB w (n - 1 - (k - T.1))) ∧ (if k < T.1 then T.2 k else fdB w (n - 1 - (k - T.1))) ≤ 255
  split
  · rename_i z; exact hT.2 k z
  · exact fdB_r w _⟩
abbrev Z334 (a : Nat) : Prop := a = 33 ∨ a = 34
theorem m_81 (hd : 11 ≤ d) (S : Cst p T c pt h) {n : Int} : ∃ h', jE d 81 [jP 32, jI n, jL w] h (some (jI (aFeed T n))) h' ∧ Cst p (tFeed T n w) c pt h' ∧ Fe Z334 h h' := by
  suffices hh : ∃ u h', jE d 81 [jP 32, jI n, jL w] h u h' ∧ u = some (jI (aFeed T n)) ∧ Cst p (tFeed T n w) c pt h' ∧ Fe Z334 h h' by
    obtain ⟨u, h', hE, rfl, q⟩ := hh
    exact ⟨h', hE, q⟩
  obtain ⟨d, rfl⟩ : ∃ d', d = d' + 1 := ⟨d - 1, by omega⟩
  have hT := S.2.1
  have t4 := hT.1.1
  have e := hT.2.1
  have no : ∀ v : Int, ¬ (1 ≤ n ∧ n ≤ 8 ∧ (T.1 : Int) + n ≤ 400) → v = aFeed T n → (some (jI v) = some (jI (aFeed T n)) ∧ Cst p (tFeed T n w) c pt h ∧ Fe Z334 h h) := fun v z hv => by
    unfold tFeed
    rw [if_neg z, hv]
    exact ⟨rfl, S, Fm.refl, rfl⟩
  refine jE_of (as := [jP 32, jI n, jL w]) (Nat.le_of_ble_eq_true rfl) (c_81_0 (by omega) S.1 ?_)
  rw [e]
  refine ⟨fun z => no _ (by omega) (by unfold aFeed; rw [if_neg (by omega)]), fun z => ⟨fun y => ?_, fun y => no _ (by omega) (by unfold aFeed; rw [if_neg (by omega)])⟩⟩
  rw [w32_i (x := (T.1 : Int) + n) (by omega) (by omega)]
  refine ⟨fun x => ?_, fun x => no _ (by omega) (by unfold aFeed; rw [if_pos ⟨by omega, y⟩, if_neg x])⟩
  obtain ⟨m, rfl⟩ : ∃ m : Nat, n = (m : Int) := ⟨n.toNat, by omega⟩
  have hD' := S.1.iD
  unfold isD at hD'
  have hN : NF = 197 := rfl
  have key : ∀ (s q : Nat) (g : AH), m = q + s → Ly p g → Fe Z334 h g → TxC (T.1 + q, (fdT T m w).2) g → WF d 81 37 [jP 32, jI (m : Int), jL w, jU, jI ((s : Int) - 1)] [] g (fun u h' => u = some (jI (aFeed T (m : Int))) ∧ Cst p (tFeed T (m : Int) w) c pt h' ∧ Fe Z334 h h') := by
    intro s
    induction s with
    | zero =>
      intro q g hq L F X
      refine c_81_37 (by omega) L ⟨fun _ => ⟨?_, ?_, F⟩, fun z => by omega⟩
      · rw [X.1]
        unfold aFeed
        rw [if_pos ⟨by omega, y⟩, if_pos x]
        show some (jI ((T.1 + q : Nat) : Int)) = _
        rw [show ((T.1 + q : Nat) : Int) = (T.1 : Int) + (m : Int) by omega]
      · unfold tFeed
        rw [if_pos ⟨by omega, y, x⟩, Int.toNat_natCast]
        refine Cst.mv S L S.2.2.1 rfl ⟨okT_fd hT.1 (by omega), ?_⟩ F.1 (fun a z => by omega)
        have eq : m = q := by omega
        rw [eq] at X ⊢
        exact X
    | succ s ih =>
      intro q g hq L F X
      have X1 : ji g 33 1 = ((T.1 + q : Nat) : Int) := X.1
      have bb : isBy 33 400 := Or.inl ⟨rfl, rfl⟩
      have fb := fdB_r w s
      have E := m_2 (d := d) (b := 33) (N := 400) (n := T.1 + q) (v := fdB w s) (by omega) L bb X1 (by omega) fb.1 fb.2
      have bt := b2_and (fdB w s).toNat (by omega)
      rw [show (((fdB w s).toNat : Nat) : Int) = fdB w s by omega] at bt
      have L2 : Ly p (wi (wi g 34 (T.1 + q) (ji2b (fdB w s))) 33 1 ((T.1 + q + 1 : Nat) : Int)) := (L.wi (by omega)).wi (by omega)
      have F2 : Fe Z334 g (wi (wi g 34 (T.1 + q) (ji2b (fdB w s))) 33 1 ((T.1 + q + 1 : Nat) : Int)) := ⟨(Fm.wi (by omega)).trans (Fm.wi (by omega)), rfl⟩
      refine c_81_37 (by omega) L ⟨fun z => by omega, fun _ => ?_⟩
      rw [show (((s + 1 : Nat) : Int) - 1) = (s : Int) by omega, w32_i (x := 8 * (s : Int)) (by omega) (by omega), fd_c (by omega) w, w32_i (x := (s : Int) + -1) (by omega) (by omega)]
      refine ⟨_, E, L2, ?_⟩
      refine ih (q + 1) _ (by omega) L2 ⟨F.1.trans F2.1, F2.2.trans F.2⟩ ⟨?_, fun k hk => ?_⟩
      · rw [ji_wi, if_pos ⟨rfl, rfl⟩]; rfl
      · have hk : k < T.1 + (q + 1) := hk
        rw [ji_wi, if_neg (by omega), ji_wi]
        by_cases ek : k = T.1 + q
        · rw [if_pos ⟨rfl, ek⟩, bt]
          show _ = if k < T.1 then T.2 k else fdB w (m - 1 - (k - T.1))
          rw [if_neg (by omega), show m - 1 - (k - T.1) = s by omega]
        · rw [if_neg (by omega)]
          exact X.2 k (by show k < T.1 + q; omega)
  have q := key m 0 h (by omega) S.1 ⟨Fm.refl, rfl⟩ ⟨e, fun k hk => by
    have hk : k < T.1 := hk
    rw [hT.2.2 k hk]
    show _ = if k < T.1 then T.2 k else _
    rw [if_pos hk]⟩
  rw [w32_i (x := (m : Int) - 1) (by omega) (by omega)]
  exact q
end CFD
