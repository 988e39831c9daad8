/-! NUMBERS, CONTRACTS -/
theorem jE_eq {d y : Nat} {as : List AV} {h : AH} {v0 : Option AV} {h0 : AH} (hn : (jarg as).length ≤ (mT y).2.2.1) (hW : WF d y 0 (jent (mT y).2.2.1 as) [] h (fun v h' => v = v0 ∧ h' = h0)) : jE (d + 1) y as h v0 h0 := by
  obtain ⟨v, h', a, rfl, rfl⟩ := jE_of hn hW
  exact a
theorem m_1 {d : Nat} {h : AH} {a : Nat} {i : Int} (hd : 1 ≤ d) (ht : jt h a = 1) (hb : jt h (jr h a 0) = 22) (hl : ji h a 1 ≤ jn h (jr h a 0)) : jE d 1 [jP a, jI i] h (some (jI (if i < 0 ∨ ji h a 1 ≤ i then -1 else jand (ji h (jr h a 0) i.toNat) 255))) h := by
  obtain ⟨d, rfl⟩ := Nat.exists_eq_add_of_le' hd
  refine jE_eq (Nat.le_of_ble_eq_true rfl) (b_1_0 ⟨fun h1 => ?_, fun h1 => ⟨ht, fun h2 => ⟨ht, Or.inl ⟨Or.inl hb, ?_, ?_⟩, ?_⟩, fun h2 => ?_⟩⟩)
  · rw [if_pos (Or.inl h1)]; exact ⟨rfl, rfl⟩
  · omega
  · omega
  · rw [if_neg (by omega)]; exact ⟨rfl, rfl⟩
  · rw [if_pos (by omega)]; exact ⟨rfl, rfl⟩
