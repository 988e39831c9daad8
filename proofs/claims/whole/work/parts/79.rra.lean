/-! THE REFERENCE: a text is read -/
section RRA
variable {p : Lpar} {d : Nat} {h h' h0 h1 g : AH} {T : Txt} {e i j k : Nat} {c : Dc}
def QA (p : Lpar) (h0 : AH) (R : Er Dc) (w : Option AV) (h' : AH) : Prop := w = none ∧ Ly p h' ∧ Fq ZP h0 h' ∧ Rs R (fun q => ji h' 141 6 = (q : Int)) (fun c => ji h' 141 6 = -1 ∧ okD c ∧ ∃ j, j ≤ 400 ∧ RDc h' c j)
theorem ra_bad {q : Nat} {R : Er Dc} (hd : 9 ≤ d) (hR : R = .error q) (L : Ly p g) (F : Fq ZP h0 g) (h6 : ji g 141 6 = (q : Int)) : WF d 135 49 [jP 141] [] g (QA p h0 R) := c_135_49 hd L ⟨fun z => absurd z (nq h6), fun _ => ⟨rfl, L, F, by rw [hR]; exact h6⟩⟩
theorem ra_49 (hd : 25 ≤ d) : ∀ (n : Nat) (h : AH) (c : Dc) (i : Nat), e < i + 2 * n → RT p T e h → RtR T e i h → RDc h c i → okD c → Fq ZP h0 h → WF d 135 49 [jP 141] [] h (QA p h0 (pText T n c i)) := by
  intro n
  induction n with
  | zero => intro h c i hn R K; have := K.1; omega
  | succ n ih =>
    intro h c i hn R K D O F
    have L := R.1
    have k6 := K.2.2.2.2.2.2
    have eT : pText T (n + 1) c i = if tkK T i = 3 then .ok c else xb (pDecl T c i) fun q => pText T n q.1 q.2 := rfl
    by_cases c3 : tkK T i = 3
    · rw [eT, if_pos c3]
      exact c_135_49 (by omega) L ⟨fun _ => ⟨fun _ => ⟨rfl, L, F, k6, O, i, e4i R K, D⟩, fun z => absurd (K.2.1.trans c3) z⟩, fun z => absurd k6 z⟩
    rw [eT, if_neg c3]
    have go : ∀ h', RdP p T e h (pDecl T c i) h' → WF d 135 49 [jP 141] [] h' (QA p h0 (xb (pDecl T c i) fun q => pText T n q.1 q.2)) := by
      intro h' ⟨L', F', R'⟩
      cases hD : pDecl T c i with
      | error q => rw [hD] at R'; exact ra_bad (by omega) rfl L' (F.trans F') R'
      | ok r =>
        rw [hD] at R'
        obtain ⟨o1, o2⟩ := pDecl_ok (tkG_all T) O hD
        exact ih h' r.1 r.2 (by omega) (R.fq F' (fun a k z => by omega) (by omega) (fun k => by omega)) R'.1 R'.2 o1 (F.trans F')
    have k2 := K.2.1
    refine c_135_49 (by omega) L ⟨fun _ => ⟨fun z => absurd (k2.symm.trans z) c3, fun _ => ⟨fun z => ⟨fun _ L2 => ?_, fun z => absurd k6 z⟩, fun z => ?_, fun z => ?_, fun z => ?_, fun z => ?_, fun z => ?_⟩⟩, fun z => absurd k6 z⟩
    · refine ra_bad (q := tkP T i) (by omega) ?_ L2 (F.trans f6.toP) (w6_r.trans K.2.2.1)
      rw [k2] at z
      unfold pDecl
      rw [if_neg (by omega), if_neg (by omega), if_neg (by omega), if_neg (by omega), if_neg (by omega)]; rfl
    · have z := k2.symm.trans z
      obtain ⟨w, h', hE, rfl, q⟩ := q_129 (d := d) (by omega) R K z D O
      have e1 : pDecl T c i = pSet T c i := by unfold pDecl; rw [if_pos z]
      exact ⟨h', hE, q.1, go h' (by rw [e1]; exact q)⟩
    · have z := k2.symm.trans z
      obtain ⟨w, h', hE, rfl, q⟩ := q_130 (d := d) (by omega) R K z D O
      have e1 : pDecl T c i = pTab T c i := by unfold pDecl; rw [if_neg (by omega), if_pos z]
      exact ⟨h', hE, q.1, go h' (by rw [e1]; exact q)⟩
    · have z := k2.symm.trans z
      obtain ⟨w, h', hE, rfl, q⟩ := q_131 (d := d) (by omega) R K z D O
      have e1 : pDecl T c i = pVar T c i := by unfold pDecl; rw [if_neg (by omega), if_neg (by omega), if_pos z]
      exact ⟨h', hE, q.1, go h' (by rw [e1]; exact q)⟩
    · have z := k2.symm.trans z
      obtain ⟨w, h', hE, rfl, q⟩ := q_133 (d := d) (by omega) R K z D O
      have e1 : pDecl T c i = pRule T c i := by unfold pDecl; rw [if_neg (by omega), if_neg (by omega), if_neg (by omega), if_pos z]
      exact ⟨h', hE, q.1, go h' (by rw [e1]; exact q)⟩
    · have z := k2.symm.trans z
      obtain ⟨w, h', hE, rfl, q⟩ := q_134 (d := d) (by omega) R K z D O
      have e1 : pDecl T c i = pGoal T c i := by unfold pDecl; rw [if_neg (by omega), if_neg (by omega), if_neg (by omega), if_neg (by omega), if_pos z]
      exact ⟨h', hE, q.1, go h' (by rw [e1]; exact q)⟩
theorem cnt0 (s : Nat) : cnt D0 s = 0 := by
  unfold cnt
  split; · rfl
  split; · rfl
  split; · rfl
  split <;> rfl
theorem RDc.z (e0 : ∀ k, (k = 7 ∨ k = 11 ∨ k = 15 ∨ k = 20 ∨ k = 26 ∨ k = 30 ∨ k = 33) → ji h 141 k = 0) : RDc h D0 0 := by
  have nl : ∀ {k : Nat}, ¬ k < 0 := fun {k} => Nat.not_lt_zero k
  refine ⟨⟨⟨?_, ?_, ?_, ?_, ?_⟩, fun e he => absurd he List.not_mem_nil, ⟨?_, ?_, ?_, ?_, ?_⟩, fun e he => absurd he List.not_mem_nil, fun s _ k hk => ?_, List.nodup_nil⟩, ⟨fun k hk => absurd hk nl, fun k hk => absurd hk nl, fun k j hk => absurd hk nl, fun k hk => absurd hk nl, fun k hk => absurd hk nl⟩, 0, e0 33 (by omega), Nat.le_refl _, fun k hk => absurd hk nl, fun k hk => absurd hk nl, e0 26 (by omega), fun z => absurd rfl z⟩
  · rw [cnt0]; exact e0 7 (by omega)
  · rw [cnt0]; exact e0 11 (by omega)
  · rw [cnt0]; exact e0 15 (by omega)
  · rw [cnt0]; exact e0 20 (by omega)
  · rw [cnt0]; exact e0 30 (by omega)
  · rw [cnt0]; omega
  · rw [cnt0]; omega
  · rw [cnt0]; omega
  · rw [cnt0]; omega
  · rw [cnt0]; omega
  · rw [cnt0] at hk; omega
theorem ra_w (h : AH) : Fq ZP h (wi (wi (wi (wi (wi (wi (wi (wi (wi h 141 7 0) 141 11 0) 141 15 0) 141 20 0) 141 26 0) 141 30 0) 141 33 0) 141 6 (-1)) 141 4 0) ∧ ji (wi (wi (wi (wi (wi (wi (wi (wi (wi h 141 7 0) 141 11 0) 141 15 0) 141 20 0) 141 26 0) 141 30 0) 141 33 0) 141 6 (-1)) 141 4 0) 141 4 = 0 ∧ ji (wi (wi (wi (wi (wi (wi (wi (wi (wi h 141 7 0) 141 11 0) 141 15 0) 141 20 0) 141 26 0) 141 30 0) 141 33 0) 141 6 (-1)) 141 4 0) 141 6 = -1 ∧ ∀ k, (k = 7 ∨ k = 11 ∨ k = 15 ∨ k = 20 ∨ k = 26 ∨ k = 30 ∨ k = 33) → ji (wi (wi (wi (wi (wi (wi (wi (wi (wi h 141 7 0) 141 11 0) 141 15 0) 141 20 0) 141 26 0) 141 30 0) 141 33 0) 141 6 (-1)) 141 4 0) 141 k = 0 := by
  refine ⟨((((((((Fq.wi (by omega)).trans (Fq.wi (by omega))).trans (Fq.wi (by omega))).trans (Fq.wi (by omega))).trans (Fq.wi (by omega))).trans (Fq.wi (by omega))).trans (Fq.wi (by omega))).trans (Fq.wi (by omega))).trans (Fq.wi (by omega)), ?_, ?_, fun k hk => ?_⟩
  · rw [ji_wi, if_pos ⟨rfl, rfl⟩]
  · rw [ji_wi, if_neg (by omega), ji_wi, if_pos ⟨rfl, rfl⟩]
  · rw [ji_wi, if_neg (by omega), ji_wi, if_neg (by omega), ji_wi]
    split; · rfl
    rw [ji_wi]; split; · rfl
    rw [ji_wi]; split; · rfl
    rw [ji_wi]; split; · rfl
    rw [ji_wi]; split; · rfl
    rw [ji_wi]; split; · rfl
    rw [ji_wi]; split; · rfl
    omega
theorem q_135 (hd : 26 ≤ d) (R : RT p T e h) : ∃ w h', jE d 135 [jP 141] h w h' ∧ QA p h (pText T 400 D0 0) w h' := by
  obtain ⟨d, rfl⟩ : ∃ d', d = d' + 1 := ⟨d - 1, by omega⟩
  refine jE_of (as := [jP 141]) (Nat.le_of_ble_eq_true rfl) (c_135_0 (by omega) R.1 ?_)
  obtain ⟨F, e4, e6, e0⟩ := ra_w h
  generalize wi (wi (wi (wi (wi (wi (wi (wi (wi h 141 7 0) 141 11 0) 141 15 0) 141 20 0) 141 26 0) 141 30 0) 141 33 0) 141 6 (-1)) 141 4 0 = g at *
  intro L1
  have R1 : RT p T e g := R.fq F (fun a k z => by omega) (by omega) (fun k => by omega)
  obtain ⟨h1, hE, L2, F2, K⟩ := t_118z (d := d) (by omega) R1 e4 e6
  have he := R.2.2.2.1
  exact ⟨h1, hE, L2, ra_49 (by omega) 400 h1 D0 0 (by omega) (R1.fF F2.toF) K (RDc.z (fun k hk => by rw [F2.i (by omega)]; exact e0 k hk)) okD0 (F.trans F2.toF.toP)⟩
end RRA
