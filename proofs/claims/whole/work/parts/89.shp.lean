/-! THE SHAPE OF SUMS: mode 0 a factor, 1 a part, 3 a sum -/
def shp : Ex → Nat → Prop
  | .leaf, m => m = 1
  | .inner t _ _ l r, m => if t ≤ 3 then m = 0 else if t = 4 then m = 0 ∧ shp l 3 else if t = 5 then m = 1 ∧ shp l 1 ∧ shp r 0 else if t = 6 then m = 3 ∧ l = .leaf ∧ r = .leaf else (t = 7 ∨ t = 8) ∧ m = 3 ∧ shp l 3 ∧ shp r 1
def shD (c : Dc) : Prop := (∀ k, k < (dL c).length → shp ((dL c).getD k zL).2.1 3 ∧ shp ((dL c).getD k zL).2.2 3) ∧ (¬ dG c = 0 → shp (dE c) 3)
section SHP
variable {T : Txt} {i : Nat} {c : Dc} {G : NmL} {sl : List Int}
theorem shp_part {neg : Bool} {s q : Ex} (h1 : shp s 3) (h2 : shp q 1) : shp (xPart neg s q) 3 := by
  cases neg
  · exact ⟨Or.inl rfl, rfl, h1, h2⟩
  · exact ⟨Or.inr rfl, rfl, h1, h2⟩
theorem loop_sh {fac : Nat → Er (Ex × Nat)} (F : ∀ i r, fac i = .ok r → shp r.1 0) : ∀ (m : Nat) (s : Ex) (neg : Bool) (q : Ex) (i : Nat) (r : Ex × Nat), shp s 3 → shp q 1 → loopW T fac m s neg q i = .ok r → shp r.1 3 := by
  intro m
  induction m with
  | zero => intro s neg q i r _ _ h; cases h
  | succ m ih =>
    intro s neg q i r hs hq h
    have eW : loopW T fac (m + 1) s neg q i = xb (fac i) fun f => if hv f.1 = true ∧ hv q = true then .error (tkP T i) else if tkK T f.2 = 142 then loopW T fac m s neg (xMul q f.1) (f.2 + 1) else if tkK T f.2 = 143 then loopW T fac m (xPart neg s (xMul q f.1)) false xOne (f.2 + 1) else if tkK T f.2 = 145 then loopW T fac m (xPart neg s (xMul q f.1)) true xOne (f.2 + 1) else .ok (xPart neg s (xMul q f.1), f.2) := rfl
    rw [eW] at h
    obtain ⟨f, hf, h⟩ := xb_ok h
    have hm : shp (xMul q f.1) 1 := ⟨rfl, hq, F i f hf⟩
    split at h
    · cases h
    split at h
    · exact ih s neg _ _ r hs hm h
    split at h
    · exact ih _ false xOne _ r (shp_part hs hm) rfl h
    split at h
    · exact ih _ true xOne _ r (shp_part hs hm) rfl h
    · cases h; exact shp_part hs hm
theorem nam_sh {C : Cx} {r : Ex × Nat} (h : pNamed T C G sl i = .ok r) : shp r.1 0 := by
  unfold pNamed at h
  split at h
  · cases h; exact rfl
  split at h
  · obtain ⟨q, _, h⟩ := xb_ok h; cases h; exact rfl
  split at h
  · obtain ⟨q, _, h⟩ := xb_ok h; cases h; exact rfl
  · cases h
theorem sum_sh {C : Cx} : ∀ (nn : Nat) (G : NmL) (sl : List Int) (i : Nat) (r : Ex × Nat), pSum T C nn G sl i = .ok r → shp r.1 3 := by
  intro nn
  induction nn with
  | zero =>
    intro G sl i r h
    rw [pSum_eq, sumW_eq] at h
    refine loop_sh (fac := facR T C 0 G sl) (fun i r hr => ?_) 400 xZero (sgn T i) xOne (sgi T i) r ⟨rfl, rfl, rfl⟩ rfl h
    by_cases c2 : tkK T i = 2
    · rw [facR_num c2] at hr; cases hr; exact rfl
    by_cases c1 : tkK T i = 1
    · rw [facR_nam c1] at hr; exact nam_sh hr
    · rw [facR_bad c1 c2 (Or.inr rfl)] at hr; cases hr
  | succ nn ih =>
    intro G sl i r h
    rw [pSum_eq, sumW_eq] at h
    refine loop_sh (fac := facR T C (nn + 1) G sl) (fun i r hr => ?_) 400 xZero (sgn T i) xOne (sgi T i) r ⟨rfl, rfl, rfl⟩ rfl h
    by_cases c2 : tkK T i = 2
    · rw [facR_num c2] at hr; cases hr; exact rfl
    by_cases c1 : tkK T i = 1
    · rw [facR_nam c1] at hr; exact nam_sh hr
    by_cases hk : tkK T i = 140 ∨ tkK T i = 17
    · rw [facR_open hk] at hr
      obtain ⟨a, ha, hr⟩ := xb_ok hr
      obtain ⟨b, hb, hr⟩ := xb_ok hr
      obtain ⟨j, hj, hr⟩ := xb_ok hr
      cases hr
      exact ⟨rfl, ih _ _ _ b hb⟩
    · rw [facR_bad c1 c2 (Or.inl ⟨fun z => hk (Or.inl z), fun z => hk (Or.inr z)⟩)] at hr; cases hr
theorem decl_sh (H : shD c) {r : Dc × Nat} (h : pDecl T c i = .ok r) : shD r.1 := by
  unfold pDecl at h
  split at h
  · unfold pSet at h
    obtain ⟨q, _, h⟩ := xb_ok h
    obtain ⟨q2, _, h⟩ := xb_ok h
    obtain ⟨q3, _, h⟩ := xb_ok h
    obtain ⟨q4, _, h⟩ := xb_ok h
    split at h
    · obtain ⟨q5, _, h⟩ := xb_ok h
      cases h; exact H
    · cases h
  split at h
  · unfold pTab at h
    obtain ⟨q, _, h⟩ := xb_ok h
    obtain ⟨q2, _, h⟩ := xb_ok h
    obtain ⟨q3, _, h⟩ := xb_ok h
    obtain ⟨q4, _, h⟩ := xb_ok h
    obtain ⟨q5, _, h⟩ := xb_ok h
    cases h; exact H
  split at h
  · unfold pVar at h
    obtain ⟨q, _, h⟩ := xb_ok h
    obtain ⟨q2, _, h⟩ := xb_ok h
    obtain ⟨q3, _, h⟩ := xb_ok h
    obtain ⟨q4, _, h⟩ := xb_ok h
    obtain ⟨q5, _, h⟩ := xb_ok h
    obtain ⟨q6, _, h⟩ := xb_ok h
    split at h
    · cases h
    · obtain ⟨q7, _, h⟩ := xb_ok h
      cases h; exact H
  split at h
  · rw [pRule_eq] at h
    obtain ⟨q, _, h⟩ := xb_ok h
    obtain ⟨n, _, h⟩ := xb_ok h
    unfold pR1 at h
    obtain ⟨j, _, h⟩ := xb_ok h
    unfold pR2 at h
    obtain ⟨a, ha, h⟩ := xb_ok h
    unfold pR3 at h
    obtain ⟨w, _, h⟩ := xb_ok h
    unfold pR4 at h
    obtain ⟨b, hb, h⟩ := xb_ok h
    unfold pR5 at h
    obtain ⟨j2, _, h⟩ := xb_ok h
    cases h
    refine ⟨fun k hk => ?_, H.2⟩
    have hk : k < (dL c ++ [(w.1, a.1, b.1)]).length := hk
    rw [List.length_append] at hk
    have hk : k < (dL c).length + 1 := hk
    show shp ((dL c ++ [(w.1, a.1, b.1)]).getD k zL).2.1 3 ∧ shp ((dL c ++ [(w.1, a.1, b.1)]).getD k zL).2.2 3
    rw [getD_snoc]
    by_cases z : k < (dL c).length
    · rw [if_pos z]; exact H.1 k z
    · rw [if_neg z, if_pos (by omega)]; exact ⟨sum_sh _ _ _ _ _ ha, sum_sh _ _ _ _ _ hb⟩
  split at h
  · unfold pGoal at h
    split at h
    · cases h
    split at h
    · obtain ⟨a, ha, h⟩ := xb_ok h
      obtain ⟨j, _, h⟩ := xb_ok h
      cases h
      exact ⟨H.1, fun _ => sum_sh _ _ _ _ _ ha⟩
    · cases h
  · cases h
theorem text_sh : ∀ (n : Nat) (c : Dc) (i : Nat) {r : Dc}, shD c → pText T n c i = .ok r → shD r := by
  intro n
  induction n with
  | zero => intro c i r _ h; cases h
  | succ n ih =>
    intro c i r H h
    have eT : pText T (n + 1) c i = if tkK T i = 3 then .ok c else xb (pDecl T c i) fun q => pText T n q.1 q.2 := rfl
    rw [eT] at h
    split at h
    · cases h; exact H
    · obtain ⟨q, hq, h⟩ := xb_ok h
      exact ih q.1 q.2 (decl_sh H hq) h
theorem shD0 : shD D0 := ⟨fun k hk => absurd hk (Nat.not_lt_zero k), fun z => absurd rfl z⟩
end SHP
