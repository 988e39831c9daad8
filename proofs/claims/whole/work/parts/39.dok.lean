-- needs: 20.num 21.lay 22.spec 23.va 24.leaf 25.tbls 26.thg 27.tok 29.fr 30.tree 28.vb1 28.vb2 28.vb3 31.ctx 32.rd1 33.rd2 34.lvl 38.eok
/-! WHAT IS DECLARED IS IN RANGE -/
def slR (o : Int × Int) : List Int := if o.1 = -1 then [] else if o.2 = -1 then [o.1] else [o.1, o.2]
def cvr (c : Dc) : Prop := ∀ k : Int, 0 ≤ k → (k < ((dS c).length : Int) → ∃ e ∈ dN c, e.2 = (0, k)) ∧ (k < ((dT c).length : Int) → ∃ e ∈ dN c, e.2 = (1, k)) ∧ (k < ((dX c).length : Int) → ∃ e ∈ dN c, e.2 = (2, k)) ∧ (k < ((dR c).length : Int) → ∃ e ∈ dN c, e.2 = (3, k))
def zL : Int × Ex × Ex := (0, .leaf, .leaf)
def okD (c : Dc) : Prop := okX (dC c) (dN c) [] ∧ okO (dS c) (dR c) ∧ (dB c).length = (dX c).length ∧ (dL c).length = (dR c).length ∧ (dN c).length = (dS c).length + (dT c).length + (dX c).length + (dR c).length ∧ (∀ e ∈ dN c, e.2.1 ≤ 3 ∧ (e.2.1 = 3 → e.2.2 < ((dR c).length : Int))) ∧ (((dV c).length : Int) = tot (dS c) (dT c) ∧ ∀ v ∈ dV c, -9999 ≤ v ∧ v ≤ 9999) ∧ (∀ b ∈ dB c, -9999 ≤ b.1 ∧ b.1 ≤ b.2 ∧ b.2 ≤ 9999) ∧ (∀ k, k < (dL c).length → (-1 ≤ ((dL c).getD k zL).1 ∧ ((dL c).getD k zL).1 ≤ 1) ∧ exOK (dC c) ((dL c).getD k zL).2.1 8 (slR ((dR c).getD k (-1, -1))) ∧ exOK (dC c) ((dL c).getD k zL).2.2 8 (slR ((dR c).getD k (-1, -1)))) ∧ (0 ≤ dG c ∧ dG c ≤ 2) ∧ exOK (dC c) (dE c) 8 [] ∧ cvr c
section DOK
variable {C : Cx} {G : NmL} {sl : List Int} {T : Txt} {i : Nat} {S s : List (Int × Int)} {c : Dc}
theorem okG.nm (h : okG G) (hl : G.length < 46) {l : List Int} (hn : okN l) (hf : (lkNm G l).1 = -1) {u v : Int} (h0 : 0 ≤ u) (h1 : u ≤ 4) (h2 : 0 ≤ v) (h3 : v < 46) : okG (G ++ [(l, u, v)]) := by
  refine ⟨by rw [List.length_append]; show G.length + 1 ≤ 46; omega, fun e he => ?_, ?_⟩
  · rcases List.mem_append.mp he with he | he
    · exact h.2.1 e he
    · rw [List.mem_singleton.mp he]; exact ⟨hn, h0, h1, h2, h3⟩
  · rw [List.map_append]
    refine List.nodup_append.mpr ⟨h.2.2, by simp, fun a ha b hb => ?_⟩
    obtain ⟨q, hq, rfl⟩ := List.mem_map.mp ha
    have hb := List.mem_singleton.mp hb
    rw [hb]
    exact lkNm_no (fun e he => (h.2.1 e he).2.1) hf q hq
theorem okX.nm {s t u : List (Int × Int)} (O : okX C G []) (hl : G.length < 28) {l : List Int} (hn : okN l) (hf : (lkNm G l).1 = -1) {a b : Int} (h0 : 0 ≤ a) (h1 : a ≤ 3) (h2 : 0 ≤ b) (h3 : b < 46) (k1 : okS (C.1 ++ s)) (k2 : okO (C.1 ++ s) (C.2.1 ++ t)) (k3 : (C.2.1 ++ t).length ≤ 6) (k4 : okO (C.1 ++ s) (C.2.2 ++ u)) (k5 : (C.2.2 ++ u).length ≤ 6) (q0 : a = 0 → b < ((C.1 ++ s).length : Int)) (q1 : a = 1 → b < ((C.2.1 ++ t).length : Int)) (q2 : a = 2 → b < ((C.2.2 ++ u).length : Int)) : okX (C.1 ++ s, C.2.1 ++ t, C.2.2 ++ u) (G ++ [(l, a, b)]) [] := by
  obtain ⟨o1, o2, o3, o4, o5, o6, o7, o8, o9, o10⟩ := O
  refine ⟨o1.nm (by omega) hn hf h0 (by omega) h2 h3, k1, k2, k3, k4, k5, by decide, fun e he => absurd he (by simp), by rw [List.length_append]; show G.length + 1 ≤ 28 + 0; omega, fun e he => ?_⟩
  rcases List.mem_append.mp he with he | he
  · obtain ⟨z1, z2, z3, z4⟩ := o10 e he
    refine ⟨fun y => ?_, fun y => ?_, fun y => ?_, z4⟩
    · have := z1 y; rw [List.length_append]; omega
    · have := z2 y; rw [List.length_append]; omega
    · have := z3 y; rw [List.length_append]; omega
  · rw [List.mem_singleton.mp he]
    exact ⟨q0, q1, q2, fun y => absurd (show a = 4 from y) (by omega)⟩
theorem pName_ok (g : tkG T) {n m : Nat} {r : List Int × Nat} (h : pName T G n m i = .ok r) : okN r.1 ∧ (lkNm G r.1).1 = -1 ∧ n < m ∧ r.2 = i + 2 ∧ tkK T (i + 1) = 1 ∧ r.1 = tkN T (i + 1) := by
  unfold pName at h
  split at h
  · rename_i q; cases h; exact ⟨(g _).2 q.1, q.2.2, q.2.1, rfl, q.1, rfl⟩
  · cases h
theorem okS_snoc (h : okS S) (hl : S.length < 6) {a b : Int} (h1 : 0 ≤ a) (h2 : a ≤ 9999) (h3 : 0 ≤ b) (h4 : b ≤ 8) : okS (S ++ [(a, b)]) := ⟨by rw [List.length_append]; show S.length + 1 ≤ 6; omega, fun e he => by
  rcases List.mem_append.mp he with he | he
  · exact h.2 e he
  · rw [List.mem_singleton.mp he]; exact ⟨h1, h2, h3, h4⟩⟩
theorem okO_snoc {O : List (Int × Int)} (h : okO S O) (hl : O.length < 10) {o : Int × Int} (ho : (o.1 = -1 ∧ o.2 = -1) ∨ (0 ≤ o.1 ∧ o.1 < (S.length : Int) ∧ (o.2 = -1 ∨ (0 ≤ o.2 ∧ o.2 < (S.length : Int))))) : okO S (O ++ [o]) := ⟨by rw [List.length_append]; show O.length + 1 ≤ 10; omega, fun e he => by
  rcases List.mem_append.mp he with he | he
  · exact h.2 e he
  · rw [List.mem_singleton.mp he]; exact ho⟩
theorem ex_snoc {k : Int} {G : NmL} {l : List Int} {u v : Int} {a : Int} (h : ∃ e ∈ G, e.2 = (a, k)) : ∃ e ∈ G ++ [(l, u, v)], e.2 = (a, k) := by
  obtain ⟨e, he, q⟩ := h
  exact ⟨e, List.mem_append.mpr (Or.inl he), q⟩
theorem ex_last {G : NmL} {l : List Int} {u v : Int} : ∃ e ∈ G ++ [(l, u, v)], e.2 = (u, v) := ⟨_, List.mem_append.mpr (Or.inr (List.mem_singleton.mpr rfl)), rfl⟩
theorem exOK_up {x : Ex} {n : Nat} (h : okD c) {s t u : List (Int × Int)} (hx : exOK (dC c) x n sl) : exOK (dS c ++ s, dT c ++ t, dX c ++ u) x n sl := exOK_app (C := dC c) h.1.2.2.1 h.1.2.2.2.2.1 s t u x n sl hx
theorem pSet_ok (g : tkG T) (h : okD c) {r : Dc × Nat} (hr : pSet T c i = .ok r) : okD r.1 ∧ i + 2 ≤ r.2 := by
  unfold pSet at hr
  obtain ⟨q, h1, hr⟩ := xb_ok hr
  obtain ⟨j, h2, hr⟩ := xb_ok hr
  obtain ⟨j2, h3, hr⟩ := xb_ok hr
  obtain ⟨j3, h4, hr⟩ := xb_ok hr
  have z1 := pName_ok g h1
  have z2 := take_ok h2
  have z3 := take_ok h3
  have z4 := take_ok h4
  split at hr
  · rename_i cc
    obtain ⟨j4, h5, hr⟩ := xb_ok hr
    have z5 := take_ok h5
    cases hr
    have v1 := (g j).1 z3.1
    have v2 := (g j3).1 cc.1
    obtain ⟨o1, o2, o3, o4, o5, o6, o7, o8, o9, o10, o11, o12⟩ := h
    have k1 := okS_snoc o1.2.1 z1.2.2.1 v1.1 v1.2 cc.2.1 cc.2.2
    have hd : okD c := ⟨o1, o2, o3, o4, o5, o6, o7, o8, o9, o10, o11, o12⟩
    have X := okX.nm (s := [(tkV T j, tkV T j3 - tkV T j + 1)]) (t := []) (u := []) (a := 0) (b := ((dS c).length : Int)) o1 (by have := o1.2.1.1; have := o1.2.2.2.1; have := o1.2.2.2.2.2.1; have := o2.1; have : (dC c).1.length = (dS c).length := rfl; have : (dC c).2.1.length = (dT c).length := rfl; have : (dC c).2.2.length = (dX c).length := rfl; omega) z1.1 z1.2.1 (by decide) (by decide) (by omega) (by have := z1.2.2.1; omega) k1 (by rw [List.append_nil]; exact okO_app o1.2.2.1) (by rw [List.append_nil]; exact o1.2.2.2.1) (by rw [List.append_nil]; exact okO_app o1.2.2.2.2.1) (by rw [List.append_nil]; exact o1.2.2.2.2.2.1) (fun _ => by rw [List.length_append]; show ((dS c).length : Int) < (((dS c).length + 1 : Nat) : Int); omega) (fun z => absurd z (by decide)) (fun z => absurd z (by decide))
    rw [List.append_nil, List.append_nil] at X
    refine ⟨⟨X, okO_app o2, o3, o4, ?_, fun e he => ?_, ⟨?_, o7.2⟩, o8, fun k hk => ⟨(o9 k hk).1, ?_, ?_⟩, o10, ?_, fun k hk => ⟨fun q => ?_, fun q => ex_snoc ((o12 k hk).2.1 q), fun q => ex_snoc ((o12 k hk).2.2.1 q), fun q => ex_snoc ((o12 k hk).2.2.2 q)⟩⟩, by show i + 2 ≤ j4; omega⟩
    · show (dN c ++ [_]).length = (dS c ++ [_]).length + _ + _ + _
      rw [List.length_append, List.length_append]
      show (dN c).length + 1 = ((dS c).length + 1) + (dT c).length + (dX c).length + (dR c).length
      omega
    · rcases List.mem_append.mp he with he | he
      · exact o6 e he
      · rw [List.mem_singleton.mp he]; exact ⟨by show (0 : Int) ≤ 3; decide, fun z => absurd (show (0 : Int) = 3 from z) (by decide)⟩
    · exact o7.1.trans (tot_app (okO_lt o1.2.2.1)).symm
    · have := exOK_up hd (s := [(tkV T j, tkV T j3 - tkV T j + 1)]) (t := []) (u := []) (o9 k hk).2.1
      rw [List.append_nil, List.append_nil] at this; exact this
    · have := exOK_up hd (s := [(tkV T j, tkV T j3 - tkV T j + 1)]) (t := []) (u := []) (o9 k hk).2.2
      rw [List.append_nil, List.append_nil] at this; exact this
    · have := exOK_up hd (s := [(tkV T j, tkV T j3 - tkV T j + 1)]) (t := []) (u := []) o11
      rw [List.append_nil, List.append_nil] at this; exact this
    · have q : k < (((dS c) ++ [(tkV T j, tkV T j3 - tkV T j + 1)]).length : Int) := q
      rw [List.length_append] at q
      have q : k < (((dS c).length + 1 : Nat) : Int) := q
      by_cases e : k = ((dS c).length : Int)
      · rw [e]; exact ex_last
      · exact ex_snoc ((o12 k hk).1 (by omega))
  · cases hr
theorem setN_ok (hG : okG G) (hs : ∀ e ∈ G, e.2.1 = 0 → e.2.2 < (S.length : Int)) {r : Int × Nat} (h : pSetN T G i = .ok r) : 0 ≤ r.1 ∧ r.1 < (S.length : Int) ∧ r.2 = i + 1 := by
  unfold pSetN at h
  split at h
  · rename_i c
    cases h
    obtain ⟨c1, m⟩ := lkT_mem (G := G) (T := T) (i := i) (by omega)
    exact ⟨(hG.2.1 _ m).2.2.2.1, hs _ m c, rfl⟩
  · cases h
theorem pOf_ok (hG : okG G) (hs : ∀ e ∈ G, e.2.1 = 0 → e.2.2 < (S.length : Int)) {o : Int × Int × Nat} (h : pOf T G i = .ok o) : ((o.1 = -1 ∧ o.2.1 = -1) ∨ (0 ≤ o.1 ∧ o.1 < (S.length : Int) ∧ (o.2.1 = -1 ∨ (0 ≤ o.2.1 ∧ o.2.1 < (S.length : Int))))) ∧ i ≤ o.2.2 := by
  unfold pOf at h
  split at h
  · obtain ⟨q, h1, h⟩ := xb_ok h
    have z1 := setN_ok hG hs h1
    split at h
    · obtain ⟨r, h2, h⟩ := xb_ok h
      have z2 := setN_ok hG hs h2
      obtain ⟨j, h3, h⟩ := xb_ok h
      have z3 := take_ok h3
      cases h
      exact ⟨Or.inr ⟨z1.1, z1.2.1, Or.inr ⟨z2.1, z2.2.1⟩⟩, by show i ≤ j; omega⟩
    · obtain ⟨j, h3, h⟩ := xb_ok h
      have z3 := take_ok h3
      cases h
      exact ⟨Or.inr ⟨z1.1, z1.2.1, Or.inl rfl⟩, by show i ≤ j; omega⟩
  · cases h
    exact ⟨Or.inl ⟨rfl, rfl⟩, Nat.le_refl _⟩
theorem pVal_ok (g : tkG T) {r : Int × Nat} (h : pVal T i = .ok r) : -9999 ≤ r.1 ∧ r.1 ≤ 9999 ∧ i < r.2 := by
  unfold pVal at h
  split at h
  · obtain ⟨j, h1, h⟩ := xb_ok h
    have z := take_ok h1
    have v := (g _).1 z.1
    cases h
    exact ⟨by show -9999 ≤ -tkV T (i + 1); omega, by show -tkV T (i + 1) ≤ 9999; omega, by show i < j; omega⟩
  · obtain ⟨j, h1, h⟩ := xb_ok h
    have z := take_ok h1
    have v := (g _).1 z.1
    cases h
    exact ⟨by show -9999 ≤ tkV T i; omega, v.2, by show i < j; omega⟩
theorem pVals_ok (g : tkG T) : ∀ (n : Nat) (l : List Int) (i : Nat) (r : List Int × Nat), pVals T n l i = .ok r → (∀ v ∈ l, -9999 ≤ v ∧ v ≤ 9999) → r.1.length = l.length + n ∧ (∀ v ∈ r.1, -9999 ≤ v ∧ v ≤ 9999) ∧ i + n ≤ r.2 := by
  intro n
  induction n with
  | zero => intro l i r h hl; cases h; exact ⟨rfl, hl, Nat.le_refl _⟩
  | succ n ih =>
    intro l i r h hl
    obtain ⟨q, h1, h⟩ := xb_ok h
    have z := pVal_ok g h1
    have y := ih _ _ _ h (fun v hv => by
      rcases List.mem_append.mp hv with hv | hv
      · exact hl v hv
      · rw [List.mem_singleton.mp hv]; exact ⟨z.1, z.2.1⟩)
    rw [List.length_append] at y
    have y1 : r.1.length = l.length + 1 + n := y.1
    exact ⟨by omega, y.2.1, by omega⟩
theorem okD.cnt (h : okD c) : (dS c).length ≤ 6 ∧ (dT c).length ≤ 6 ∧ (dX c).length ≤ 6 ∧ (dR c).length ≤ 10 := ⟨h.1.2.1.1, h.1.2.2.2.1, h.1.2.2.2.2.2.1, h.2.1.1⟩
theorem okD.sets (h : okD c) {l : List Int} {u v : Int} (hu : ¬ u = 0) : ∀ e ∈ dN c ++ [(l, u, v)], e.2.1 = 0 → e.2.2 < ((dS c).length : Int) := fun e he z => by
  rcases List.mem_append.mp he with he | he
  · exact (h.1.2.2.2.2.2.2.2.2.2 e he).1 z
  · rw [List.mem_singleton.mp he] at z; exact absurd z hu
theorem okD.nmG (h : okD c) {l : List Int} (hn : okN l) (hf : (lkNm (dN c) l).1 = -1) {u : Int} {v : Nat} (hu : 0 ≤ u) (hu2 : u ≤ 4) (hv : v ≤ 10) : okG (dN c ++ [(l, u, (v : Int))]) := h.1.1.nm (by have := h.cnt; have := h.2.2.2.2.1; have := h.1.2.2.2.2.2.2.2.2.1; show (dN c).length < 46; have : (dN c).length ≤ 28 + 0 := this; omega) hn hf hu hu2 (by omega) (by omega)
theorem pTab_ok (g : tkG T) (h : okD c) {r : Dc × Nat} (hr : pTab T c i = .ok r) : okD r.1 ∧ i + 2 ≤ r.2 := by
  unfold pTab at hr
  obtain ⟨q, h1, hr⟩ := xb_ok hr
  obtain ⟨o, h2, hr⟩ := xb_ok hr
  obtain ⟨j, h3, hr⟩ := xb_ok hr
  obtain ⟨l, h4, hr⟩ := xb_ok hr
  obtain ⟨j2, h5, hr⟩ := xb_ok hr
  have z1 := pName_ok g h1
  have cn := h.cnt
  have z2 := pOf_ok (S := dS c) (h.nmG z1.1 z1.2.1 (by decide) (by decide) (by omega)) (h.sets (by decide)) h2
  have z3 := take_ok h3
  have z5 := take_ok h5
  cases hr
  have hd := h
  obtain ⟨o1, o2, o3, o4, o5, o6, o7, o8, o9, o10, o11, o12⟩ := h
  have z4 := pVals_ok g _ _ _ _ h4 o7.2
  have k2 : okO (dS c) (dT c ++ [(o.1, o.2.1)]) := okO_snoc o1.2.2.1 (show (dT c).length < 10 by omega) z2.1
  have kl : (dT c ++ [(o.1, o.2.1)]).length ≤ 6 := by rw [List.length_append]; show (dT c).length + 1 ≤ 6; omega
  have X := okX.nm (s := []) (t := [(o.1, o.2.1)]) (u := []) (a := 1) (b := ((dT c).length : Int)) o1 (by omega) z1.1 z1.2.1 (by decide) (by decide) (by omega) (by omega) (by rw [List.append_nil]; exact o1.2.1) (by rw [List.append_nil]; exact k2) kl (by rw [List.append_nil, List.append_nil]; exact o1.2.2.2.2.1) (by rw [List.append_nil]; exact o1.2.2.2.2.2.1) (fun z => absurd z (by decide)) (fun _ => by rw [List.length_append]; show ((dT c).length : Int) < (((dT c).length + 1 : Nat) : Int); omega) (fun z => absurd z (by decide))
  rw [List.append_nil, List.append_nil] at X
  have up : ∀ {x : Ex} {n : Nat} {sl : List Int}, exOK (dC c) x n sl → exOK (dS c, dT c ++ [(o.1, o.2.1)], dX c) x n sl := fun {x n sl} hx => by
    have := exOK_up hd (s := []) (t := [(o.1, o.2.1)]) (u := []) hx
    rw [List.append_nil, List.append_nil] at this; exact this
  refine ⟨⟨X, o2, o3, o4, ?_, fun e he => ?_, ⟨?_, z4.2.1⟩, o8, fun k hk => ⟨(o9 k hk).1, up (o9 k hk).2.1, up (o9 k hk).2.2⟩, o10, up o11, fun k hk => ⟨fun q => ex_snoc ((o12 k hk).1 q), fun q => ?_, fun q => ex_snoc ((o12 k hk).2.2.1 q), fun q => ex_snoc ((o12 k hk).2.2.2 q)⟩⟩, by show i + 2 ≤ j2; omega⟩
  · show (dN c ++ [_]).length = _ + (dT c ++ [_]).length + _ + _
    rw [List.length_append, List.length_append]
    show (dN c).length + 1 = (dS c).length + ((dT c).length + 1) + (dX c).length + (dR c).length
    omega
  · rcases List.mem_append.mp he with he | he
    · exact o6 e he
    · rw [List.mem_singleton.mp he]; exact ⟨by show (1 : Int) ≤ 3; decide, fun z => absurd (show (1 : Int) = 3 from z) (by decide)⟩
  · show (l.1.length : Int) = tot (dS c) (dT c ++ [(o.1, o.2.1)])
    rw [tot_snoc, ← o7.1, z4.1]
    have := sz2_r o1.2.1 o.1 o.2.1
    show (((dV c).length + (szO (dS c) o.1 * szO (dS c) o.2.1).toNat : Nat) : Int) = ((dV c).length : Int) + szO (dS c) o.1 * szO (dS c) o.2.1
    have e : ((szO (dS c) o.1 * szO (dS c) o.2.1).toNat : Int) = szO (dS c) o.1 * szO (dS c) o.2.1 := Int.toNat_of_nonneg this.1
    omega
  · have q : k < ((dT c ++ [(o.1, o.2.1)]).length : Int) := q
    rw [List.length_append] at q
    have q : k < (((dT c).length + 1 : Nat) : Int) := q
    by_cases e : k = ((dT c).length : Int)
    · rw [e]; exact ex_last
    · exact ex_snoc ((o12 k hk).2.1 (by omega))
theorem pVar_ok (g : tkG T) (h : okD c) {r : Dc × Nat} (hr : pVar T c i = .ok r) : okD r.1 ∧ i + 2 ≤ r.2 := by
  unfold pVar at hr
  obtain ⟨q, h1, hr⟩ := xb_ok hr
  obtain ⟨o, h2, hr⟩ := xb_ok hr
  obtain ⟨j, h3, hr⟩ := xb_ok hr
  obtain ⟨a, h4, hr⟩ := xb_ok hr
  obtain ⟨j2, h5, hr⟩ := xb_ok hr
  obtain ⟨b, h6, hr⟩ := xb_ok hr
  have z1 := pName_ok g h1
  have cn := h.cnt
  have z2 := pOf_ok (S := dS c) (h.nmG z1.1 z1.2.1 (by decide) (by decide) (by omega)) (h.sets (by decide)) h2
  have z3 := take_ok h3
  have z4 := pVal_ok g h4
  have z5 := take_ok h5
  have z6 := pVal_ok g h6
  split at hr
  · cases hr
  rename_i cc
  obtain ⟨j3, h7, hr⟩ := xb_ok hr
  have z7 := take_ok h7
  cases hr
  have hd := h
  obtain ⟨o1, o2, o3, o4, o5, o6, o7, o8, o9, o10, o11, o12⟩ := h
  have k2 : okO (dS c) (dX c ++ [(o.1, o.2.1)]) := okO_snoc o1.2.2.2.2.1 (show (dX c).length < 10 by omega) z2.1
  have kl : (dX c ++ [(o.1, o.2.1)]).length ≤ 6 := by rw [List.length_append]; show (dX c).length + 1 ≤ 6; omega
  have X := okX.nm (s := []) (t := []) (u := [(o.1, o.2.1)]) (a := 2) (b := ((dX c).length : Int)) o1 (by omega) z1.1 z1.2.1 (by decide) (by decide) (by omega) (by omega) (by rw [List.append_nil]; exact o1.2.1) (by rw [List.append_nil, List.append_nil]; exact o1.2.2.1) (by rw [List.append_nil]; exact o1.2.2.2.1) (by rw [List.append_nil]; exact k2) kl (fun z => absurd z (by decide)) (fun z => absurd z (by decide)) (fun _ => by rw [List.length_append]; show ((dX c).length : Int) < (((dX c).length + 1 : Nat) : Int); omega)
  rw [List.append_nil, List.append_nil] at X
  have up : ∀ {x : Ex} {n : Nat} {sl : List Int}, exOK (dC c) x n sl → exOK (dS c, dT c, dX c ++ [(o.1, o.2.1)]) x n sl := fun {x n sl} hx => by
    have := exOK_up hd (s := []) (t := []) (u := [(o.1, o.2.1)]) hx
    rw [List.append_nil, List.append_nil] at this; exact this
  refine ⟨⟨X, o2, ?_, o4, ?_, fun e he => ?_, o7, fun e he => ?_, fun k hk => ⟨(o9 k hk).1, up (o9 k hk).2.1, up (o9 k hk).2.2⟩, o10, up o11, fun k hk => ⟨fun q => ex_snoc ((o12 k hk).1 q), fun q => ex_snoc ((o12 k hk).2.1 q), fun q => ?_, fun q => ex_snoc ((o12 k hk).2.2.2 q)⟩⟩, by show i + 2 ≤ j3; omega⟩
  · show (dB c ++ [_]).length = (dX c ++ [_]).length
    rw [List.length_append, List.length_append, o3]; rfl
  · show (dN c ++ [_]).length = _ + _ + (dX c ++ [_]).length + _
    rw [List.length_append, List.length_append]
    show (dN c).length + 1 = (dS c).length + (dT c).length + ((dX c).length + 1) + (dR c).length
    omega
  · rcases List.mem_append.mp he with he | he
    · exact o6 e he
    · rw [List.mem_singleton.mp he]; exact ⟨by show (2 : Int) ≤ 3; decide, fun z => absurd (show (2 : Int) = 3 from z) (by decide)⟩
  · rcases List.mem_append.mp he with he | he
    · exact o8 e he
    · rw [List.mem_singleton.mp he]; exact ⟨z4.1, by show a.1 ≤ b.1; omega, z6.2.1⟩
  · have q : k < ((dX c ++ [(o.1, o.2.1)]).length : Int) := q
    rw [List.length_append] at q
    have q : k < (((dX c).length + 1 : Nat) : Int) := q
    by_cases e : k = ((dX c).length : Int)
    · rw [e]; exact ex_last
    · exact ex_snoc ((o12 k hk).2.2.1 (by omega))
theorem pFor_ok (g : tkG T) {C : Cx} (O : okX C G []) {n : NmL × List Int × Nat} (h : pFor T G i = .ok n) : okX C n.1 n.2.1 ∧ (∃ gg, n.1 = G ++ gg ∧ gg.length = n.2.1.length) ∧ n.2.1.length ≤ 2 ∧ i ≤ n.2.2 ∧ slR (n.2.1.getD 0 (-1), n.2.1.getD 1 (-1)) = n.2.1 ∧ (((n.2.1.getD 0 (-1)) = -1 ∧ (n.2.1.getD 1 (-1)) = -1) ∨ (0 ≤ n.2.1.getD 0 (-1) ∧ n.2.1.getD 0 (-1) < (C.1.length : Int) ∧ (n.2.1.getD 1 (-1) = -1 ∨ (0 ≤ n.2.1.getD 1 (-1) ∧ n.2.1.getD 1 (-1) < (C.1.length : Int))))) := by
  unfold pFor at h
  split at h
  · have z := pInd_ok g O (by decide) h
    obtain ⟨rG, rs, rk⟩ := n
    obtain ⟨O2, ⟨gg, s, q1, q2, q3, q4, q5⟩, z2⟩ := z
    have q2 : rs = s := q2
    subst q2
    have hs := O2.2.2.2.2.2.2.2.1
    refine ⟨O2, ⟨gg, q1, q3⟩, q5, by show i ≤ rk; have z2 : i + 1 + 2 < rk := z2; omega, ?_⟩
    have O2 : okX C rG rs := O2
    match rs, q4, q5, hs with
    | [a], _, _, hs =>
      have h1 := hs a (by simp)
      refine ⟨?_, Or.inr ⟨h1.1, h1.2, Or.inl rfl⟩⟩
      show slR (a, -1) = [a]
      unfold slR
      rw [if_neg (by show ¬ a = -1; omega), if_pos rfl]
    | [a, b], _, _, hs =>
      have h1 := hs a (by simp)
      have h2 := hs b (by simp)
      refine ⟨?_, Or.inr ⟨h1.1, h1.2, Or.inr ⟨h2.1, h2.2⟩⟩⟩
      show slR (a, b) = [a, b]
      unfold slR
      rw [if_neg (by show ¬ a = -1; omega), if_neg (by show ¬ b = -1; omega)]
  · cases h
    exact ⟨O, ⟨[], by simp, rfl⟩, by show (0 : Nat) ≤ 2; decide, Nat.le_refl _, rfl, Or.inl ⟨rfl, rfl⟩⟩
theorem pRel_ok {r : Int × Nat} (h : pRel T i = .ok r) : (-1 ≤ r.1 ∧ r.1 ≤ 1) ∧ r.2 = i + 1 := by
  unfold pRel at h
  split at h
  · cases h; exact ⟨by show (-1 : Int) ≤ -1 ∧ (-1 : Int) ≤ 1; decide, rfl⟩
  split at h
  · cases h; exact ⟨by show (-1 : Int) ≤ 0 ∧ (0 : Int) ≤ 1; decide, rfl⟩
  split at h
  · cases h; exact ⟨by show (-1 : Int) ≤ 1 ∧ (1 : Int) ≤ 1; decide, rfl⟩
  · cases h
/-- the names with the rule's own -/
theorem okD.rule (h : okD c) {l : List Int} (hn : okN l) (hf : (lkNm (dN c) l).1 = -1) (hr : (dR c).length < 10) : okX (dC c) (dN c ++ [(l, 3, ((dR c).length : Int))]) [] := by
  have cn := h.cnt
  have o5 := h.2.2.2.2.1
  have X := okX.nm (s := []) (t := []) (u := []) (a := 3) (b := ((dR c).length : Int)) h.1 (by omega) hn hf (by decide) (by decide) (by omega) (by omega) (by rw [List.append_nil]; exact h.1.2.1) (by rw [List.append_nil, List.append_nil]; exact h.1.2.2.1) (by rw [List.append_nil]; exact h.1.2.2.2.1) (by rw [List.append_nil, List.append_nil]; exact h.1.2.2.2.2.1) (by rw [List.append_nil]; exact h.1.2.2.2.2.2.1) (fun z => absurd z (by decide)) (fun z => absurd z (by decide)) (fun z => absurd z (by decide))
  rw [List.append_nil, List.append_nil, List.append_nil] at X
  exact X
theorem pRule_ok (g : tkG T) (h : okD c) {r : Dc × Nat} (hr : pRule T c i = .ok r) : okD r.1 ∧ i + 2 ≤ r.2 := by
  unfold pRule at hr
  obtain ⟨q, h1, hr⟩ := xb_ok hr
  obtain ⟨n, h2, hr⟩ := xb_ok hr
  obtain ⟨j, h3, hr⟩ := xb_ok hr
  obtain ⟨a, h4, hr⟩ := xb_ok hr
  obtain ⟨e, h5, hr⟩ := xb_ok hr
  obtain ⟨b, h6, hr⟩ := xb_ok hr
  obtain ⟨j2, h7, hr⟩ := xb_ok hr
  have z1 := pName_ok g h1
  have cn := h.cnt
  have X0 := h.rule z1.1 z1.2.1 z1.2.2.1
  have z2 := pFor_ok g X0 h2
  have z3 := take_ok h3
  have z4 := pSum_ok g 8 _ _ _ _ z2.1 (by omega) h4
  have z5 := pRel_ok h5
  have z6 := pSum_ok g 8 _ _ _ _ z2.1 (by omega) h6
  have z7 := take_ok h7
  cases hr
  have hd := h
  obtain ⟨o1, o2, o3, o4, o5, o6, o7, o8, o9, o10, o11, o12⟩ := h
  have k2 : okO (dS c) (dR c ++ [(n.2.1.getD 0 (-1), n.2.1.getD 1 (-1))]) := okO_snoc o2 z1.2.2.1 z2.2.2.2.2.2
  refine ⟨⟨X0, k2, o3, ?_, ?_, fun e he => ?_, o7, o8, fun k hk => ?_, o10, o11, fun k hk => ⟨fun q => ex_snoc ((o12 k hk).1 q), fun q => ex_snoc ((o12 k hk).2.1 q), fun q => ex_snoc ((o12 k hk).2.2.1 q), fun q => ?_⟩⟩, by show i + 2 ≤ j2; omega⟩
  · show (dL c ++ [_]).length = (dR c ++ [_]).length
    rw [List.length_append, List.length_append, o4]; rfl
  · show (dN c ++ [_]).length = _ + _ + _ + (dR c ++ [_]).length
    rw [List.length_append, List.length_append]
    show (dN c).length + 1 = (dS c).length + (dT c).length + (dX c).length + ((dR c).length + 1)
    omega
  · show e.2.1 ≤ 3 ∧ (e.2.1 = 3 → e.2.2 < ((dR c ++ [(n.2.1.getD 0 (-1), n.2.1.getD 1 (-1))]).length : Int))
    rw [List.length_append]
    show e.2.1 ≤ 3 ∧ (e.2.1 = 3 → e.2.2 < (((dR c).length + 1 : Nat) : Int))
    rcases List.mem_append.mp he with he | he
    · have := o6 e he; exact ⟨this.1, fun z => by have := this.2 z; omega⟩
    · rw [List.mem_singleton.mp he]; exact ⟨by show (3 : Int) ≤ 3; decide, fun _ => by show ((dR c).length : Int) < _; omega⟩
  · have hk : k < (dL c ++ [(e.1, a.1, b.1)]).length := hk
    show (-1 ≤ ((dL c ++ [(e.1, a.1, b.1)]).getD k zL).1 ∧ ((dL c ++ [(e.1, a.1, b.1)]).getD k zL).1 ≤ 1) ∧ exOK (dC c) ((dL c ++ [(e.1, a.1, b.1)]).getD k zL).2.1 8 (slR ((dR c ++ [(n.2.1.getD 0 (-1), n.2.1.getD 1 (-1))]).getD k (-1, -1))) ∧ exOK (dC c) ((dL c ++ [(e.1, a.1, b.1)]).getD k zL).2.2 8 (slR ((dR c ++ [(n.2.1.getD 0 (-1), n.2.1.getD 1 (-1))]).getD k (-1, -1)))
    rw [List.length_append] at hk
    have hk : k < (dL c).length + 1 := hk
    rw [getD_snoc, getD_snoc, ← o4]
    by_cases ck : k < (dL c).length
    · rw [if_pos ck, if_pos ck]; exact o9 k ck
    · rw [if_neg ck, if_neg ck, if_pos (by omega), if_pos (by omega), z2.2.2.2.2.1]
      exact ⟨z5.1, z4.1, z6.1⟩
  · have q : k < ((dR c ++ [(n.2.1.getD 0 (-1), n.2.1.getD 1 (-1))]).length : Int) := q
    rw [List.length_append] at q
    have q : k < (((dR c).length + 1 : Nat) : Int) := q
    by_cases e : k = ((dR c).length : Int)
    · rw [e]; exact ex_last
    · exact ex_snoc ((o12 k hk).2.2.2 (by omega))
theorem pGoal_ok (g : tkG T) (h : okD c) {r : Dc × Nat} (hr : pGoal T c i = .ok r) : okD r.1 ∧ i + 2 ≤ r.2 := by
  unfold pGoal at hr
  split at hr
  · cases hr
  split at hr
  · obtain ⟨a, h1, hr⟩ := xb_ok hr
    obtain ⟨j, h2, hr⟩ := xb_ok hr
    have z1 := pSum_ok g 8 _ _ _ _ h.1 (by decide) h1
    have z2 := take_ok h2
    cases hr
    obtain ⟨o1, o2, o3, o4, o5, o6, o7, o8, o9, o10, o11, o12⟩ := h
    exact ⟨⟨o1, o2, o3, o4, o5, o6, o7, o8, o9, by show 0 ≤ (if _ then (1 : Int) else 2) ∧ (if _ then (1 : Int) else 2) ≤ 2; split <;> decide, z1.1, o12⟩, by show i + 2 ≤ j; omega⟩
  · cases hr
theorem pDecl_ok (g : tkG T) (h : okD c) {r : Dc × Nat} (hr : pDecl T c i = .ok r) : okD r.1 ∧ i + 2 ≤ r.2 := by
  unfold pDecl at hr
  split at hr
  · exact pSet_ok g h hr
  split at hr
  · exact pTab_ok g h hr
  split at hr
  · exact pVar_ok g h hr
  split at hr
  · exact pRule_ok g h hr
  split at hr
  · exact pGoal_ok g h hr
  · cases hr
theorem okD0 : okD D0 := by
  refine ⟨⟨⟨by decide, fun e he => absurd (show e ∈ ([] : List _) from he) (by simp), List.nodup_nil⟩, ⟨by decide, fun e he => absurd (show e ∈ ([] : List _) from he) (by simp)⟩, ⟨by decide, fun e he => absurd (show e ∈ ([] : List _) from he) (by simp)⟩, by decide, ⟨by decide, fun e he => absurd (show e ∈ ([] : List _) from he) (by simp)⟩, by decide, by decide, fun e he => absurd he (by simp), by decide, fun e he => absurd (show e ∈ ([] : List _) from he) (by simp)⟩, ⟨by decide, fun e he => absurd (show e ∈ ([] : List _) from he) (by simp)⟩, rfl, rfl, rfl, fun e he => absurd (show e ∈ ([] : List _) from he) (by simp), ⟨rfl, fun e he => absurd (show e ∈ ([] : List _) from he) (by simp)⟩, fun e he => absurd (show e ∈ ([] : List _) from he) (by simp), fun k hk => absurd (show k < 0 from hk) (by omega), by decide, ⟨fun z => absurd z (by decide), trivial, trivial⟩, fun k hk => ⟨fun z => ?_, fun z => ?_, fun z => ?_, fun z => ?_⟩⟩
  all_goals (have z : k < 0 := z; omega)
end DOK
