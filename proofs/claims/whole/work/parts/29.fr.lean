-- needs: 20.num 21.lay 22.spec 23.va 24.leaf 25.tbls 26.thg 27.tok
/-! WHAT A METHOD LEAVES AS IT WAS -/
def sameC (h h' : AH) (a : Nat) : Prop := ∀ k, ji h' a k = ji h a k ∧ jl h' a k = jl h a k ∧ jr h' a k = jr h a k
/-- only cells of Z and new ones change -/
def Fm (Z : Nat → Prop) (h h' : AH) : Prop := (∀ a, a < jx h → ¬ Z a → sameC h h' a) ∧ (∀ a, a < jx h → jt h' a = jt h a ∧ jn h' a = jn h a) ∧ jx h ≤ jx h' ∧ ju h' + 7 * jx h ≤ ju h + 7 * jx h'
section FRM
variable {Z Y : Nat → Prop} {h h1 h2 : AH}
theorem Fm.refl : Fm Z h h := ⟨fun _ _ _ _ => ⟨rfl, rfl, rfl⟩, fun _ _ => ⟨rfl, rfl⟩, Nat.le_refl _, Nat.le_refl _⟩
theorem Fm.trans (f : Fm Z h h1) (g : Fm Z h1 h2) : Fm Z h h2 := by
  obtain ⟨a1, a2, a3, a4⟩ := f
  obtain ⟨b1, b2, b3, b4⟩ := g
  refine ⟨fun a ha hz k => ?_, fun a ha => ?_, by omega, by omega⟩
  · obtain ⟨p1, p2, p3⟩ := a1 a ha hz k
    obtain ⟨q1, q2, q3⟩ := b1 a (by omega) hz k
    exact ⟨q1.trans p1, q2.trans p2, q3.trans p3⟩
  · obtain ⟨p1, p2⟩ := a2 a ha
    obtain ⟨q1, q2⟩ := b2 a (by omega)
    exact ⟨q1.trans p1, q2.trans p2⟩
theorem Fm.mono (f : Fm Z h h1) (hz : ∀ a, a < jx h → Z a → Y a) : Fm Y h h1 := ⟨fun a ha hy => f.1 a ha (fun q => hy (hz a ha q)), f.2⟩
theorem Fm.wi {a k : Nat} {x : Int} (hz : Z a) : Fm Z h (wi h a k x) := ⟨fun b _ hb j => ⟨by rw [ji_wi, if_neg (fun q => hb (by rw [q.1]; exact hz))], rfl, rfl⟩, fun _ _ => ⟨rfl, rfl⟩, Nat.le_refl _, Nat.le_refl _⟩
theorem Fm.wl {a k : Nat} {x : Int} (hz : Z a) : Fm Z h (wl h a k x) := ⟨fun b _ hb j => ⟨rfl, by rw [jl_wl, if_neg (fun q => hb (by rw [q.1]; exact hz))], rfl⟩, fun _ _ => ⟨rfl, rfl⟩, Nat.le_refl _, Nat.le_refl _⟩
theorem Fm.wr {a k : Nat} {x : Nat} (hz : Z a) : Fm Z h (wr h a k x) := ⟨fun b _ hb j => ⟨rfl, rfl, by rw [jr_wr, if_neg (fun q => hb (by rw [q.1]; exact hz))]⟩, fun _ _ => ⟨rfl, rfl⟩, Nat.le_refl _, Nat.le_refl _⟩
theorem Fm.nw {t n : Nat} (hn : n ≤ 7) : Fm Z h (nw h t n) := ⟨fun b hb _ j => ⟨by rw [ji_nw, if_neg (by omega)], by rw [jl_nw, if_neg (by omega)], by rw [jr_nw, if_neg (by omega)]⟩, fun b hb => ⟨by rw [jt_nw, if_neg (by omega)], by rw [jn_nw, if_neg (by omega)]⟩, by rw [jx_nw]; omega, by rw [jx_nw, ju_nw]; omega⟩
end FRM
/-- of the class's own cells, only those of Z change -/
theorem Fm.ji {Z : Nat → Prop} {h h' : AH} (f : Fm Z h h') {a : Nat} (ha : a < jx h) (hz : ¬ Z a) (k : Nat) : ji h' a k = ji h a k := (f.1 a ha hz k).1
theorem Fm.jr {Z : Nat → Prop} {h h' : AH} (f : Fm Z h h') {a : Nat} (ha : a < jx h) (hz : ¬ Z a) (k : Nat) : jr h' a k = jr h a k := (f.1 a ha hz k).2.2
theorem Fm.jl {Z : Nat → Prop} {h h' : AH} (f : Fm Z h h') {a : Nat} (ha : a < jx h) (hz : ¬ Z a) (k : Nat) : jl h' a k = jl h a k := (f.1 a ha hz k).2.1
section CGS
variable {h h' : AH} {D t N : Nat} {G : NmL} {S O : List (Int × Int)}
theorem NmR.cg (hR : NmR h D G) (hs : ∀ a k, D + 1 ≤ a → a ≤ D + 4 → ji h' a k = ji h a k) : NmR h' D G := ⟨by rw [hs _ _ (by omega) (by omega)]; exact hR.1, fun k hk => by rw [hs _ _ (by omega) (by omega), hs _ _ (by omega) (by omega), hs _ _ (by omega) (by omega)]; exact hR.2 k hk⟩
theorem StR.cg (hR : StR h D S) (hs : ∀ a k, D + 5 ≤ a → a ≤ D + 7 → ji h' a k = ji h a k) : StR h' D S := ⟨by rw [hs _ _ (by omega) (by omega)]; exact hR.1, fun k hk => by rw [hs _ _ (by omega) (by omega), hs _ _ (by omega) (by omega)]; exact hR.2 k hk⟩
theorem ThR.cg (hR : ThR h t S O) (hs : ∀ a k, t ≤ a → a ≤ t + 3 → ji h' a k = ji h a k) : ThR h' t S O := ⟨by rw [hs _ _ (by omega) (by omega)]; exact hR.1, by rw [hs _ _ (by omega) (by omega)]; exact hR.2.1, fun k hk => by rw [hs _ _ (by omega) (by omega), hs _ _ (by omega) (by omega), hs _ _ (by omega) (by omega)]; exact hR.2.2 k hk⟩
end CGS
/-! growing tables -/
/-- a frame in which nothing is new -/
def Fe (Z : Nat → Prop) (h h' : AH) : Prop := Fm Z h h' ∧ jx h' = jx h
theorem Fe.wi {Z : Nat → Prop} {h : AH} {a k : Nat} {x : Int} (hz : Z a) : Fe Z h (wi h a k x) := ⟨Fm.wi hz, rfl⟩
theorem Fe.wl {Z : Nat → Prop} {h : AH} {a k : Nat} {x : Int} (hz : Z a) : Fe Z h (wl h a k x) := ⟨Fm.wl hz, rfl⟩
theorem Fe.wr {Z : Nat → Prop} {h : AH} {a k : Nat} {x : Nat} (hz : Z a) : Fe Z h (wr h a k x) := ⟨Fm.wr hz, rfl⟩
theorem Fe.refl {Z : Nat → Prop} {h : AH} : Fe Z h h := ⟨Fm.refl, rfl⟩
theorem Fe.trans {Z : Nat → Prop} {h h1 h2 : AH} (f : Fe Z h h1) (g : Fe Z h1 h2) : Fe Z h h2 := ⟨f.1.trans g.1, g.2.trans f.2⟩
theorem Fe.mono {Y Z : Nat → Prop} {h h1 : AH} (f : Fe Z h h1) (hz : ∀ a, a < jx h → Z a → Y a) : Fe Y h h1 := ⟨f.1.mono hz, f.2⟩
section GRW
variable {p : Lpar} {d : Nat} {h : AH} {D t N : Nat} {G : NmL} {S O : List (Int × Int)}
theorem m_24 (hd : 1 ≤ d) (L : Ly p h) (hD : isD D) (hR : NmR h D G) (hG : G.length < 46) {l : List Int} {s n : Int} : ∃ h', jE d 24 [jP (D + 1), jI (c256 l), jI s, jI n] h none h' ∧ Ly p h' ∧ Fe (fun a => D + 1 ≤ a ∧ a ≤ D + 4) h h' ∧ NmR h' D (G ++ [(l, s, n)]) := by
  obtain ⟨d, rfl⟩ := Nat.exists_eq_add_of_le' hd
  obtain ⟨r1, r2⟩ := hR
  have hx := L.nx
  have hDD := hD
  unfold isD at hDD
  obtain ⟨v, h', e, rfl, q⟩ := jE_of (as := [jP (D + 1), jI (c256 l), jI s, jI n]) (d := d) (y := 24) (h := h) (P := fun v h' => v = none ∧ Ly p h' ∧ Fe (fun a => D + 1 ≤ a ∧ a ≤ D + 4) h h' ∧ NmR h' D (G ++ [(l, s, n)])) (Nat.le_of_ble_eq_true rfl) (c_24_0 (Nat.zero_le _) L hD (by
    rw [r1]
    refine ⟨fun q => by omega, fun q => ⟨by omega, by omega, ?_⟩⟩
    have e1 : ji (wi h (D + 2) (Int.toNat (G.length : Int)) (c256 l)) (D + 1) 3 = (G.length : Int) := by rw [ji_wi, if_neg (by omega)]; exact r1
    rw [e1]
    refine ⟨by omega, by omega, ?_⟩
    have e2 : ji (wi (wi h (D + 2) (Int.toNat (G.length : Int)) (c256 l)) (D + 3) (Int.toNat (G.length : Int)) s) (D + 1) 3 = (G.length : Int) := by rw [ji_wi, if_neg (by omega)]; exact e1
    rw [e2]
    refine ⟨by omega, by omega, ?_⟩
    have e3 : ji (wi (wi (wi h (D + 2) (Int.toNat (G.length : Int)) (c256 l)) (D + 3) (Int.toNat (G.length : Int)) s) (D + 4) (Int.toNat (G.length : Int)) n) (D + 1) 3 = (G.length : Int) := by rw [ji_wi, if_neg (by omega)]; exact e2
    rw [e3, w32_i (by omega) (by omega), Int.toNat_natCast]
    refine fun L' => ⟨rfl, L', (((Fe.wi (by omega)).trans (Fe.wi (by omega))).trans (Fe.wi (by omega))).trans (Fe.wi (by omega)), ?_, fun k hk => ?_⟩
    · rw [ji_wi, if_pos ⟨rfl, rfl⟩, List.length_append]; rfl
    · rw [List.length_append] at hk
      have hk : k < G.length + 1 := hk
      simp only [ji_wi, getD_snoc]
      by_cases c : k = G.length
      · subst c
        simp
      · obtain ⟨a1, a2, a3⟩ := r2 k (by omega)
        simp [c, show k < G.length by omega, a1, a2, a3]))
  exact ⟨h', e, q⟩
theorem m_52 (hd : 1 ≤ d) (L : Ly p h) (hD : isD D) (hR : StR h D S) (hS : S.length < 6) {f n : Int} : ∃ h', jE d 52 [jP (D + 5), jI f, jI n] h none h' ∧ Ly p h' ∧ Fe (fun a => D + 5 ≤ a ∧ a ≤ D + 7) h h' ∧ StR h' D (S ++ [(f, n)]) := by
  obtain ⟨d, rfl⟩ := Nat.exists_eq_add_of_le' hd
  obtain ⟨r1, r2⟩ := hR
  have hx := L.nx
  have hDD := hD
  unfold isD at hDD
  obtain ⟨v, h', e, rfl, q⟩ := jE_of (as := [jP (D + 5), jI f, jI n]) (d := d) (y := 52) (h := h) (P := fun v h' => v = none ∧ Ly p h' ∧ Fe (fun a => D + 5 ≤ a ∧ a ≤ D + 7) h h' ∧ StR h' D (S ++ [(f, n)])) (Nat.le_of_ble_eq_true rfl) (c_52_0 (Nat.zero_le _) L hD (by
    rw [r1]
    refine ⟨fun q => by omega, fun q => ⟨by omega, by omega, ?_⟩⟩
    have e1 : ji (wi h (D + 6) (Int.toNat (S.length : Int)) f) (D + 5) 2 = (S.length : Int) := by rw [ji_wi, if_neg (by omega)]; exact r1
    rw [e1]
    refine ⟨by omega, by omega, ?_⟩
    have e2 : ji (wi (wi h (D + 6) (Int.toNat (S.length : Int)) f) (D + 7) (Int.toNat (S.length : Int)) n) (D + 5) 2 = (S.length : Int) := by rw [ji_wi, if_neg (by omega)]; exact e1
    rw [e2, w32_i (by omega) (by omega), Int.toNat_natCast]
    refine fun L' => ⟨rfl, L', ((Fe.wi (by omega)).trans (Fe.wi (by omega))).trans (Fe.wi (by omega)), ?_, fun k hk => ?_⟩
    · rw [ji_wi, if_pos ⟨rfl, rfl⟩, List.length_append]; rfl
    · rw [List.length_append] at hk
      have hk : k < S.length + 1 := hk
      simp only [ji_wi, getD_snoc]
      by_cases c : k = S.length
      · subst c
        simp
      · obtain ⟨a1, a2⟩ := r2 k (by omega)
        simp [c, show k < S.length by omega, a1, a2]))
  exact ⟨h', e, q⟩
theorem stO_snoc {o : Int × Int} {k : Nat} (hk : k ≤ O.length) : stO S (O ++ [o]) k = stO S O k := by
  unfold stO
  rw [List.take_append_of_le_length hk]
theorem m_59 (hd : 2 ≤ d) (L : Ly p h) (hD : isD D) (hT : isTh D t N) (hs : StR h D S) (hS : okS S) (hR : ThR h t S O) (hO : okO S O) (hN : O.length < N) {a b : Int} : ∃ h', jE d 59 [jP t, jI a, jI b] h none h' ∧ Ly p h' ∧ Fe (fun c => t ≤ c ∧ c ≤ t + 3) h h' ∧ ThR h' t S (O ++ [(a, b)]) := by
  obtain ⟨d, rfl⟩ := Nat.exists_eq_add_of_le' hd
  obtain ⟨r1, r0, r2⟩ := hR
  have hx := L.nx
  have hTT := hT
  unfold isTh isD at hTT
  have ht0 := tot_r hS O
  have hlen := hO.1
  have hz := sz2_r hS a b
  obtain ⟨v, h', e, rfl, q⟩ := jE_of (as := [jP t, jI a, jI b]) (d := d + 1) (y := 59) (h := h) (P := fun v h' => v = none ∧ Ly p h' ∧ Fe (fun c => t ≤ c ∧ c ≤ t + 3) h h' ∧ ThR h' t S (O ++ [(a, b)])) (Nat.le_of_ble_eq_true rfl) (c_59_0 (Nat.zero_le _) L hD hT (by
    rw [r1]
    refine ⟨fun q => by omega, fun q => ⟨by omega, by omega, ?_⟩⟩
    have e1 : ji (wi h (t + 1) (Int.toNat (O.length : Int)) a) t 4 = (O.length : Int) := by rw [ji_wi, if_neg (by omega)]; exact r1
    rw [e1]
    refine ⟨by omega, by omega, ?_⟩
    have e2 : ji (wi (wi h (t + 1) (Int.toNat (O.length : Int)) a) (t + 2) (Int.toNat (O.length : Int)) b) t 4 = (O.length : Int) := by rw [ji_wi, if_neg (by omega)]; exact e1
    have e2b : ji (wi (wi h (t + 1) (Int.toNat (O.length : Int)) a) (t + 2) (Int.toNat (O.length : Int)) b) t 5 = tot S O := by rw [ji_wi, if_neg (by omega), ji_wi, if_neg (by omega)]; exact r0
    rw [e2, e2b]
    refine ⟨by omega, by omega, fun L1 => ?_⟩
    have s1 : StR (wi (wi (wi h (t + 1) (Int.toNat (O.length : Int)) a) (t + 2) (Int.toNat (O.length : Int)) b) (t + 3) (Int.toNat (O.length : Int)) (tot S O)) D S := hs.cg (fun c k h1 h2 => by rw [ji_wi, if_neg (by omega), ji_wi, if_neg (by omega), ji_wi, if_neg (by omega)])
    refine ⟨_, _, m_53 (by omega) L1 hD s1 hS, L1, _, _, m_53 (by omega) L1 hD s1 hS, L1, ?_⟩
    rw [Int.toNat_natCast]
    have e3 : ji (wi (wi (wi h (t + 1) O.length a) (t + 2) O.length b) (t + 3) O.length (tot S O)) t 5 = tot S O := by rw [ji_wi, if_neg (by omega), ji_wi, if_neg (by omega), ji_wi, if_neg (by omega)]; exact r0
    have e4 : ∀ x, ji (wi (wi (wi (wi h (t + 1) O.length a) (t + 2) O.length b) (t + 3) O.length (tot S O)) t 5 x) t 4 = (O.length : Int) := fun x => by rw [ji_wi, if_neg (by omega), ji_wi, if_neg (by omega), ji_wi, if_neg (by omega), ji_wi, if_neg (by omega)]; exact r1
    rw [e4, e3, w32_i (x := szO S a * szO S b) (by omega) (by omega), w32_i (x := tot S O + szO S a * szO S b) (by omega) (by omega), w32_i (by omega) (by omega)]
    refine fun L' => ⟨rfl, L', ((((Fe.wi (by omega)).trans (Fe.wi (by omega))).trans (Fe.wi (by omega))).trans (Fe.wi (by omega))).trans (Fe.wi (by omega)), ?_, ?_, fun k hk => ?_⟩
    · rw [ji_wi, if_pos ⟨rfl, rfl⟩, List.length_append]; rfl
    · rw [ji_wi, if_neg (by omega), ji_wi, if_pos ⟨rfl, rfl⟩, tot_snoc]
    · rw [List.length_append] at hk
      have hk : k < O.length + 1 := hk
      rw [stO_snoc (by omega)]
      simp only [ji_wi, getD_snoc]
      by_cases c : k = O.length
      · subst c
        simp [stO_len]
      · obtain ⟨a1, a2, a3⟩ := r2 k (by omega)
        simp [c, show k < O.length by omega, a1, a2, a3]))
  exact ⟨h', e, q⟩
theorem m_8 (hd : 1 ≤ d) (L : Ly p h) (hD : isD D) {V : List Int} (h1 : ji h D 6 = (V.length : Int)) (h2 : V.length < 400) (h3 : ∀ k, k < V.length → ji h (D + 8) k = V.getD k 0) {x : Int} : ∃ h', jE d 8 [jP D, jI x] h none h' ∧ Ly p h' ∧ Fe (fun a => a = D ∨ a = D + 8) h h' ∧ (∀ k, ¬ k = 6 → ji h' D k = ji h D k) ∧ (∀ k, jl h' D k = jl h D k ∧ jr h' D k = jr h D k) ∧ ji h' D 6 = ((V ++ [x]).length : Int) ∧ ∀ k, k < (V ++ [x]).length → ji h' (D + 8) k = (V ++ [x]).getD k 0 := by
  obtain ⟨d, rfl⟩ := Nat.exists_eq_add_of_le' hd
  have hDD := hD
  unfold isD at hDD
  obtain ⟨v, h', e, rfl, q⟩ := jE_of (as := [jP D, jI x]) (d := d) (y := 8) (h := h) (P := fun v h' => v = none ∧ Ly p h' ∧ Fe (fun a => a = D ∨ a = D + 8) h h' ∧ (∀ k, ¬ k = 6 → ji h' D k = ji h D k) ∧ (∀ k, jl h' D k = jl h D k ∧ jr h' D k = jr h D k) ∧ ji h' D 6 = ((V ++ [x]).length : Int) ∧ ∀ k, k < (V ++ [x]).length → ji h' (D + 8) k = (V ++ [x]).getD k 0) (Nat.le_of_ble_eq_true rfl) (c_8_0 (Nat.zero_le _) L hD (by
    rw [h1]
    refine ⟨fun q => by omega, fun q => ⟨by omega, by omega, ?_⟩⟩
    have e1 : ji (wi h (D + 8) (Int.toNat (V.length : Int)) x) D 6 = (V.length : Int) := by rw [ji_wi, if_neg (by omega)]; exact h1
    rw [e1, w32_i (by omega) (by omega), Int.toNat_natCast]
    refine fun L' => ⟨rfl, L', (Fe.wi (Or.inr rfl)).trans (Fe.wi (Or.inl rfl)), fun k hk => ?_, fun k => ⟨rfl, rfl⟩, ?_, fun k hk => ?_⟩
    · rw [ji_wi, if_neg (by omega), ji_wi, if_neg (by omega)]
    · rw [ji_wi, if_pos ⟨rfl, rfl⟩, List.length_append]; rfl
    · rw [List.length_append] at hk
      have hk : k < V.length + 1 := hk
      simp only [ji_wi, getD_snoc]
      by_cases c : k = V.length
      · subst c
        simp
      · have := h3 k (by omega)
        simp [c, show k < V.length by omega, this]))
  exact ⟨h', e, q⟩
end GRW
