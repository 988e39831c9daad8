/-! THE REFERENCE: names -/
def nmA (s : Int) : Nat := if s = 0 then 143 else if s = 1 then 146 else if s = 2 then 149 else if s = 3 then 153 else 158
def CtM (h : AH) (n : Nat → Nat) : Prop := ji h 141 7 = (n 0 : Int) ∧ ji h 141 11 = (n 1 : Int) ∧ ji h 141 15 = (n 2 : Int) ∧ ji h 141 20 = (n 3 : Int) ∧ ji h 141 30 = (n 4 : Int)
def NeM (h : AH) (G : NmL) : Prop := ∀ e ∈ G, ji h (nmA e.2.1) e.2.2.toNat = c27 e.1
def okM (G : NmL) (n : Nat → Nat) : Prop := (n 0 ≤ 6 ∧ n 1 ≤ 6 ∧ n 2 ≤ 6 ∧ n 3 ≤ 10 ∧ n 4 ≤ 18) ∧ (∀ e ∈ G, okN e.1 ∧ 0 ≤ e.2.1 ∧ e.2.1 ≤ 4 ∧ 0 ≤ e.2.2 ∧ e.2.2 < (n e.2.1.toNat : Int)) ∧ (∀ s : Nat, s ≤ 4 → ∀ k : Nat, k < n s → ∃ e ∈ G, e.2 = ((s : Int), (k : Int))) ∧ (G.map Prod.fst).Nodup
def NmM (h : AH) (G : NmL) (n : Nat → Nat) : Prop := CtM h n ∧ NeM h G ∧ okM G n
theorem lkNm_of {G : NmL} (hn : (G.map Prod.fst).Nodup) : ∀ {e : List Int × Int × Int}, e ∈ G → lkNm G e.1 = e.2 := by
  induction G with
  | nil => intro e he; exact absurd he (by simp)
  | cons a r ih =>
    intro e he
    rw [List.map_cons, List.nodup_cons] at hn
    show (if a.1 = e.1 then a.2 else lkNm r e.1) = e.2
    rcases List.mem_cons.mp he with rfl | he
    · rw [if_pos rfl]
    · rw [if_neg (fun z => hn.1 (by rw [z]; exact List.mem_map_of_mem he))]
      exact ih hn.2 he
theorem fdA_no {f : Nat → Int} {x : Int} : ∀ {n k : Nat}, (∀ j, j < n → ¬ f (k + j) = x) → fdA f x n k = -1
  | 0, _, _ => rfl
  | n + 1, k, h => by
    show (if f k = x then (k : Int) else fdA f x n (k + 1)) = -1
    rw [if_neg (show ¬ f k = x from h 0 (by omega))]
    exact fdA_no (fun j hj => by rw [show k + 1 + j = k + (j + 1) by omega]; exact h (j + 1) (by omega))
theorem fdA_yes {f : Nat → Int} {x : Int} : ∀ {n k j : Nat}, j < n → f (k + j) = x → (∀ i, i < n → f (k + i) = x → i = j) → fdA f x n k = ((k + j : Nat) : Int)
  | 0, _, _, h, _, _ => absurd h (by omega)
  | n + 1, k, j, h, h1, h2 => by
    show (if f k = x then (k : Int) else fdA f x n (k + 1)) = _
    by_cases c : f k = x
    · rw [if_pos c, ← h2 0 (by omega) c]; rfl
    · rw [if_neg c]
      have hj : 0 < j := by
        by_cases z : j = 0
        · rw [z] at h1; exact absurd h1 c
        · omega
      have := fdA_yes (f := f) (x := x) (n := n) (k := k + 1) (j := j - 1) (by omega) (by rw [show k + 1 + (j - 1) = k + j by omega]; exact h1) (fun i hi hf => by
        have := h2 (i + 1) (by omega) (by rw [show k + (i + 1) = k + 1 + i by omega]; exact hf)
        omega)
      rw [this, show k + 1 + (j - 1) = k + j by omega]
theorem findM {h : AH} {G : NmL} {n : Nat → Nat} (M : NmM h G n) {l : List Int} (hl : okN l) {s : Nat} (hs : s ≤ 4) : fdA (ji h (nmA s)) (c27 l) (n s) 0 = if (lkNm G l).1 = (s : Int) then (lkNm G l).2 else -1 := by
  obtain ⟨M1, M2, m0, m1, m2, m3⟩ := M
  have one : ∀ j, j < n s → ji h (nmA s) j = c27 l → lkNm G l = ((s : Int), (j : Int)) := fun j hj z => by
    obtain ⟨e, he, ee⟩ := m2 s hs j hj
    have q := M2 e he
    rw [ee] at q
    have q : ji h (nmA (s : Int)) (j : Int).toNat = c27 e.1 := q
    rw [Int.toNat_natCast] at q
    have : l = e.1 := c27_inj hl (m1 e he).1 (z.symm.trans q)
    rw [this, lkNm_of m3 he, ee]
  by_cases c : (lkNm G l).1 = (s : Int)
  · rw [if_pos c]
    have hm := lkNm_mem (G := G) (l := l) (by omega)
    have q := m1 _ hm
    have q2 := M2 _ hm
    have q2 : ji h (nmA (lkNm G l).1) (lkNm G l).2.toNat = c27 l := q2
    rw [c] at q2
    have q4 : (lkNm G l).2 < (n (lkNm G l).1.toNat : Int) := q.2.2.2.2
    rw [c, Int.toNat_natCast] at q4
    have q3 : 0 ≤ (lkNm G l).2 := q.2.2.2.1
    have := fdA_yes (f := ji h (nmA s)) (x := c27 l) (n := n s) (k := 0) (j := (lkNm G l).2.toNat) (by omega) (by rw [Nat.zero_add]; exact q2) (fun i hi hf => by
      rw [Nat.zero_add] at hf
      have := one i hi hf
      rw [this]; exact (Int.toNat_natCast i).symm)
    rw [this]; omega
  · rw [if_neg c]
    exact fdA_no (fun j hj z => by
      rw [Nat.zero_add] at z
      exact c (by rw [one j hj z]))
section RNM
variable {p : Lpar} {d : Nat} {h h' h0 h1 g : AH} {T : Txt} {e i k : Nat} {G : NmL} {n : Nat → Nat} {s : Er Nat}
theorem nmA_r (s : Int) : 143 ≤ nmA s ∧ nmA s ≤ 158 := by
  unfold nmA
  split
  · omega
  split
  · omega
  split
  · omega
  split <;> omega
theorem NmM.fq {Z : Nat → Nat → Prop} (M : NmM h G n) (f : Fq Z h h') (z1 : ∀ k, (k = 7 ∨ k = 11 ∨ k = 15 ∨ k = 20 ∨ k = 30) → ¬ Z 141 k) (z2 : ∀ a k, (a = 143 ∨ a = 146 ∨ a = 149 ∨ a = 153 ∨ a = 158) → ¬ Z a k) : NmM h' G n := by
  obtain ⟨⟨c1, c2, c3, c4, c5⟩, M2, M3⟩ := M
  refine ⟨⟨(f.i (z1 _ (by omega))).trans c1, (f.i (z1 _ (by omega))).trans c2, (f.i (z1 _ (by omega))).trans c3, (f.i (z1 _ (by omega))).trans c4, (f.i (z1 _ (by omega))).trans c5⟩, fun e he => ?_, M3⟩
  rw [f.i (z2 _ _ (by unfold nmA; split; · omega
                      split; · omega
                      split; · omega
                      split <;> omega))]
  exact M2 e he
theorem NmM.fF (M : NmM h G n) (f : Fq ZF h h') : NmM h' G n := M.fq f (fun k z => by omega) (fun a k z => by omega)
theorem RT.fF (R : RT p T e h) (f : Fq ZF h h') : RT p T e h' := R.fq f (fun a k z => by omega) (by omega) (fun k => by omega)
theorem t_123 (hd : 1 ≤ d) (L : Ly p h) (M : NmM h G n) {l : List Int} (hl : okN l) (s : Nat) (hs : s ≤ 4) (a : Nat) (ha : nmA s = a) (ht : jt h a = 20) (hn : n s ≤ jn h a) {c : Int} (hc : c = (n s : Int)) {x : Int} (hx : x = c27 l) : jE d 123 [jP a, jI c, jI x] h (some (jI (if (lkNm G l).1 = (s : Int) then (lkNm G l).2 else -1))) h := by
  have m5 := M.2.2.1
  have b : n s ≤ 18 := by
    have : s = 0 ∨ s = 1 ∨ s = 2 ∨ s = 3 ∨ s = 4 := by omega
    rcases this with rfl | rfl | rfl | rfl | rfl <;> omega
  have q := m_123 (d := d) (p := p) (h := h) (a := a) (n := n s) (m := c) (x := x) hd L ht hc.symm hn (by omega)
  rw [hx, ← ha, findM M hl hs] at q
  rw [hx, ← ha]; exact q
theorem lk_r (M : NmM h G n) (l : List Int) : (lkNm G l).1 = -1 ∨ (0 ≤ (lkNm G l).1 ∧ (lkNm G l).1 ≤ 4 ∧ 0 ≤ (lkNm G l).2) := by
  by_cases c : (lkNm G l).1 = -1
  · exact Or.inl c
  · have := M.2.2.2.1 _ (lkNm_mem c)
    exact Or.inr ⟨this.2.1, this.2.2.1, this.2.2.2.1⟩
def pNew (T : Txt) (G : NmL) (i : Nat) : Er (List Int × Nat) := if tkK T i = 1 ∧ (lkNm G (tkN T i)).1 = -1 then .ok (tkN T i, i + 1) else .error (tkP T i)
/-- what a call that takes a value answers -/
def RV {α : Type} (T : Txt) (e : Nat) (r : Er α) (f : α → Nat) (V : α → Prop) (h : AH) : Prop := Rs r (fun q => ji h 141 6 = (q : Int)) (fun a => V a ∧ RtR T e (f a) h)
theorem RS.flt {q : Nat} (hq : ji h 141 6 = (q : Int)) : RS T e (.error q) h := hq
theorem t_124 (hd : 17 ≤ d) (R : RT p T e h) (S : RS T e s h) (M : NmM h G n) : ∃ v h', jE d 124 [jP 141] h (some (jI v)) h' ∧ Ly p h' ∧ Fq ZF h h' ∧ RV T e (xb s (pNew T G)) (fun r => r.2) (fun r => v = c27 r.1) h' := by
  obtain ⟨d, rfl⟩ : ∃ d', d = d' + 1 := ⟨d - 1, by omega⟩
  have L := R.1
  suffices hh : ∃ w h', jE (d + 1) 124 [jP 141] h w h' ∧ ∃ v, w = some (jI v) ∧ Ly p h' ∧ Fq ZF h h' ∧ RV T e (xb s (pNew T G)) (fun r => r.2) (fun r => v = c27 r.1) h' by
    obtain ⟨w, h', hE, v, rfl, r⟩ := hh
    exact ⟨v, h', hE, r⟩
  refine jE_of (as := [jP 141]) (Nat.le_of_ble_eq_true rfl) (c_124_0 (by omega) L ?_)
  cases s with
  | error q =>
    have S6 : ji h 141 6 = (q : Int) := S
    obtain ⟨v, h1, hE, L1, F1, r⟩ := t_120 (d := d) (k := 1) (by omega) R S (by decide)
    obtain ⟨r1, r2⟩ := r
    refine ⟨fun z => by omega, fun _ => ⟨v, h1, hE, L1, fun _ => ⟨_, rfl, L1, F1, r2⟩, fun z => absurd r1 z⟩⟩
  | ok i =>
    have S : RtR T e i h := S
    obtain ⟨s1, s2, s3, s4, s5, s6, s7⟩ := S
    have S : RtR T e i h := ⟨s1, s2, s3, s4, s5, s6, s7⟩
    have eX : ∀ {W : Er (List Int × Nat)}, xb (.ok i : Er Nat) (fun _ => W) = W := rfl
    have eN : xb (.ok i : Er Nat) (pNew T G) = pNew T G i := rfl
    rw [eN]
    -- the name is taken already
    have bad : (tkK T i = 1 → ¬ (lkNm G (tkN T i)).1 = -1) → Ly p (wi h 141 6 (ji h 141 3)) → ∃ x15 h12, jE d 120 [jP 141, jI 1] (wi h 141 6 (ji h 141 3)) (some (jI x15)) h12 ∧ Ly p h12 ∧ (x15 = (0 : Int) → ∃ v, (some (jI (-1))) = some (jI v) ∧ Ly p h12 ∧ Fq ZF h h12 ∧ RV T e (pNew T G i) (fun r => r.2) (fun r => v = c27 r.1) h12) ∧ (¬ (x15 = (0 : Int)) → ∃ v, (some (jI (ji h 141 5))) = some (jI v) ∧ Ly p h12 ∧ Fq ZF h h12 ∧ RV T e (pNew T G i) (fun r => r.2) (fun r => v = c27 r.1) h12) := fun hb L2 => by
      have f2 : Fq ZF h (wi h 141 6 (ji h 141 3)) := Fq.wi (by omega)
      obtain ⟨v, h1, hE, L1, F1, r⟩ := t_120 (d := d) (k := 1) (s := .error (tkP T i)) (by omega) (R.fF f2) (by show ji (wi h 141 6 (ji h 141 3)) 141 6 = _; rw [ji_wi, if_pos ⟨rfl, rfl⟩]; exact s3) (by decide)
      obtain ⟨r1, r2⟩ := r
      refine ⟨v, h1, hE, L1, fun _ => ⟨_, rfl, L1, f2.trans F1, ?_⟩, fun z => absurd r1 z⟩
      unfold pNew
      rw [if_neg (fun z => hb z.1 z.2)]
      exact r2
    have good : (tkK T i = 1 → (lkNm G (tkN T i)).1 = -1) → ∃ x5 h2, jE d 120 [jP 141, jI 1] h (some (jI x5)) h2 ∧ Ly p h2 ∧ (x5 = (0 : Int) → ∃ v, (some (jI (-1))) = some (jI v) ∧ Ly p h2 ∧ Fq ZF h h2 ∧ RV T e (pNew T G i) (fun r => r.2) (fun r => v = c27 r.1) h2) ∧ (¬ (x5 = (0 : Int)) → ∃ v, (some (jI (ji h 141 5))) = some (jI v) ∧ Ly p h2 ∧ Fq ZF h h2 ∧ RV T e (pNew T G i) (fun r => r.2) (fun r => v = c27 r.1) h2) := fun hg => by
      obtain ⟨v, h1, hE, L1, F1, r⟩ := t_120 (d := d) (k := 1) (s := .ok i) (by omega) R S (by decide)
      refine ⟨v, h1, hE, L1, ?_⟩
      have r : Rs (pTake T 1 i) _ _ := r
      unfold pNew
      by_cases c : tkK T i = 1
      · rw [take_y c] at r
        rw [if_pos ⟨c, hg c⟩]
        exact ⟨fun z => by have := r.1; omega, fun _ => ⟨_, rfl, L1, F1, s5 c, r.2⟩⟩
      · rw [take_n c] at r
        rw [if_neg (fun z => c z.1)]
        exact ⟨fun _ => ⟨_, rfl, L1, F1, r.2⟩, fun z => absurd r.1 z⟩
    refine ⟨fun _ => ⟨fun c => ?_, fun c => good (fun z => absurd (s2.trans z) c)⟩, fun z => absurd s7 z⟩
    have c : tkK T i = 1 := s2.symm.trans c
    have hN := (tkG_all T i).2 c
    have lr := lk_r M (tkN T i)
    obtain ⟨⟨c1, c2, c3, c4, c5⟩, M2, ⟨⟨n0, n1, n2, n3, n4⟩, M3⟩⟩ := M
    have M : NmM h G n := ⟨⟨c1, c2, c3, c4, c5⟩, M2, ⟨⟨n0, n1, n2, n3, n4⟩, M3⟩⟩
    have b0 : ∀ {y : Int}, 0 ≤ (if (lkNm G (tkN T i)).1 = y then (lkNm G (tkN T i)).2 else -1) → 0 ≤ y → ¬ (lkNm G (tkN T i)).1 = -1 := fun z hy z2 => by
      rw [if_neg (by omega)] at z; omega
    have b1 : ∀ {y : Int}, ¬ 0 ≤ (if (lkNm G (tkN T i)).1 = y then (lkNm G (tkN T i)).2 else -1) → 0 ≤ y → ¬ (lkNm G (tkN T i)).1 = y := fun z hy z2 => by
      rw [if_pos z2] at z; omega
    refine ⟨_, h, t_123 (by omega) L M hN 0 (by decide) 143 rfl L.t143 (by rw [L.n143]; exact n0) c1 (s5 c), L, fun z => ⟨fun _ => bad (fun _ => b0 z (by decide)), fun z2 => absurd s7 z2⟩, fun z0 => ?_⟩
    refine ⟨_, h, t_123 (by omega) L M hN 1 (by decide) 146 rfl L.t146 (by rw [L.n146]; exact n1) c2 (s5 c), L, fun z => ⟨fun _ => bad (fun _ => b0 z (by decide)), fun z2 => absurd s7 z2⟩, fun z1 => ?_⟩
    refine ⟨_, h, t_123 (by omega) L M hN 2 (by decide) 149 rfl L.t149 (by rw [L.n149]; exact n2) c3 (s5 c), L, fun z => ⟨fun _ => bad (fun _ => b0 z (by decide)), fun z2 => absurd s7 z2⟩, fun z2 => ?_⟩
    refine ⟨_, h, t_123 (by omega) L M hN 3 (by decide) 153 rfl L.t153 (by rw [L.n153]; exact n3) c4 (s5 c), L, fun z => ⟨fun _ => bad (fun _ => b0 z (by decide)), fun z2 => absurd s7 z2⟩, fun z3 => ?_⟩
    refine ⟨_, h, t_123 (by omega) L M hN 4 (by decide) 158 rfl L.t158 (by rw [L.n158]; omega) c5 (s5 c), L, fun z4 => good (fun _ => ?_), fun z => ⟨fun _ => bad (fun _ => b0 (y := ((4 : Nat) : Int)) (by omega) (by decide)), fun z2 => absurd s7 z2⟩⟩
    have q0 := b1 z0 (by decide)
    have q1 := b1 z1 (by decide)
    have q2 := b1 z2 (by decide)
    have q3 := b1 z3 (by decide)
    have q4 := b1 (y := ((4 : Nat) : Int)) (by omega) (by decide)
    omega
theorem t_125 (hd : 17 ≤ d) (R : RT p T e h) (S : RS T e s h) (M : NmM h G n) : ∃ v h', jE d 125 [jP 141] h (some (jI v)) h' ∧ Ly p h' ∧ Fq ZF h h' ∧ RV T e (xb s (pSetN T G)) (fun r => r.2) (fun r => v = r.1) h' := by
  obtain ⟨d, rfl⟩ : ∃ d', d = d' + 1 := ⟨d - 1, by omega⟩
  have L := R.1
  suffices hh : ∃ w h', jE (d + 1) 125 [jP 141] h w h' ∧ ∃ v, w = some (jI v) ∧ Ly p h' ∧ Fq ZF h h' ∧ RV T e (xb s (pSetN T G)) (fun r => r.2) (fun r => v = r.1) h' by
    obtain ⟨w, h', hE, v, rfl, r⟩ := hh
    exact ⟨v, h', hE, r⟩
  refine jE_of (as := [jP 141]) (Nat.le_of_ble_eq_true rfl) (c_125_0 (by omega) L ?_)
  obtain ⟨⟨c1, c2, c3, c4, c5⟩, M2, ⟨⟨n0, n1, n2, n3, n4⟩, M3⟩⟩ := M
  have M : NmM h G n := ⟨⟨c1, c2, c3, c4, c5⟩, M2, ⟨⟨n0, n1, n2, n3, n4⟩, M3⟩⟩
  -- a fault stands, or comes
  have bad : ∀ {g : AH} {q : Nat} {y : Int}, Fq ZF h g → ji g 141 6 = (q : Int) → xb s (pSetN T G) = .error q → ∃ x25 h22, jE d 120 [jP 141, jI 1] g (some (jI x25)) h22 ∧ Ly p h22 ∧ (x25 = (0 : Int) → ∃ v, (some (jI (-1))) = some (jI v) ∧ Ly p h22 ∧ Fq ZF h h22 ∧ RV T e (xb s (pSetN T G)) (fun r => r.2) (fun r => v = r.1) h22) ∧ (¬ (x25 = (0 : Int)) → ∃ v, (some (jI y)) = some (jI v) ∧ Ly p h22 ∧ Fq ZF h h22 ∧ RV T e (xb s (pSetN T G)) (fun r => r.2) (fun r => v = r.1) h22) := fun {g q y} f hq hs => by
    obtain ⟨v, h1, hE, L1, F1, r⟩ := t_120 (d := d) (k := 1) (s := .error q) (by omega) (R.fF f) hq (by decide)
    obtain ⟨r1, r2⟩ := r
    refine ⟨v, h1, hE, L1, fun _ => ⟨_, rfl, L1, f.trans F1, ?_⟩, fun z => absurd r1 z⟩
    rw [hs]; exact r2
  have f6 : ∀ {x : Int}, Fq ZF h (wi h 141 6 x) := Fq.wi (by omega)
  have r6 : ∀ {x : Int}, ji (wi h 141 6 x) 141 6 = x := by intro x; rw [ji_wi, if_pos ⟨rfl, rfl⟩]
  cases s with
  | error q =>
    have S6 : ji h 141 6 = (q : Int) := S
    have m := fun x => m_123 (d := d) (a := 143) (n := n 0) (m := ji h 141 7) (x := x) (by omega) L L.t143 c1.symm (by rw [L.n143]; exact n0) (by omega)
    refine ⟨fun _ => ⟨_, h, m _, L, fun _ => ⟨fun z => by omega, fun _ _ => bad f6 (r6.trans S6) rfl⟩, fun _ => bad Fq.refl S6 rfl⟩, fun _ => ⟨fun z => by omega, fun _ _ => bad f6 (r6.trans S6) rfl⟩⟩
  | ok i =>
    have S : RtR T e i h := S
    obtain ⟨s1, s2, s3, s4, s5, s6, s7⟩ := S
    have S : RtR T e i h := ⟨s1, s2, s3, s4, s5, s6, s7⟩
    refine ⟨fun c => ?_, fun c => ⟨fun _ _ => bad (q := tkP T i) f6 (r6.trans s3) ?_, fun z => absurd s7 z⟩⟩
    · have c : tkK T i = 1 := s2.symm.trans c
      have hN := (tkG_all T i).2 c
      have lr := lk_r M (tkN T i)
      have eL : lkT G T i = lkNm G (tkN T i) := by unfold lkT; rw [if_pos c]
      refine ⟨_, h, t_123 (by omega) L M hN 0 (by decide) 143 rfl L.t143 (by rw [L.n143]; exact n0) c1 (s5 c), L, fun z => ⟨fun _ _ => bad (q := tkP T i) f6 (r6.trans s3) ?_, fun z2 => absurd s7 z2⟩, fun z => ?_⟩
      · show pSetN T G i = _
        unfold pSetN
        rw [eL, if_neg (fun y => by rw [if_pos (show (lkNm G (tkN T i)).1 = ((0 : Nat) : Int) from y)] at z; omega)]
      · have y : (lkNm G (tkN T i)).1 = ((0 : Nat) : Int) := by
          by_cases y : (lkNm G (tkN T i)).1 = ((0 : Nat) : Int)
          · exact y
          · rw [if_neg y] at z; exact absurd rfl z
        obtain ⟨v, h1, hE, L1, F1, r⟩ := t_120 (d := d) (k := 1) (s := .ok i) (by omega) R S (by decide)
        have r : Rs (pTake T 1 i) _ _ := r
        rw [take_y c] at r
        refine ⟨v, h1, hE, L1, fun q => by have := r.1; omega, fun _ => ⟨_, rfl, L1, F1, ?_⟩⟩
        show RV T e (pSetN T G i) _ _ _
        unfold pSetN
        rw [eL, if_pos (show (lkNm G (tkN T i)).1 = 0 from y)]
        exact ⟨by rw [if_pos y], r.2⟩
    · show pSetN T G i = _
      unfold pSetN lkT
      rw [if_neg (fun z => c (s2.trans z)), if_neg (by decide)]
theorem t_128 (hd : 17 ≤ d) (R : RT p T e h) (S : RS T e s h) : ∃ v h', jE d 128 [jP 141] h (some (jI v)) h' ∧ Ly p h' ∧ Fq ZF h h' ∧ RV T e (xb s (pVal T)) (fun r => r.2) (fun r => v = r.1) h' := by
  obtain ⟨d, rfl⟩ : ∃ d', d = d' + 1 := ⟨d - 1, by omega⟩
  have L := R.1
  suffices hh : ∃ w h', jE (d + 1) 128 [jP 141] h w h' ∧ ∃ v, w = some (jI v) ∧ Ly p h' ∧ Fq ZF h h' ∧ RV T e (xb s (pVal T)) (fun r => r.2) (fun r => v = r.1) h' by
    obtain ⟨w, h', hE, v, rfl, r⟩ := hh
    exact ⟨v, h', hE, r⟩
  refine jE_of (as := [jP 141]) (Nat.le_of_ble_eq_true rfl) (c_128_0 (by omega) L ?_)
  cases s with
  | error q =>
    have S6 : ji h 141 6 = (q : Int) := S
    obtain ⟨v, h1, hE, L1, F1, r⟩ := t_120 (d := d) (k := 2) (by omega) R S (by decide)
    obtain ⟨r1, r2⟩ := r
    exact ⟨fun z => by omega, fun _ => ⟨v, h1, hE, L1, fun _ => ⟨_, rfl, L1, F1, r2⟩, fun z => absurd r1 z⟩⟩
  | ok i =>
    have S : RtR T e i h := S
    have s2 := S.2.1
    have go : ∀ {g : AH} {j : Nat} {m : Int}, Fq ZF h g → RtR T e j g → (m = 1 ∨ m = -1) → (pVal T i = xb (pTake T 2 j) fun k => .ok (m * tkV T j, k)) → ∃ x5 h2, jE d 120 [jP 141, jI 2] g (some (jI x5)) h2 ∧ Ly p h2 ∧ (x5 = (0 : Int) → ∃ v, (some (jI 0)) = some (jI v) ∧ Ly p h2 ∧ Fq ZF h h2 ∧ RV T e (pVal T i) (fun r => r.2) (fun r => v = r.1) h2) ∧ (¬ (x5 = (0 : Int)) → ∃ v, (some (jI (w32 (m * (ji g 141 5))))) = some (jI v) ∧ Ly p h2 ∧ Fq ZF h h2 ∧ RV T e (pVal T i) (fun r => r.2) (fun r => v = r.1) h2) := fun {g j m} f K hm hP => by
      obtain ⟨v, h1, hE, L1, F1, r⟩ := t_120 (d := d) (k := 2) (s := .ok j) (by omega) (R.fF f) K (by decide)
      have r : Rs (pTake T 2 j) _ _ := r
      refine ⟨v, h1, hE, L1, ?_⟩
      rw [hP]
      by_cases c : tkK T j = 2
      · rw [take_y c] at r ⊢
        have b := (tkG_all T j).1 c
        refine ⟨fun z => by have := r.1; omega, fun _ => ⟨_, rfl, L1, f.trans F1, ?_, r.2⟩⟩
        rw [K.2.2.2.2.2.1 c]
        rcases hm with rfl | rfl
        · exact w32_i (by omega) (by omega)
        · exact w32_i (by omega) (by omega)
      · rw [take_n c] at r ⊢
        exact ⟨fun _ => ⟨_, rfl, L1, f.trans F1, r.2⟩, fun z => absurd r.1 z⟩
    have eN : xb (.ok i : Er Nat) (pVal T) = pVal T i := rfl
    rw [eN]
    refine ⟨fun _ => ⟨fun c => ?_, fun c => go Fq.refl S (Or.inl rfl) ?_⟩, fun z => absurd S.2.2.2.2.2.2 z⟩
    · have c : tkK T i = 145 := s2.symm.trans c
      obtain ⟨h1, hE, L1, F1, K1⟩ := t_118 (d := d) (by omega) R S (by rw [c]; decide)
      refine ⟨h1, hE, L1, go (F1.mono (fun a k z => by omega)) K1 (Or.inr rfl) ?_⟩
      unfold pVal
      rw [if_pos c, show -1 * tkV T (i + 1) = -tkV T (i + 1) by omega]
    · unfold pVal
      rw [if_neg (fun z => c (s2.trans z)), show 1 * tkV T i = tkV T i by omega]
end RNM
