-- needs: 20.num 21.lay 22.spec 23.va 24.leaf 25.tbls 26.thg
/-! THE TOKENS in the class -/
/-- the class's value of a token -/
def tkW (T : Txt) (i : Nat) : Int := if isLt (T.2 (tkP T i)) = true ∧ tkP T i < T.1 then w32 (c256 (tkN T i)) else if tkP T i < T.1 ∧ isDg (T.2 (tkP T i)) = true then w32 (tkV T i) else 0
def nmT (T : Txt) (i : Nat) : Int := if tkK T i = 1 then tkW T i else 0
/-- what is known of the tokens up to the first END or BAD -/
def tkOK (T : Txt) (e : Nat) : Prop := ∀ j, j ≤ e → okK (tkK T j) ∧ tkP T j ≤ 400 ∧ (tkK T j = 2 → tkW T j = tkV T j ∧ 0 ≤ tkV T j ∧ tkV T j ≤ 9999) ∧ (tkK T j = 1 → tkW T j = c256 (tkN T j) ∧ okN (tkN T j)) ∧ r32 (tkW T j)
def TokR (T : Txt) (e i : Nat) (h : AH) : Prop := tkOK T e ∧ stopAt T e ∧ e ≤ 400 ∧ i ≤ e ∧ ji h 37 4 = (i : Int) ∧ (e : Int) < ji h 37 3 ∧ ji h 37 3 ≤ 401 ∧ ∀ j, j ≤ e → ji h 38 j = ck (tkK T j) ∧ ji h 39 j = (tkP T j : Int) ∧ ji h 40 j = tkW T j
section TOK
variable {p : Lpar} {d : Nat} {h h' : AH} {T : Txt} {e i : Nat}
theorem TokR.cg (K : TokR T e i h) (hs : ∀ a k, 37 ≤ a → a ≤ 40 → ji h' a k = ji h a k) : TokR T e i h' := by
  obtain ⟨k1, k2, k3, k4, k5, k6, k7, k8⟩ := K
  refine ⟨k1, k2, k3, k4, ?_, ?_, ?_, fun j hj => ?_⟩
  · rw [hs 37 4 (by omega) (by omega)]; exact k5
  · rw [hs 37 3 (by omega) (by omega)]; exact k6
  · rw [hs 37 3 (by omega) (by omega)]; exact k7
  · rw [hs 38 j (by omega) (by omega), hs 39 j (by omega) (by omega), hs 40 j (by omega) (by omega)]; exact k8 j hj
theorem TokR.swi (K : TokR T e i h) {a k : Nat} {x : Int} (ha : a < 37 ∨ 40 < a) : TokR T e i (wi h a k x) := K.cg (fun b j h1 h2 => by rw [ji_wi, if_neg (by omega)])
theorem TokR.swl (K : TokR T e i h) {a k : Nat} {x : Int} : TokR T e i (wl h a k x) := K.cg (fun b j h1 h2 => rfl)
theorem TokR.swr (K : TokR T e i h) {a k : Nat} {x : Nat} : TokR T e i (wr h a k x) := K.cg (fun b j h1 h2 => rfl)
theorem TokR.snw (K : TokR T e i h) (L : Ly p h) {t n : Nat} : TokR T e i (nw h t n) := K.cg (fun b j h1 h2 => by
  have := L.nx
  have : 40 < NF := by decide
  rw [ji_nw, if_neg (by omega)])
theorem TokR.lt (K : TokR T e i h) (hs : ¬ (tkK T i = 3 ∨ tkK T i = 4)) : i < e := by
  obtain ⟨k1, k2, k3, k4, k5, k6, k7, k8⟩ := K
  by_cases c : i = e
  · rw [c] at hs; exact absurd k2.1 hs
  · omega
theorem TokR.adv (K : TokR T e i h) (hs : ¬ (tkK T i = 3 ∨ tkK T i = 4)) : TokR T e (i + 1) (wi h 37 4 ((i + 1 : Nat) : Int)) := by
  have hl := K.lt hs
  obtain ⟨k1, k2, k3, k4, k5, k6, k7, k8⟩ := K
  refine ⟨k1, k2, k3, by omega, ?_, ?_, ?_, fun j hj => ?_⟩
  · rw [ji_wi, if_pos ⟨rfl, rfl⟩]
  · rw [ji_wi, if_neg (by omega)]; exact k6
  · rw [ji_wi, if_neg (by omega)]; exact k7
  · rw [ji_wi, if_neg (by omega), ji_wi, if_neg (by omega), ji_wi, if_neg (by omega)]; exact k8 j hj
theorem TokR.flt (K : TokR T e i h) {x : Int} : TokR T e i (wi h 37 5 x) := by
  obtain ⟨k1, k2, k3, k4, k5, k6, k7, k8⟩ := K
  refine ⟨k1, k2, k3, by omega, ?_, ?_, ?_, fun j hj => ?_⟩
  · rw [ji_wi, if_neg (by omega)]; exact k5
  · rw [ji_wi, if_neg (by omega)]; exact k6
  · rw [ji_wi, if_neg (by omega)]; exact k7
  · rw [ji_wi, if_neg (by omega), ji_wi, if_neg (by omega), ji_wi, if_neg (by omega)]; exact k8 j hj
theorem TokR.ok (K : TokR T e i h) : okK (tkK T i) ∧ tkP T i ≤ 400 ∧ (tkK T i = 2 → tkW T i = tkV T i ∧ 0 ≤ tkV T i ∧ tkV T i ≤ 9999) ∧ (tkK T i = 1 → tkW T i = c256 (tkN T i) ∧ okN (tkN T i)) ∧ r32 (tkW T i) := K.1 i K.2.2.2.1
theorem ck_kc (kc : Int) (h : cknL.any (fun e => e.1 == kc) = true) : okK kc := by
  unfold okK
  obtain ⟨e, he, q⟩ := List.any_eq_true.mp h
  exact List.mem_map.mpr ⟨e, he, by simpa using q⟩
theorem TokR.ckE (K : TokR T e i h) (kc : Int) (hk : cknL.any (fun e => e.1 == kc) = true) : (ck (tkK T i) = ck kc) = (tkK T i = kc) := propext (ck_inj K.ok.1 (ck_kc kc hk))
theorem TokR.rd (K : TokR T e i h) : 0 ≤ ji h 37 4 ∧ ji h 37 4 < 401 ∧ Int.toNat (ji h 37 4) = i ∧ ji h 38 i = ck (tkK T i) ∧ ji h 39 i = (tkP T i : Int) ∧ ji h 40 i = tkW T i := by
  obtain ⟨k1, k2, k3, k4, k5, k6, k7, k8⟩ := K
  have := k8 i k4
  exact ⟨by omega, by omega, by omega, this⟩
theorem ns {k : Int} (c : tkK T i = k) (hk : ¬ (k = 3 ∨ k = 4)) : ¬ (tkK T i = 3 ∨ tkK T i = 4) := by rw [c]; exact hk
theorem t_70 (hd : 1 ≤ d) (L : Ly p h) (K : TokR T e i h) : jE d 70 [jP 37] h (some (jI (ck (tkK T i)))) h := by
  obtain ⟨r1, r2, r3, r4, r5, r6⟩ := K.rd
  have := m_70 hd L r1 r2
  rw [r3, r4] at this
  exact this
theorem t_71 (hd : 1 ≤ d) (L : Ly p h) (K : TokR T e i h) : jE d 71 [jP 37] h (some (jI (tkP T i : Int))) h := by
  obtain ⟨r1, r2, r3, r4, r5, r6⟩ := K.rd
  have := m_71 hd L r1 r2
  rw [r3, r5] at this
  exact this
theorem t_72 (hd : 1 ≤ d) (L : Ly p h) (K : TokR T e i h) : jE d 72 [jP 37] h (some (jI (tkW T i))) h := by
  obtain ⟨r1, r2, r3, r4, r5, r6⟩ := K.rd
  have := m_72 hd L r1 r2
  rw [r3, r6] at this
  exact this
theorem t_73 (hd : 1 ≤ d) (L : Ly p h) (K : TokR T e i h) : jE d 73 [jP 37] h (some (jI (nmT T i))) h := by
  obtain ⟨r1, r2, r3, r4, r5, r6⟩ := K.rd
  have := m_73 hd L r1 r2
  rw [r3, r4, r6] at this
  have q : (ck (tkK T i) = 3) = (tkK T i = 1) := K.ckE 1 rfl
  unfold nmT
  by_cases c : tkK T i = 1
  · rw [if_pos (by rw [q]; exact c)] at this
    rw [if_pos c]; exact this
  · rw [if_neg (by rw [q]; exact c)] at this
    rw [if_neg c]; exact this
theorem t_74 (hd : 1 ≤ d) (L : Ly p h) (K : TokR T e i h) (hs : ¬ (tkK T i = 3 ∨ tkK T i = 4)) : jE d 74 [jP 37] h none (wi h 37 4 ((i + 1 : Nat) : Int)) := by
  have hl := K.lt hs
  have k5 := K.2.2.2.2.1
  have k6 := K.2.2.2.2.2.1
  have k3 := K.2.2.1
  have := m_74 hd L (by omega) (by omega) (by omega)
  rw [k5] at this
  exact this
theorem t_75y (hd : 1 ≤ d) (L : Ly p h) (K : TokR T e i h) (kc : Int) (hk : cknL.any (fun e => e.1 == kc) = true) (c : tkK T i = kc) (hs : ¬ (tkK T i = 3 ∨ tkK T i = 4) := by omega) : jE d 75 [jP 37, jI (ck kc)] h (some (jI 1)) (wi h 37 4 ((i + 1 : Nat) : Int)) := by
  obtain ⟨r1, r2, r3, r4, r5, r6⟩ := K.rd
  have hl := K.lt hs
  have k5 := K.2.2.2.2.1
  have k6 := K.2.2.2.2.2.1
  have k3 := K.2.2.1
  have k9 := K.ok.2.1
  have := m_75y (k := ck kc) hd L (by omega) (by omega) (fun _ => by omega) (by rw [r3, r5]; omega) (by rw [r3, r4, c])
  rw [k5] at this
  exact this
theorem t_75n (hd : 1 ≤ d) (L : Ly p h) (K : TokR T e i h) (kc : Int) (hk : cknL.any (fun e => e.1 == kc) = true) (c : ¬ tkK T i = kc) : jE d 75 [jP 37, jI (ck kc)] h (some (jI 0)) (wi h 37 5 (-10 - (tkP T i : Int))) := by
  obtain ⟨r1, r2, r3, r4, r5, r6⟩ := K.rd
  have k9 := K.ok.2.1
  have c2 : ¬ ji h 38 (Int.toNat (ji h 37 4)) = ck kc := by
    rw [r3, r4, show (ck (tkK T i) = ck kc) = (tkK T i = kc) from K.ckE kc hk]; exact c
  have := m_75n (k := ck kc) hd L (by omega) (by omega) (fun q => absurd q c2) (by rw [r3, r5]; omega) c2
  rw [r3, r5] at this
  exact this
theorem t_76 (hd : 1 ≤ d) (L : Ly p h) (K : TokR T e i h) : jE d 76 [jP 37] h (some (jI 0)) (wi h 37 5 (-10 - (tkP T i : Int))) := by
  obtain ⟨r1, r2, r3, r4, r5, r6⟩ := K.rd
  have k9 := K.ok.2.1
  have := m_76 hd L r1 r2 (by rw [r3, r5]; omega)
  rw [r3, r5] at this
  exact this
end TOK
