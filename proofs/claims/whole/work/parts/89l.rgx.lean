/-! THE REFERENCE: every read sum is worked out -/
section RGX
variable {p : Lpar} {d : Nat} {h h' g : AH} {c : Dc} {b lo hi n : Nat} {v1 v2 : Int} {Q : Option AV → AH → Prop} {sl : List Int} {nu : Nat → Int}
theorem nu_rng (hS : okS (dS c)) (I : InS (dS c) sl nu) {s : Nat} (hs : s < sl.length) : 0 ≤ nu s ∧ nu s ≤ 20000 := by
  have i := I s hs
  have f := fsO_r hS (sl.getD s (-1))
  have z := szO_r hS (sl.getD s (-1))
  omega
theorem go_x (hd : 14 ≤ d) : ∀ x : Ex, GoX p c d v1 v2 Q x := by
  intro x
  induction x with
  | leaf =>
    intro n md b lo hi sl nu h hs hx hl C hc I N h54 hb hV hh K
    have hs : md = 1 := hs
    have e := hc.1
    subst e
    exact g_1 (by omega) C h54 (by omega) (by omega) (by omega) hc.2 (fun h' C' F' S' q' => K h' C' F' S' q')
  | inner t k u l r ihl ihr =>
    intro n md b lo hi sl nu h hs hx hl C hc I N h54 hb hV hh K
    have hlt := cR_lt hc
    have hS : okS (dS c) := C.2.2.1.1.2.1
    by_cases c0 : t = 0
    · subst c0
      have hx : 0 ≤ k.1 ∧ k.1 ≤ 9999 := hx
      have hc : hi = lo + 1 ∧ ji h 160 lo = 2 ∧ ji h 161 lo = k.1 := hc
      obtain ⟨e, e1, e2⟩ := hc
      subst e
      exact g_2 (by omega) C h54 (by omega) (by omega) (by omega) e1 e2 (by omega) (by omega) (fun h' C' F' S' q' => K h' C' F' S' q')
    by_cases c1 : t = 1
    · subst c1
      have hx : 0 ≤ k.1 ∧ k.1 < (sl.length : Int) := hx
      have hc : hi = lo + 1 ∧ ji h 160 lo = 3 ∧ ji h 161 lo = k.1 := hc
      obtain ⟨e, e1, e2⟩ := hc
      subst e
      have nr := nu_rng hS I (s := k.1.toNat) (by omega)
      exact g_3 (by omega) C h54 (by omega) (by omega) (by omega) e1 e2 hx.1 (by omega) (N _ (by omega)) (by omega) (by omega) (fun h' C' F' S' q' => K h' C' F' S' q')
    by_cases c2 : t = 2
    · subst c2
      have hx : 0 ≤ k.1 ∧ k.1 < ((dT c).length : Int) ∧ psOK (dS c) sl (thS (dT c) k.1) k.2.1 k.2.2 := hx
      have hc : hi = lo + 1 ∧ ji h 160 lo = 4 ∧ ji h 161 lo = k.1 ∧ ji h 162 lo = k.2.1 ∧ ji h 163 lo = k.2.2 := hc
      obtain ⟨e, e1, e2, e3, e4⟩ := hc
      subst e
      exact g_4 (by omega) C h54 (by omega) (by omega) (by omega) e1 e2 e3 e4 hx.1 hx.2.1 hx.2.2 I N hl (fun h' C' F' S' q' => K h' C' F' S' q')
    by_cases c3 : t = 3
    · subst c3
      have hx : 0 ≤ k.1 ∧ k.1 < ((dX c).length : Int) ∧ psOK (dS c) sl (thS (dX c) k.1) k.2.1 k.2.2 := hx
      have hc : hi = lo + 1 ∧ ji h 160 lo = 5 ∧ ji h 161 lo = k.1 ∧ ji h 162 lo = k.2.1 ∧ ji h 163 lo = k.2.2 := hc
      obtain ⟨e, e1, e2, e3, e4⟩ := hc
      subst e
      exact g_5 (by omega) C h54 (by omega) (by omega) (by omega) e1 e2 e3 e4 hx.1 hx.2.1 hx.2.2 I N hl (fun h' C' F' S' q' => K h' C' F' S' q')
    by_cases c4 : t = 4
    · subst c4
      have hs : md = 0 ∧ shp l 3 := hs
      have hc : (k.2.1 = -1 ∧ cR h l lo hi) ∨ (¬ k.2.1 = -1 ∧ ∃ m, hi = m + 1 ∧ ji h 160 lo = 9 ∧ ji h 161 lo = k.1 ∧ ji h 162 lo = k.2.1 ∧ ji h 163 lo = k.2.2 ∧ cR h l (lo + 1) m ∧ ji h 160 m = 10 ∧ ji h 161 m = (lo : Int)) := hc
      rcases hc with ⟨y, hc3⟩ | ⟨y, m, e, e1, e2, e3, e4, hc2, e5, e6⟩
      · have hx : 1 ≤ n ∧ k.1 = (sl.length : Int) ∧ sl.length ≤ 16 ∧ ((k.2.1 = -1 ∧ k.2.2 = -1 ∧ exOK (dC c) l (n - 1) sl) ∨ (0 ≤ k.2.1 ∧ k.2.1 < ((dS c).length : Int) ∧ ((k.2.2 = -1 ∧ exOK (dC c) l (n - 1) (sl ++ [k.2.1])) ∨ (0 ≤ k.2.2 ∧ k.2.2 < ((dS c).length : Int) ∧ exOK (dC c) l (n - 1) (sl ++ [k.2.1, k.2.2]))))) := hx
        obtain ⟨x1, x2, x3, x4⟩ := hx
        obtain ⟨y1, y2, y3⟩ : k.2.1 = -1 ∧ k.2.2 = -1 ∧ exOK (dC c) l (n - 1) sl := by
          rcases x4 with z | ⟨z, _⟩
          · exact z
          · omega
        exact ihl (n - 1) 3 b lo hi sl nu h hs.2 y3 hl C hc3 I N h54 (by omega) hV hh (fun h' C' F' S' q' => K h' C' F' (S'.cg (fun j _ => (lin_40 y1 y2 j).symm)) q')
      · subst e
        have hk := (sl2_of hx y).1
        rw [hk] at e2
        exact g_9 hd ihl hx y hs.2 C ⟨hc2, e5, e6, e2, e3, e4⟩ e1 I N h54 (by omega) hV (by omega) K
    by_cases c5 : t = 5
    · subst c5
      have hs : md = 1 ∧ shp l 1 ∧ shp r 0 := hs
      have hx : (5 = 5 → ¬ (hv l = true ∧ hv r = true)) ∧ exOK (dC c) l n sl ∧ exOK (dC c) r n sl := hx
      have hc : ∃ m n, hi = n + 1 ∧ cR h l lo m ∧ cR h r m n ∧ ji h 160 n = 6 := hc
      obtain ⟨m, e, e0, e1, e2, e3⟩ := hc
      subst e0
      have i1 := cR_lt e1
      have i2 := cR_lt e2
      refine ihl n 1 b lo m sl nu h hs.2.1 hx.2.1 hl C e1 I N h54 (by omega) (by omega) (by omega) (fun h1 C1 F1 S1 q1 => ?_)
      refine ihr n 0 (b + 1) m e sl nu h1 hs.2.2 hx.2.2 hl C1 (cR_mono e2 (fun a k y1 y2 _ _ => F1.i (by omega))) I (fun s hs => (F1.i (by omega)).trans (N s hs)) q1 (by omega) (by omega) (by omega) (fun h2 C2 F2 S2 q2 => ?_)
      refine g_6 (by omega) C2 q2 (by omega) (fun j hj => by rw [F2.l (by omega)]; exact S1 j hj) S2 (by omega) (by omega) ((F2.i (by omega)).trans ((F1.i (by omega)).trans e3)) (fun h3 C3 F3 S3 q3 => ?_)
      exact K h3 C3 ((F1.trans (F2.mono (fun a k z => by omega))).trans (zk_go F3)) S3 q3
    by_cases c6 : t = 6
    · subst c6
      have hc : hi = lo + 1 ∧ ji h 160 lo = 0 := hc
      obtain ⟨e, e1⟩ := hc
      subst e
      exact g_0 (by omega) C h54 (by omega) (by omega) (by omega) e1 (fun h' C' F' S' q' => K h' C' F' (S'.cg (fun j _ => by show (if j = 40 then (0 : Int) else 0) = 0; split <;> rfl)) q')
    unfold shp at hs
    rw [if_neg (by omega), if_neg c4, if_neg c5, if_neg c6] at hs
    unfold exOK at hx
    rw [if_neg c0, if_neg c1, if_neg c2, if_neg c3, if_neg c4] at hx
    unfold cR at hc
    rw [if_neg c0, if_neg c1, if_neg c2, if_neg c3, if_neg c4, if_neg c5, if_neg c6] at hc
    obtain ⟨m, e, e0, e1, e2, e3⟩ := hc
    subst e0
    have i1 := cR_lt e1
    have i2 := cR_lt e2
    have eL : ∀ j, lin c (.inner t k u l r) nu j = if t = 8 then lin c l nu j - lin c r nu j else lin c l nu j + lin c r nu j := fun j => by
      show (if t = 0 then _ else _) = _
      rw [if_neg c0, if_neg c1, if_neg c2, if_neg c3, if_neg c4, if_neg c5, if_neg c6]
    refine ihl n 3 b lo m sl nu h hs.2.2.1 hx.2.1 hl C e1 I N h54 (by omega) (by omega) (by omega) (fun h1 C1 F1 S1 q1 => ?_)
    refine ihr n 1 (b + 1) m e sl nu h1 hs.2.2.2 hx.2.2 hl C1 (cR_mono e2 (fun a k y1 y2 _ _ => F1.i (by omega))) I (fun s hs => (F1.i (by omega)).trans (N s hs)) q1 (by omega) (by omega) (by omega) (fun h2 C2 F2 S2 q2 => ?_)
    have e3 : ji h2 160 e = if t = 7 then 7 else 8 := (F2.i (by omega)).trans ((F1.i (by omega)).trans e3)
    have S1' : StK h2 b (lin c l nu) := fun j hj => by rw [F2.l (by omega)]; exact S1 j hj
    have F12 : Fq (ZGo b sl.length) h h2 := F1.trans (F2.mono (fun a k z => by omega))
    rcases hs.1 with z | z
    · rw [if_pos z] at e3
      refine g_7 (by omega) C2 q2 (by omega) S1' S2 (by omega) (by omega) e3 (fun h3 C3 F3 S3 q3 => K h3 C3 (F12.trans (zk_go F3)) (S3.cg (fun j _ => ?_)) q3)
      rw [eL j, if_neg (by omega), Int.one_mul]
    · rw [if_neg (by omega)] at e3
      refine g_8 (by omega) C2 q2 (by omega) S1' S2 (by omega) (by omega) e3 (fun h3 C3 F3 S3 q3 => K h3 C3 (F12.trans (zk_go F3)) (S3.cg (fun j _ => ?_)) q3)
      rw [eL j, if_pos z]; omega
/-- go from lo to hi -/
theorem m_151 (hd : 15 ≤ d) {x : Ex} {md : Nat} (hs : shp x md) (hx : exOK (dC c) x n sl) (hl : sl.length ≤ 18) (C : GoC p c h) (hc : cR h x lo hi) (I : InS (dS c) sl nu) (N : NuR h sl.length nu) (h54 : ji h 141 54 = (b : Int)) (hb : b + 3 * n + 1 + (md + 1) / 2 ≤ 40) (hh : hi ≤ 2000) : ∃ h', jE d 151 [jP 141, jI (lo : Int), jI (hi : Int)] h none h' ∧ GoC p c h' ∧ Fq (ZGo b sl.length) h h' ∧ StK h' b (lin c x nu) ∧ ji h' 141 54 = ((b + 1 : Nat) : Int) := by
  obtain ⟨d, rfl⟩ : ∃ d', d = d' + 1 := ⟨d - 1, by omega⟩
  suffices q : ∃ w h', jE (d + 1) 151 [jP 141, jI (lo : Int), jI (hi : Int)] h w h' ∧ w = none ∧ GoC p c h' ∧ Fq (ZGo b sl.length) h h' ∧ StK h' b (lin c x nu) ∧ ji h' 141 54 = ((b + 1 : Nat) : Int) by
    obtain ⟨w, h', hE, rfl, q⟩ := q
    exact ⟨h', hE, q⟩
  refine jE_of (as := [jP 141, jI (lo : Int), jI (hi : Int)]) (Nat.le_of_ble_eq_true rfl) (c_151_0 (by omega) C.1 ?_)
  refine go_x (by omega) x n md b lo hi sl nu h hs hx hl C hc I N h54 hb (Int.le_refl _) hh (fun h' C' F' S' q' z4 => ?_) _
  exact c_151_2 (by omega) C'.1 ⟨fun _ => ⟨rfl, C', F', S', q'⟩, fun z => absurd (Int.le_refl _) z⟩
end RGX
