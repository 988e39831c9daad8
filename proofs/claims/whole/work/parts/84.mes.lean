/-! THE CLASS: factors -/
section MES
variable {p : Lpar} {d : Nat} {h h' h0 h1 g : AH} {c : Dc} {W m m1 n lo hi a b dep tt : Nat} {nu nu1 X Y : Nat → Int} {sl sl' : List Int} {t v : Int} {x f q l r : Ex} {k : Int × Int × Int} {u : Unit} {Q : Option AV → AH → Prop}
theorem tR0 (hT : tR h (.inner tt k u l r) 0 lo hi a b) : tt ≤ 4 ∧ lo ≤ a ∧ a < hi ∧ jt h a = 3 ∧ ji h a 0 = (tt : Int) ∧ ji h a 1 = k.1 ∧ (2 ≤ tt → ji h a 2 = k.2.1 ∧ ji h a 3 = k.2.2) ∧ (tt = 4 → tR h l 3 (a + 1) hi (jr h a 4) 0) := by
  unfold tR at hT
  split at hT
  · obtain ⟨h1, h2, h3, h4, h5, h6, h7, h8⟩ := hT
    exact ⟨by omega, h2, h3, h4, h5, h6, h7, fun z => by omega⟩
  split at hT
  · rename_i z
    obtain ⟨h1, h2, h3, h4, h5, h6, h7, h8, h9, h10⟩ := hT
    exact ⟨by omega, h2, h3, h4, by rw [z]; exact h5, h6, fun _ => ⟨h7, h8⟩, fun _ => h10⟩
  split at hT
  · rcases hT with ⟨z, _⟩ | ⟨z, _⟩ <;> omega
  split at hT
  · exact absurd hT.1 (by omega)
  · exact absurd hT.1 (by omega)
theorem ps_pl {S : List (Int × Int)} {o : Int × Int} {q r : Int} (h : psOK S sl o q r) : (0 ≤ q ∧ q ≤ 9999 ∨ (q < 0 ∧ -1 - q < (sl.length : Int))) ∧ (0 ≤ r ∧ r ≤ 9999 ∨ (r < 0 ∧ -1 - r < (sl.length : Int))) := by
  have one : ∀ {s v : Int}, plOK S sl s v → (0 ≤ v ∧ v ≤ 9999 ∨ (v < 0 ∧ -1 - v < (sl.length : Int))) := fun {s v} z => by
    rcases z with ⟨z1, z2, _⟩ | ⟨z1, z2, _⟩
    · exact Or.inl ⟨z1, z2⟩
    · exact Or.inr ⟨z1, z2⟩
  unfold psOK at h
  split at h
  · omega
  · refine ⟨one h.1, ?_⟩
    have h2 := h.2
    split at h2
    · omega
    · exact one h2
theorem fce (hT : tR h (.inner 4 k u l r) 0 lo hi a b) (hl : NF ≤ lo) : FcE h a hi k l := by
  obtain ⟨t1, t2, t3, t4, t5, t6, t7, t8⟩ := tR0 hT
  exact ⟨t4, t6, (t7 (by omega)).1, (t7 (by omega)).2, t8 rfl, by omega⟩
theorem m_17 (hd : 11 ≤ d) (IH : 1 ≤ n → S16 p c W d (n - 1)) (E : EvC p c W h) (hx : exOK (dC c) f n sl) (hs : sl.length + 2 * n ≤ 18) (hT : tR h f 0 lo hi a b) (hl : NF ≤ lo) (hf : hv f = true) (N : NuM h sl.length nu) (A : Acc h W X) (hv2 : v = w64 t) (hdp : dep + n ≤ 8) : ∃ h', jE (d + 2) 17 [jP 95, jP a, jL v, jI (dep : Int)] h none h' ∧ P16 p c W h sl.length nu X t f h' := by
  cases f with
  | leaf => exact absurd hf (by decide)
  | inner tt k u l r =>
    cases u
    have T0 := tR0 hT
    obtain ⟨t1, t2, t3, t4, t5, t6, t7, t8⟩ := T0
    suffices hh : ∃ w h', jE (d + 1 + 1) 17 [jP 95, jP a, jL v, jI (dep : Int)] h w h' ∧ w = none ∧ P16 p c W h sl.length nu X t (.inner tt k () l r) h' by
      obtain ⟨w, h', hE, rfl, q⟩ := hh
      exact ⟨h', hE, q⟩
    refine jE_of (as := [jP 95, jP a, jL v, jI (dep : Int)]) (Nat.le_of_ble_eq_true rfl) (c_17_0 (by omega) E.1 ⟨t4, fun z => ?_, fun z => ?_⟩)
    · have z : tt = 4 := by omega
      subst z
      have n1 : 1 ≤ n := (show 1 ≤ n ∧ _ from hx).1
      obtain ⟨h', hE, q⟩ := m_18 (d := d) (by omega) (IH n1) E hx hs (fce hT hl) N A hv2 hdp
      exact ⟨h', hE, q.1.1, rfl, q⟩
    · have z3 : tt = 3 := by
        unfold hv at hf
        by_cases y : tt = 3
        · exact y
        · rw [if_neg y, if_pos (by omega)] at hf; exact absurd hf (by decide)
      subst z3
      have hx : 0 ≤ k.1 ∧ k.1 < ((dC c).2.2.length : Int) ∧ psOK (dC c).1 sl (thS (dC c).2.2 k.1) k.2.1 k.2.2 := hx
      obtain ⟨p1, p2⟩ := ps_pl hx.2.2
      have O := E.2.2.2.2.2.2.2
      have hW := E.2.2.2.2.2.2.1
      have j7 := E.2.2.2.2.2.1
      have b1 := N.pl p1
      have b2 := N.pl p2
      rw [t6, (t7 (by omega)).1]
      refine ⟨t4, t4, _, h, m_21 (by omega) E.1 N (by omega) p1, E.1, t4, ?_⟩
      rw [(t7 (by omega)).2]
      refine ⟨_, h, m_21 (by omega) E.1 N (by omega) p2, E.1, _, h, m_60 (N := 6) (by omega) E.1 E.1.iM ⟨E.1.iM, Or.inr (Or.inl ⟨rfl, rfl⟩)⟩ E.2.1 O.1.2.1 E.2.2.2.1 O.1.2.2.2.2.1 O.1.2.2.2.2.2.1 ⟨by omega, by omega⟩ ⟨by omega, by omega⟩, E.1, ?_⟩
      have tn := hW.tn E.1
      rw [j7, tn.1, tn.2]
      have eL : ∀ j, lin c (.inner 3 k () l r) nu j = if j < 40 ∧ (j : Int) = spO (dS c) (dX c) k.1 (plV nu k.2.1) (plV nu k.2.2) then 1 else 0 := fun j => rfl
      have no : ¬ (0 ≤ spO (dS c) (dX c) k.1 (plV nu k.2.1) (plV nu k.2.2) ∧ spO (dS c) (dX c) k.1 (plV nu k.2.1) (plV nu k.2.2) < 40) → P16 p c W h sl.length nu X t (.inner 3 k () l r) h := fun z => ⟨E, Fq.refl, N, A.cg (fun j _ => by rw [eL, if_neg (by omega), Int.mul_zero, Int.add_zero])⟩
      refine ⟨fun y => ⟨rfl, no (fun w => absurd w.1 (Int.not_le.mpr y))⟩, fun y => ⟨by omega, by omega, fun w => ⟨rfl, no (fun w2 => absurd w2.2 (Int.not_lt.mpr w))⟩, fun w => ?_⟩⟩
      have y : 0 ≤ spO (dS c) (dX c) k.1 (plV nu k.2.1) (plV nu k.2.2) := Int.not_lt.mp y
      have w : spO (dS c) (dX c) k.1 (plV nu k.2.1) (plV nu k.2.2) < 40 := Int.not_le.mp w
      refine ⟨⟨Or.inl tn.1, y, by rw [tn.2]; exact w⟩, ⟨tn.1, y, by rw [tn.2]; exact w⟩, fun L2 => ⟨rfl, ?_⟩⟩
      change 0 ≤ spO (dS c) (dX c) k.1 (plV nu k.2.1) (plV nu k.2.2) at y
      show P16 p c W h sl.length nu X t (.inner 3 k () l r) (wl h W (spO (dS c) (dX c) k.1 (plV nu k.2.1) (plV nu k.2.2)).toNat (w64 (jl h W (spO (dS c) (dX c) k.1 (plV nu k.2.1) (plV nu k.2.2)).toNat + v)))
      generalize spO (dS c) (dX c) k.1 (plV nu k.2.1) (plV nu k.2.2) = sp at *
      have F : Fq (ZEv W) h (wl h W sp.toNat (w64 (jl h W sp.toNat + v))) := Fq.wl (by omega)
      refine ⟨E.fq F, F, fun s hs => N s hs, fun j hj => ?_, ?_⟩
      · rw [jl_wl]
        show _ = w64 (X j + t * lin c (.inner 3 k () l r) nu j)
        rw [eL]
        by_cases z : j = sp.toNat
        · rw [if_pos ⟨rfl, z⟩, if_pos ⟨hj, by omega⟩, ← z, A.1 j hj, hv2, w64_a, w64_a2, Int.mul_one]
        · rw [if_neg (fun w => z w.2), if_neg (by omega), Int.mul_zero, Int.add_zero]; exact A.1 j hj
      · rw [jl_wl, if_neg (by unfold isW at hW; omega)]
        show _ = w64 (X 40 + t * lin c (.inner 3 k () l r) nu 40)
        rw [eL, if_neg (by omega), Int.mul_zero, Int.add_zero]; exact A.2
theorem m_20 (hd : 11 ≤ d) (IH : 1 ≤ n → S16 p c W d (n - 1)) (E : EvC p c W h) (hx : exOK (dC c) f n sl) (hs : sl.length + 2 * n ≤ 18) (hT : tR h f 0 lo hi a b) (hl : NF ≤ lo) (hf : hv f = false) (N : NuM h sl.length nu) (A : Acc h W X) (hdp : dep + n ≤ 8) : ∃ h', jE (d + 2) 20 [jP 95, jP a, jI (dep : Int)] h (some (jL (w64 (lin c f nu 40)))) h' ∧ EvC p c W h' ∧ Fq (ZEv W) h h' ∧ NuM h' sl.length nu ∧ Acc h' W X := by
  cases f with
  | leaf => exact absurd hT.1 (by omega)
  | inner tt k u l r =>
    cases u
    obtain ⟨t1, t2, t3, t4, t5, t6, t7, t8⟩ := tR0 hT
    have O := E.2.2.2.2.2.2.2
    have hW := E.2.2.2.2.2.2.1
    suffices hh : ∃ w h', jE (d + 1 + 1) 20 [jP 95, jP a, jI (dep : Int)] h w h' ∧ w = some (jL (w64 (lin c (.inner tt k () l r) nu 40))) ∧ EvC p c W h' ∧ Fq (ZEv W) h h' ∧ NuM h' sl.length nu ∧ Acc h' W X by
      obtain ⟨w, h', hE, rfl, q⟩ := hh
      exact ⟨h', hE, q⟩
    refine jE_of (as := [jP 95, jP a, jI (dep : Int)]) (Nat.le_of_ble_eq_true rfl) (c_20_0 (by omega) E.1 ⟨t4, fun z => ?_, fun z => ?_, fun z => ?_, fun z => ?_⟩)
    · have z4 : tt = 4 := by
        have : ¬ tt = 3 := fun y => by subst y; exact Bool.noConfusion (show true = false from hf)
        omega
      subst z4
      have n1 : 1 ≤ n := (show 1 ≤ n ∧ _ from hx).1
      refine c_20_94 (by omega) E.1 (fun L1 => ?_)
      have F1 : Fq (ZEv W) h (wl h 95 8 0) := Fq.wl (by omega)
      have A1 : Acc (wl h 95 8 0) W (fun j => if j = 40 then 0 else X j) := ⟨fun j hj => by rw [jl_wl, if_neg (by unfold isW at hW; omega)]; show _ = w64 (if j = 40 then 0 else X j); rw [if_neg (by omega)]; exact A.1 j hj, by rw [jl_wl, if_pos ⟨rfl, rfl⟩]; rfl⟩
      obtain ⟨h2, hE2, E2, F2, N2, A2⟩ := m_18 (d := d) (v := 1) (t := 1) (dep := dep) (by omega) (IH n1) (E.fq F1) hx hs ((fce hT hl).fq hW F1) (fun s hs => N s hs) A1 rfl hdp
      refine c_20_99 (by omega) L1 ⟨h2, hE2, E2.1, c_20_106 (by omega) E2.1 (c_20_112 (by omega) E2.1 (fun L3 => c_20_117 (by omega) L3 ⟨?_, ?_⟩))⟩
      · rw [A2.2]
        show some (jL (w64 (0 + 1 * lin c (.inner 4 k () l r) nu 40))) = _
        rw [Int.zero_add, Int.one_mul]
      · have F3 : Fq (ZEv W) h2 (wl h2 95 8 (jl h 95 8)) := Fq.wl (by omega)
        refine ⟨E2.fq F3, (F1.trans F2).trans F3, fun s hs => N2 s hs, fun j hj => ?_, ?_⟩
        · rw [jl_wl, if_neg (by unfold isW at hW; omega), A2.1 j hj]
          show w64 ((if j = 40 then 0 else X j) + 1 * lin c (.inner 4 k () l r) nu j) = _
          rw [if_neg (by omega), lin_nv hf hj, Int.mul_zero, Int.add_zero]
        · rw [jl_wl, if_pos ⟨rfl, rfl⟩]; exact A.2
    · have z0 : tt = 0 := by omega
      subst z0
      have hx : 0 ≤ k.1 ∧ k.1 ≤ 9999 := hx
      refine ⟨t4, ?_, E, Fq.refl, N, A⟩
      show _ = some (jL (w64 k.1))
      rw [t6, w64_id ⟨by omega, by omega⟩]
    · have z0 : tt = 1 := by omega
      subst z0
      have hx : 0 ≤ k.1 ∧ k.1 < (sl.length : Int) := hx
      refine ⟨t4, ?_⟩
      rw [t6, jxor_m1 ⟨by omega, by omega⟩]
      refine ⟨_, h, m_21 (m := sl.length) (nu := nu) (by omega) E.1 N (by omega) (Or.inr ⟨by omega, by omega⟩), E.1, ?_, E, Fq.refl, N, A⟩
      show _ = some (jL (w64 (nu k.1.toNat)))
      have e : plV nu (-k.1 - 1) = nu k.1.toNat := by unfold plV; rw [if_neg (by omega), show -1 - (-k.1 - 1) = k.1 by omega]
      have nb := (N k.1.toNat (by omega)).2
      rw [e, w64_id ⟨by omega, by omega⟩]
    · have z0 : tt = 2 := by omega
      subst z0
      have hx : 0 ≤ k.1 ∧ k.1 < ((dC c).2.1.length : Int) ∧ psOK (dC c).1 sl (thS (dC c).2.1 k.1) k.2.1 k.2.2 := hx
      obtain ⟨p1, p2⟩ := ps_pl hx.2.2
      have b1 := N.pl p1
      have b2 := N.pl p2
      refine ⟨t4, t4, ?_⟩
      rw [t6, (t7 (by omega)).1]
      refine ⟨_, h, m_21 (by omega) E.1 N (by omega) p1, E.1, t4, ?_⟩
      rw [(t7 (by omega)).2]
      refine ⟨_, h, m_21 (by omega) E.1 N (by omega) p2, E.1, _, h, m_60 (N := 6) (by omega) E.1 E.1.iM ⟨E.1.iM, Or.inl ⟨rfl, rfl⟩⟩ E.2.1 O.1.2.1 E.2.2.1 O.1.2.2.1 O.1.2.2.2.1 ⟨by omega, by omega⟩ ⟨by omega, by omega⟩, E.1, _, h, m_9 (by omega) E.1 E.1.iM E.2.2.2.2.1.1 E.2.2.2.2.1.2.1 E.2.2.2.2.1.2.2, E.1, ?_, E, Fq.refl, N, A⟩
      show _ = some (jL (w64 (if spO (dS c) (dT c) k.1 (plV nu k.2.1) (plV nu k.2.2) < 0 then 0 else (dV c).getD (spO (dS c) (dT c) k.1 (plV nu k.2.1) (plV nu k.2.2)).toNat 0)))
      have vb : ∀ i, -9999 ≤ (dV c).getD i 0 ∧ (dV c).getD i 0 ≤ 9999 := fun i => by
        by_cases z : i < (dV c).length
        · exact O.2.2.2.2.2.2.1.2 _ (getD_mem z 0)
        · rw [getD_len _ _ (by omega)]; omega
      have := vb (spO (dS c) (dT c) k.1 (plV nu k.2.1) (plV nu k.2.2)).toNat
      rw [w64_id]
      split
      · exact ⟨by omega, by omega⟩
      · exact ⟨by omega, by omega⟩
end MES
