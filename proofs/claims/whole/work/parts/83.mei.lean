/-! THE CLASS: a sum over indices -/
def P16 (p : Lpar) (c : Dc) (W : Nat) (h : AH) (m : Nat) (nu X : Nat → Int) (t : Int) (x : Ex) (h' : AH) : Prop := EvC p c W h' ∧ Fq (ZEv W) h h' ∧ NuM h' m nu ∧ Acc h' W (fun j => X j + t * lin c x nu j)
def S16 (p : Lpar) (c : Dc) (W d n : Nat) : Prop := ∀ (h : AH) (x : Ex) (sl : List Int) (a lo hi : Nat) (nu X : Nat → Int) (t v : Int) (dep : Nat), EvC p c W h → exOK (dC c) x n sl → sl.length + 2 * n ≤ 18 → tR h x 3 lo hi a 0 → NF ≤ lo → NuM h sl.length nu → Acc h W X → v = w64 t → dep + n ≤ 8 → ∃ h', jE d 16 [jP 95, jP a, jL v, jI (dep : Int)] h none h' ∧ P16 p c W h sl.length nu X t x h'
def FcE (h : AH) (a hi : Nat) (k : Int × Int × Int) (l : Ex) : Prop := jt h a = 3 ∧ ji h a 1 = k.1 ∧ ji h a 2 = k.2.1 ∧ ji h a 3 = k.2.2 ∧ tR h l 3 (a + 1) hi (jr h a 4) 0 ∧ NF ≤ a
def InD (c : Dc) (l : Ex) (k : Int × Int × Int) (n : Nat) (sl sl' : List Int) (m1 : Nat) : Prop := exOK (dC c) l (n - 1) sl' ∧ k.1 = (sl.length : Int) ∧ sl'.length + 2 * (n - 1) ≤ 18 ∧ 1 ≤ n ∧ ((k.2.1 = -1 ∧ m1 = sl.length) ∨ (0 ≤ k.2.1 ∧ m1 = sl.length + 1)) ∧ ((k.2.2 = -1 ∧ sl'.length = m1) ∨ (0 ≤ k.2.2 ∧ m1 = sl.length + 1 ∧ sl'.length = m1 + 1))
section MEI
variable {p : Lpar} {d : Nat} {h h' h0 h1 g : AH} {c : Dc} {W m m1 n lo hi a b dep : Nat} {nu nu1 X Y : Nat → Int} {sl sl' : List Int} {t v : Int} {x f q l r : Ex} {k : Int × Int × Int} {Q : Option AV → AH → Prop}
theorem FcE.fq (H : FcE h a hi k l) (hW : isW W) (F : Fq (ZEv W) h h') : FcE h' a hi k l := by
  obtain ⟨h1, h2, h3, h4, h5, h6⟩ := H
  have hN : NF = 197 := rfl
  have s : ∀ j, ji h' a j = ji h a j := fun j => F.i (by unfold isW at hW; omega)
  refine ⟨(F.2.2.1 a).1.trans h1, (s _).trans h2, (s _).trans h3, (s _).trans h4, ?_, h6⟩
  rw [F.2.1 a 4]
  exact tR_q h5 (by omega) hW F
theorem inD_of (hx : exOK (dC c) (.inner 4 k () l r) n sl) (hs : sl.length + 2 * n ≤ 18) : ∃ sl' m1, InD c l k n sl sl' m1 := by
  have hx : 1 ≤ n ∧ k.1 = (sl.length : Int) ∧ sl.length ≤ 16 ∧ ((k.2.1 = -1 ∧ k.2.2 = -1 ∧ exOK (dC c) l (n - 1) sl) ∨ (0 ≤ k.2.1 ∧ k.2.1 < ((dC c).1.length : Int) ∧ ((k.2.2 = -1 ∧ exOK (dC c) l (n - 1) (sl ++ [k.2.1])) ∨ (0 ≤ k.2.2 ∧ k.2.2 < ((dC c).1.length : Int) ∧ exOK (dC c) l (n - 1) (sl ++ [k.2.1, k.2.2]))))) := hx
  obtain ⟨h1, h2, h3, h4⟩ := hx
  rcases h4 with ⟨y1, y2, y3⟩ | ⟨y1, y2, ⟨y3, y4⟩ | ⟨y3, y4, y5⟩⟩
  · exact ⟨sl, sl.length, y3, h2, by omega, h1, Or.inl ⟨y1, rfl⟩, Or.inl ⟨y2, rfl⟩⟩
  · have e : (sl ++ [k.2.1]).length = sl.length + 1 := by rw [List.length_append]; rfl
    exact ⟨_, sl.length + 1, y4, h2, by omega, h1, Or.inr ⟨y1, rfl⟩, Or.inl ⟨y3, e⟩⟩
  · have e : (sl ++ [k.2.1, k.2.2]).length = sl.length + 1 + 1 := by rw [List.length_append]; rfl
    exact ⟨_, sl.length + 1, y5, h2, by omega, h1, Or.inr ⟨y1, rfl⟩, Or.inr ⟨y3, rfl, e⟩⟩
theorem Acc.f4 (A : Acc h W X) (hW : isW W) (F : Fq (fun a _ => a = 140) h h') : Acc h' W X := ⟨fun j hj => by rw [F.l (by unfold isW at hW; omega)]; exact A.1 j hj, by rw [F.l (by omega)]; exact A.2⟩
theorem f4e (F : Fq (fun a _ => a = 140) h h') : Fq (ZEv W) h h' := F.mono (fun a k z => by omega)
theorem NuM.le (N : NuM h m1 nu1) (hm : m ≤ m1) (e : ∀ s, s < m → nu1 s = nu s) : NuM h m nu := fun s hs => by rw [← e s hs]; exact N s (by omega)
abbrev in2 (c : Dc) (l : Ex) (k : Int × Int × Int) (nu1 : Nat → Int) (b j : Nat) : Int := lin c l (updN nu1 (k.1 + 1) k.2.2 (nuO (dS c) k.2.2 b)) j
theorem in_67 (hd : 10 ≤ d) (IH : S16 p c W d (n - 1)) (I : InD c l k n sl sl' m1) (hm : sl.length + 2 * n ≤ 18) (hdp : dep + n ≤ 8) (hv2 : v = w64 t) {i : Nat} {v5 : Int} : ∀ (s jj : Nat) (h : AH), (szO (dS c) k.2.2).toNat = jj + s → EvC p c W h → FcE h a hi k l → NuM h m1 nu1 → Acc h W (fun j => X j + t * sumN jj (fun b => in2 c l k nu1 b j)) → (∀ h' v8, EvC p c W h' → Fq (ZEv W) h h' → NuM h' m1 nu1 → Acc h' W (fun j => X j + t * sumN (szO (dS c) k.2.2).toNat (fun b => in2 c l k nu1 b j)) → WF d 18 43 [jP 95, jP a, jL v, jU, jI (dep : Int), jI v5, jI (szO (dS c) k.2.2), jI (w32 ((i : Int) + 1)), jI v8] [] h' Q) → WF d 18 67 [jP 95, jP a, jL v, jU, jI (dep : Int), jI v5, jI (szO (dS c) k.2.2), jI (i : Int), jI (jj : Int)] [] h Q := by
  intro s
  induction s with
  | zero =>
    intro jj h hj E H N A K
    exact c_18_67 (by omega) E.1 ⟨fun _ => K h _ E Fq.refl N (by rw [hj]; exact A), fun z => by omega⟩
  | succ s ih =>
    intro jj h hj E H N A K
    have hW := E.2.2.2.2.2.2.1
    have O := E.2.2.2.2.2.2.2
    have z8 : 0 ≤ szO (dS c) k.2.2 ∧ szO (dS c) k.2.2 ≤ 8 := szO_r O.1.2.1 k.2.2
    obtain ⟨i1, i2, i3, i4, i5, i6⟩ := I
    refine c_18_67 (by omega) E.1 ⟨fun z => by omega, fun _ => ⟨H.1, H.1, ?_⟩⟩
    obtain ⟨h1, hE1, L1, F1, N1⟩ := m_19 (d := d) (s := sl.length + 1) (k := jj) (set := k.2.2) (by omega) E (by omega) N (fun z => by omega)
    rw [H.2.1, H.2.2.2.1, i2, w32_i (by omega) (by omega)]
    have E1 := E.fq (f4e F1)
    have H1 := H.fq hW (f4e F1)
    have N1 : NuM h1 sl'.length (updN nu1 (k.1 + 1) k.2.2 (nuO (dS c) k.2.2 jj)) := by
      rw [i2]
      rcases i6 with ⟨y1, y2⟩ | ⟨y1, y2, y3⟩
      · rw [if_pos y1] at N1; rw [y2]; exact N1
      · rw [if_neg (by omega)] at N1; rw [y3]; exact N1
    obtain ⟨h2, hE2, E2, F2, N2, A2⟩ := IH h1 l sl' (jr h1 a 4) (a + 1) hi _ _ t v (dep + 1) E1 i1 i3 H1.2.2.2.2.1 (by have := H1.2.2.2.2.2; omega) N1 (A.f4 hW F1) hv2 (by omega)
    refine ⟨h1, hE1, L1, c_18_90 (by omega) L1 ⟨H1.1, ?_⟩⟩
    rw [w32_i (x := (dep : Int) + 1) (by omega) (by omega)]
    refine ⟨h2, hE2, E2.1, c_18_103 (by omega) E2.1 ?_⟩
    rw [w32_i (x := (jj : Int) + 1) (by omega) (by omega)]
    have q := ih (jj + 1) h2 (by omega) E2 (H1.fq hW F2) (N2.le (by omega) (fun s hs => by
      show updN nu1 (k.1 + 1) k.2.2 _ s = nu1 s
      unfold updN
      rw [if_neg (by omega)])) (A2.cg (fun j _ => by
      show X j + t * sumN jj (fun b => in2 c l k nu1 b j) + t * in2 c l k nu1 jj j = X j + t * (sumN jj (fun b => in2 c l k nu1 b j) + in2 c l k nu1 jj j)
      rw [Int.mul_add, Int.add_assoc])) (fun h' v8 E' F' N' A' => K h' v8 E' (((f4e F1).trans F2).trans F') N' A')
    exact q
abbrev in1 (c : Dc) (l : Ex) (k : Int × Int × Int) (nu : Nat → Int) (i j : Nat) : Int := sumN (szO (dS c) k.2.2).toNat (fun b => in2 c l k (updN nu k.1 k.2.1 (nuO (dS c) k.2.1 i)) b j)
theorem in_43 (hd : 10 ≤ d) (IH : S16 p c W d (n - 1)) (I : InD c l k n sl sl' m1) (hm : sl.length + 2 * n ≤ 18) (hdp : dep + n ≤ 8) (hv2 : v = w64 t) : ∀ (s i : Nat) (h : AH) (z8 : AV), (szO (dS c) k.2.1).toNat = i + s → EvC p c W h → FcE h a hi k l → NuM h sl.length nu → Acc h W (fun j => X j + t * sumN i (fun b => in1 c l k nu b j)) → (∀ h', EvC p c W h' → Fq (ZEv W) h h' → NuM h' sl.length nu → Acc h' W (fun j => X j + t * sumN (szO (dS c) k.2.1).toNat (fun b => in1 c l k nu b j)) → Q none h') → WF d 18 43 [jP 95, jP a, jL v, jU, jI (dep : Int), jI (szO (dS c) k.2.1), jI (szO (dS c) k.2.2), jI (i : Int), z8] [] h Q := by
  intro s
  induction s with
  | zero =>
    intro i h z8 hj E H N A K
    exact c_18_43 (by omega) E.1 ⟨fun _ => K h E Fq.refl N (by rw [hj]; exact A), fun z => by omega⟩
  | succ s ih =>
    intro i h z8 hj E H N A K
    have hW := E.2.2.2.2.2.2.1
    have O := E.2.2.2.2.2.2.2
    have z8 : 0 ≤ szO (dS c) k.2.1 ∧ szO (dS c) k.2.1 ≤ 8 := szO_r O.1.2.1 k.2.1
    have I0 := I
    obtain ⟨i1, i2, i3, i4, i5, i6⟩ := I
    refine c_18_43 (by omega) E.1 ⟨fun z => by omega, fun _ => ⟨H.1, H.1, ?_⟩⟩
    obtain ⟨h1, hE1, L1, F1, N1⟩ := m_19 (d := d) (s := sl.length) (k := i) (set := k.2.1) (by omega) E (by omega) N (fun z => by omega)
    rw [H.2.1, H.2.2.1, i2]
    have E1 := E.fq (f4e F1)
    have H1 := H.fq hW (f4e F1)
    have N1 : NuM h1 m1 (updN nu k.1 k.2.1 (nuO (dS c) k.2.1 i)) := by
      rw [i2]
      rcases i5 with ⟨y1, y2⟩ | ⟨y1, y2⟩
      · rw [if_pos y1] at N1; rw [y2]; exact N1
      · rw [if_neg (by omega)] at N1; rw [y2]; exact N1
    refine ⟨h1, hE1, L1, c_18_64 (by omega) L1 ?_⟩
    refine in_67 (X := fun j => X j + t * sumN i (fun b => in1 c l k nu b j)) hd IH I0 hm hdp hv2 (szO (dS c) k.2.2).toNat 0 h1 (by omega) E1 H1 N1 ((A.f4 hW F1).cg (fun j _ => ?_)) (fun h2 v8 E2 F2 N2 A2 => ?_)
    · show _ = X j + t * sumN i (fun b => in1 c l k nu b j) + t * 0
      rw [Int.mul_zero, Int.add_zero]
    · rw [w32_i (x := (i : Int) + 1) (by omega) (by omega)]
      have q := ih (i + 1) h2 (jI v8) (by omega) E2 (H1.fq hW F2) (N2.le (by omega) (fun s hs => by
        show updN nu k.1 k.2.1 _ s = nu s
        unfold updN
        rw [if_neg (by omega)])) (A2.cg (fun j _ => by
        show X j + t * sumN i (fun b => in1 c l k nu b j) + t * in1 c l k nu i j = X j + t * (sumN i (fun b => in1 c l k nu b j) + in1 c l k nu i j)
        rw [Int.mul_add, Int.add_assoc])) (fun h' E' F' N' A' => K h' E' (((f4e F1).trans F2).trans F') N' A')
      exact q
/-- a factor of another sum -/
theorem m_18 (hd : 10 ≤ d) (IH : S16 p c W d (n - 1)) (E : EvC p c W h) (hx : exOK (dC c) (.inner 4 k () l r) n sl) (hs : sl.length + 2 * n ≤ 18) (H : FcE h a hi k l) (N : NuM h sl.length nu) (A : Acc h W X) (hv2 : v = w64 t) (hdp : dep + n ≤ 8) : ∃ h', jE (d + 1) 18 [jP 95, jP a, jL v, jI (dep : Int)] h none h' ∧ P16 p c W h sl.length nu X t (.inner 4 k () l r) h' := by
  obtain ⟨sl', m1, I⟩ := inD_of hx hs
  have O := E.2.2.2.2.2.2.2
  have n1 := I.2.2.2.1
  suffices hh : ∃ w h', jE (d + 1) 18 [jP 95, jP a, jL v, jI (dep : Int)] h w h' ∧ w = none ∧ P16 p c W h sl.length nu X t (.inner 4 k () l r) h' by
    obtain ⟨w, h', hE, rfl, q⟩ := hh
    exact ⟨h', hE, q⟩
  refine jE_of (as := [jP 95, jP a, jL v, jI (dep : Int)]) (Nat.le_of_ble_eq_true rfl) (c_18_0 (by omega) E.1 ⟨fun _ => ⟨H.1, ?_⟩, fun z => by omega⟩)
  rw [H.2.2.1]
  refine ⟨_, h, m_53 (by omega) E.1 E.1.iM E.2.1 O.1.2.1, E.1, c_18_24 (by omega) E.1 ⟨H.1, ?_⟩⟩
  rw [H.2.2.2.1]
  refine ⟨_, h, m_53 (by omega) E.1 E.1.iM E.2.1 O.1.2.1, E.1, c_18_40 (by omega) E.1 ?_⟩
  refine in_43 hd IH I hs hdp hv2 (szO (dS c) k.2.1).toNat 0 h jU (by omega) E H N (A.cg (fun j _ => ?_)) (fun h' E' F' N' A' => ⟨rfl, E', F', N', A'⟩)
  show X j = X j + t * 0
  rw [Int.mul_zero, Int.add_zero]
end MEI
