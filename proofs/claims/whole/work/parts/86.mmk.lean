/-! THE CLASS: the rows are made -/
def Fw (Z : Nat → Nat → Prop) (h h' : AH) : Prop := (∀ a k, ¬ Z a k → ji h' a k = ji h a k ∧ jl h' a k = jl h a k) ∧ (∀ a k, ¬ (a = 95 ∧ k = 7) → jr h' a k = jr h a k) ∧ (∀ a, jt h' a = jt h a ∧ jn h' a = jn h a) ∧ jx h' = jx h ∧ ju h' = ju h
/-- the cells of the model -/
abbrev ZMd (a k : Nat) : Prop := (95 ≤ a ∧ a ≤ 140 ∧ ¬ a = 96)
section MMK
variable {Z Y : Nat → Nat → Prop} {p : Lpar} {d : Nat} {h h' h0 h1 h2 g : AH} {c : Dc} {W m m1 n lo hi a b dep : Nat} {nu nu1 X : Nat → Int} {sl : List Int} {t v : Int}
theorem Fw.refl : Fw Z h h := ⟨fun _ _ _ => ⟨rfl, rfl⟩, fun _ _ _ => rfl, fun _ => ⟨rfl, rfl⟩, rfl, rfl⟩
theorem Fw.trans (f : Fw Z h h1) (g : Fw Z h1 h2) : Fw Z h h2 := ⟨fun a k z => ⟨(g.1 a k z).1.trans (f.1 a k z).1, (g.1 a k z).2.trans (f.1 a k z).2⟩, fun a k z => (g.2.1 a k z).trans (f.2.1 a k z), fun a => ⟨(g.2.2.1 a).1.trans (f.2.2.1 a).1, (g.2.2.1 a).2.trans (f.2.2.1 a).2⟩, g.2.2.2.1.trans f.2.2.2.1, g.2.2.2.2.trans f.2.2.2.2⟩
theorem Fw.mono (f : Fw Z h h1) (hz : ∀ a k, Z a k → Y a k) : Fw Y h h1 := ⟨fun a k z => f.1 a k (fun q => z (hz a k q)), f.2⟩
theorem Fq.fm (f : Fq Z h h1) : Fw Z h h1 := ⟨f.1, fun a k _ => f.2.1 a k, f.2.2⟩
theorem Fw.wr7 {x : Nat} : Fw Z h (wr h 95 7 x) := ⟨fun _ _ _ => ⟨rfl, rfl⟩, fun a k z => by rw [jr_wr, if_neg z], fun _ => ⟨rfl, rfl⟩, rfl, rfl⟩
theorem Fw.i (f : Fw Z h h1) {a k : Nat} (z : ¬ Z a k) : ji h1 a k = ji h a k := (f.1 a k z).1
theorem Fw.l (f : Fw Z h h1) {a k : Nat} (z : ¬ Z a k) : jl h1 a k = jl h a k := (f.1 a k z).2
theorem tR_m {x : Ex} (hx : tR h x m lo hi a b) (hl : NF ≤ lo) (F : Fw ZMd h h') : tR h' x m lo hi a b := tR_mono hx (Nat.le_refl _) (Nat.le_refl _) (fun z h1 h2 => by
  have hN : NF = 197 := rfl
  exact ⟨(F.2.2.1 z).1, fun k => F.i (by omega), fun k => F.2.1 z k (by omega)⟩)
theorem DecB.fm {D : Nat} (B : DecB D c h) (hD : isD D) (F : Fw ZMd h h') : DecB D c h' := by
  have hb : 41 ≤ D ∧ D ≤ 67 := by unfold isD at hD; omega
  have s : ∀ a k, a ≤ 94 → ji h' a k = ji h a k := fun a k z => F.i (by omega)
  have r : ∀ a k, a ≤ 94 → jr h' a k = jr h a k := fun a k z => F.2.1 a k (by omega)
  have ex := F.2.2.2.1
  obtain ⟨b1, b2, b3, b4, b5, b6, b7, b8, b9, b10⟩ := B
  refine ⟨b1.cg (fun a k z1 z2 => s a k (by omega)), b2.cg (fun a k z1 z2 => s a k (by omega)), b3.cg (fun a k z1 z2 => s a k (by omega)), b4.cg (fun a k z1 z2 => s a k (by omega)), ⟨(s _ _ (by omega)).trans b5.1, fun k hk => (s _ _ (by omega)).trans (b5.2 k hk)⟩, fun k hk => ⟨(s _ _ (by omega)).trans (b6 k hk).1, (s _ _ (by omega)).trans (b6 k hk).2⟩, fun k hk => ⟨(s _ _ (by omega)).trans (b7 k hk).1, ?_, ?_⟩, (s _ _ (by omega)).trans b8, fun z => (r _ _ (by omega)).trans (b9 z), fun z => ?_⟩
  · rw [r _ _ (by omega), ex]; exact tR_m (b7 k hk).2.1 (Nat.le_refl _) F
  · rw [r _ _ (by omega), ex]; exact tR_m (b7 k hk).2.2 (Nat.le_refl _) F
  · rw [r _ _ (by omega), ex]; exact tR_m (b10 z) (Nat.le_refl _) F
/-- what stands when a model is made -/
def MkC (p : Lpar) (c : Dc) (h : AH) : Prop := Ly p h ∧ DecB (pM p) c h ∧ okD c ∧ (dV c).length ≤ 400
theorem Ly.fm (L : Ly p h) (F : Fw ZMd h h') : Ly p h' := L.keep (fun a _ => F.2.2.1 a) (fun a k _ z => F.2.1 a k (fun y => z (by unfold mutR; omega))) (fun a k z => F.i (by omega)) (Nat.le_of_eq F.2.2.2.1.symm)
theorem MkC.fm (M : MkC p c h) (F : Fw ZMd h h') : MkC p c h' := ⟨M.1.fm F, M.2.1.fm M.1.iM F, M.2.2⟩
theorem MkC.ev (M : MkC p c h) (hW : isW W) (e : jr h 95 7 = W) : EvC p c W h := ⟨M.1, M.2.1.1, M.2.1.2.1, M.2.1.2.2.1, ⟨M.2.1.2.2.2.2.1.1, M.2.2.2, M.2.1.2.2.2.2.1.2⟩, e, hW, M.2.2.1⟩
theorem evM (hW : isW W) (F : Fq (ZEv W) h h') : Fw ZMd h h' := F.fm.mono (fun a k z => by unfold isW at hW; omega)
theorem m_200 (hd : 10 ≤ d) (L : Ly p h) (hW : isW W) : ∃ h', jE d 200 [jP W, jL 0] h none h' ∧ Ly p h' ∧ Fq (fun a _ => a = W) h h' ∧ ∀ j, j < 40 → jl h' W j = 0 := by
  obtain ⟨d, rfl⟩ : ∃ d', d = d' + 1 := ⟨d - 1, by omega⟩
  suffices hh : ∃ w h', jE (d + 1) 200 [jP W, jL 0] h w h' ∧ w = none ∧ Ly p h' ∧ Fq (fun a _ => a = W) h h' ∧ ∀ j, j < 40 → jl h' W j = 0 by
    obtain ⟨w, h', hE, rfl, q⟩ := hh
    exact ⟨h', hE, q⟩
  have tn := hW.tn L
  have key : ∀ (s i : Nat) (g : AH), 40 = i + s → Ly p g → Fq (fun a _ => a = W) h g → (∀ j, j < i → jl g W j = 0) → WF d 200 6 [jP W, jL 0, jU, jI (i : Int), jI 40] [] g (fun w h' => w = none ∧ Ly p h' ∧ Fq (fun a _ => a = W) h h' ∧ ∀ j, j < 40 → jl h' W j = 0) := by
    intro s
    induction s with
    | zero => intro i g hi L F A; exact c_200_6 (by omega) L ⟨fun _ => ⟨rfl, L, F, fun j hj => A j (by omega)⟩, fun z => by omega⟩
    | succ s ih =>
      intro i g hi L F A
      have tg := hW.tn L
      refine c_200_6 (by omega) L ⟨fun z => by omega, fun _ => ⟨⟨tg.1, by omega, by rw [tg.2]; omega⟩, fun L2 => ?_⟩⟩
      rw [Int.toNat_natCast] at L2 ⊢
      rw [w32_i (x := (i : Int) + 1) (by omega) (by omega)]
      exact ih (i + 1) _ (by omega) L2 (F.trans (Fq.wl rfl)) (fun j hj => by
        rw [jl_wl]
        by_cases z : j = i
        · rw [if_pos ⟨rfl, z⟩]
        · rw [if_neg (by omega)]; exact A j (by omega))
  refine jE_of (as := [jP W, jL 0]) (Nat.le_of_ble_eq_true rfl) (c_200_0 (by omega) L ⟨by omega, by omega, ?_⟩)
  rw [tn.2]
  exact key 40 0 h rfl L Fq.refl (fun j hj => absurd hj (Nat.not_lt_zero j))
theorem m_15 (hd : 12 ≤ d) (L : Ly p h) (hW : isW W) : ∃ h', jE d 15 [jP 95, jP W] h none h' ∧ Ly p h' ∧ jr h' 95 7 = W ∧ Acc h' W (fun _ => 0) ∧ Fw (fun a k => a = W ∨ (a = 95 ∧ k = 8)) h h' := by
  obtain ⟨d, rfl⟩ : ∃ d', d = d' + 1 := ⟨d - 1, by omega⟩
  suffices hh : ∃ w h', jE (d + 1) 15 [jP 95, jP W] h w h' ∧ w = none ∧ Ly p h' ∧ jr h' 95 7 = W ∧ Acc h' W (fun _ => 0) ∧ Fw (fun a k => a = W ∨ (a = 95 ∧ k = 8)) h h' by
    obtain ⟨w, h', hE, rfl, q⟩ := hh
    exact ⟨h', hE, q⟩
  refine jE_of (as := [jP 95, jP W]) (Nat.le_of_ble_eq_true rfl) (c_15_0 (by omega) L (fun L1 => ?_))
  obtain ⟨h1, hE, L2, F, A⟩ := m_200 (d := d) (by omega) L1 hW
  refine ⟨h1, hE, L2, fun L3 => ⟨rfl, L3, ?_, ⟨fun j hj => ?_, ?_⟩, ?_⟩⟩
  · show jr h1 95 7 = W
    rw [F.2.1, jr_wr, if_pos ⟨rfl, rfl⟩]
  · rw [jl_wl, if_neg (by unfold isW at hW; omega), A j hj]; rfl
  · rw [jl_wl, if_pos ⟨rfl, rfl⟩]; rfl
  · exact (Fw.wr7.trans (F.fm.mono (fun a k z => Or.inl z))).trans (Fq.wl (by omega)).fm
theorem nuO_b2 {S : List (Int × Int)} (hS : okS S) {s x : Int} (h0 : 0 ≤ x) (h1 : x ≤ 1000) : -1 ≤ nuO S s x ∧ nuO S s x ≤ 20000 := by
  unfold nuO
  split
  · omega
  · rename_i z
    have := hS.2 (S.getD s.toNat (0, 0)) (getD_mem (by omega) _)
    unfold fsO
    omega
theorem fN_b {S O : List (Int × Int)} (hS : okS S) (hO : O.length ≤ 10) (x : Int) : (-1 ≤ fN S O x ∧ fN S O x ≤ 20000) ∧ (-1 ≤ sN S O x ∧ sN S O x ≤ 20000) := by
  unfold fN sN
  by_cases q : owO S O x = -1
  · rw [if_pos q, if_pos q]; omega
  · rw [if_neg q, if_neg q]
    obtain ⟨r1, r2, r3, r4, r5, r6⟩ := owO_r q
    have a5 := szO_r hS (thS O (owO S O x)).2
    have a6 := stO_r (O := O) hS (k := (owO S O x).toNat) (by omega)
    have a7 := tot_r hS O
    by_cases z : szO S (thS O (owO S O x)).2 ≤ 0
    · rw [if_pos z, if_pos z]; omega
    · rw [if_neg z, if_neg z]
      have a9 : 0 ≤ Int.tdiv (x - stO S O (owO S O x).toNat) (szO S (thS O (owO S O x)).2) := Int.tdiv_nonneg (by omega) (by omega)
      have a10 : Int.tdiv (x - stO S O (owO S O x).toNat) (szO S (thS O (owO S O x)).2) ≤ x - stO S O (owO S O x).toNat := by
        rw [Int.tdiv_eq_ediv_of_nonneg (by omega)]
        exact Int.ediv_le_self _ (by omega)
      have b9 : 0 ≤ Int.tmod (x - stO S O (owO S O x).toNat) (szO S (thS O (owO S O x)).2) := Int.tmod_nonneg _ (by omega)
      have b10 : Int.tmod (x - stO S O (owO S O x).toNat) (szO S (thS O (owO S O x)).2) < szO S (thS O (owO S O x)).2 := Int.tmod_lt_of_pos _ (by omega)
      exact ⟨nuO_b2 hS a9 (by omega), nuO_b2 hS b9 (by omega)⟩
end MMK
