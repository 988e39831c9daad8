/-! THE CLASS: sums are worked out, the leaves -/
def isW (W : Nat) : Prop := (97 ≤ W ∧ W ≤ 136) ∨ W = 138
abbrev ZEv (W : Nat) (a k : Nat) : Prop := a = W ∨ (a = 95 ∧ k = 8) ∨ a = 140
def Acc (h : AH) (W : Nat) (X : Nat → Int) : Prop := (∀ j, j < 40 → jl h W j = w64 (X j)) ∧ jl h 95 8 = w64 (X 40)
def NuM (h : AH) (m : Nat) (nu : Nat → Int) : Prop := ∀ s, s < m → ji h 140 s = nu s ∧ -1 ≤ nu s ∧ nu s ≤ 20000
def EvC (p : Lpar) (c : Dc) (W : Nat) (h : AH) : Prop := Ly p h ∧ StR h (pM p) (dS c) ∧ ThR h (pM p + 14) (dS c) (dT c) ∧ ThR h (pM p + 18) (dS c) (dX c) ∧ (ji h (pM p) 6 = ((dV c).length : Int) ∧ (dV c).length ≤ 400 ∧ ∀ k, k < (dV c).length → ji h (pM p + 8) k = (dV c).getD k 0) ∧ jr h 95 7 = W ∧ isW W ∧ okD c
section MEV
variable {p : Lpar} {d : Nat} {h h' h0 h1 g : AH} {c : Dc} {W m n lo hi a b : Nat} {nu X Y : Nat → Int} {sl : List Int} {t v : Int} {x f q : Ex} {Q : Option AV → AH → Prop}
theorem Acc.cg (A : Acc h W X) (e : ∀ j, j ≤ 40 → X j = Y j) : Acc h W Y := ⟨fun j hj => by rw [← e j (by omega)]; exact A.1 j hj, by rw [← e 40 (by omega)]; exact A.2⟩
theorem isW.tn (hW : isW W) (L : Ly p h) : jt h W = 21 ∧ jn h W = 40 := by
  have e : ∀ k : Nat, k < 165 → ((65 ≤ k ∧ k ≤ 104) ∨ k = 106) → layT.getD k 0 = 21 ∧ layN.getD k 0 = 40 := by decide +kernel
  have hb : 97 ≤ W ∧ W ≤ 138 := by unfold isW at hW; omega
  have := L.1 (W - 32) (by omega)
  have q := e (W - 32) (by omega) (by unfold isW at hW; omega)
  rw [q.1, q.2, show W - 32 + 32 = W by omega] at this
  exact this
theorem EvC.fq (E : EvC p c W h) (F : Fq (ZEv W) h h') : EvC p c W h' := by
  obtain ⟨L, e1, e2, e3, e4, e5, e6, e7⟩ := E
  have hb : 97 ≤ W ∧ W ≤ 138 := by unfold isW at e6; omega
  have hM := L.iM
  have hb2 : 41 ≤ pM p ∧ pM p ≤ 67 := by unfold isD at hM; omega
  have s : ∀ a k, a ≤ 93 → ji h' a k = ji h a k := fun a k z => F.i (by omega)
  exact ⟨L.fq F (fun a k z => by omega), e1.cg (fun a k z1 z2 => s a k (by omega)), ⟨(s _ _ (by omega)).trans e2.1, (s _ _ (by omega)).trans e2.2.1, fun k hk => ⟨(s _ _ (by omega)).trans (e2.2.2 k hk).1, (s _ _ (by omega)).trans (e2.2.2 k hk).2.1, (s _ _ (by omega)).trans (e2.2.2 k hk).2.2⟩⟩, ⟨(s _ _ (by omega)).trans e3.1, (s _ _ (by omega)).trans e3.2.1, fun k hk => ⟨(s _ _ (by omega)).trans (e3.2.2 k hk).1, (s _ _ (by omega)).trans (e3.2.2 k hk).2.1, (s _ _ (by omega)).trans (e3.2.2 k hk).2.2⟩⟩, ⟨(s _ _ (by omega)).trans e4.1, e4.2.1, fun k hk => (s _ _ (by omega)).trans (e4.2.2 k hk)⟩, (F.2.1 _ _).trans e5, e6, e7⟩
theorem tR_q (hx : tR h x m lo hi a b) (hl : NF ≤ lo) (hW : isW W) (F : Fq (ZEv W) h h') : tR h' x m lo hi a b := tR_mono hx (Nat.le_refl _) (Nat.le_refl _) (fun z h1 h2 => ⟨(F.2.2.1 z).1, fun k => F.i (by have : NF = 197 := rfl; unfold isW at hW; omega), fun k => F.2.1 z k⟩)
theorem NuM.pl (N : NuM h m nu) {q : Int} (hq : 0 ≤ q ∧ q ≤ 9999 ∨ (q < 0 ∧ -1 - q < (m : Int))) : -1 ≤ plV nu q ∧ plV nu q ≤ 20000 := by
  unfold plV
  rcases hq with hq | hq
  · rw [if_pos (by omega)]; omega
  · rw [if_neg (by omega)]; exact (N _ (by omega)).2
theorem m_21 (hd : 10 ≤ d) (L : Ly p h) (N : NuM h m nu) (hm : m ≤ 18) {q : Int} (hq : 0 ≤ q ∧ q ≤ 9999 ∨ (q < 0 ∧ -1 - q < (m : Int))) : jE d 21 [jP 95, jI q] h (some (jI (plV nu q))) h := by
  obtain ⟨d, rfl⟩ : ∃ d', d = d' + 1 := ⟨d - 1, by omega⟩
  refine jE_eq (Nat.le_of_ble_eq_true rfl) (c_21_0 (by omega) L ⟨fun z => ?_, fun z => ⟨by unfold plV; rw [if_pos (by omega)], rfl⟩⟩)
  rw [jxor_m1 ⟨by omega, by omega⟩, show -q - 1 = -1 - q by omega]
  refine ⟨fun z => by omega, fun _ => ⟨by omega, by omega, ?_, rfl⟩⟩
  unfold plV
  rw [if_neg (by omega), (N _ (by omega)).1]
theorem nuO_b {S : List (Int × Int)} (hS : okS S) {s : Int} {k : Nat} (hk : k ≤ 8) : -1 ≤ nuO S s k ∧ nuO S s k ≤ 20000 := by
  unfold nuO
  split
  · omega
  · rename_i z
    have := hS.2 (S.getD s.toNat (0, 0)) (getD_mem (by omega) _)
    unfold fsO
    omega
theorem m_19 (hd : 10 ≤ d) (E : EvC p c W h) {s k : Nat} {set : Int} (hk : k ≤ 8) (N : NuM h m nu) (hs : ¬ set = -1 → s = m ∧ m < 18) : ∃ h', jE d 19 [jP 95, jI (s : Int), jI set, jI (k : Int)] h none h' ∧ Ly p h' ∧ Fq (fun a _ => a = 140) h h' ∧ NuM h' (if set = -1 then m else m + 1) (updN nu (s : Int) set (nuO (dS c) set k)) := by
  obtain ⟨d, rfl⟩ : ∃ d', d = d' + 1 := ⟨d - 1, by omega⟩
  obtain ⟨L, e1, e2, e3, e4, e5, e6, e7⟩ := E
  suffices hh : ∃ w h', jE (d + 1) 19 [jP 95, jI (s : Int), jI set, jI (k : Int)] h w h' ∧ w = none ∧ Ly p h' ∧ Fq (fun a _ => a = 140) h h' ∧ NuM h' (if set = -1 then m else m + 1) (updN nu (s : Int) set (nuO (dS c) set k)) by
    obtain ⟨w, h', hE, rfl, r⟩ := hh
    exact ⟨h', hE, r⟩
  refine jE_of (as := [jP 95, jI (s : Int), jI set, jI (k : Int)]) (Nat.le_of_ble_eq_true rfl) (c_19_0 (by omega) L ⟨fun z => ⟨rfl, L, Fq.refl, ?_⟩, fun z => ?_⟩)
  · rw [if_pos z]
    intro j hj
    unfold updN
    rw [if_neg (fun y => y.1 z)]
    exact N j hj
  · obtain ⟨s1, s2⟩ := hs z
    refine ⟨fun y => by omega, fun _ => ⟨fun y => by omega, fun _ => ⟨_, h, m_54 (by omega) L L.iM e1 e7.1.2.1 (by omega) (by omega), L, by omega, by omega, fun L2 => ⟨rfl, L2, Fq.wi rfl, ?_⟩⟩⟩⟩
    rw [if_neg z, Int.toNat_natCast]
    intro j hj
    have nb := nuO_b (s := set) e7.1.2.1 hk
    unfold updN
    rw [ji_wi]
    by_cases y : j = s
    · rw [if_pos ⟨rfl, y⟩, if_pos ⟨z, by omega⟩]
      exact ⟨rfl, nb⟩
    · rw [if_neg (by omega), if_neg (by omega)]
      exact N j (by omega)
end MEV
