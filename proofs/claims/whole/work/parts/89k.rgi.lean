/-! THE REFERENCE: the sum over indices, round by round -/
section RGI
variable {p : Lpar} {d : Nat} {h h' h0 g : AH} {c : Dc} {b m lo n n1 n2 : Nat} {v1 v2 : Int} {Q : Option AV → AH → Prop} {sl sl' : List Int} {nu : Nat → Int} {l r : Ex} {k : Int × Int × Int} {u : Unit}
abbrev linL (c : Dc) (l : Ex) (k : Int × Int × Int) (nu : Nat → Int) (a b j : Nat) : Int := lin c l (nuL c k nu a b) j
theorem g_iter (hd : 14 ≤ d) (IH : GoX p c d v1 v2 Q l) (H : Sl2 c l n sl k.2.1 k.2.2 sl') (hk : k.1 = (sl.length : Int)) (hsh : shp l 3) (I : InS (dS c) sl nu) (hb : b + 3 * n + 1 ≤ 40) (hV : ((m + 1 : Nat) : Int) ≤ v2) (hm : m < 2000) (en1 : szO (dS c) k.2.1 = (n1 : Int)) (en2 : szO (dS c) k.2.2 = (n2 : Int)) (hn2 : n2 ≤ 8) (K : ∀ h', GoC p c h' → Fq (ZGo b sl.length) h0 h' → StK h' b (fun j => sumN n1 (fun x => sumN n2 (fun y => linL c l k nu x y j))) → ji h' 141 54 = ((b + 1 : Nat) : Int) → Gw d v1 v2 Q (m + 1) h') : ∀ (t a b2 : Nat) (h : AH), (n1 - a) * 8 + (n2 - b2) ≤ t → a < n1 → b2 < n2 → GoC p c h → Fq (ZGo b sl.length) h0 h → LpF h l lo m sl.length k.2.1 k.2.2 → NuR h sl.length nu → PosL c sl.length k.2.1 k.2.2 a b2 h → StK h b (sumP n2 (linL c l k nu) a b2) → ji h 141 54 = ((b + 1 : Nat) : Int) → Gw d v1 v2 Q (lo + 1) h := by
  have hl := H.len
  have H1 := H.1
  intro t
  induction t with
  | zero => intro a b2 h ht ha hb2; omega
  | succ t ih =>
    intro a b2 h ht ha hb2 C F0 LF N P S h54
    have hmx := cR_lt LF.1
    refine IH (n - 1) 3 (b + 1) (lo + 1) m sl' (nuL c k nu a b2) h hsh H.2.2.2.2.1 (by have := H.2.1; omega) C LF.1 (in_lp H hk I (by omega) (by omega)) (nu_lp H hk N P) h54 (by omega) (by omega) (by omega) (fun h1 C1 F1 S1 q54 => ?_)
    have G1 : Fq (ZGo b sl.length) h h1 := F1.mono (fun a k z => by omega)
    have LF1 := LF.fq F1
    have T1 : StK h1 b (sumP n2 (linL c l k nu) a b2) := fun j hj => by rw [F1.l (by omega)]; exact S j hj
    have P1 : PosL c sl.length k.2.1 k.2.2 a b2 h1 := ⟨(F1.i (by omega)).trans P.1, fun z => (F1.i (by omega)).trans (P.2 z)⟩
    have N1 : NuR h1 sl.length nu := fun s hs => (F1.i (by omega)).trans (N s hs)
    obtain ⟨v, h2, hE, L2, T2, r54, F2, R⟩ := m_154 (d := d) (by omega) C1.1 C1.2.1 C1.2.2.1.1.2.1 q54 (by omega) T1 S1 LF1.2.2.2.1 LF1.2.2.2.2.1 LF1.2.2.2.2.2 LF1.2.2.1 (by omega) hm ⟨H.2.2.1, H.2.2.2.1⟩ (by rcases H.2.2.2.2.2 with ⟨y1, _⟩ | ⟨y1, y2, _⟩ <;> omega) H.2.1 P1 (by omega) (by omega)
    have C2 := C1.fq F2
    have F3 := (F0.trans G1).trans F2
    have LF2 := LF1.fq F2
    have N2 : NuR h2 sl.length nu := fun s hs => (F2.i (by omega)).trans (N1 s hs)
    refine ga_10 (by omega) C1.1 hm (by omega) LF1.2.1 (c_151_303 (by omega) C1.1 ⟨_, h2, hE, L2, g_go (by omega) L2 ?_⟩)
    have T3 : StK h2 b (sumP n2 (linL c l k nu) a (b2 + 1)) := T2.cg (fun j _ => sumP_b n2 (linL c l k nu) a b2 j)
    unfold nxt4 at R
    by_cases z : ((b2 + 1 : Nat) : Int) < szO (dS c) k.2.2
    · rw [if_pos z] at R
      rw [R.1]
      exact ih a (b2 + 1) h2 (by omega) ha (by omega) C2 F3 LF2 N2 R.2 T3 r54
    · rw [if_neg z] at R
      have e : b2 + 1 = n2 := by omega
      rw [e] at T3
      have T4 : StK h2 b (sumP n2 (linL c l k nu) (a + 1) 0) := T3.cg (fun j _ => sumP_a (linL c l k nu) a j)
      by_cases y : ((a + 1 : Nat) : Int) < szO (dS c) k.2.1
      · rw [if_pos y] at R
        rw [R.1]
        exact ih (a + 1) 0 h2 (by omega) (by omega) (by omega) C2 F3 LF2 N2 R.2 T4 r54
      · rw [if_neg y] at R
        rw [R]
        have e1 : a + 1 = n1 := by omega
        rw [e1] at T4
        exact K h2 C2 F3 (T4.cg (fun j _ => sumP_e (linL c l k nu) n1 j)) r54
theorem lin_4 (j : Nat) : lin c (.inner 4 k u l r) nu j = sumN (szO (dS c) k.2.1).toNat (fun a => sumN (szO (dS c) k.2.2).toNat (fun b => linL c l k nu a b j)) := rfl
theorem lin_40 (h1 : k.2.1 = -1) (h2 : k.2.2 = -1) (j : Nat) : lin c (.inner 4 k u l r) nu j = lin c l nu j := by
  have z : ∀ s : Int, s = -1 → szO (dS c) s = 1 := fun s hs => by unfold szO; rw [if_pos (by omega)]
  have e : ∀ a b, nuL c k nu a b = nu := fun a b => funext fun s => by
    unfold nuL updN
    rw [if_neg (fun y => y.1 h2), if_neg (fun y => y.1 h1)]
  rw [lin_4, z _ h1, z _ h2]
  show 0 + (0 + lin c l (nuL c k nu 0 0) j) = lin c l nu j
  rw [e, Int.zero_add, Int.zero_add]
theorem sl2_of (hx : exOK (dC c) (.inner 4 k u l r) n sl) (h1 : ¬ k.2.1 = -1) : k.1 = (sl.length : Int) ∧ ∃ sl', Sl2 c l n sl k.2.1 k.2.2 sl' := by
  have hx : 1 ≤ n ∧ k.1 = (sl.length : Int) ∧ sl.length ≤ 16 ∧ ((k.2.1 = -1 ∧ k.2.2 = -1 ∧ exOK (dC c) l (n - 1) sl) ∨ (0 ≤ k.2.1 ∧ k.2.1 < ((dS c).length : Int) ∧ ((k.2.2 = -1 ∧ exOK (dC c) l (n - 1) (sl ++ [k.2.1])) ∨ (0 ≤ k.2.2 ∧ k.2.2 < ((dS c).length : Int) ∧ exOK (dC c) l (n - 1) (sl ++ [k.2.1, k.2.2]))))) := hx
  obtain ⟨x1, x2, x3, ⟨y, _⟩ | ⟨y1, y2, ⟨y3, y4⟩ | ⟨y3, y4, y5⟩⟩⟩ := hx
  · exact absurd y h1
  · exact ⟨x2, _, x1, x3, y1, y2, y4, Or.inl ⟨y3, rfl⟩⟩
  · exact ⟨x2, _, x1, x3, y1, y2, y5, Or.inr ⟨y3, y4, rfl⟩⟩
theorem g_9 (hd : 14 ≤ d) (IH : GoX p c d v1 v2 Q l) (hx : exOK (dC c) (.inner 4 k u l r) n sl) (h1 : ¬ k.2.1 = -1) (hsh : shp l 3) (C : GoC p c h) (LF : LpF h l lo m sl.length k.2.1 k.2.2) (e9 : ji h 160 lo = 9) (I : InS (dS c) sl nu) (N : NuR h sl.length nu) (h54 : ji h 141 54 = (b : Int)) (hb : b + 3 * n + 1 ≤ 40) (hV : ((m + 1 : Nat) : Int) ≤ v2) (hm : m < 2000) (K : ∀ h', GoC p c h' → Fq (ZGo b sl.length) h h' → StK h' b (lin c (.inner 4 k u l r) nu) → ji h' 141 54 = ((b + 1 : Nat) : Int) → Gw d v1 v2 Q (m + 1) h') : Gw d v1 v2 Q lo h := by
  obtain ⟨hk, sl', H⟩ := sl2_of hx h1
  have hS : okS (dS c) := C.2.2.1.1.2.1
  have lt := cR_lt LF.1
  have H1 := H.1
  obtain ⟨v, g, hE, L1, S1, q54, F1, R⟩ := m_152 (d := d) (by omega) C.1 C.2.1 hS h54 (by omega) LF.2.2.2.1 LF.2.2.2.2.1 LF.2.2.2.2.2 LF.1 LF.2.1 LF.2.2.1 hm ⟨H.2.2.1, H.2.2.2.1⟩ (by rcases H.2.2.2.2.2 with ⟨y1, _⟩ | ⟨y1, y2, _⟩ <;> omega) H.2.1
  have C1 := C.fq F1
  refine ga_9 (by omega) C.1 (by omega) (by omega) e9 (c_151_293 (by omega) C.1 ⟨_, g, hE, L1, c_151_300 (by omega) L1 (g_go (by omega) L1 ?_)⟩)
  obtain ⟨n1, en1⟩ : ∃ n1 : Nat, szO (dS c) k.2.1 = (n1 : Int) := ⟨(szO (dS c) k.2.1).toNat, by have := szO_r hS k.2.1; omega⟩
  obtain ⟨n2, en2⟩ : ∃ n2 : Nat, szO (dS c) k.2.2 = (n2 : Int) := ⟨(szO (dS c) k.2.2).toNat, by have := szO_r hS k.2.2; omega⟩
  have hn2 : n2 ≤ 8 := by have := szO_r hS k.2.2; omega
  have eL : ∀ j, lin c (.inner 4 k u l r) nu j = sumN n1 (fun x => sumN n2 (fun y => linL c l k nu x y j)) := fun j => by
    rw [lin_4, en1, en2, Int.toNat_natCast, Int.toNat_natCast]
  rcases R with ⟨z, rfl⟩ | ⟨z, rfl, P⟩
  · refine K g C1 F1 (S1.cg (fun j _ => ?_)) q54
    show 0 = _
    rw [eL j]
    rw [en1, en2] at z
    rcases Int.mul_eq_zero.mp z with y | y
    · rw [show n1 = 0 by omega]; rfl
    · rw [show n2 = 0 by omega]
      exact (sumN_z (fun _ _ => rfl)).symm
  · have nz : ¬ n1 = 0 ∧ ¬ n2 = 0 := by
      rw [en1, en2] at z
      exact ⟨fun y => z (by rw [y]; exact Int.zero_mul _), fun y => z (by rw [y]; exact Int.mul_zero _)⟩
    refine g_iter (h0 := h) hd IH H hk hsh I hb hV hm en1 en2 hn2 (fun h' C' F' S' q' => K h' C' F' (S'.cg (fun j _ => (eL j).symm)) q') ((n1 - 0) * 8 + (n2 - 0)) 0 0 g (Nat.le_refl _) (by omega) (by omega) C1 F1 (LF.fq F1) (fun s hs => (F1.i (by omega)).trans (N s hs)) P (S1.cg (fun j _ => ?_)) q54
    rfl
end RGI
