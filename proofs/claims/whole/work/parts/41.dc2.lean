-- needs: 20.num 21.lay 22.spec 23.va 24.leaf 25.tbls 26.thg 27.tok 29.fr 30.tree 28.vb1 28.vb2 28.vb3 31.ctx 32.rd1 33.rd2 34.lvl 35.loop 36.inn 37.fac 38.eok 39.dok 40.dcl
/-! THE READER: what stands between declarations -/
def DecB (D : Nat) (c : Dc) (h : AH) : Prop := StR h D (dS c) ∧ ThR h (D + 14) (dS c) (dT c) ∧ ThR h (D + 18) (dS c) (dX c) ∧ ThR h (D + 22) (dS c) (dR c) ∧ (ji h D 6 = ((dV c).length : Int) ∧ ∀ k, k < (dV c).length → ji h (D + 8) k = (dV c).getD k 0) ∧ (∀ k, k < (dB c).length → ji h (D + 9) k = ((dB c).getD k (0, 0)).1 ∧ ji h (D + 10) k = ((dB c).getD k (0, 0)).2) ∧ (∀ k, k < (dL c).length → ji h (D + 11) k = ((dL c).getD k zL).1 ∧ tR h ((dL c).getD k zL).2.1 3 NF (jx h) (jr h (D + 12) k) 0 ∧ tR h ((dL c).getD k zL).2.2 3 NF (jx h) (jr h (D + 13) k) 0) ∧ ji h D 12 = dG c ∧ (dG c = 0 → jr h D 13 = 0) ∧ (¬ dG c = 0 → tR h (dE c) 3 NF (jx h) (jr h D 13) 0)
def rWk (S : List (Int × Int)) : List (Int × Int) → List (Int × Ex × Ex) → Int
  | o :: os, l :: ls => wkc S l.2.1 (szO S o.1 * szO S o.2) + wkc S l.2.2 (szO S o.1 * szO S o.2) + rWk S os ls
  | _, _ => 0
def dWk (c : Dc) : Int := rWk (dS c) (dR c) (dL c) + (if dG c = 0 then 0 else wkc (dS c) (dE c) 1)
theorem rWk_snoc (S : List (Int × Int)) : ∀ (O : List (Int × Int)) (l : List (Int × Ex × Ex)) (o : Int × Int) (x : Int × Ex × Ex), l.length = O.length → rWk S (O ++ [o]) (l ++ [x]) = rWk S O l + (wkc S x.2.1 (szO S o.1 * szO S o.2) + wkc S x.2.2 (szO S o.1 * szO S o.2))
  | [], [], o, x, _ => by show wkc S x.2.1 _ + wkc S x.2.2 _ + 0 = 0 + _; omega
  | a :: O, b :: l, o, x, h => by
    show wkc S b.2.1 _ + wkc S b.2.2 _ + rWk S (O ++ [o]) (l ++ [x]) = wkc S b.2.1 _ + wkc S b.2.2 _ + rWk S O l + _
    rw [rWk_snoc S O l o x (by have : l.length + 1 = O.length + 1 := h; omega)]
    omega
theorem rWk_app {C : Cx} {s : List (Int × Int)} : ∀ (O : List (Int × Int)) (l : List (Int × Ex × Ex)), (∀ o ∈ O, o.1 < (C.1.length : Int) ∧ o.2 < (C.1.length : Int)) → (∀ k, k < l.length → exOK C (l.getD k zL).2.1 8 (slR (O.getD k (-1, -1))) ∧ exOK C (l.getD k zL).2.2 8 (slR (O.getD k (-1, -1)))) → rWk (C.1 ++ s) O l = rWk C.1 O l
  | [], _, _, _ => rfl
  | _ :: _, [], _, _ => rfl
  | a :: O, b :: l, h, h2 => by
    have e := h a (List.mem_cons_self ..)
    have e2 : exOK C b.2.1 8 (slR a) ∧ exOK C b.2.2 8 (slR a) := h2 0 (by show 0 < l.length + 1; omega)
    show wkc (C.1 ++ s) b.2.1 (szO (C.1 ++ s) a.1 * szO (C.1 ++ s) a.2) + wkc (C.1 ++ s) b.2.2 _ + rWk (C.1 ++ s) O l = wkc C.1 b.2.1 (szO C.1 a.1 * szO C.1 a.2) + wkc C.1 b.2.2 _ + rWk C.1 O l
    rw [szO_app e.1, szO_app e.2, wkc_app _ _ _ _ e2.1, wkc_app _ _ _ _ e2.2, rWk_app O l (fun o ho => h o (List.mem_cons_of_mem _ ho)) (fun k hk => h2 (k + 1) (by show k + 1 < l.length + 1; omega))]
abbrev ZD (D a : Nat) : Prop := a = 37 ∨ a = 93 ∨ a = 94 ∨ (D ≤ a ∧ a ≤ D + 25)
abbrev DT (p : Lpar) (h h' : AH) : Prop := Fm (ZD (pT p)) h h'
/-- what keeps the tables of what is declared -/
def KB (D : Nat) (h h' : AH) : Prop := (∀ a k, D ≤ a → a ≤ D + 25 → ¬ (D + 1 ≤ a ∧ a ≤ D + 4) → ji h' a k = ji h a k ∧ jr h' a k = jr h a k) ∧ (∀ a, NF ≤ a → a < jx h → jt h' a = jt h a ∧ (∀ k, ji h' a k = ji h a k) ∧ (∀ k, jr h' a k = jr h a k)) ∧ jx h ≤ jx h'
def TxR (p : Lpar) (T : Txt) (e i : Nat) (h : AH) (c : Dc) : Prop := Ly p h ∧ TokR T e i h ∧ NmR h (pT p) (dN c) ∧ DecB (pT p) c h ∧ jl h (pT p) 14 = dWk c ∧ (0 ≤ dWk c ∧ dWk c ≤ 1000000000 * (i : Int)) ∧ ji h 93 6 = 0 ∧ (dV c).length ≤ i
def TxP (p : Lpar) (T : Txt) (e i : Nat) (h : AH) (R : Er (Dc × Nat)) (u : Option AV) (h' : AH) : Prop := ∃ v, u = some (jI v) ∧ Ly p h' ∧ DT p h h' ∧ ∃ i', TokR T e i' h' ∧ i ≤ i' ∧ jx h' ≤ jx h + 2 * (i' - i) + 2 ∧ Rs R (fun q => v = 0 ∧ ji h' 37 5 = -10 - (q : Int)) (fun r => v = 1 ∧ i' = r.2 ∧ jx h' ≤ jx h + 2 * (i' - i) ∧ TxR p T e i' h' r.1)
section DC2
variable {p : Lpar} {d D : Nat} {h h' h0 h1 h2 : AH} {T : Txt} {e i i0 : Nat} {c : Dc} {S : List (Int × Int)} {Z : Nat → Prop}
theorem KB.refl : KB D h h := ⟨fun _ _ _ _ _ => ⟨rfl, rfl⟩, fun _ _ _ => ⟨rfl, fun _ => rfl, fun _ => rfl⟩, Nat.le_refl _⟩
theorem KB.trans (f : KB D h h1) (g : KB D h1 h2) : KB D h h2 := ⟨fun a k z1 z2 z3 => ⟨(g.1 a k z1 z2 z3).1.trans (f.1 a k z1 z2 z3).1, (g.1 a k z1 z2 z3).2.trans (f.1 a k z1 z2 z3).2⟩, fun a z1 z2 => by
  have x := f.2.1 a z1 z2
  have y := g.2.1 a z1 (by have := f.2.2; omega)
  exact ⟨y.1.trans x.1, fun k => (y.2.1 k).trans (x.2.1 k), fun k => (y.2.2 k).trans (x.2.2 k)⟩, Nat.le_trans f.2.2 g.2.2⟩
theorem KB.fm (L : Ly p h) (f : Fm Z h h') (hz : ∀ a, Z a → a = 37 ∨ a = 93 ∨ a = 94 ∨ (pT p + 1 ≤ a ∧ a ≤ pT p + 4)) : KB (pT p) h h' := by
  have hT := L.iT'
  have hx := L.nx
  have hN : NF = 197 := rfl
  have nz : ∀ a, ¬ (a = 37 ∨ a = 93 ∨ a = 94 ∨ (pT p + 1 ≤ a ∧ a ≤ pT p + 4)) → ¬ Z a := fun a q z => q (hz a z)
  exact ⟨fun a k z1 z2 z3 => ⟨f.ji (by omega) (nz a (by omega)) k, f.jr (by omega) (nz a (by omega)) k⟩, fun a z1 z2 => ⟨(f.2.1 a z2).1, fun k => f.ji z2 (nz a (by omega)) k, fun k => f.jr z2 (nz a (by omega)) k⟩, f.2.2.1⟩
theorem KB.ds (L : Ly p h) (f : DS p h h') : KB (pT p) h h' := by
  have hT := L.iT'
  have hx := L.nx
  have hN : NF = 197 := rfl
  refine ⟨fun a k z1 z2 z3 => ?_, fun a z1 z2 => f.old L z1 z2, f.1.2.2.1⟩
  by_cases e : a = pT p
  · rw [e]; exact f.2 k
  · exact ⟨f.1.ji (by omega) (by omega) k, f.1.jr (by omega) (by omega) k⟩
theorem DT.ds (f : DS p h h') : DT p h h' := f.1.mono (fun a _ z => by omega)
theorem DT.fe (f : Fe Z h h') (hz : ∀ a, Z a → ZD (pT p) a) : DT p h h' := f.1.mono (fun a _ z => hz a z)
theorem DecB.kb (B : DecB D c h) (f : KB D h h') : DecB D c h' := by
  obtain ⟨b1, b2, b3, b4, b5, b6, b7, b8, b9, b10⟩ := B
  obtain ⟨f1, f2, f3⟩ := f
  have fi : ∀ a k, D ≤ a → a ≤ D + 25 → ¬ (D + 1 ≤ a ∧ a ≤ D + 4) → ji h' a k = ji h a k := fun a k z1 z2 z3 => (f1 a k z1 z2 z3).1
  have fr : ∀ a k, D ≤ a → a ≤ D + 25 → ¬ (D + 1 ≤ a ∧ a ≤ D + 4) → jr h' a k = jr h a k := fun a k z1 z2 z3 => (f1 a k z1 z2 z3).2
  have ft : ∀ {x : Ex} {a : Nat}, tR h x 3 NF (jx h) a 0 → tR h' x 3 NF (jx h') a 0 := fun {x a} hx => tR_mono hx (Nat.le_refl _) f3 (fun q q1 q2 => f2 q q1 q2)
  refine ⟨b1.cg (fun a k _ _ => fi a k (by omega) (by omega) (by omega)), b2.cg (fun a k _ _ => fi a k (by omega) (by omega) (by omega)), b3.cg (fun a k _ _ => fi a k (by omega) (by omega) (by omega)), b4.cg (fun a k _ _ => fi a k (by omega) (by omega) (by omega)), ⟨by rw [fi D 6 (by omega) (by omega) (by omega)]; exact b5.1, fun k hk => by rw [fi (D + 8) k (by omega) (by omega) (by omega)]; exact b5.2 k hk⟩, fun k hk => by rw [fi (D + 9) k (by omega) (by omega) (by omega), fi (D + 10) k (by omega) (by omega) (by omega)]; exact b6 k hk, fun k hk => ?_, by rw [fi D 12 (by omega) (by omega) (by omega)]; exact b8, fun z => by rw [fr D 13 (by omega) (by omega) (by omega)]; exact b9 z, fun z => by rw [fr D 13 (by omega) (by omega) (by omega)]; exact ft (b10 z)⟩
  have z := b7 k hk
  rw [fi (D + 11) k (by omega) (by omega) (by omega), fr (D + 12) k (by omega) (by omega) (by omega), fr (D + 13) k (by omega) (by omega) (by omega)]
  exact ⟨z.1, ft z.2.1, ft z.2.2⟩
theorem TxR.smx (H : TxR p T e i h c) : SmX (pT p) (dC c) (dN c) [] h := ⟨H.2.2.1, H.2.2.2.1.1, H.2.2.2.1.2.1, H.2.2.2.1.2.2.1, H.2.2.2.2.2.2.1, fun k hk => absurd hk (by simp)⟩
theorem tx_bad {q : Nat} {R : Er (Dc × Nat)} (hR : R = .error q) (L : Ly p h) (K : TokR T e i h) (f : DT p h0 h) (hi : i0 ≤ i) (hj : jx h ≤ jx h0 + 2 * (i - i0) + 2) (hq : ji h 37 5 = -10 - (q : Int)) : TxP p T e i0 h0 R (some (jI 0)) h := by
  rw [hR]; exact ⟨0, rfl, L, f, i, K, hi, hj, rfl, hq⟩
theorem ThR.app {t : Nat} {O s : List (Int × Int)} (hR : ThR h t S O) (hO : okO S O) : ThR h t (S ++ s) O := ⟨hR.1, by rw [tot_app (okO_lt hO)]; exact hR.2.1, fun k hk => by rw [stO_app hO]; exact hR.2.2 k hk⟩
theorem DT.w37 {k : Nat} {x : Int} : DT p h (wi h 37 k x) := Fm.wi (Or.inl rfl)
theorem KB.w37 (L : Ly p h) {k : Nat} {x : Int} : KB (pT p) h (wi h 37 k x) := KB.fm L (Z := Z37) (Fm.wi rfl) (fun a z => Or.inl z)
theorem r_34 (hd : 13 ≤ d) (H : TxR p T e i h c) (O : okD c) (g : tkG T) (hk : tkK T i = 10) : ∃ u h', jE d 34 [jP 93] h u h' ∧ TxP p T e i h (pSet T c i) u h' := by
  obtain ⟨d, rfl⟩ : ∃ d', d = d' + 1 := ⟨d - 1, by omega⟩
  obtain ⟨L, K, N, B, W, Wb, A, V⟩ := H
  have hT := L.iT'
  have hx := L.nx
  have hN : NF = 197 := rfl
  have cn := O.cnt
  have gl : (dN c).length ≤ 28 + 0 := O.1.2.2.2.2.2.2.2.2.1
  refine jE_of (as := [jP 93]) (Nat.le_of_ble_eq_true rfl) (c_34_0 (by omega) L K ?_)
  rw [B.1.1]
  obtain ⟨v, h1, hE, L1, f1, i1, K1, hi1, R⟩ := r_33 (d := d) (by omega) L K N O.1.1 (by omega) (ns hk (by decide)) (s := 0) (n := (dS c).length) (m := 6)
  refine ⟨v, h1, hE, L1, i1, K1, ?_⟩
  have D1 : DT p h h1 := DT.fe f1 (fun a z => by omega)
  have B1 : DecB (pT p) c h1 := B.kb (KB.fm L f1.1 (fun a z => by omega))
  have x1 := f1.2
  have eP : pSet T c i = xb (pName T (dN c) (dS c).length 6 i) fun q => xb (pTake T 161 q.2) fun j => xb (pTake T 2 j) fun j2 => xb (pTake T 22 j2) fun j3 => if tkK T j3 = 2 ∧ 0 ≤ tkV T j3 - tkV T j + 1 ∧ tkV T j3 - tkV T j + 1 ≤ 8 then xb (pTake T 159 (j3 + 1)) fun j4 => .ok ((dN c ++ [(q.1, 0, ((dS c).length : Int))], dS c ++ [(tkV T j, tkV T j3 - tkV T j + 1)], c.2.2), j4) else .error (tkP T j3) := rfl
  cases hB : pName T (dN c) (dS c).length 6 i with
  | error q =>
    rw [hB] at R eP
    exact ⟨fun _ => tx_bad eP L1 K1 D1 hi1 (by omega) R.2, fun z => absurd R.1 z⟩
  | ok r =>
    have z1 := pName_ok g hB
    rw [hB] at R eP
    obtain ⟨r1, r2, N1⟩ := R
    have eP : pSet T c i = xb (pTake T 161 i1) fun j => xb (pTake T 2 j) fun j2 => xb (pTake T 22 j2) fun j3 => if tkK T j3 = 2 ∧ 0 ≤ tkV T j3 - tkV T j + 1 ∧ tkV T j3 - tkV T j + 1 ≤ 8 then xb (pTake T 159 (j3 + 1)) fun j4 => .ok ((dN c ++ [(r.1, 0, ((dS c).length : Int))], dS c ++ [(tkV T j, tkV T j3 - tkV T j + 1)], c.2.2), j4) else .error (tkP T j3) := by rw [eP, r2]; rfl
    refine ⟨fun z => by omega, fun _ => ⟨fun c1 => ⟨fun c2 => ⟨fun c3 => ⟨fun c4 => ?_, fun c4 L2 K2 => ?_⟩, fun c3 L2 K2 => ?_⟩, fun c2 L2 K2 => ?_⟩, fun c1 L2 K2 => ?_⟩⟩
    · rw [take_y c1] at eP
      have eP : pSet T c i = xb (pTake T 2 (i1 + 1)) fun j2 => xb (pTake T 22 j2) fun j3 => if tkK T j3 = 2 ∧ 0 ≤ tkV T j3 - tkV T (i1 + 1) + 1 ∧ tkV T j3 - tkV T (i1 + 1) + 1 ≤ 8 then xb (pTake T 159 (j3 + 1)) fun j4 => .ok ((dN c ++ [(r.1, 0, ((dS c).length : Int))], dS c ++ [(tkV T (i1 + 1), tkV T j3 - tkV T (i1 + 1) + 1)], c.2.2), j4) else .error (tkP T j3) := eP
      rw [take_y c2] at eP
      have eP : pSet T c i = xb (pTake T 22 (i1 + 2)) fun j3 => if tkK T j3 = 2 ∧ 0 ≤ tkV T j3 - tkV T (i1 + 1) + 1 ∧ tkV T j3 - tkV T (i1 + 1) + 1 ≤ 8 then xb (pTake T 159 (j3 + 1)) fun j4 => .ok ((dN c ++ [(r.1, 0, ((dS c).length : Int))], dS c ++ [(tkV T (i1 + 1), tkV T j3 - tkV T (i1 + 1) + 1)], c.2.2), j4) else .error (tkP T j3) := eP
      rw [take_y c3] at eP
      have eP : pSet T c i = if tkK T (i1 + 3) = 2 ∧ 0 ≤ tkV T (i1 + 3) - tkV T (i1 + 1) + 1 ∧ tkV T (i1 + 3) - tkV T (i1 + 1) + 1 ≤ 8 then xb (pTake T 159 (i1 + 3 + 1)) fun j4 => .ok ((dN c ++ [(r.1, 0, ((dS c).length : Int))], dS c ++ [(tkV T (i1 + 1), tkV T (i1 + 3) - tkV T (i1 + 1) + 1)], c.2.2), j4) else .error (tkP T (i1 + 3)) := eP
      have Kb : TokR T e (i1 + 1) (wi h1 37 4 ((i1 + 1 : Nat) : Int)) := K1.adv (ns c1 (by decide))
      have Kc : TokR T e (i1 + 2) (wi (wi h1 37 4 ((i1 + 1 : Nat) : Int)) 37 4 ((i1 + 2 : Nat) : Int)) := Kb.adv (ns c2 (by decide))
      have Kd : TokR T e (i1 + 3) (wi (wi (wi h1 37 4 ((i1 + 1 : Nat) : Int)) 37 4 ((i1 + 2 : Nat) : Int)) 37 4 ((i1 + 3 : Nat) : Int)) := Kc.adv (ns c3 (by decide))
      have w1 := Kb.ok.2.2.1 c2
      have w3 := Kd.ok.2.2.1 c4
      rw [w1.1, w3.1, w32_i (x := tkV T (i1 + 3) - tkV T (i1 + 1)) (by omega) (by omega), w32_i (by omega) (by omega)]
      refine ⟨fun c5 L2 K2 => ?_, fun c5 => ⟨fun c6 L2 K2 => ?_, fun c6 L2 K2 => ?_⟩⟩
      · rw [if_neg (by omega)] at eP
        exact tx_bad eP L2 K2 ((((D1.trans DT.w37).trans DT.w37).trans DT.w37).trans DT.w37) (by omega) (by show jx h1 ≤ _; omega) flt_r
      · rw [if_pos ⟨c4, by omega, c6⟩] at eP
        have B2 : DecB (pT p) c (wi (wi (wi (wi h1 37 4 ((i1 + 1 : Nat) : Int)) 37 4 ((i1 + 2 : Nat) : Int)) 37 4 ((i1 + 3 : Nat) : Int)) 37 4 ((i1 + 4 : Nat) : Int)) := B1.kb ((((KB.w37 L1).trans (KB.w37 (L1.wi (by decide)))).trans (KB.w37 ((L1.wi (by decide)).wi (by decide)))).trans (KB.w37 (((L1.wi (by decide)).wi (by decide)).wi (by decide))))
        have N2 : NmR (wi (wi (wi (wi h1 37 4 ((i1 + 1 : Nat) : Int)) 37 4 ((i1 + 2 : Nat) : Int)) 37 4 ((i1 + 3 : Nat) : Int)) 37 4 ((i1 + 4 : Nat) : Int)) (pT p) (dN c ++ [(r.1, 0, ((dS c).length : Int))]) := N1.cg (fun a k z1 z2 => by rw [ji_wi, if_neg (by omega), ji_wi, if_neg (by omega), ji_wi, if_neg (by omega), ji_wi, if_neg (by omega)])
        have W2 : jl (wi (wi (wi (wi h1 37 4 ((i1 + 1 : Nat) : Int)) 37 4 ((i1 + 2 : Nat) : Int)) 37 4 ((i1 + 3 : Nat) : Int)) 37 4 ((i1 + 4 : Nat) : Int)) (pT p) 14 = dWk c := (f1.1.jl (by omega) (by omega) 14).trans W
        have A2 : ji (wi (wi (wi (wi h1 37 4 ((i1 + 1 : Nat) : Int)) 37 4 ((i1 + 2 : Nat) : Int)) 37 4 ((i1 + 3 : Nat) : Int)) 37 4 ((i1 + 4 : Nat) : Int)) 93 6 = 0 := by rw [ji_wi, if_neg (by omega), ji_wi, if_neg (by omega), ji_wi, if_neg (by omega), ji_wi, if_neg (by omega), f1.1.ji (by omega) (by omega) 6]; exact A
        have D2 : DT p h (wi (wi (wi (wi h1 37 4 ((i1 + 1 : Nat) : Int)) 37 4 ((i1 + 2 : Nat) : Int)) 37 4 ((i1 + 3 : Nat) : Int)) 37 4 ((i1 + 4 : Nat) : Int)) := (((D1.trans DT.w37).trans DT.w37).trans DT.w37).trans DT.w37
        have x2 : jx (wi (wi (wi (wi h1 37 4 ((i1 + 1 : Nat) : Int)) 37 4 ((i1 + 2 : Nat) : Int)) 37 4 ((i1 + 3 : Nat) : Int)) 37 4 ((i1 + 4 : Nat) : Int)) = jx h := x1
        generalize wi (wi (wi (wi h1 37 4 ((i1 + 1 : Nat) : Int)) 37 4 ((i1 + 2 : Nat) : Int)) 37 4 ((i1 + 3 : Nat) : Int)) 37 4 ((i1 + 4 : Nat) : Int) = h2 at *
        obtain ⟨h3, hE3, L3, f3, s3⟩ := m_52 (d := d) (by omega) L2 L2.iT B2.1 z1.2.2.1 (f := tkV T (i1 + 1)) (n := tkV T (i1 + 3) - tkV T (i1 + 1) + 1)
        have j3 : ∀ a k, a < NF → ¬ (pT p + 5 ≤ a ∧ a ≤ pT p + 7) → ji h3 a k = ji h2 a k := fun a k z1 z2 => f3.1.ji (by omega) z2 k
        have K3 : TokR T e (i1 + 4) h3 := K2.cg (fun a k z1 z2 => j3 a k (by omega) (by omega))
        refine ⟨h3, hE3, L3, _, K3, fun c7 L4 K4 => ?_, fun c7 L4 K4 => ?_⟩
        · rw [take_y c7] at eP
          have D3 : DT p h (wi h3 37 4 ((i1 + 4 + 1 : Nat) : Int)) := (D2.trans (DT.fe f3 (fun a z => by omega))).trans DT.w37
          refine ⟨1, rfl, L4, D3, _, K4, by omega, by show jx h3 ≤ _; rw [f3.2]; omega, ?_⟩
          rw [eP]
          refine ⟨rfl, rfl, by show jx h3 ≤ _; rw [f3.2]; omega, L4, K4, ?_, ?_, ?_, ?_, ?_, ?_⟩
          · exact N2.cg (fun a k z1 z2 => by rw [ji_wi, if_neg (by omega), j3 a k (by omega) (by omega)])
          · obtain ⟨b1, b2, b3, b4, b5, b6, b7, b8, b9, b10⟩ := B2
            have i4 : ∀ a k, a < NF → ¬ a = 37 → ¬ (pT p + 5 ≤ a ∧ a ≤ pT p + 7) → ji (wi h3 37 4 ((i1 + 4 + 1 : Nat) : Int)) a k = ji h2 a k := fun a k z1 z2 z3 => by rw [ji_wi, if_neg (by omega)]; exact j3 a k z1 z3
            have r4 : ∀ a k, a < NF → ¬ (pT p + 5 ≤ a ∧ a ≤ pT p + 7) → jr (wi h3 37 4 ((i1 + 4 + 1 : Nat) : Int)) a k = jr h2 a k := fun a k z1 z3 => f3.1.jr (by omega) z3 k
            have ft : ∀ {x : Ex} {a : Nat}, tR h2 x 3 NF (jx h2) a 0 → tR (wi h3 37 4 ((i1 + 4 + 1 : Nat) : Int)) x 3 NF (jx (wi h3 37 4 ((i1 + 4 + 1 : Nat) : Int))) a 0 := fun {x a} hx => tR_mono hx (Nat.le_refl _) (by show jx h2 ≤ jx h3; rw [f3.2]; omega) (fun q q1 q2 => ⟨(f3.1.2.1 q q2).1, fun k => by rw [ji_wi, if_neg (by omega)]; exact f3.1.ji q2 (by omega) k, fun k => f3.1.jr q2 (by omega) k⟩)
            refine ⟨s3.cg (fun a k z1 z2 => by rw [ji_wi, if_neg (by omega)]), ThR.app (b2.cg (fun a k z1 z2 => i4 a k (by omega) (by omega) (by omega))) O.1.2.2.1, ThR.app (b3.cg (fun a k z1 z2 => i4 a k (by omega) (by omega) (by omega))) O.1.2.2.2.2.1, ThR.app (b4.cg (fun a k z1 z2 => i4 a k (by omega) (by omega) (by omega))) O.2.1, ⟨by rw [i4 _ _ (by omega) (by omega) (by omega)]; exact b5.1, fun k hk => by rw [i4 _ _ (by omega) (by omega) (by omega)]; exact b5.2 k hk⟩, fun k hk => by rw [i4 _ _ (by omega) (by omega) (by omega), i4 _ _ (by omega) (by omega) (by omega)]; exact b6 k hk, fun k hk => ?_, by rw [i4 _ _ (by omega) (by omega) (by omega)]; exact b8, fun z => by rw [r4 _ _ (by omega) (by omega)]; exact b9 z, fun z => by rw [r4 _ _ (by omega) (by omega)]; exact ft (b10 z)⟩
            have z := b7 k hk
            rw [i4 _ _ (by omega) (by omega) (by omega), r4 _ _ (by omega) (by omega), r4 _ _ (by omega) (by omega)]
            exact ⟨z.1, ft z.2.1, ft z.2.2⟩
          · have : jl (wi h3 37 4 ((i1 + 4 + 1 : Nat) : Int)) (pT p) 14 = jl h2 (pT p) 14 := f3.1.jl (by omega) (by omega) 14
            rw [this, W2]
            show rWk (dS c) (dR c) (dL c) + (if dG c = 0 then 0 else wkc (dS c) (dE c) 1) = rWk (dS c ++ [_]) (dR c) (dL c) + (if dG c = 0 then 0 else wkc (dS c ++ [_]) (dE c) 1)
            rw [show rWk (dS c ++ [(tkV T (i1 + 1), tkV T (i1 + 3) - tkV T (i1 + 1) + 1)]) (dR c) (dL c) = rWk (dS c) (dR c) (dL c) from rWk_app (C := dC c) _ _ (okO_lt O.2.1) (fun k hk => (O.2.2.2.2.2.2.2.2.1 k hk).2), show wkc (dS c ++ [(tkV T (i1 + 1), tkV T (i1 + 3) - tkV T (i1 + 1) + 1)]) (dE c) 1 = wkc (dS c) (dE c) 1 from wkc_app (C := dC c) _ _ _ _ O.2.2.2.2.2.2.2.2.2.2.1]
          · have ew : dWk (dN c ++ [(r.1, 0, ((dS c).length : Int))], dS c ++ [(tkV T (i1 + 1), tkV T (i1 + 3) - tkV T (i1 + 1) + 1)], c.2.2) = dWk c := by
              show rWk (dS c ++ [_]) (dR c) (dL c) + (if dG c = 0 then 0 else wkc (dS c ++ [_]) (dE c) 1) = rWk (dS c) (dR c) (dL c) + (if dG c = 0 then 0 else wkc (dS c) (dE c) 1)
              rw [show rWk (dS c ++ [(tkV T (i1 + 1), tkV T (i1 + 3) - tkV T (i1 + 1) + 1)]) (dR c) (dL c) = rWk (dS c) (dR c) (dL c) from rWk_app (C := dC c) _ _ (okO_lt O.2.1) (fun k hk => (O.2.2.2.2.2.2.2.2.1 k hk).2), show wkc (dS c ++ [(tkV T (i1 + 1), tkV T (i1 + 3) - tkV T (i1 + 1) + 1)]) (dE c) 1 = wkc (dS c) (dE c) 1 from wkc_app (C := dC c) _ _ _ _ O.2.2.2.2.2.2.2.2.2.2.1]
            rw [ew]
            omega
          · rw [ji_wi, if_neg (by omega), j3 _ _ (by omega) (by omega)]; exact A2
          · show (dV c).length ≤ _
            omega
        · rw [take_n c7] at eP
          exact tx_bad eP L4 K4 ((D2.trans (DT.fe f3 (fun a z => by omega))).trans DT.w37) (by omega) (by show jx h3 ≤ _; rw [f3.2]; omega) flt_r
      · rw [if_neg (by omega)] at eP
        exact tx_bad eP L2 K2 ((((D1.trans DT.w37).trans DT.w37).trans DT.w37).trans DT.w37) (by omega) (by show jx h1 ≤ _; omega) flt_r
    · rw [take_y c1] at eP
      have eP : pSet T c i = xb (pTake T 2 (i1 + 1)) fun j2 => xb (pTake T 22 j2) fun j3 => if tkK T j3 = 2 ∧ _ then _ else .error (tkP T j3) := eP
      rw [take_y c2] at eP
      have eP : pSet T c i = xb (pTake T 22 (i1 + 2)) fun j3 => if tkK T j3 = 2 ∧ _ then _ else .error (tkP T j3) := eP
      rw [take_y c3] at eP
      have eP : pSet T c i = if tkK T (i1 + 3) = 2 ∧ _ then _ else .error (tkP T (i1 + 3)) := eP
      rw [if_neg (fun z => c4 z.1)] at eP
      exact tx_bad eP L2 K2 ((((D1.trans DT.w37).trans DT.w37).trans DT.w37).trans DT.w37) (by omega) (by show jx h1 ≤ _; omega) flt_r
    · rw [take_y c1] at eP
      have eP : pSet T c i = xb (pTake T 2 (i1 + 1)) fun j2 => xb (pTake T 22 j2) _ := eP
      rw [take_y c2] at eP
      have eP : pSet T c i = xb (pTake T 22 (i1 + 2)) _ := eP
      rw [take_n c3] at eP
      exact tx_bad eP L2 K2 (((D1.trans DT.w37).trans DT.w37).trans DT.w37) (by omega) (by show jx h1 ≤ _; omega) flt_r
    · rw [take_y c1] at eP
      have eP : pSet T c i = xb (pTake T 2 (i1 + 1)) _ := eP
      rw [take_n c2] at eP
      exact tx_bad eP L2 K2 ((D1.trans DT.w37).trans DT.w37) (by omega) (by show jx h1 ≤ _; omega) flt_r
    · rw [take_n c1] at eP
      exact tx_bad eP L2 K2 (D1.trans DT.w37) (by omega) (by show jx h1 ≤ _; omega) flt_r
end DC2
