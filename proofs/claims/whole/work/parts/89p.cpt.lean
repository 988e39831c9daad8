/-! THE CLASS: points, the paper -/
def ptS (n : Nat) (f : Nat → Int) (pt : Nat → Int) : Int := sumN n (fun j => f j * pt j)
def leftV (c : Dc) (pt : Nat → Int) (r : Nat) : Int := w64 (ptS (tot (dS c) (dX c)).toNat (rowL c r) pt)
def aLeft (c : Dc) (pt : Nat → Int) (r : Int) : Int := if isR c r then leftV c pt r.toNat else -100001
/-- a relation holds -/
def isKb (q A B : Int) : Bool := if q < 0 then decide (A ≤ B) else if 0 < q then decide (B ≤ A) else decide (A = B)
theorem isKb_t {q A B : Int} (h : (q < 0 ∧ A ≤ B) ∨ (0 < q ∧ B ≤ A) ∨ (q = 0 ∧ A = B)) : isKb q A B = true := by
  unfold isKb
  rcases h with ⟨h1, h2⟩ | ⟨h1, h2⟩ | ⟨h1, h2⟩
  · rw [if_pos h1]; exact decide_eq_true h2
  · rw [if_neg (by omega), if_pos h1]; exact decide_eq_true h2
  · rw [if_neg (by omega), if_neg (by omega)]; exact decide_eq_true h2
theorem isKb_f {q A B : Int} (h : (q < 0 ∧ B < A) ∨ (0 < q ∧ A < B) ∨ (q = 0 ∧ ¬ A = B)) : ¬ isKb q A B = true := by
  unfold isKb
  rcases h with ⟨h1, h2⟩ | ⟨h1, h2⟩ | ⟨h1, h2⟩
  · rw [if_pos h1]; exact fun z => by have := of_decide_eq_true z; omega
  · rw [if_neg (by omega), if_pos h1]; exact fun z => by have := of_decide_eq_true z; omega
  · rw [if_neg (by omega), if_neg (by omega)]; exact fun z => h2 (of_decide_eq_true z)
/-- row r is kept -/
def isKp (c : Dc) (pt : Nat → Int) (r : Nat) : Bool := isKb ((dL c).getD (owO (dS c) (dR c) r).toNat zL).1 (leftV c pt r) (w64 (-(rowL c r 40)))
def aHolds (c : Dc) (pt : Nat → Int) (r : Int) : Int := if isR c r then (if isKp c pt r.toNat = true then 1 else 0) else -100001
/-- the broken row number i from row r on, n rows are left -/
def brN (c : Dc) (pt : Nat → Int) : Nat → Nat → Int → Int
  | 0, _, _ => -1
  | n + 1, r, i => if isKp c pt r = true then brN c pt n (r + 1) i else if i = 0 then (r : Int) else brN c pt n (r + 1) (i - 1)
def aBrok (c : Dc) (pt : Nat → Int) (i : Int) : Int := if i < 0 then -100001 else brN c pt (tot (dS c) (dR c)).toNat 0 i
def aWorth (c : Dc) (pt : Nat → Int) : Int := if dG c = 0 then -100003 else w64 (lin c (dE c) (fun _ => 0) 40 + ptS (tot (dS c) (dX c)).toNat (lin c (dE c) (fun _ => 0)) pt)
def aPut (c : Dc) (pt : Nat → Int) (x v : Int) : Int := if owO (dS c) (dX c) x = -1 then -100001 else if ((dB c).getD (owO (dS c) (dX c) x).toNat (0, 0)).1 ≤ v ∧ v ≤ ((dB c).getD (owO (dS c) (dX c) x).toNat (0, 0)).2 then pt x.toNat else -100002
def pPut (c : Dc) (pt : Nat → Int) (x v : Int) (k : Nat) : Int := if ¬ owO (dS c) (dX c) x = -1 ∧ (((dB c).getD (owO (dS c) (dX c) x).toNat (0, 0)).1 ≤ v ∧ v ≤ ((dB c).getD (owO (dS c) (dX c) x).toNat (0, 0)).2) ∧ k = x.toNat then v else pt k
/-- a printed text lies on the paper -/
def Pap (W : List Int) (h : AH) : Prop := ji h 35 1 = (W.length : Int) ∧ W.length ≤ 1551 ∧ ∀ k, k < W.length → jand (ji h 36 k) 255 = W.getD k 0
def aOut (W : List Int) (i : Int) : Int := if 0 ≤ i ∧ i < (W.length : Int) then W.getD i.toNat 0 else -1
def aCut (T : Txt) (n : Int) : Int := if 0 ≤ n ∧ n ≤ (T.1 : Int) then (T.1 : Int) - n else -100002
def tCut (T : Txt) (n : Int) : Txt := if 0 ≤ n ∧ n ≤ (T.1 : Int) then (n.toNat, T.2) else T
section CPT
variable {p : Lpar} {d : Nat} {h h' g : AH} {c : Dc} {T : Txt} {pt : Nat → Int} {W : List Int} {i w x r v : Int}
theorem ptS_s {f g : Nat → Int} {n : Nat} : ptS (n + 1) f g = ptS n f g + f n * g n := rfl
theorem w64_pt {a b q : Int} : w64 (w64 a + w64 (w64 b * q)) = w64 (a + b * q) := by rw [w64_m, w64_aa]
theorem m_22 (hd : 10 ≤ d) (S : Cst p T c pt h) {a1 : Nat} {f : Nat → Int} (t1 : jt h a1 = 21) (n1 : jn h a1 = 40) (hf : ∀ j, j < 40 → jl h a1 j = w64 (f j)) : jE d 22 [jP 95, jP a1] h (some (jL (w64 (ptS (tot (dS c) (dX c)).toNat f pt)))) h := by
  obtain ⟨d, rfl⟩ : ∃ d', d = d' + 1 := ⟨d - 1, by omega⟩
  have e : ji h (pM p + 18) 5 = tot (dS c) (dX c) := by rw [S.2.2.1.1]; exact S.B.2.2.1.2.1
  have t40 := S.2.2.2.2.2.2.1.2.2.1
  have t0 : 0 ≤ tot (dS c) (dX c) := (tot_r S.ok.1 _).1
  have P := S.2.2.2.2.2.2.2.2
  have key : ∀ (s i : Nat), (tot (dS c) (dX c)).toNat = i + s → WF d 22 5 [jP 95, jP a1, jL (w64 (ptS i f pt)), jU, jI (i : Int)] [] h (fun v h' => v = some (jL (w64 (ptS (tot (dS c) (dX c)).toNat f pt))) ∧ h' = h) := by
    intro s
    induction s with
    | zero =>
      intro i hi
      refine c_22_5 (by omega) S.1 ?_
      rw [e]
      exact ⟨fun _ => ⟨by rw [hi]; rfl, rfl⟩, fun z => by omega⟩
    | succ s ih =>
      intro i hi
      refine c_22_5 (by omega) S.1 ?_
      rw [e, Int.toNat_natCast, hf i (by omega), P i (by omega), w64_pt, w32_i (x := (i : Int) + 1) (by omega) (by omega)]
      refine ⟨fun z => by omega, fun _ => ⟨by omega, by omega, fun z => by rw [n1] at z; omega, fun z => ⟨⟨Or.inl t1, by omega, by rw [n1]; omega⟩, by omega, by omega, ?_⟩⟩⟩
      exact ih (i + 1) (by omega)
  exact jE_eq (Nat.le_of_ble_eq_true rfl) (c_22_0 (by omega) S.1 (by have q := key (tot (dS c) (dX c)).toNat 0 (by omega); rw [show ptS 0 f pt = 0 from rfl, w64_z] at q; exact q))
theorem Cst.row (S : Cst p T c pt h) (hd : 10 ≤ d) (z : isR c r) : jE d 22 [jP 95, jP (97 + Int.toNat r)] h (some (jL (leftV c pt r.toNat))) h := by
  have o2 := S.2.2.2.2.2.2.1.2.2.2.1
  have t := S.1.tn (65 + r.toNat) (by omega)
  have q := layT_row r.toNat (by omega)
  rw [show 65 + r.toNat + 32 = 97 + r.toNat by omega, q.1, q.2] at t
  exact m_22 hd S t.1 t.2 (S.2.2.2.2.2.2.2.1.1 r.toNat (by omega)).1
theorem m_95 (hd : 12 ≤ d) (S : Cst p T c pt h) : jE d 95 [jP 32, jI r] h (some (jL (aLeft c pt r))) h := by
  obtain ⟨d, rfl⟩ : ∃ d', d = d' + 1 := ⟨d - 1, by omega⟩
  have o2 := S.2.2.2.2.2.2.1.2.2.2.1
  unfold aLeft
  refine jE_eq (Nat.le_of_ble_eq_true rfl) (c_95_0 (by omega) S.1 ⟨_, h, m_102 (by omega) S, S.1, fun z => ⟨by rw [if_neg (bz0 z)], rfl⟩, fun z => ?_⟩)
  have z := bz1 z
  exact ⟨z.1, by omega, _, h, S.row (by omega) z, S.1, by rw [if_pos z], rfl⟩
theorem jcmp_0 {a b : Int} : jcmp a b = 0 ↔ a = b := by
  unfold jcmp
  split
  · constructor <;> omega
  split
  · constructor <;> omega
  · constructor <;> omega
theorem jcmp_n {a b : Int} : jcmp a b < 0 ↔ a < b := by
  unfold jcmp
  split
  · constructor <;> omega
  split
  · constructor <;> omega
  · constructor <;> omega
theorem jcmp_p {a b : Int} : 0 < jcmp a b ↔ b < a := by
  unfold jcmp
  split
  · constructor <;> omega
  split
  · constructor <;> omega
  · constructor <;> omega
theorem ow_in {S O : List (Int × Int)} (z : 0 ≤ x ∧ x < tot S O) : ¬ owO S O x = -1 := by
  unfold owO
  rw [if_neg (by omega)]
  omega
theorem m_103 (hd : 12 ≤ d) (S : Cst p T c pt h) (z : isR c r) : jE d 103 [jP 32, jI r] h (some (jI (if isKp c pt r.toNat = true then 1 else 0))) h := by
  obtain ⟨d, rfl⟩ : ∃ d', d = d' + 1 := ⟨d - 1, by omega⟩
  have o2 := S.2.2.2.2.2.2.1.2.2.2.1
  have no := ow_in z
  obtain ⟨r1, r2, r3, r4, r5, r6, r7⟩ := S.owR_r no
  have b := (S.B.2.2.2.2.2.2.1 _ r7).1
  have e137 := (S.2.2.2.2.2.2.2.1.1 r.toNat (by omega)).2
  have er : ((r.toNat : Nat) : Int) = r := by omega
  refine jE_eq (Nat.le_of_ble_eq_true rfl) (c_103_0 (by omega) S.1 ⟨_, h, S.owR (by omega), S.1, fun y => absurd y no, fun _ => ⟨r4, r6, z.1, by omega, _, h, S.row (by omega) z, S.1, z.1, by omega, _, h, m_188 (by omega), S.1, ?_⟩⟩)
  rw [b, e137]
  unfold isKp
  rw [er]
  generalize leftV c pt r.toNat = A
  generalize w64 (-rowL c r.toNat 40) = B
  generalize ((dL c).getD (owO (dS c) (dR c) r).toNat zL).1 = q
  have c0 := jcmp_0 (a := A) (b := B)
  have c1 := jcmp_n (a := A) (b := B)
  have c2 := jcmp_p (a := A) (b := B)
  generalize jcmp A B = k at c0 c1 c2 ⊢
  have yes : ∀ v : Int, v = 1 → isKb q A B = true → some (jI v) = some (jI (if isKb q A B = true then (1 : Int) else 0)) ∧ h = h := fun v hv u => ⟨by rw [if_pos u, hv], rfl⟩
  have noo : ∀ v : Int, v = 0 → ¬ isKb q A B = true → some (jI v) = some (jI (if isKb q A B = true then (1 : Int) else 0)) ∧ h = h := fun v hv u => ⟨by rw [if_neg u, hv], rfl⟩
  refine ⟨fun k0 => yes _ rfl (isKb_t (by omega)), fun k0 => ⟨fun q0 => ⟨fun q1 => noo _ rfl (isKb_f (by omega)), fun q1 => ⟨fun k1 => noo _ rfl (isKb_f (by omega)), fun k1 => yes _ rfl (isKb_t (by omega))⟩⟩, fun q0 => ⟨fun k1 => yes _ rfl (isKb_t (by omega)), fun k1 => ?_⟩⟩⟩
  exact ⟨fun q1 => noo _ rfl (isKb_f (by omega)), fun q1 => by omega⟩
theorem m_96 (hd : 13 ≤ d) (S : Cst p T c pt h) : jE d 96 [jP 32, jI r] h (some (jI (aHolds c pt r))) h := by
  obtain ⟨d, rfl⟩ : ∃ d', d = d' + 1 := ⟨d - 1, by omega⟩
  unfold aHolds
  refine jE_eq (Nat.le_of_ble_eq_true rfl) (c_96_0 (by omega) S.1 ⟨_, h, m_102 (by omega) S, S.1, fun z => ⟨by rw [if_neg (bz0 z)], rfl⟩, fun z => ?_⟩)
  have z := bz1 z
  refine ⟨_, h, m_103 (by omega) S z, S.1, fun y => ⟨by rw [if_pos z, if_neg (bz0 y)], rfl⟩, fun y => ⟨by rw [if_pos z, if_pos (bz1 y)], rfl⟩⟩
theorem m_97 (hd : 13 ≤ d) (S : Cst p T c pt h) (hi : r32 i) : jE d 97 [jP 32, jI i] h (some (jI (aBrok c pt i))) h := by
  obtain ⟨d, rfl⟩ : ∃ d', d = d' + 1 := ⟨d - 1, by omega⟩
  have e : ji h (pD p + 22) 5 = tot (dS c) (dR c) := S.B.2.2.2.1.2.1
  have t40 := S.2.2.2.2.2.2.1.2.2.2.1
  have t0 : 0 ≤ tot (dS c) (dR c) := (tot_r S.ok.1 _).1
  have key : ∀ (s row a : Nat), (tot (dS c) (dR c)).toNat = row + s → (a : Int) ≤ i → a ≤ row → WF d 97 11 [jP 32, jI i, jI (a : Int), jI (row : Int)] [] h (fun v h' => v = some (jI (brN c pt s row (i - (a : Int)))) ∧ h' = h) := by
    intro s
    induction s with
    | zero =>
      intro row a hr ha ha2
      refine c_97_11 (by omega) S.1 ?_
      rw [e]
      exact ⟨fun _ => ⟨rfl, rfl⟩, fun z => by omega⟩
    | succ s ih =>
      intro row a hr ha ha2
      have zr : isR c (row : Int) := ⟨by omega, by omega⟩
      refine c_97_11 (by omega) S.1 ?_
      rw [e, w32_i (x := (row : Int) + 1) (by omega) (by omega), w32_i (x := (a : Int) + 1) (by omega) (by omega)]
      refine ⟨fun z => by omega, fun _ => ⟨_, h, m_103 (by omega) S zr, S.1, fun y => ?_, fun y => ?_⟩⟩
      · have y := bz0 y
        rw [Int.toNat_natCast] at y
        have eb : brN c pt (s + 1) row (i - (a : Int)) = if i - (a : Int) = 0 then (row : Int) else brN c pt s (row + 1) (i - (a : Int) - 1) := by
          show (if isKp c pt row = true then _ else _) = _
          rw [if_neg y]
        rw [eb]
        refine ⟨fun u => ⟨by rw [if_pos (by omega)], rfl⟩, fun u => ?_⟩
        rw [if_neg (by omega)]
        have q := ih (row + 1) (a + 1) (by omega) (by omega) (by omega)
        rw [show i - ((a + 1 : Nat) : Int) = i - (a : Int) - 1 by omega] at q
        exact q
      · have y := bz1 y
        rw [Int.toNat_natCast] at y
        have eb : brN c pt (s + 1) row (i - (a : Int)) = brN c pt s (row + 1) (i - (a : Int)) := by
          show (if isKp c pt row = true then _ else _) = _
          rw [if_pos y]
        rw [eb]
        exact ih (row + 1) a (by omega) ha (by omega)
  unfold aBrok
  refine jE_eq (Nat.le_of_ble_eq_true rfl) (c_97_0 (by omega) S.1 ⟨fun z => ?_, fun z => ⟨by rw [if_pos (by omega)], rfl⟩⟩)
  rw [if_neg (by omega)]
  have q := key (tot (dS c) (dR c)).toNat 0 0 (by omega) (by omega) (by omega)
  rw [show i - ((0 : Nat) : Int) = i by omega] at q
  exact q
theorem m_98 (hd : 12 ≤ d) (S : Cst p T c pt h) : jE d 98 [jP 32] h (some (jL (aWorth c pt))) h := by
  obtain ⟨d, rfl⟩ : ∃ d', d = d' + 1 := ⟨d - 1, by omega⟩
  have eg : ji h (pD p) 12 = dG c := S.B.2.2.2.2.2.2.2.1
  have M := S.2.2.2.2.2.2.2.1.2
  unfold aWorth
  refine jE_eq (Nat.le_of_ble_eq_true rfl) (c_98_0 (by omega) S.1 ?_)
  rw [eg]
  refine ⟨fun z => ⟨by rw [if_pos z], rfl⟩, fun z => ⟨_, h, m_22 (by omega) S S.1.t138 S.1.n138 (M z).1, S.1, ?_, rfl⟩⟩
  rw [if_neg z, (M z).2, w64_aa, Int.add_comm]
theorem m_100 (hd : 12 ≤ d) (S : Cst p T c pt h) (P : Pap W h) : jE d 100 [jP 32, jI i] h (some (jI (aOut W i))) h := by
  obtain ⟨d, rfl⟩ : ∃ d', d = d' + 1 := ⟨d - 1, by omega⟩
  have r0 : jr h 35 0 = 36 := S.1.r35_0
  have E := m_1 (d := d) (h := h) (a := 35) (i := i) (by omega) S.1.t35 (by rw [r0]; exact S.1.t36) (by rw [r0, P.1, S.1.n36]; have := P.2.1; omega)
  rw [r0, P.1] at E
  refine jE_eq (Nat.le_of_ble_eq_true rfl) (c_100_0 (by omega) S.1 ⟨_, h, E, S.1, ?_, rfl⟩)
  unfold aOut
  by_cases z : 0 ≤ i ∧ i < (W.length : Int)
  · rw [if_neg (by omega), if_pos z, P.2.2 i.toNat (by omega)]
  · rw [if_pos (by omega), if_neg z]
theorem m_94 (hd : 11 ≤ d) (S : Cst p T c pt h) : ∃ h', jE d 94 [jP 32, jI x, jI v] h (some (jI (aPut c pt x v))) h' ∧ Cst p T c (pPut c pt x v) h' ∧ Fe (fun a => a = 139) h h' := by
  suffices hh : ∃ w h', jE d 94 [jP 32, jI x, jI v] h w h' ∧ w = some (jI (aPut c pt x v)) ∧ Cst p T c (pPut c pt x v) h' ∧ Fe (fun a => a = 139) h h' by
    obtain ⟨w, h', hE, rfl, q⟩ := hh
    exact ⟨h', hE, q⟩
  obtain ⟨d, rfl⟩ : ∃ d', d = d' + 1 := ⟨d - 1, by omega⟩
  have S0 := S
  obtain ⟨L, hT, e1, N, B, W, O, M, P⟩ := S0
  have same : ∀ _ : Nat, (¬ (¬ owO (dS c) (dX c) x = -1 ∧ (((dB c).getD (owO (dS c) (dX c) x).toNat (0, 0)).1 ≤ v ∧ v ≤ ((dB c).getD (owO (dS c) (dX c) x).toNat (0, 0)).2))) → Cst p T c (pPut c pt x v) h ∧ Fe (fun a => a = 139) h h := fun _ z => by
    refine ⟨⟨L, hT, e1, N, B, W, O, M, fun k hk => ?_⟩, Fm.refl, rfl⟩
    rw [P k hk]
    unfold pPut
    rw [if_neg (fun y => z ⟨y.1, y.2.1⟩)]
  refine jE_of (as := [jP 32, jI x, jI v]) (Nat.le_of_ble_eq_true rfl) (c_94_0 (by omega) L ⟨_, h, S.owX (by omega), L, fun z => ⟨?_, same 0 (fun y => y.1 z)⟩, fun z => ?_⟩)
  · unfold aPut; rw [if_pos z]
  obtain ⟨r1, r2, r3, r4, r5, r6, r7⟩ := S.owX_r z
  have b := B.2.2.2.2.2.1 _ r7
  rw [b.1, b.2]
  unfold aPut
  rw [if_neg z]
  refine ⟨r4, r6, fun y => ⟨by rw [if_neg (by omega)], same 0 (fun u => by omega)⟩, fun y => ⟨r4, r6, fun u => ⟨r1, r3, r1, r3, fun L2 => ⟨?_, ?_, Fe.wi rfl⟩⟩, fun u => ⟨by rw [if_neg (by omega)], same 0 (fun t => by omega)⟩⟩⟩
  · rw [if_pos ⟨by omega, u⟩, P x.toNat (by omega)]
  · have F : Fm (fun a => a = 139) h (wi h 139 x.toNat v) := Fm.wi rfl
    have hx := L.nx
    have hN : NF = 197 := rfl
    have hD' := L.iD
    unfold isD at hD'
    refine ⟨L2, ⟨hT.1, hT.2.1, fun k hk => hT.2.2 k hk⟩, e1, N.cg (fun a k z1 z2 => F.ji (by omega) (by omega) k), B.kb (KB.of L L.iD F (fun a z => by omega)), W, O, ⟨M.1, M.2⟩, fun k hk => ?_⟩
    rw [ji_wi]
    unfold pPut
    by_cases e : k = x.toNat
    · rw [if_pos ⟨rfl, e⟩, if_pos ⟨z, ⟨by omega, u⟩, e⟩]
    · rw [if_neg (fun q => e q.2), if_neg (fun q => e q.2.2)]; exact P k hk
theorem m_82 (hd : 10 ≤ d) (S : Cst p T c pt h) : ∃ h', jE d 82 [jP 32, jI i] h (some (jI (aCut T i))) h' ∧ Cst p (tCut T i) c pt h' ∧ Fe (fun a => a = 33) h h' := by
  suffices hh : ∃ w h', jE d 82 [jP 32, jI i] h w h' ∧ w = some (jI (aCut T i)) ∧ Cst p (tCut T i) c pt h' ∧ Fe (fun a => a = 33) h h' by
    obtain ⟨w, h', hE, rfl, q⟩ := hh
    exact ⟨h', hE, q⟩
  obtain ⟨d, rfl⟩ : ∃ d', d = d' + 1 := ⟨d - 1, by omega⟩
  have hT := S.2.1
  have t4 := hT.1.1
  have e := hT.2.1
  refine jE_of (as := [jP 32, jI i]) (Nat.le_of_ble_eq_true rfl) (c_82_0 (by omega) S.1 ?_)
  rw [e]
  unfold aCut tCut
  have no : ∀ _ : Nat, ¬ (0 ≤ i ∧ i ≤ (T.1 : Int)) → (some (jI (-100002)) = some (jI (if 0 ≤ i ∧ i ≤ (T.1 : Int) then (T.1 : Int) - i else -100002)) ∧ Cst p (if 0 ≤ i ∧ i ≤ (T.1 : Int) then (i.toNat, T.2) else T) c pt h ∧ Fe (fun a => a = 33) h h) := fun _ z => by
    rw [if_neg z, if_neg z]
    exact ⟨rfl, S, Fm.refl, rfl⟩
  refine ⟨fun z => no 0 (by omega), fun z => ⟨fun y L2 => ?_, fun y => no 0 (by omega)⟩⟩
  have F : Fm (fun a => a = 33) h (wi h 33 1 i) := Fm.wi rfl
  rw [if_pos ⟨by omega, y⟩, if_pos ⟨by omega, y⟩, w32_i (x := (T.1 : Int) - i) (by omega) (by omega)]
  have hD' := S.1.iD
  unfold isD at hD'
  have hN : NF = 197 := rfl
  refine ⟨rfl, Cst.mv S L2 S.2.2.1 rfl ⟨⟨by show i.toNat ≤ 400; omega, fun k hk => hT.1.2 k (by have : k < i.toNat := hk; omega)⟩, ?_, fun k hk => ?_⟩ F (fun a z => by omega), F, rfl⟩
  · rw [ji_wi, if_pos ⟨rfl, rfl⟩]; show i = ((i.toNat : Nat) : Int); omega
  · have hk : k < i.toNat := hk
    rw [ji_wi, if_neg (by omega)]; exact hT.2.2 k (by omega)
end CPT
