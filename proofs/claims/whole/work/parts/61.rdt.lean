/-! THE REFERENCE: data are told -/
section RDT
variable {p : Lpar} {d : Nat} {h h' h0 h1 g : AH} {T : Txt} {e i k A n : Nat} {c : Dc}
section F130
variable {Q : Option AV → AH → Prop} {v1 v2 v3 v4 : Int} {z1 z2 z3 z4 : AV}
theorem f130_102 (hd : 13 ≤ d) (L : Ly p h) (hq : ¬ ji h 141 6 = -1) (H : Q none h) : WF d 130 102 [jP 141, jI v1, jI v2, jI v3] [] h Q := c_130_102 (by omega) L ⟨fun _ => ⟨0, h, e_121 (by omega) L hq, L, fun _ => c_130_167 (by omega) L H, fun z => absurd rfl z⟩, fun _ => ⟨fun z => absurd z hq, fun _ => ⟨0, h, e_121 (by omega) L hq, L, fun _ => c_130_167 (by omega) L H, fun z => absurd rfl z⟩⟩⟩
theorem f130_58 (hd : 13 ≤ d) (L : Ly p h) (hq : ¬ ji h 141 6 = -1) (H : Q none h) : WF d 130 58 [jP 141, jI v1, z2, z3] [] h Q := c_130_58 (by omega) L ⟨fun z => absurd z hq, fun _ => H⟩
theorem f130_51 (hd : 13 ≤ d) (L : Ly p h) (hq : ¬ ji h 141 6 = -1) (H : Q none h) : WF d 130 51 [jP 141, jI v1, z2, z3] [] h Q := c_130_51 (by omega) L ⟨0, h, e_121 (by omega) L hq, L, f130_58 hd L hq H⟩
theorem f130_26 (hd : 13 ≤ d) (L : Ly p h) (hq : ¬ ji h 141 6 = -1) (H : Q none (wi (wi h 147 0 (-1)) 147 1 (-1))) : WF d 130 26 [jP 141, jI v1, z2, z3] [] h Q := by
  have L2 : Ly p (wi (wi h 147 0 (-1)) 147 1 (-1)) := (L.wi (by decide)).wi (by decide)
  exact c_130_26 (by omega) L ⟨fun z => absurd z hq, fun _ => ⟨_, e_126d (by omega) L hq, L2, f130_51 hd L2 (by rw [ji_wi, if_neg (by omega), ji_wi, if_neg (by omega)]; exact hq) H⟩⟩
theorem f130_21 (hd : 13 ≤ d) (L : Ly p h) (hq : ¬ ji h 141 6 = -1) (H : Q none (wi (wi h 147 0 (-1)) 147 1 (-1))) : WF d 130 21 [jP 141, z1, z2, z3] [] h Q := c_130_21 (by omega) L ⟨-1, h, e_124 (by omega) L hq, L, f130_26 hd L hq H⟩
end F130
theorem RDc.f148 (D : RDc h c i) (hn : n = (dT c).length) {x : Int} {j : Nat} (hS : okS (dS c)) : RDc (wi h 148 (64 * n + j) x) c i := by
  obtain ⟨d1, ⟨b1, b2, b3, b4, b5⟩, A', d3, d4, d5⟩ := D
  have F : Fq (fun a k => a = 148 ∧ 64 * n ≤ k) h (wi h 148 (64 * n + j) x) := Fq.wi (by omega)
  refine ⟨d1.fq F (fun k z => by omega) (fun a k z => by omega), ⟨fun k hk => ⟨(F.i (by omega)).trans (b1 k hk).1, (F.i (by omega)).trans (b1 k hk).2⟩, fun k hk => ⟨(F.i (by omega)).trans (b2 k hk).1, (F.i (by omega)).trans (b2 k hk).2⟩, fun k j hk hj => ?_, fun k hk => ⟨(F.i (by omega)).trans (b4 k hk).1, (F.i (by omega)).trans (b4 k hk).2⟩, fun k hk => ⟨(F.i (by omega)).trans (b5 k hk).1, (F.i (by omega)).trans (b5 k hk).2⟩⟩, A', (F.i (by omega)).trans d3, d4, d5.cg (Nat.le_refl _) (fun a k z => F.i (by omega)) (fun a k z => F.l (by omega))⟩
  have := (sz2_r hS ((dT c).getD k (-1, -1)).1 ((dT c).getD k (-1, -1)).2).2
  rw [F.i (by omega)]
  exact b3 k j hk hj
/-- the end of data -/
theorem data_end (D : RDc g c i) (O : okD c) {nm : List Int} (hn : okN nm) (hf : (lkNm (dN c) nm).1 = -1) (hl : (dT c).length < 6) {u : Int × Int} {V : List Int} {j : Nat} (hij : i ≤ j) (hu : ji g 147 (2 * (dT c).length) = u.1 ∧ ji g 147 (2 * (dT c).length + 1) = u.2) (hV : ∀ x, x < (dV c).length → V.getD x 0 = (dV c).getD x 0) (hW : ∀ x : Nat, (x : Int) < szO (dS c) u.1 * szO (dS c) u.2 → ji g 148 (64 * (dT c).length + x) = V.getD ((dV c).length + x) 0) : RDc (wi (wi g 146 (dT c).length (c27 nm)) 141 11 ((dT c).length + 1 : Int)) (dN c ++ [(nm, 1, ((dT c).length : Int))], dS c, dT c ++ [u], V, c.2.2.2.2) j := by
  obtain ⟨M, B, A, e33, hA, Rr⟩ := D
  have hs : ∀ x k, ¬ (x = 146 ∧ k = (dT c).length) → ¬ (x = 141 ∧ k = 11) → ji (wi (wi g 146 (dT c).length (c27 nm)) 141 11 ((dT c).length + 1 : Int)) x k = ji g x k := fun x k z1 z4 => by rw [ji_wi, if_neg z4, ji_wi, if_neg z1]
  have e7 : ji (wi (wi g 146 (dT c).length (c27 nm)) 141 11 ((dT c).length + 1 : Int)) 141 11 = ((dT c).length + 1 : Int) := by rw [ji_wi, if_pos ⟨rfl, rfl⟩]
  have e3 : ji (wi (wi g 146 (dT c).length (c27 nm)) 141 11 ((dT c).length + 1 : Int)) 146 (dT c).length = c27 nm := by rw [ji_wi, if_neg (by omega), ji_wi, if_pos ⟨rfl, rfl⟩]
  have hL : ∀ x k, jl (wi (wi g 146 (dT c).length (c27 nm)) 141 11 ((dT c).length + 1 : Int)) x k = jl g x k := fun x k => by rw [jl_wi, jl_wi]
  generalize wi (wi g 146 (dT c).length (c27 nm)) 141 11 ((dT c).length + 1 : Int) = G at *
  have M0 := M.1
  have cn := O.cnt
  have oV := O.2.2.2.2.2.2.1.1
  have oS := O.1.2.1
  have oT := O.1.2.2.1
  refine ⟨?_, ⟨fun k hk => ?_, fun k hk => ?_, fun k j hk hj => ?_, fun k hk => ?_, fun k hk => ?_⟩, A, (hs _ _ (by omega) (by omega)).trans e33, by omega, Rr.cg (h' := G) (Nat.le_refl _) (fun x k z => hs _ _ (by omega) (by omega)) (fun x k z => hL x k)⟩
  · refine NmM.add (s := 1) (n := cnt c) M hn hf (by decide) ?_ (fun t ht => ?_) ?_ ⟨?_, ?_, ?_, ?_, ?_⟩ (fun x k z1 z2 => ?_) e3
    · show (dT c ++ [u]).length = (dT c).length + 1; rw [List.length_append]; rfl
    · unfold cnt
      by_cases t0 : t = 0
      · rw [if_pos t0, if_pos t0]
      · rw [if_neg t0, if_neg t0, if_neg ht, if_neg ht]
    · refine ⟨cn.1, ?_, cn.2.2.1, cn.2.2.2, by show 0 ≤ 18; decide⟩
      show (dT c ++ [u]).length ≤ 6
      rw [List.length_append]; show (dT c).length + 1 ≤ 6; omega
    · exact (hs _ _ (by omega) (by omega)).trans M0.1
    · rw [e7]; show _ = ((dT c ++ [u]).length : Int); rw [List.length_append]; rfl
    · exact (hs _ _ (by omega) (by omega)).trans M0.2.2.1
    · exact (hs _ _ (by omega) (by omega)).trans M0.2.2.2.1
    · exact (hs _ _ (by omega) (by omega)).trans M0.2.2.2.2
    · exact hs _ _ (fun z => z2 ⟨z.1, z.2⟩) (by omega)
  · rw [hs _ _ (by omega) (by omega), hs _ _ (by omega) (by omega)]; exact B.1 k hk
  · have hk : k < (dT c ++ [u]).length := hk
    rw [List.length_append] at hk
    have hk : k < (dT c).length + 1 := hk
    show ji G 147 (2 * k) = ((dT c ++ [u]).getD k (-1, -1)).1 ∧ ji G 147 (2 * k + 1) = ((dT c ++ [u]).getD k (-1, -1)).2
    rw [getD_snoc, hs _ _ (by omega) (by omega), hs _ _ (by omega) (by omega)]
    by_cases ck : k < (dT c).length
    · rw [if_pos ck]; exact B.2.1 k ck
    · rw [if_neg ck, if_pos (by omega), show k = (dT c).length by omega]; exact hu
  · have hk : k < (dT c ++ [u]).length := hk
    rw [List.length_append] at hk
    have hk : k < (dT c).length + 1 := hk
    have hj : (j : Int) < szO (dS c) ((dT c ++ [u]).getD k (-1, -1)).1 * szO (dS c) ((dT c ++ [u]).getD k (-1, -1)).2 := hj
    show ji G 148 (64 * k + j) = V.getD ((stO (dS c) (dT c ++ [u]) k).toNat + j) 0
    rw [getD_snoc] at hj
    rw [hs _ _ (by omega) (by omega), stO_snoc (by omega)]
    by_cases ck : k < (dT c).length
    · rw [if_pos ck] at hj
      have q1 := stO_succ (S := dS c) ck
      have q2 := (stO_r (S := dS c) oS (O := dT c) (k := k + 1) (by omega)).2
      have q3 := (stO_r (S := dS c) oS (O := dT c) (k := k) (by omega)).1
      rw [hV _ (by omega)]
      exact B.2.2.1 k j ck hj
    · rw [if_neg ck, if_pos (by omega)] at hj
      have ek : k = (dT c).length := by omega
      rw [ek, stO_len, ← oV, Int.toNat_natCast]
      exact hW j hj
  · rw [hs _ _ (by omega) (by omega), hs _ _ (by omega) (by omega)]; exact B.2.2.2.1 k hk
  · rw [hs _ _ (by omega) (by omega), hs _ _ (by omega) (by omega)]; exact B.2.2.2.2 k hk
theorem da_run (hd : 19 ≤ d) (O : okD c) (hl : (dT c).length < 6) {nm : List Int} (hn : okN nm) (hf : (lkNm (dN c) nm).1 = -1) {v1 : Int} (hv : v1 = c27 nm) {u : Int × Int} {P : Nat} (hP : szO (dS c) u.1 * szO (dS c) u.2 = (P : Int)) : ∀ (m j k : Nat) (g : AH) (V : List Int), m + j = P → RT p T e g → RtR T e k g → RDc g c i → Fq ZP h g → i ≤ k → V.length = (dV c).length + j → (∀ x, x < (dV c).length → V.getD x 0 = (dV c).getD x 0) → (∀ x : Nat, x < j → ji g 148 (64 * (dT c).length + x) = V.getD ((dV c).length + x) 0) → (ji g 147 (2 * (dT c).length) = u.1 ∧ ji g 147 (2 * (dT c).length + 1) = u.2) → WF d 130 102 [jP 141, jI v1, jI (P : Int), jI (j : Int)] [] g (fun w h' => w = none ∧ RdP p T e h (xb (pVals T m V k) fun l => xb (pTake T 159 l.2) fun j => .ok ((dN c ++ [(nm, 1, ((dT c).length : Int))], dS c, dT c ++ [u], l.1, c.2.2.2.2), j)) h') := by
  have oS := O.1.2.1
  have P64 : szO (dS c) u.1 * szO (dS c) u.2 ≤ 64 := (sz2_r oS u.1 u.2).2
  rw [hP] at P64
  intro m
  induction m with
  | zero =>
    intro j k g V hj R K D F hik hV1 hV2 hW hu
    have L := R.1
    have hj : j = P := by omega
    refine c_130_102 (by omega) L ⟨fun _ => ?_, fun z => absurd (by omega) z⟩
    show ∃ x4 h1, jE d 121 [jP 141, jI 59] g (some (jI x4)) h1 ∧ Ly p h1 ∧ (x4 = (0 : Int) → WF d 130 167 [jP 141, jI v1, jI (P : Int), jI (j : Int)] [] h1 (fun w h' => w = none ∧ RdP p T e h (xb (pTake T 159 k) fun j => .ok ((dN c ++ [(nm, 1, ((dT c).length : Int))], dS c, dT c ++ [u], V, c.2.2.2.2), j)) h')) ∧ (¬ (x4 = (0 : Int)) → 0 ≤ (ji h1 141 11) ∧ (ji h1 141 11) < 6 ∧ (Ly p (wi h1 146 (Int.toNat (ji h1 141 11)) v1) → WF d 130 157 [jP 141, jI v1, jI (P : Int), jI (j : Int)] [] (wi h1 146 (Int.toNat (ji h1 141 11)) v1) (fun w h' => w = none ∧ RdP p T e h (xb (pTake T 159 k) fun j => .ok ((dN c ++ [(nm, 1, ((dT c).length : Int))], dS c, dT c ++ [u], V, c.2.2.2.2), j)) h')))
    by_cases c4 : tkK T k = 159
    · obtain ⟨h7, hE7, L7, G7, K7⟩ := y_121 (d := d) (x := 59) (by omega) R K c4 (by decide) (by decide)
      have F7 := G7.toF
      have D7 := D.fF F7
      have e11 : ji h7 141 11 = ((dT c).length : Int) := D7.1.1.2.1
      rw [take_y c4]
      refine ⟨1, h7, hE7, L7, fun z => absurd z (by decide), fun _ => ?_⟩
      rw [e11, Int.toNat_natCast]
      refine ⟨by omega, by omega, fun L10 => c_130_157 (by omega) L10 ?_⟩
      rw [ji_wi, if_neg (by omega), e11, w32_i (by omega) (by omega)]
      intro L11
      have fE : Fq ZP h7 (wi (wi h7 146 (dT c).length v1) 141 11 ((dT c).length + 1 : Int)) := (Fq.wi (by omega)).trans (Fq.wi (by omega))
      have DE := data_end (u := u) (V := V) (j := k + 1) D7 O hn hf hl (by omega) ⟨by rw [F7.i (by omega)]; exact hu.1, by rw [F7.i (by omega)]; exact hu.2⟩ hV2 (fun x hx => by rw [F7.i (by omega)]; exact hW x (by omega))
      rw [← hv] at DE
      refine c_130_167 (by omega) L11 ⟨rfl, L11, (F.trans F7.toP).trans fE, ?_, DE⟩
      exact K7.fq ((Fq.wi (Z := fun a k => a = 146 ∨ (a = 141 ∧ k = 11)) (by omega)).trans (Fq.wi (by omega))) (fun k z1 z2 => by omega)
    · rw [take_n c4]
      exact ⟨0, _, n_121 (by omega) L K c4 (by decide), L.wi (by decide), fun _ => c_130_167 (by omega) (L.wi (by decide)) ⟨rfl, rd_bad (q := tkP T k) rfl (L.wi (by decide)) (F.trans f6.toP) w6_r⟩, fun z => absurd rfl z⟩
  | succ m ih =>
    intro j k g V hj R K D F hik hV1 hV2 hW hu
    have L := R.1
    have e11 : ji g 141 11 = ((dT c).length : Int) := D.1.1.2.1
    obtain ⟨x3, h3, hE3, L3, G3, S3⟩ := t_128 (d := d) (s := .ok k) (by omega) R K
    refine c_130_102 (by omega) L ⟨fun z => by omega, fun _ => ⟨fun _ => ⟨x3, h3, hE3, L3, ?_⟩, fun z => absurd K.2.2.2.2.2.2 z⟩⟩
    rw [e11, w32_i (x := 64 * ((dT c).length : Int)) (by omega) (by omega), w32_i (x := 64 * ((dT c).length : Int) + (j : Int)) (by omega) (by omega), show (64 * ((dT c).length : Int) + (j : Int)).toNat = 64 * (dT c).length + j by omega]
    refine ⟨by omega, by omega, fun L4 => c_130_132 (by omega) L4 ?_⟩
    rw [w32_i (by omega) (by omega)]
    have S3 : RV T e (pVal T k) (fun r => r.2) (fun r => x3 = r.1) h3 := S3
    have F4 : Fq ZP g (wi h3 148 (64 * (dT c).length + j) x3) := G3.toP.trans (Fq.wi (by omega))
    have eX : pVals T (m + 1) V k = xb (pVal T k) fun q => pVals T m (V ++ [q.1]) q.2 := rfl
    rw [eX]
    rcases S3.cs with ⟨q, hr, h6⟩ | ⟨a, hr, va, K3⟩
    · rw [hr]
      have e6 : ji (wi h3 148 (64 * (dT c).length + j) x3) 141 6 = (q : Int) := by rw [ji_wi, if_neg (by omega)]; exact h6
      exact f130_102 (by omega) L4 (nq e6) ⟨rfl, rd_bad rfl L4 (F.trans F4) e6⟩
    · have ba := pVal_ok (tkG_all T) hr
      rw [hr, xb_pure]
      refine ih (j + 1) a.2 _ (V ++ [a.1]) (by omega) (R.fq F4 (fun a k z => by omega) (by omega) (fun k => by omega)) (K3.fq (Fq.wi (Z := fun a k => a = 148) (by omega)) (fun k _ _ => by omega)) ((D.fF G3).f148 rfl oS) (F.trans F4) (by omega) (by rw [List.length_append]; show V.length + 1 = _; omega) (fun x hx => by rw [getD_app _ _ _ (by omega)]; exact hV2 x hx) (fun x hx => ?_) ⟨by rw [ji_wi, if_neg (by omega), G3.i (by omega)]; exact hu.1, by rw [ji_wi, if_neg (by omega), G3.i (by omega)]; exact hu.2⟩
      by_cases cx : x = j
      · rw [cx, ji_wi, if_pos ⟨rfl, rfl⟩, getD_snoc, if_neg (by omega), if_pos (by omega)]; exact va
      · rw [ji_wi, if_neg (by omega), G3.i (by omega), getD_app _ _ _ (by omega)]; exact hW x (by omega)
theorem many_sz (B : RTb h c) {s : Int} (hs : s = -1 ∨ (0 ≤ s ∧ s < ((dS c).length : Int))) : (if s = -1 then 1 else ji h 145 s.toNat) = szO (dS c) s := by
  unfold szO
  by_cases z : s = -1
  · rw [if_pos z, if_pos (by omega)]
  · rw [if_neg z, if_neg (by omega), (B.1 s.toNat (by omega)).2]
theorem q_130 (hd : 21 ≤ d) (R : RT p T e h) (K : RtR T e i h) (hk : tkK T i = 11) (D : RDc h c i) (O : okD c) : ∃ w h', jE d 130 [jP 141] h w h' ∧ (w = none ∧ RdP p T e h (pTab T c i) h') := by
  obtain ⟨d, rfl⟩ : ∃ d', d = d' + 1 := ⟨d - 1, by omega⟩
  have cn := O.cnt
  obtain ⟨h1, hE1, L1, F1, K1⟩ := t_118 (d := d) (by omega) R K (by rw [hk]; decide)
  have F1 : Fq ZF h h1 := F1.toF
  refine jE_of (as := [jP 141]) (Nat.le_of_ble_eq_true rfl) (c_130_0 (by omega) R.1 ⟨h1, hE1, L1, ?_⟩)
  have e11 : ji h1 141 11 = ((dT c).length : Int) := (D.fF F1).1.1.2.1
  have eP : pTab T c i = xb (pName T (dN c) (dT c).length 6 i) fun q => xb (pOf T (dN c ++ [(q.1, 1, ((dT c).length : Int))]) q.2) fun o => xb (pTake T 161 o.2.2) fun j => xb (pVals T (szO (dS c) o.1 * szO (dS c) o.2.1).toNat (dV c) j) fun l => xb (pTake T 159 l.2) fun j => .ok ((dN c ++ [(q.1, 1, ((dT c).length : Int))], dS c, dT c ++ [(o.1, o.2.1)], l.1, c.2.2.2.2), j) := rfl
  rw [pName_eq cn.2.1] at eP
  by_cases c6 : (dT c).length = 6
  · rw [if_pos c6] at eP
    refine c_130_4 (by omega) L1 ⟨fun _ => ⟨fun _ L2 => f130_21 (by omega) L2 (by rw [w6_r, K1.2.2.1]; omega) ⟨rfl, rd_bad2 (Or.inl rfl) eP L2 (F1.trans f6).toP (by rw [w6_r]; exact K1.2.2.1)⟩, fun z => absurd K1.2.2.2.2.2.2 z⟩, fun z => by omega⟩
  rw [if_neg c6] at eP
  refine c_130_4 (by omega) L1 ⟨fun z => by omega, fun _ => ?_⟩
  obtain ⟨v1, h3, hE3, L3, G3, S3⟩ := t_124 (d := d) (s := .ok (i + 1)) (by omega) (R.fF F1) K1 (D.fF F1).1
  have F3 := F1.trans G3
  refine c_130_21 (by omega) L1 ⟨v1, h3, hE3, L3, ?_⟩
  rcases S3.cs with ⟨q, hr, h6⟩ | ⟨a, hr, va, K3⟩
  · rw [hr] at eP
    exact f130_26 (by omega) L3 (nq h6) ⟨rfl, rd_bad2 (Or.inl rfl) eP L3 F3.toP h6⟩
  have na := pNew_ok (show pNew T (dN c) (i + 1) = .ok a from hr)
  have hG : ∀ e ∈ dN c, 0 ≤ e.2.1 := fun e he => (O.1.1.2.1 e he).2.1
  rw [hr, xb_pure, pOf_ext hG (by decide)] at eP
  have D3 := D.fF F3
  have e3 : ji h3 141 11 = ((dT c).length : Int) := D3.1.1.2.1
  refine c_130_26 (by omega) L3 ⟨fun _ => ?_, fun z => absurd K3.2.2.2.2.2.2 z⟩
  rw [e3, w32_i (by omega) (by omega), show (2 : Int) * ((dT c).length : Int) = ((2 * (dT c).length : Nat) : Int) by omega]
  obtain ⟨w, h4, hE4, rfl, L4, G4, S4⟩ := o_126d (d := d) (by omega) (R.fF F3) K3 D3.1 (m := (dT c).length) (by omega)
  have F4 : Fq ZP h h4 := F3.toP.trans (G4.aP (Or.inl rfl))
  refine ⟨h4, hE4, L4, ?_⟩
  rcases S4.cs with ⟨q, hr, h6⟩ | ⟨o, hr, vo, K4⟩
  · rw [hr] at eP
    exact f130_51 (by omega) L4 (nq h6) ⟨rfl, rd_bad eP L4 F4 h6⟩
  have ho := pOf_ok O.1.1 (fun e he => (O.1.2.2.2.2.2.2.2.2.2 e he).1) hr
  have ho1 : (o.1 = -1 ∧ o.2.1 = -1) ∨ (0 ≤ o.1 ∧ o.1 < ((dS c).length : Int) ∧ (o.2.1 = -1 ∨ (0 ≤ o.2.1 ∧ o.2.1 < ((dS c).length : Int)))) := ho.1
  rw [hr, xb_pure] at eP
  have R4 := (R.fF F3).fA (Or.inl rfl) G4
  have D4 := D3.fA (Or.inl ⟨rfl, rfl⟩) G4
  by_cases c5 : ¬ tkK T o.2.2 = 161
  · refine c_130_51 (by omega) L4 ⟨0, _, n_121 (by omega) L4 K4 c5 (by decide), L4.wi (by decide), ?_⟩
    refine f130_58 (by omega) (L4.wi (by decide)) (by rw [w6_r]; omega) ⟨rfl, rd_bad (q := tkP T o.2.2) ?_ (L4.wi (by decide)) (F4.trans f6.toP) w6_r⟩
    rw [eP, take_n c5]; rfl
  have c5 := Decidable.not_not.mp c5
  obtain ⟨h5, hE5, L5, G5, K5⟩ := y_121 (d := d) (x := 61) (by omega) R4 K4 c5 (by decide) (by decide)
  have D5 := D4.fF G5.toF
  have e5 : ji h5 141 11 = ((dT c).length : Int) := D5.1.1.2.1
  refine c_130_51 (by omega) L4 ⟨1, h5, hE5, L5, ?_⟩
  rw [take_y c5, xb_pure] at eP
  have u5 : ji h5 147 (2 * (dT c).length) = o.1 ∧ ji h5 147 (2 * (dT c).length + 1) = o.2.1 := ⟨by rw [G5.i (by omega)]; exact vo.1, by rw [G5.i (by omega)]; exact vo.2⟩
  refine c_130_58 (by omega) L5 ⟨fun _ => ?_, fun z => absurd K5.2.2.2.2.2.2 z⟩
  rw [e5, w32_i (x := 2 * ((dT c).length : Int)) (by omega) (by omega), w32_i (x := 2 * ((dT c).length : Int) + 1) (by omega) (by omega), show (2 * ((dT c).length : Int)).toNat = 2 * (dT c).length by omega, show (2 * ((dT c).length : Int) + 1).toNat = 2 * (dT c).length + 1 by omega, u5.1, u5.2, many_sz D5.2.1 (by omega), many_sz D5.2.1 (by omega)]
  have sz := sz2_r O.1.2.1 o.1 o.2.1
  have sz : 0 ≤ szO (dS c) o.1 * szO (dS c) o.2.1 ∧ szO (dS c) o.1 * szO (dS c) o.2.1 ≤ 64 := sz
  rw [w32_i (by omega) (by omega)]
  refine ⟨by omega, by omega, by omega, by omega, by omega, by omega, c_130_100 (by omega) L5 ?_⟩
  rw [eP]
  generalize hPP : (szO (dS c) o.1 * szO (dS c) o.2.1).toNat = PP
  have hP2 : szO (dS c) o.1 * szO (dS c) o.2.1 = (PP : Int) := by omega
  rw [hP2]
  exact da_run (i := i) (h := h) (by omega) O (by omega) na.1 na.2.1 va (u := (o.1, o.2.1)) hP2 PP 0 (o.2.2 + 1) h5 (dV c) (by omega) (R4.fF G5.toF) K5 D5 (F4.trans G5.toF.toP) (by omega) (by omega) (fun _ _ => rfl) (fun x hx => by omega) u5
end RDT
