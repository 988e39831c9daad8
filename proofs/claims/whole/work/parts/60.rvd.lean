/-! THE REFERENCE: a var is told, data are told -/
section RVD
variable {p : Lpar} {d : Nat} {h h' h0 h1 g : AH} {T : Txt} {e i k A : Nat} {c : Dc}
theorem lkNm_app {G : NmL} {l m : List Int} {s v : Int} (hG : ∀ e ∈ G, 0 ≤ e.2.1) : lkNm (G ++ [(l, s, v)]) m = if (lkNm G m).1 = -1 then (if l = m then (s, v) else (-1, -1)) else lkNm G m := by
  induction G with
  | nil => show (if l = m then (s, v) else (-1, -1)) = if (-1 : Int) = -1 then _ else _; rw [if_pos rfl]
  | cons e r ih =>
    have h0 := hG e (by simp)
    show (if e.1 = m then e.2 else lkNm (r ++ [(l, s, v)]) m) = if (if e.1 = m then e.2 else lkNm r m).1 = -1 then _ else (if e.1 = m then e.2 else lkNm r m)
    by_cases c : e.1 = m
    · rw [if_pos c, if_pos c, if_neg (by omega)]
    · rw [if_neg c, if_neg c]; exact ih (fun e he => hG e (List.mem_cons_of_mem _ he))
theorem pSetN_ext {G : NmL} {l : List Int} {s v : Int} (hG : ∀ e ∈ G, 0 ≤ e.2.1) (hs : ¬ s = 0) : pSetN T (G ++ [(l, s, v)]) i = pSetN T G i := by
  unfold pSetN lkT
  by_cases c : tkK T i = 1
  · rw [if_pos c, if_pos c, lkNm_app hG]
    by_cases c2 : (lkNm G (tkN T i)).1 = -1
    · rw [if_pos c2, if_neg (show ¬ (lkNm G (tkN T i)).1 = 0 by omega)]
      by_cases c3 : l = tkN T i
      · rw [if_pos c3, if_neg (show ¬ (s, v).1 = 0 from hs)]
      · rw [if_neg c3, if_neg (show ¬ ((-1 : Int), (-1 : Int)).1 = 0 by decide)]
    · rw [if_neg c2]
  · rw [if_neg c, if_neg c]
theorem pOf_ext {G : NmL} {l : List Int} {s v : Int} (hG : ∀ e ∈ G, 0 ≤ e.2.1) (hs : ¬ s = 0) : pOf T (G ++ [(l, s, v)]) i = pOf T G i := by
  unfold pOf
  rw [pSetN_ext hG hs]
  by_cases c : tkK T i = 191
  · rw [if_pos c, if_pos c]
    exact congrArg _ (funext fun q => by rw [pSetN_ext hG hs])
  · rw [if_neg c, if_neg c]
theorem RDc.fA {m : Nat} (D : RDc h c i) {A : Nat} (hA : (A = 147 ∧ m = (dT c).length) ∨ (A = 150 ∧ m = (dX c).length)) (F : Fq (ZA A m) h h') : RDc h' c i := by
  obtain ⟨d1, ⟨b1, b2, b3, b4, b5⟩, A', d3, d4, d5⟩ := D
  refine ⟨d1.fq F (fun k z => by omega) (fun a k z => by omega), ⟨fun k hk => ⟨(F.i (by omega)).trans (b1 k hk).1, (F.i (by omega)).trans (b1 k hk).2⟩, fun k hk => ⟨(F.i (by omega)).trans (b2 k hk).1, (F.i (by omega)).trans (b2 k hk).2⟩, fun k j hk hj => (F.i (by omega)).trans (b3 k j hk hj), fun k hk => ⟨(F.i (by omega)).trans (b4 k hk).1, (F.i (by omega)).trans (b4 k hk).2⟩, fun k hk => ⟨(F.i (by omega)).trans (b5 k hk).1, (F.i (by omega)).trans (b5 k hk).2⟩⟩, A', (F.i (by omega)).trans d3, d4, d5.cg (Nat.le_refl _) (fun a k z => F.i (by omega)) (fun a k z => F.l (by omega))⟩
theorem Fq.aP {A m : Nat} (hA : A = 147 ∨ A = 150) (F : Fq (ZA A m) h g) : Fq ZP h g := F.mono (fun a k z => by omega)
theorem RT.fA {A m : Nat} (hA : A = 147 ∨ A = 150) (R : RT p T e h) (F : Fq (ZA A m) h g) : RT p T e g := R.fq F (fun a k z => by omega) (by omega) (fun k => by omega)
section F131
variable {Q : Option AV → AH → Prop} {v1 v2 v3 v4 : Int} {z1 z2 z3 z4 : AV}
theorem f131_99 (hd : 13 ≤ d) (L : Ly p h) (hq : ¬ ji h 141 6 = -1) (H : Q none h) : WF d 131 99 [jP 141, jI v1, jI v2, jI v3, jI v4] [] h Q := c_131_99 (by omega) L ⟨0, h, e_121 (by omega) L hq, L, fun _ => c_131_149 (by omega) L H, fun z => absurd rfl z⟩
theorem f131_81 (hd : 13 ≤ d) (L : Ly p h) (hq : ¬ ji h 141 6 = -1) (H : Q none h) : WF d 131 81 [jP 141, jI v1, jI v2, jI v3, jI v4] [] h Q := c_131_81 (by omega) L ⟨fun z => absurd z hq, fun _ => f131_99 hd L hq H⟩
theorem f131_70 (hd : 13 ≤ d) (L : Ly p h) (hq : ¬ ji h 141 6 = -1) (H : Q none h) : WF d 131 70 [jP 141, jI v1, jI v2, z3, z4] [] h Q := c_131_70 (by omega) L (c_131_75 (by omega) L ⟨0, h, e_128 (by omega) L hq, L, f131_81 hd L hq H⟩)
theorem f131_63 (hd : 13 ≤ d) (L : Ly p h) (hq : ¬ ji h 141 6 = -1) (H : Q none h) : WF d 131 63 [jP 141, jI v1, jI v2, z3, z4] [] h Q := c_131_63 (by omega) L ⟨0, h, e_120 (by omega) L hq, L, f131_70 hd L hq H⟩
theorem f131_58 (hd : 13 ≤ d) (L : Ly p h) (hq : ¬ ji h 141 6 = -1) (H : Q none h) : WF d 131 58 [jP 141, jI v1, z2, z3, z4] [] h Q := c_131_58 (by omega) L ⟨0, h, e_128 (by omega) L hq, L, f131_63 hd L hq H⟩
theorem f131_51 (hd : 13 ≤ d) (L : Ly p h) (hq : ¬ ji h 141 6 = -1) (H : Q none h) : WF d 131 51 [jP 141, jI v1, z2, z3, z4] [] h Q := c_131_51 (by omega) L ⟨0, h, e_120 (by omega) L hq, L, f131_58 hd L hq H⟩
theorem f131_26 (hd : 13 ≤ d) (L : Ly p h) (hq : ¬ ji h 141 6 = -1) (H : Q none (wi (wi h 150 0 (-1)) 150 1 (-1))) : WF d 131 26 [jP 141, jI v1, z2, z3, z4] [] h Q := by
  have L2 : Ly p (wi (wi h 150 0 (-1)) 150 1 (-1)) := (L.wi (by decide)).wi (by decide)
  exact c_131_26 (by omega) L ⟨fun z => absurd z hq, fun _ => ⟨_, e_126v (by omega) L hq, L2, f131_51 hd L2 (by rw [ji_wi, if_neg (by omega), ji_wi, if_neg (by omega)]; exact hq) H⟩⟩
theorem f131_21 (hd : 13 ≤ d) (L : Ly p h) (hq : ¬ ji h 141 6 = -1) (H : Q none (wi (wi h 150 0 (-1)) 150 1 (-1))) : WF d 131 21 [jP 141, z1, z2, z3, z4] [] h Q := c_131_21 (by omega) L ⟨-1, h, e_124 (by omega) L hq, L, f131_26 hd L hq H⟩
end F131
theorem rd_bad2 {A q : Nat} (hA : A = 147 ∨ A = 150) {R : Er (Dc × Nat)} (hR : R = .error q) (L : Ly p g) (F : Fq ZP h g) (h6 : ji g 141 6 = (q : Int)) : RdP p T e h R (wi (wi g A 0 (-1)) A 1 (-1)) := rd_bad hR ((L.wi (by omega)).wi (by omega)) ((F.trans (Fq.wi (by omega))).trans (Fq.wi (by omega))) (by rw [ji_wi, if_neg (by omega), ji_wi, if_neg (by omega)]; exact h6)
/-- the end of a var -/
theorem var_end (D : RDc g c i) (O : okD c) {nm : List Int} (hn : okN nm) (hf : (lkNm (dN c) nm).1 = -1) (hl : (dX c).length < 6) {a b : Int} {u : Int × Int} {j : Nat} (hij : i ≤ j) (hu : ji g 150 (2 * (dX c).length) = u.1 ∧ ji g 150 (2 * (dX c).length + 1) = u.2) : RDc (wi (wi (wi (wi g 149 (dX c).length (c27 nm)) 151 (dX c).length a) 152 (dX c).length b) 141 15 ((dX c).length + 1 : Int)) (dN c ++ [(nm, 2, ((dX c).length : Int))], dS c, dT c, dV c, dX c ++ [u], dB c ++ [(a, b)], c.2.2.2.2.2.2) j := by
  obtain ⟨M, B, A, e33, hA, Rr⟩ := D
  have hs : ∀ x k, ¬ (x = 149 ∧ k = (dX c).length) → ¬ (x = 151 ∧ k = (dX c).length) → ¬ (x = 152 ∧ k = (dX c).length) → ¬ (x = 141 ∧ k = 15) → ji (wi (wi (wi (wi g 149 (dX c).length (c27 nm)) 151 (dX c).length a) 152 (dX c).length b) 141 15 ((dX c).length + 1 : Int)) x k = ji g x k := fun x k z1 z2 z3 z4 => by rw [ji_wi, if_neg z4, ji_wi, if_neg z3, ji_wi, if_neg z2, ji_wi, if_neg z1]
  have e7 : ji (wi (wi (wi (wi g 149 (dX c).length (c27 nm)) 151 (dX c).length a) 152 (dX c).length b) 141 15 ((dX c).length + 1 : Int)) 141 15 = ((dX c).length + 1 : Int) := by rw [ji_wi, if_pos ⟨rfl, rfl⟩]
  have e3 : ji (wi (wi (wi (wi g 149 (dX c).length (c27 nm)) 151 (dX c).length a) 152 (dX c).length b) 141 15 ((dX c).length + 1 : Int)) 149 (dX c).length = c27 nm := by rw [ji_wi, if_neg (by omega), ji_wi, if_neg (by omega), ji_wi, if_neg (by omega), ji_wi, if_pos ⟨rfl, rfl⟩]
  have e4 : ji (wi (wi (wi (wi g 149 (dX c).length (c27 nm)) 151 (dX c).length a) 152 (dX c).length b) 141 15 ((dX c).length + 1 : Int)) 151 (dX c).length = a := by rw [ji_wi, if_neg (by omega), ji_wi, if_neg (by omega), ji_wi, if_pos ⟨rfl, rfl⟩]
  have e5 : ji (wi (wi (wi (wi g 149 (dX c).length (c27 nm)) 151 (dX c).length a) 152 (dX c).length b) 141 15 ((dX c).length + 1 : Int)) 152 (dX c).length = b := by rw [ji_wi, if_neg (by omega), ji_wi, if_pos ⟨rfl, rfl⟩]
  have hL : ∀ x k, jl (wi (wi (wi (wi g 149 (dX c).length (c27 nm)) 151 (dX c).length a) 152 (dX c).length b) 141 15 ((dX c).length + 1 : Int)) x k = jl g x k := fun x k => by rw [jl_wi, jl_wi, jl_wi, jl_wi]
  generalize wi (wi (wi (wi g 149 (dX c).length (c27 nm)) 151 (dX c).length a) 152 (dX c).length b) 141 15 ((dX c).length + 1 : Int) = G at *
  have M0 := M.1
  have cn := O.cnt
  have ob := O.2.2.1
  refine ⟨?_, ⟨fun k hk => ?_, fun k hk => ?_, fun k j hk hj => ?_, fun k hk => ?_, fun k hk => ?_⟩, A, (hs _ _ (by omega) (by omega) (by omega) (by omega)).trans e33, by omega, Rr.cg (h' := G) (Nat.le_refl _) (fun x k z => hs _ _ (by omega) (by omega) (by omega) (by omega)) (fun x k z => hL x k)⟩
  · refine NmM.add (s := 2) (n := cnt c) M hn hf (by decide) ?_ (fun t ht => ?_) ?_ ⟨?_, ?_, ?_, ?_, ?_⟩ (fun x k z1 z2 => ?_) e3
    · show (dX c ++ [u]).length = (dX c).length + 1; rw [List.length_append]; rfl
    · unfold cnt
      by_cases t0 : t = 0
      · rw [if_pos t0, if_pos t0]
      · rw [if_neg t0, if_neg t0]
        by_cases t1 : t = 1
        · rw [if_pos t1, if_pos t1]
        · rw [if_neg t1, if_neg t1, if_neg ht, if_neg ht]
    · refine ⟨cn.1, cn.2.1, ?_, cn.2.2.2, by show 0 ≤ 18; decide⟩
      show (dX c ++ [u]).length ≤ 6
      rw [List.length_append]; show (dX c).length + 1 ≤ 6; omega
    · exact (hs _ _ (by omega) (by omega) (by omega) (by omega)).trans M0.1
    · exact (hs _ _ (by omega) (by omega) (by omega) (by omega)).trans M0.2.1
    · rw [e7]; show _ = ((dX c ++ [u]).length : Int); rw [List.length_append]; rfl
    · exact (hs _ _ (by omega) (by omega) (by omega) (by omega)).trans M0.2.2.2.1
    · exact (hs _ _ (by omega) (by omega) (by omega) (by omega)).trans M0.2.2.2.2
    · exact hs _ _ (fun z => z2 ⟨z.1, z.2⟩) (by omega) (by omega) (by omega)
  · rw [hs _ _ (by omega) (by omega) (by omega) (by omega), hs _ _ (by omega) (by omega) (by omega) (by omega)]; exact B.1 k hk
  · rw [hs _ _ (by omega) (by omega) (by omega) (by omega), hs _ _ (by omega) (by omega) (by omega) (by omega)]; exact B.2.1 k hk
  · rw [hs _ _ (by omega) (by omega) (by omega) (by omega)]; exact B.2.2.1 k j hk hj
  · have hk : k < (dX c ++ [u]).length := hk
    rw [List.length_append] at hk
    have hk : k < (dX c).length + 1 := hk
    show ji G 150 (2 * k) = ((dX c ++ [u]).getD k (-1, -1)).1 ∧ ji G 150 (2 * k + 1) = ((dX c ++ [u]).getD k (-1, -1)).2
    rw [getD_snoc, hs _ _ (by omega) (by omega) (by omega) (by omega), hs _ _ (by omega) (by omega) (by omega) (by omega)]
    by_cases ck : k < (dX c).length
    · rw [if_pos ck]; exact B.2.2.2.1 k ck
    · rw [if_neg ck, if_pos (by omega), show k = (dX c).length by omega]; exact hu
  · have hk : k < (dB c ++ [(a, b)]).length := hk
    rw [List.length_append] at hk
    have hk : k < (dB c).length + 1 := hk
    show ji G 151 k = ((dB c ++ [(a, b)]).getD k (0, 0)).1 ∧ ji G 152 k = ((dB c ++ [(a, b)]).getD k (0, 0)).2
    rw [getD_snoc]
    by_cases ck : k < (dB c).length
    · rw [if_pos ck, hs _ _ (by omega) (by omega) (by omega) (by omega), hs _ _ (by omega) (by omega) (by omega) (by omega)]; exact B.2.2.2.2 k ck
    · rw [if_neg ck, if_pos (by omega), show k = (dX c).length by omega]; exact ⟨e4, e5⟩
theorem pNew_ok {G : NmL} {a : List Int × Nat} (hr : pNew T G i = .ok a) : okN a.1 ∧ (lkNm G a.1).1 = -1 ∧ a.2 = i + 1 := by
  unfold pNew at hr
  split at hr
  · rename_i z; cases hr; exact ⟨(tkG_all T _).2 z.1, z.2, rfl⟩
  · cases hr
theorem var_2 (hd : 19 ≤ d) (R : RT p T e g) (K : RtR T e k g) (D : RDc g c i) (O : okD c) (hF : Fq ZP h g) (hl : (dX c).length < 6) (hik : i ≤ k) {nm : List Int} (hn : okN nm) (hf : (lkNm (dN c) nm).1 = -1) {v1 : Int} (hv : v1 = c27 nm) {u : Int × Int} (hu : ji g 150 (2 * (dX c).length) = u.1 ∧ ji g 150 (2 * (dX c).length + 1) = u.2) {z2 z3 z4 : AV} {X : Er (Dc × Nat)} (eP : X = xb (pTake T 18 k) fun j => xb (pVal T j) fun a => xb (pTake T 22 a.2) fun j2 => xb (pVal T j2) fun b => if b.1 < a.1 then .error (tkP T j2) else xb (pTake T 159 b.2) fun j => .ok ((dN c ++ [(nm, 2, ((dX c).length : Int))], dS c, dT c, dV c, dX c ++ [u], dB c ++ [(a.1, b.1)], c.2.2.2.2.2.2), j)) : WF d 131 51 [jP 141, jI v1, z2, z3, z4] [] g (fun w h' => w = none ∧ RdP p T e h X h') := by
  have L := R.1
  by_cases c1 : ¬ (tkK T k = 18)
  · refine c_131_51 (by omega) L ⟨0, _, n_120 (by omega) L K c1, L.wi (by decide), ?_⟩
    refine f131_58 (by omega) (L.wi (by decide)) (by rw [w6_r]; omega) ⟨rfl, rd_bad (q := tkP T k) ?_ (L.wi (by decide)) (hF.trans f6.toP) w6_r⟩
    rw [eP, take_n c1]; rfl
  have c1 := Decidable.not_not.mp c1
  obtain ⟨h2, hE2, L2, G2, K2⟩ := y_120 (d := d) (k := 18) (by omega) R K c1 (by decide)
  have F2 : Fq ZF g h2 := G2.toF
  refine c_131_51 (by omega) L ⟨1, h2, hE2, L2, ?_⟩
  rw [take_y c1, xb_pure] at eP
  obtain ⟨x3, h3, hE3, L3, G3, S3⟩ := t_128 (d := d) (s := .ok (k + 1)) (by omega) (R.fF F2) K2
  have F3 := F2.trans G3
  refine c_131_58 (by omega) L2 ⟨x3, h3, hE3, L3, ?_⟩
  have S3 : RV T e (pVal T (k + 1)) (fun r => r.2) (fun r => x3 = r.1) h3 := S3
  clear hE2 hE3
  rcases S3.cs with ⟨q, hr, h6⟩ | ⟨a, hr, va, K3⟩
  · rw [hr] at eP
    exact f131_63 (by omega) L3 (nq h6) ⟨rfl, rd_bad eP L3 (hF.trans F3.toP) h6⟩
  have ba := pVal_ok (tkG_all T) hr
  rw [hr, xb_pure] at eP
  by_cases c2 : ¬ (tkK T a.2 = 22)
  · refine c_131_63 (by omega) L3 ⟨0, _, n_120 (by omega) L3 K3 c2, L3.wi (by decide), ?_⟩
    refine f131_70 (by omega) (L3.wi (by decide)) (by rw [w6_r]; omega) ⟨rfl, rd_bad (q := tkP T a.2) ?_ (L3.wi (by decide)) (hF.trans (F3.trans f6).toP) w6_r⟩
    rw [eP, take_n c2]; rfl
  have c2 := Decidable.not_not.mp c2
  obtain ⟨h4, hE4, L4, G4, K4⟩ := y_120 (d := d) (k := 22) (by omega) (R.fF F3) K3 c2 (by decide)
  have F4 := F3.trans G4.toF
  refine c_131_63 (by omega) L3 ⟨1, h4, hE4, L4, c_131_70 (by omega) L4 ?_⟩
  rw [take_y c2, xb_pure] at eP
  obtain ⟨x5, h5, hE5, L5, G5, S5⟩ := t_128 (d := d) (s := .ok (a.2 + 1)) (by omega) (R.fF F4) K4
  have F5 := F4.trans G5
  refine c_131_75 (by omega) L4 ⟨x5, h5, hE5, L5, ?_⟩
  rw [K4.2.2.1]
  have S5 : RV T e (pVal T (a.2 + 1)) (fun r => r.2) (fun r => x5 = r.1) h5 := S5
  clear hE4 hE5
  rcases S5.cs with ⟨q, hr, h6⟩ | ⟨b, hr, vb, K5⟩
  · rw [hr] at eP
    exact f131_81 (by omega) L5 (nq h6) ⟨rfl, rd_bad eP L5 (hF.trans F5.toP) h6⟩
  have bb := pVal_ok (tkG_all T) hr
  rw [hr, xb_pure] at eP
  rw [va, vb]
  refine c_131_81 (by omega) L5 ⟨fun _ => ⟨fun c3 => ?_, fun c3 => ⟨fun _ L6 => f131_99 (by omega) L6 (by rw [w6_r]; omega) ⟨rfl, rd_bad (q := tkP T (a.2 + 1)) (by rw [eP, if_pos (by omega)]) L6 (hF.trans (F5.trans f6).toP) w6_r⟩, fun z => absurd K5.2.2.2.2.2.2 z⟩⟩, fun z => absurd K5.2.2.2.2.2.2 z⟩
  rw [if_neg (by omega)] at eP
  by_cases c4 : ¬ (tkK T b.2 = 159)
  · refine c_131_99 (by omega) L5 ⟨0, _, n_121 (by omega) L5 K5 c4 (by decide), L5.wi (by decide), fun _ => c_131_149 (by omega) (L5.wi (by decide)) ⟨rfl, rd_bad (q := tkP T b.2) ?_ (L5.wi (by decide)) (hF.trans (F5.trans f6).toP) w6_r⟩, fun z => absurd rfl z⟩
    rw [eP, take_n c4]; rfl
  have c4 := Decidable.not_not.mp c4
  obtain ⟨h7, hE7, L7, G7, K7⟩ := y_121 (d := d) (x := 59) (by omega) (R.fF F5) K5 c4 (by decide) (by decide)
  have F7 := F5.trans G7.toF
  have D7 := D.fF F7
  have e15 : ji h7 141 15 = ((dX c).length : Int) := D7.1.1.2.2.1
  rw [take_y c4] at eP
  rw [eP]
  refine c_131_99 (by omega) L5 ⟨1, h7, hE7, L7, fun z => absurd z (by decide), fun _ => ?_⟩
  rw [e15, Int.toNat_natCast]
  refine ⟨by omega, by omega, fun L10 => c_131_118 (by omega) L10 ?_⟩
  rw [ji_wi, if_neg (by omega), e15, Int.toNat_natCast]
  refine ⟨by omega, by omega, fun L11 => c_131_128 (by omega) L11 ?_⟩
  rw [ji_wi, if_neg (by omega), ji_wi, if_neg (by omega), e15, Int.toNat_natCast]
  refine ⟨by omega, by omega, fun L12 => c_131_139 (by omega) L12 ?_⟩
  rw [ji_wi, if_neg (by omega), ji_wi, if_neg (by omega), ji_wi, if_neg (by omega), e15, w32_i (x := ((dX c).length : Int) + 1) (by omega) (by omega)]
  intro L13
  have fE : Fq ZP h7 (wi (wi (wi (wi h7 149 (dX c).length v1) 151 (dX c).length a.1) 152 (dX c).length b.1) 141 15 ((dX c).length + 1 : Int)) := (((Fq.wi (by omega)).trans (Fq.wi (by omega))).trans (Fq.wi (by omega))).trans (Fq.wi (by omega))
  have DE := var_end (a := a.1) (b := b.1) (u := u) (j := b.2 + 1) D7 O hn hf hl (by omega) ⟨by rw [F7.i (by omega)]; exact hu.1, by rw [F7.i (by omega)]; exact hu.2⟩
  rw [← hv] at DE
  refine c_131_149 (by omega) L13 ⟨rfl, L13, (hF.trans F7.toP).trans fE, ?_, DE⟩
  exact K7.fq (((Fq.wi (Z := fun a k => a = 149 ∨ a = 151 ∨ a = 152 ∨ (a = 141 ∧ k = 15)) (by omega)).trans (Fq.wi (by omega))).trans (Fq.wi (by omega)) |>.trans (Fq.wi (by omega))) (fun k z1 z2 => by omega)
theorem q_131 (hd : 21 ≤ d) (R : RT p T e h) (K : RtR T e i h) (hk : tkK T i = 12) (D : RDc h c i) (O : okD c) : ∃ w h', jE d 131 [jP 141] h w h' ∧ (w = none ∧ RdP p T e h (pVar T c i) h') := by
  obtain ⟨d, rfl⟩ : ∃ d', d = d' + 1 := ⟨d - 1, by omega⟩
  have cn := O.cnt
  obtain ⟨h1, hE1, L1, F1, K1⟩ := t_118 (d := d) (by omega) R K (by rw [hk]; decide)
  have F1 : Fq ZF h h1 := F1.toF
  refine jE_of (as := [jP 141]) (Nat.le_of_ble_eq_true rfl) (c_131_0 (by omega) R.1 ⟨h1, hE1, L1, ?_⟩)
  have e15 : ji h1 141 15 = ((dX c).length : Int) := (D.fF F1).1.1.2.2.1
  have eP : pVar T c i = xb (pName T (dN c) (dX c).length 6 i) fun q => xb (pOf T (dN c ++ [(q.1, 2, ((dX c).length : Int))]) q.2) fun o => xb (pTake T 18 o.2.2) fun j => xb (pVal T j) fun a => xb (pTake T 22 a.2) fun j2 => xb (pVal T j2) fun b => if b.1 < a.1 then .error (tkP T j2) else xb (pTake T 159 b.2) fun j => .ok ((dN c ++ [(q.1, 2, ((dX c).length : Int))], dS c, dT c, dV c, dX c ++ [(o.1, o.2.1)], dB c ++ [(a.1, b.1)], c.2.2.2.2.2.2), j) := rfl
  rw [pName_eq cn.2.2.1] at eP
  by_cases c6 : (dX c).length = 6
  · rw [if_pos c6] at eP
    refine c_131_4 (by omega) L1 ⟨fun _ => ⟨fun _ L2 => f131_21 (by omega) L2 (by rw [w6_r, K1.2.2.1]; omega) ⟨rfl, rd_bad2 (Or.inr rfl) eP L2 (F1.trans f6).toP (by rw [w6_r]; exact K1.2.2.1)⟩, fun z => absurd K1.2.2.2.2.2.2 z⟩, fun z => by omega⟩
  rw [if_neg c6] at eP
  refine c_131_4 (by omega) L1 ⟨fun z => by omega, fun _ => ?_⟩
  obtain ⟨v1, h3, hE3, L3, G3, S3⟩ := t_124 (d := d) (s := .ok (i + 1)) (by omega) (R.fF F1) K1 (D.fF F1).1
  have F3 := F1.trans G3
  refine c_131_21 (by omega) L1 ⟨v1, h3, hE3, L3, ?_⟩
  rcases S3.cs with ⟨q, hr, h6⟩ | ⟨a, hr, va, K3⟩
  · rw [hr] at eP
    exact f131_26 (by omega) L3 (nq h6) ⟨rfl, rd_bad2 (Or.inr rfl) eP L3 F3.toP h6⟩
  have na := pNew_ok (show pNew T (dN c) (i + 1) = .ok a from hr)
  have hG : ∀ e ∈ dN c, 0 ≤ e.2.1 := fun e he => (O.1.1.2.1 e he).2.1
  rw [hr, xb_pure, pOf_ext hG (by decide)] at eP
  have D3 := D.fF F3
  have e3 : ji h3 141 15 = ((dX c).length : Int) := D3.1.1.2.2.1
  refine c_131_26 (by omega) L3 ⟨fun _ => ?_, fun z => absurd K3.2.2.2.2.2.2 z⟩
  rw [e3, w32_i (by omega) (by omega), show (2 : Int) * ((dX c).length : Int) = ((2 * (dX c).length : Nat) : Int) by omega]
  obtain ⟨w, h4, hE4, rfl, L4, G4, S4⟩ := o_126v (d := d) (by omega) (R.fF F3) K3 D3.1 (m := (dX c).length) (by omega)
  have F4 : Fq ZP h h4 := F3.toP.trans (G4.aP (Or.inr rfl))
  refine ⟨h4, hE4, L4, ?_⟩
  rcases S4.cs with ⟨q, hr, h6⟩ | ⟨o, hr, vo, K4⟩
  · rw [hr] at eP
    exact f131_51 (by omega) L4 (nq h6) ⟨rfl, rd_bad eP L4 F4 h6⟩
  have ho := pOf_ok O.1.1 (fun e he => (O.1.2.2.2.2.2.2.2.2.2 e he).1) hr
  rw [hr, xb_pure] at eP
  exact var_2 (by omega) ((R.fF F3).fA (Or.inr rfl) G4) K4 (D3.fA (Or.inr ⟨rfl, rfl⟩) G4) O F4 (by omega) (by omega) na.1 na.2.1 va vo eP
end RVD
