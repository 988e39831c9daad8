/-! THE REFERENCE: the acts of a sum -/
/-- from act k on all goes well -/
def Gw (d : Nat) (v1 v2 : Int) (Q : Option AV → AH → Prop) (k : Nat) (h : AH) : Prop := ∀ z4, WF d 151 2 [jP 141, jI v1, jI v2, jI (k : Int), z4] [] h Q
/-- what stands while sums are worked out -/
def GoC (p : Lpar) (c : Dc) (h : AH) : Prop := Ly p h ∧ RTb h c ∧ okD c ∧ tot (dS c) (dX c) ≤ 40 ∧ ∀ k, k < (dX c).length → ji h 174 k = stO (dS c) (dX c) k
section RGA
variable {p : Lpar} {d : Nat} {h h' g : AH} {c : Dc} {b k m lo k' : Nat} {v v1 v2 v3 : Int} {Q : Option AV → AH → Prop}
theorem GoC.fq (C : GoC p c h) (F : Fq (ZGo b m) h h') : GoC p c h' := ⟨C.1.fq F (fun a k z => by omega), C.2.1.cg (fun a k z => F.i (by omega)), C.2.2.1, C.2.2.2.1, fun k hk => (F.i (by omega)).trans (C.2.2.2.2 k hk)⟩
theorem zk_go (F : Fq (ZK b) h h') : Fq (ZGo b m) h h' := F.mono (fun a k y => Or.inl y)
theorem g_go (hd : 9 ≤ d) (L : Ly p h) (K : Gw d v1 v2 Q k' h) : WF d 151 310 [jP 141, jI v1, jI v2, jI v3, jI (k' : Int)] [] h Q := c_151_310 hd L (c_151_313 hd L (K _))
theorem ga_0 (hd : 9 ≤ d) (L : Ly p h) (hk : k < 2000) (hV : (k : Int) < v2) (e : ji h 160 k = 0) (H : WF d 151 72 [jP 141, jI v1, jI v2, jI (k : Int), jI ((k + 1 : Nat) : Int)] [] h Q) : Gw d v1 v2 Q k h := by
  intro z4
  refine c_151_2 hd L ⟨fun z => by omega, fun _ => ?_⟩
  rw [w32_i (x := (k : Int) + 1) (by omega) (by omega)]
  refine c_151_12 hd L ?_
  rw [Int.toNat_natCast, e]
  exact ⟨by omega, by omega, fun z => absurd z (by omega), fun _ => H, fun z => absurd z (by omega), fun z => absurd z (by omega), fun z => absurd z (by omega), fun z => absurd z (by omega), fun z => absurd z (by omega), fun z => absurd z (by omega), fun z => absurd z (by omega), fun z => absurd z (by omega), fun z => absurd z (by omega)⟩
theorem ga_1 (hd : 9 ≤ d) (L : Ly p h) (hk : k < 2000) (hV : (k : Int) < v2) (e : ji h 160 k = 1) (H : WF d 151 80 [jP 141, jI v1, jI v2, jI (k : Int), jI ((k + 1 : Nat) : Int)] [] h Q) : Gw d v1 v2 Q k h := by
  intro z4
  refine c_151_2 hd L ⟨fun z => by omega, fun _ => ?_⟩
  rw [w32_i (x := (k : Int) + 1) (by omega) (by omega)]
  refine c_151_12 hd L ?_
  rw [Int.toNat_natCast, e]
  exact ⟨by omega, by omega, fun z => absurd z (by omega), fun z => absurd z (by omega), fun _ => H, fun z => absurd z (by omega), fun z => absurd z (by omega), fun z => absurd z (by omega), fun z => absurd z (by omega), fun z => absurd z (by omega), fun z => absurd z (by omega), fun z => absurd z (by omega), fun z => absurd z (by omega)⟩
theorem ga_2 (hd : 9 ≤ d) (L : Ly p h) (hk : k < 2000) (hV : (k : Int) < v2) (e : ji h 160 k = 2) (H : WF d 151 88 [jP 141, jI v1, jI v2, jI (k : Int), jI ((k + 1 : Nat) : Int)] [] h Q) : Gw d v1 v2 Q k h := by
  intro z4
  refine c_151_2 hd L ⟨fun z => by omega, fun _ => ?_⟩
  rw [w32_i (x := (k : Int) + 1) (by omega) (by omega)]
  refine c_151_12 hd L ?_
  rw [Int.toNat_natCast, e]
  exact ⟨by omega, by omega, fun z => absurd z (by omega), fun z => absurd z (by omega), fun z => absurd z (by omega), fun _ => H, fun z => absurd z (by omega), fun z => absurd z (by omega), fun z => absurd z (by omega), fun z => absurd z (by omega), fun z => absurd z (by omega), fun z => absurd z (by omega), fun z => absurd z (by omega)⟩
theorem ga_3 (hd : 9 ≤ d) (L : Ly p h) (hk : k < 2000) (hV : (k : Int) < v2) (e : ji h 160 k = 3) (H : WF d 151 102 [jP 141, jI v1, jI v2, jI (k : Int), jI ((k + 1 : Nat) : Int)] [] h Q) : Gw d v1 v2 Q k h := by
  intro z4
  refine c_151_2 hd L ⟨fun z => by omega, fun _ => ?_⟩
  rw [w32_i (x := (k : Int) + 1) (by omega) (by omega)]
  refine c_151_12 hd L ?_
  rw [Int.toNat_natCast, e]
  exact ⟨by omega, by omega, fun z => absurd z (by omega), fun z => absurd z (by omega), fun z => absurd z (by omega), fun z => absurd z (by omega), fun _ => H, fun z => absurd z (by omega), fun z => absurd z (by omega), fun z => absurd z (by omega), fun z => absurd z (by omega), fun z => absurd z (by omega), fun z => absurd z (by omega)⟩
theorem ga_4 (hd : 9 ≤ d) (L : Ly p h) (hk : k < 2000) (hV : (k : Int) < v2) (e : ji h 160 k = 4) (H : WF d 151 121 [jP 141, jI v1, jI v2, jI (k : Int), jI ((k + 1 : Nat) : Int)] [] h Q) : Gw d v1 v2 Q k h := by
  intro z4
  refine c_151_2 hd L ⟨fun z => by omega, fun _ => ?_⟩
  rw [w32_i (x := (k : Int) + 1) (by omega) (by omega)]
  refine c_151_12 hd L ?_
  rw [Int.toNat_natCast, e]
  exact ⟨by omega, by omega, fun z => absurd z (by omega), fun z => absurd z (by omega), fun z => absurd z (by omega), fun z => absurd z (by omega), fun z => absurd z (by omega), fun _ => H, fun z => absurd z (by omega), fun z => absurd z (by omega), fun z => absurd z (by omega), fun z => absurd z (by omega), fun z => absurd z (by omega)⟩
theorem ga_5 (hd : 9 ≤ d) (L : Ly p h) (hk : k < 2000) (hV : (k : Int) < v2) (e : ji h 160 k = 5) (H : WF d 151 188 [jP 141, jI v1, jI v2, jI (k : Int), jI ((k + 1 : Nat) : Int)] [] h Q) : Gw d v1 v2 Q k h := by
  intro z4
  refine c_151_2 hd L ⟨fun z => by omega, fun _ => ?_⟩
  rw [w32_i (x := (k : Int) + 1) (by omega) (by omega)]
  refine c_151_12 hd L ?_
  rw [Int.toNat_natCast, e]
  exact ⟨by omega, by omega, fun z => absurd z (by omega), fun z => absurd z (by omega), fun z => absurd z (by omega), fun z => absurd z (by omega), fun z => absurd z (by omega), fun z => absurd z (by omega), fun _ => H, fun z => absurd z (by omega), fun z => absurd z (by omega), fun z => absurd z (by omega), fun z => absurd z (by omega)⟩
theorem ga_6 (hd : 9 ≤ d) (L : Ly p h) (hk : k < 2000) (hV : (k : Int) < v2) (e : ji h 160 k = 6) (H : WF d 151 268 [jP 141, jI v1, jI v2, jI (k : Int), jI ((k + 1 : Nat) : Int)] [] h Q) : Gw d v1 v2 Q k h := by
  intro z4
  refine c_151_2 hd L ⟨fun z => by omega, fun _ => ?_⟩
  rw [w32_i (x := (k : Int) + 1) (by omega) (by omega)]
  refine c_151_12 hd L ?_
  rw [Int.toNat_natCast, e]
  exact ⟨by omega, by omega, fun z => absurd z (by omega), fun z => absurd z (by omega), fun z => absurd z (by omega), fun z => absurd z (by omega), fun z => absurd z (by omega), fun z => absurd z (by omega), fun z => absurd z (by omega), fun _ => H, fun z => absurd z (by omega), fun z => absurd z (by omega), fun z => absurd z (by omega)⟩
theorem ga_7 (hd : 9 ≤ d) (L : Ly p h) (hk : k < 2000) (hV : (k : Int) < v2) (e : ji h 160 k = 7) (H : WF d 151 275 [jP 141, jI v1, jI v2, jI (k : Int), jI ((k + 1 : Nat) : Int)] [] h Q) : Gw d v1 v2 Q k h := by
  intro z4
  refine c_151_2 hd L ⟨fun z => by omega, fun _ => ?_⟩
  rw [w32_i (x := (k : Int) + 1) (by omega) (by omega)]
  refine c_151_12 hd L ?_
  rw [Int.toNat_natCast, e]
  exact ⟨by omega, by omega, fun z => absurd z (by omega), fun z => absurd z (by omega), fun z => absurd z (by omega), fun z => absurd z (by omega), fun z => absurd z (by omega), fun z => absurd z (by omega), fun z => absurd z (by omega), fun z => absurd z (by omega), fun _ => H, fun z => absurd z (by omega), fun z => absurd z (by omega)⟩
theorem ga_8 (hd : 9 ≤ d) (L : Ly p h) (hk : k < 2000) (hV : (k : Int) < v2) (e : ji h 160 k = 8) (H : WF d 151 283 [jP 141, jI v1, jI v2, jI (k : Int), jI ((k + 1 : Nat) : Int)] [] h Q) : Gw d v1 v2 Q k h := by
  intro z4
  refine c_151_2 hd L ⟨fun z => by omega, fun _ => ?_⟩
  rw [w32_i (x := (k : Int) + 1) (by omega) (by omega)]
  refine c_151_12 hd L ?_
  rw [Int.toNat_natCast, e]
  exact ⟨by omega, by omega, fun z => absurd z (by omega), fun z => absurd z (by omega), fun z => absurd z (by omega), fun z => absurd z (by omega), fun z => absurd z (by omega), fun z => absurd z (by omega), fun z => absurd z (by omega), fun z => absurd z (by omega), fun z => absurd z (by omega), fun _ => H, fun z => absurd z (by omega)⟩
theorem ga_9 (hd : 9 ≤ d) (L : Ly p h) (hk : k < 2000) (hV : (k : Int) < v2) (e : ji h 160 k = 9) (H : WF d 151 293 [jP 141, jI v1, jI v2, jI (k : Int), jI ((k + 1 : Nat) : Int)] [] h Q) : Gw d v1 v2 Q k h := by
  intro z4
  refine c_151_2 hd L ⟨fun z => by omega, fun _ => ?_⟩
  rw [w32_i (x := (k : Int) + 1) (by omega) (by omega)]
  refine c_151_12 hd L ?_
  rw [Int.toNat_natCast, e]
  exact ⟨by omega, by omega, fun z => absurd z (by omega), fun z => absurd z (by omega), fun z => absurd z (by omega), fun z => absurd z (by omega), fun z => absurd z (by omega), fun z => absurd z (by omega), fun z => absurd z (by omega), fun z => absurd z (by omega), fun z => absurd z (by omega), fun z => absurd z (by omega), fun _ => H⟩
theorem ga_10 (hd : 9 ≤ d) (L : Ly p h) (hk : k < 2000) (hV : (k : Int) < v2) (e : ji h 160 k = 10) (H : WF d 151 303 [jP 141, jI v1, jI v2, jI (k : Int), jI ((k + 1 : Nat) : Int)] [] h Q) : Gw d v1 v2 Q k h := by
  intro z4
  refine c_151_2 hd L ⟨fun z => by omega, fun _ => ?_⟩
  rw [w32_i (x := (k : Int) + 1) (by omega) (by omega)]
  refine c_151_12 hd L ?_
  rw [Int.toNat_natCast, e]
  exact ⟨by omega, by omega, fun _ => H, fun z => absurd z (by omega), fun z => absurd z (by omega), fun z => absurd z (by omega), fun z => absurd z (by omega), fun z => absurd z (by omega), fun z => absurd z (by omega), fun z => absurd z (by omega), fun z => absurd z (by omega), fun z => absurd z (by omega), fun z => absurd z (by omega)⟩
theorem g_push (hd : 10 ≤ d) (C : GoC p c h) (h54 : ji h 141 54 = (b : Int)) (hb : b < 40) (hv : w64 v = v) : ∃ h', jE d 146 [jP 141, jL v] h none h' ∧ Ly p h' ∧ GoC p c h' ∧ Fq (ZK b) h h' ∧ ji h' 141 54 = ((b + 1 : Nat) : Int) ∧ StK h' b (fun j => if j = 40 then v else 0) := by
  obtain ⟨h1, hE1, L1, F1, q54, q0, q40⟩ := m_146 (v := v) hd C.1 h54 hb
  refine ⟨h1, hE1, L1, C.fq (m := 0) (zk_go F1), F1, q54, fun j hj => ?_⟩
  by_cases z : j = 40
  · rw [z, q40]; show v = w64 v; rw [hv]
  · rw [q0 j (by omega)]; show (0 : Int) = w64 (if j = 40 then v else 0); rw [if_neg z, w64_z]
theorem g_0 (hd : 10 ≤ d) (C : GoC p c h) (h54 : ji h 141 54 = (b : Int)) (hb : b < 40) (hk : lo < 2000) (hV : (lo : Int) < v2) (e : ji h 160 lo = 0) (K : ∀ h', GoC p c h' → Fq (ZGo b m) h h' → StK h' b (fun j => if j = 40 then 0 else 0) → ji h' 141 54 = ((b + 1 : Nat) : Int) → Gw d v1 v2 Q (lo + 1) h') : Gw d v1 v2 Q lo h := by
  obtain ⟨h1, hE1, L1, C1, F1, q54, S1⟩ := g_push (v := 0) hd C h54 hb w64_z
  exact ga_0 (by omega) C.1 hk hV e (c_151_72 (by omega) C.1 ⟨h1, hE1, L1, c_151_77 (by omega) L1 (g_go (by omega) L1 (K h1 C1 (zk_go F1) S1 q54))⟩)
theorem g_1 (hd : 10 ≤ d) (C : GoC p c h) (h54 : ji h 141 54 = (b : Int)) (hb : b < 40) (hk : lo < 2000) (hV : (lo : Int) < v2) (e : ji h 160 lo = 1) (K : ∀ h', GoC p c h' → Fq (ZGo b m) h h' → StK h' b (fun j => if j = 40 then 1 else 0) → ji h' 141 54 = ((b + 1 : Nat) : Int) → Gw d v1 v2 Q (lo + 1) h') : Gw d v1 v2 Q lo h := by
  obtain ⟨h1, hE1, L1, C1, F1, q54, S1⟩ := g_push (v := 1) hd C h54 hb w64_one
  exact ga_1 (by omega) C.1 hk hV e (c_151_80 (by omega) C.1 ⟨h1, hE1, L1, c_151_85 (by omega) L1 (g_go (by omega) L1 (K h1 C1 (zk_go F1) S1 q54))⟩)
theorem w64_s (h0 : -20000 ≤ v) (h1 : v ≤ 20000) : w64 v = v := w64_id (by unfold r64; omega)
theorem g_2 (hd : 10 ≤ d) (C : GoC p c h) (h54 : ji h 141 54 = (b : Int)) (hb : b < 40) (hk : lo < 2000) (hV : (lo : Int) < v2) (e : ji h 160 lo = 2) (e1 : ji h 161 lo = v) (r0 : -20000 ≤ v) (r1 : v ≤ 20000) (K : ∀ h', GoC p c h' → Fq (ZGo b m) h h' → StK h' b (fun j => if j = 40 then v else 0) → ji h' 141 54 = ((b + 1 : Nat) : Int) → Gw d v1 v2 Q (lo + 1) h') : Gw d v1 v2 Q lo h := by
  obtain ⟨h1, hE1, L1, C1, F1, q54, S1⟩ := g_push (v := v) hd C h54 hb (w64_s r0 r1)
  refine ga_2 (by omega) C.1 hk hV e (c_151_88 (by omega) C.1 ?_)
  rw [Int.toNat_natCast, e1]
  exact ⟨by omega, by omega, h1, hE1, L1, c_151_99 (by omega) L1 (g_go (by omega) L1 (K h1 C1 (zk_go F1) S1 q54))⟩
theorem g_3 (hd : 10 ≤ d) (C : GoC p c h) (h54 : ji h 141 54 = (b : Int)) (hb : b < 40) (hk : lo < 2000) (hV : (lo : Int) < v2) (e : ji h 160 lo = 3) {x : Int} (e1 : ji h 161 lo = x) (x0 : 0 ≤ x) (x1 : x < 20) (e2 : ji h 173 x.toNat = v) (r0 : -20000 ≤ v) (r1 : v ≤ 20000) (K : ∀ h', GoC p c h' → Fq (ZGo b m) h h' → StK h' b (fun j => if j = 40 then v else 0) → ji h' 141 54 = ((b + 1 : Nat) : Int) → Gw d v1 v2 Q (lo + 1) h') : Gw d v1 v2 Q lo h := by
  obtain ⟨h1, hE1, L1, C1, F1, q54, S1⟩ := g_push (v := v) hd C h54 hb (w64_s r0 r1)
  refine ga_3 (by omega) C.1 hk hV e (c_151_102 (by omega) C.1 ?_)
  rw [Int.toNat_natCast, e1, e2]
  exact ⟨by omega, by omega, x0, x1, h1, hE1, L1, c_151_118 (by omega) L1 (g_go (by omega) L1 (K h1 C1 (zk_go F1) S1 q54))⟩
end RGA
