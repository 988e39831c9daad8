/-! THE REFERENCE: a rule is told -/
section RRU
variable {p : Lpar} {d : Nat} {h h' h0 h1 g : AH} {T : Txt} {e i k r : Nat} {Q : Option AV → AH → Prop} {v1 v3 v4 : Int} {z1 z2 z3 z4 : AV}
def HF (p : Lpar) (Q : Option AV → AH → Prop) (h : AH) : Prop := ∀ h', Ly p h' → Fq ZP h h' → ji h' 141 6 = ji h 141 6 → Q none h'
theorem HF.to (H : HF p Q h) (f : Fq ZP h h1) (e6 : ji h1 141 6 = ji h 141 6) : HF p Q h1 := fun h' L' F' e' => H h' L' (f.trans F') (e'.trans e6)
theorem HF.wi {a k : Nat} {x : Int} (H : HF p Q h) (ha : (143 ≤ a ∧ a ≤ 171) ∨ (a = 141 ∧ 7 ≤ k ∧ k ≤ 52)) : HF p Q (wi h a k x) := H.to (Fq.wi (by omega)) (by rw [ji_wi, if_neg (by omega)])
theorem HF.wl {a k : Nat} {x : Int} (H : HF p Q h) (ha : 143 ≤ a ∧ a ≤ 171) : HF p Q (wl h a k x) := H.to (Fq.wl (by omega)) (by rw [ji_wl])
theorem nqi {a k : Nat} {x : Int} (hq : ¬ ji h 141 6 = -1) (ha : ¬ (a = 141 ∧ k = 6)) : ¬ ji (wi h a k x) 141 6 = -1 := by rw [ji_wi, if_neg (by omega)]; exact hq
theorem i3 {x : Nat} (h : r < 10) (hx : x ≤ 2) : w32 (w32 (3 * (r : Int)) + (x : Int)) = ((3 * r + x : Nat) : Int) := by rw [w32_i (x := 3 * (r : Int)) (by omega) (by omega), w32_i (by omega) (by omega)]; omega
theorem i3a (h : r < 10) : w32 (w32 (3 * (r : Int)) + 1) = ((3 * r + 1 : Nat) : Int) := i3 (x := 1) h (by omega)
theorem i3b (h : r < 10) : w32 (w32 (3 * (r : Int)) + 2) = ((3 * r + 2 : Nat) : Int) := i3 (x := 2) h (by omega)
theorem i2a (h : r < 10) : w32 (w32 (2 * (r : Int)) + 1) = ((2 * r + 1 : Nat) : Int) := by rw [w32_i (x := 2 * (r : Int)) (by omega) (by omega), w32_i (by omega) (by omega)]; omega
theorem i3z (h : r < 10) : w32 (3 * (r : Int)) = ((3 * r : Nat) : Int) := by rw [w32_i (by omega) (by omega)]; omega
theorem i2 {x : Nat} (h : r < 10) (hx : x ≤ 2) : w32 (w32 (2 * (r : Int)) + (x : Int)) = ((2 * r + x : Nat) : Int) := by rw [w32_i (x := 2 * (r : Int)) (by omega) (by omega), w32_i (by omega) (by omega)]; omega
theorem i2z (h : r < 10) : w32 (2 * (r : Int)) = ((2 * r : Nat) : Int) := by rw [w32_i (by omega) (by omega)]; omega
theorem f133_285 (hd : 12 ≤ d) (L : Ly p h) (hq : ¬ ji h 141 6 = -1) (H : HF p Q h) : WF d 133 285 [jP 141, jI v1, jI (r : Int), jL v3, jU] [] h Q :=
  c_133_285 (by omega) L ⟨0, h, e_121 (by omega) L hq, L, c_133_292 (by omega) L (fun L1 => c_133_297 (by omega) L1 (H.wi (a := 141) (k := 30) (by omega) _ L1 Fq.refl rfl))⟩
theorem f133_264 (hd : 12 ≤ d) (hr : r < 10) (L : Ly p h) (hq : ¬ ji h 141 6 = -1) (H : HF p Q h) : WF d 133 264 [jP 141, jI v1, jI (r : Int), jL v3, jU] [] h Q := by
  refine c_133_264 (by omega) L ?_
  rw [i3b hr]
  refine ⟨by omega, by omega, fun L1 => c_133_278 (by omega) L1 ⟨by omega, by omega, fun L2 => f133_285 hd L2 ?_ ((H.wi (by omega)).wl (by omega))⟩⟩
  rw [ji_wl]; exact nqi hq (by omega)
theorem f133_257 (hd : 12 ≤ d) (hr : r < 10) (L : Ly p h) (hq : ¬ ji h 141 6 = -1) (H : HF p Q h) : WF d 133 257 [jP 141, jI v1, jI (r : Int), jL v3, jU] [] h Q := 
  c_133_257 (by omega) L ⟨0, h, e_139 (by omega) L hq, L, f133_264 hd hr L hq H⟩
theorem f133_203 (hd : 12 ≤ d) (hr : r < 10) (L : Ly p h) (hq : ¬ ji h 141 6 = -1) (H : HF p Q h) : WF d 133 203 [jP 141, jI v1, jI (r : Int), jL v3, jU] [] h Q := 
  c_133_203 (by omega) L ⟨fun z => absurd z hq, fun _ => c_133_246 (by omega) L ⟨fun z => absurd z hq, fun _ => f133_257 hd hr L hq H⟩⟩
theorem f133_156 (hd : 12 ≤ d) (hr : r < 10) (L : Ly p h) (hq : ¬ ji h 141 6 = -1) (H : HF p Q h) : WF d 133 156 [jP 141, jI v1, jI (r : Int), jL v3, jU] [] h Q := by
  refine c_133_156 (by omega) L ?_
  rw [i3a hr]
  have q1 : ∀ {x : Int}, ¬ ji (wi h 156 ((3 * r + 1 : Nat) : Int).toNat x) 141 6 = -1 := nqi hq (by omega)
  have k : ∀ y x, Ly p (wi (wi h 156 ((3 * r + 1 : Nat) : Int).toNat x) 155 ((r : Int)).toNat y) → WF d 133 203 [jP 141, jI v1, jI (r : Int), jL v3, jU] [] (wi (wi h 156 ((3 * r + 1 : Nat) : Int).toNat x) 155 ((r : Int)).toNat y) Q := fun y x L2 => f133_203 hd hr L2 (nqi q1 (by omega)) ((H.wi (by omega)).wi (by omega))
  exact ⟨by omega, by omega, fun L1 => c_133_170 (by omega) L1 ⟨fun _ => ⟨by omega, by omega, k _ _⟩, fun _ => ⟨fun _ => ⟨by omega, by omega, k _ _⟩, fun _ => ⟨by omega, by omega, k _ _⟩⟩⟩⟩
theorem f133_139 (hd : 12 ≤ d) (hr : r < 10) (L : Ly p h) (hq : ¬ ji h 141 6 = -1) (H : HF p Q h) : WF d 133 139 [jP 141, jI v1, jI (r : Int), z3, z4] [] h Q := by
  refine c_133_139 (by omega) L ?_
  rw [i3z hr]
  exact ⟨by omega, by omega, fun L1 => c_133_151 (by omega) L1 ⟨0, _, e_139 (by omega) L1 (nqi hq (by omega)), L1, f133_156 hd hr L1 (nqi hq (by omega)) (H.wi (by omega))⟩⟩
theorem f133_102 (hd : 12 ≤ d) (hr : r < 10) {n : Nat} (hn : n ≤ 2) : ∀ (m : Nat) (h : AH) (v : Nat), n ≤ v + m → Ly p h → ¬ ji h 141 6 = -1 → HF p Q h → WF d 133 102 [jP 141, jI v1, jI (r : Int), jI (n : Int), jI (v : Int)] [] h Q := by
  intro m
  induction m with
  | zero => intro h v hv L hq H; exact c_133_102 (by omega) L ⟨fun _ => ⟨0, h, e_121 (by omega) L hq, L, f133_139 hd hr L hq H⟩, fun z => by omega⟩
  | succ m ih =>
    intro h v hv L hq H
    refine c_133_102 (by omega) L ⟨fun _ => ⟨0, h, e_121 (by omega) L hq, L, f133_139 hd hr L hq H⟩, fun z => ?_⟩
    rw [i2 hr (by omega)]
    refine ⟨by omega, by omega, by omega, by omega, fun L1 => c_133_126 (by omega) L1 ?_⟩
    have := ih (wi h 154 ((2 * r + v : Nat) : Int).toNat (ji h 159 (v : Int).toNat)) (v + 1) (by omega) L1 (nqi hq (by omega)) (H.wi (by omega))
    rw [w32_i (by omega) (by omega)]
    exact this
end RRU
