/-! THE REFERENCE: the stack of sums under way -/
abbrev ZK (b : Nat) (a k : Nat) : Prop := (a = 172 ∧ 41 * b ≤ k) ∨ (a = 141 ∧ k = 54)
/-- at height b lies f -/
def StK (h : AH) (b : Nat) (f : Nat → Int) : Prop := ∀ j, j ≤ 40 → jl h 172 (41 * b + j) = w64 (f j)
section RES
variable {p : Lpar} {d : Nat} {h h' h0 h1 g : AH} {b b' : Nat} {f f2 : Nat → Int} {v : Int}
theorem StK.cg (S : StK h b f) (e : ∀ j, j ≤ 40 → f j = f2 j) : StK h b f2 := fun j hj => by rw [← e j hj]; exact S j hj
theorem StK.fq (S : StK h b f) (F : Fq (ZK b') h h') (hb : b < b') : StK h' b f := fun j hj => by rw [F.l (by omega)]; exact S j hj
theorem m_146 (hd : 10 ≤ d) (L : Ly p h) (h54 : ji h 141 54 = (b : Int)) (hb : b < 40) : ∃ h', jE d 146 [jP 141, jL v] h none h' ∧ Ly p h' ∧ Fq (ZK b) h h' ∧ ji h' 141 54 = ((b + 1 : Nat) : Int) ∧ (∀ j, j < 40 → jl h' 172 (41 * b + j) = 0) ∧ jl h' 172 (41 * b + 40) = v := by
  obtain ⟨d, rfl⟩ : ∃ d', d = d' + 1 := ⟨d - 1, by omega⟩
  suffices hh : ∃ w h', jE (d + 1) 146 [jP 141, jL v] h w h' ∧ w = none ∧ Ly p h' ∧ Fq (ZK b) h h' ∧ ji h' 141 54 = ((b + 1 : Nat) : Int) ∧ (∀ j, j < 40 → jl h' 172 (41 * b + j) = 0) ∧ jl h' 172 (41 * b + 40) = v by
    obtain ⟨w, h', hE, rfl, q⟩ := hh
    exact ⟨h', hE, q⟩
  have key : ∀ (s i : Nat) (g : AH), 41 = i + s → Ly p g → Fq (ZK b) h g → ji g 141 54 = (b : Int) → (∀ j, j < i → jl g 172 (41 * b + j) = if j = 40 then v else 0) → WF d 146 2 [jP 141, jL v, jU, jI (i : Int)] [] g (fun w h' => w = none ∧ Ly p h' ∧ Fq (ZK b) h h' ∧ ji h' 141 54 = ((b + 1 : Nat) : Int) ∧ (∀ j, j < 40 → jl h' 172 (41 * b + j) = 0) ∧ jl h' 172 (41 * b + 40) = v) := by
    intro s
    induction s with
    | zero =>
      intro i g hi L F e A
      refine c_146_2 (by omega) L ⟨fun _ => ?_, fun z => by omega⟩
      rw [e, w32_i (x := (b : Int) + 1) (by omega) (by omega)]
      refine fun L2 => ⟨rfl, L2, F.trans (Fq.wi (by omega)), by rw [ji_wi, if_pos ⟨rfl, rfl⟩]; rfl, fun j hj => ?_, ?_⟩
      · rw [jl_wi, A j (by omega), if_neg (by omega)]
      · rw [jl_wi, A 40 (by omega), if_pos rfl]
    | succ s ih =>
      intro i g hi L F e A
      have ex : w32 (w32 (41 * (b : Int)) + (i : Int)) = ((41 * b + i : Nat) : Int) := by
        rw [w32_i (x := 41 * (b : Int)) (by omega) (by omega), w32_i (by omega) (by omega)]; omega
      have go : ∀ x : Int, x = (if i = 40 then v else 0) → Ly p (wl g 172 (41 * b + i) x) → WF d 146 2 [jP 141, jL v, jU, jI ((i : Int) + 1)] [] (wl g 172 (41 * b + i) x) (fun w h' => w = none ∧ Ly p h' ∧ Fq (ZK b) h h' ∧ ji h' 141 54 = ((b + 1 : Nat) : Int) ∧ (∀ j, j < 40 → jl h' 172 (41 * b + j) = 0) ∧ jl h' 172 (41 * b + 40) = v) := fun x hx L2 => by
        have q := ih (i + 1) (wl g 172 (41 * b + i) x) (by omega) L2 (F.trans (Fq.wl (by omega))) (by rw [ji_wl]; exact e) (fun j hj => by
          rw [jl_wl]
          by_cases z : j = i
          · rw [if_pos ⟨rfl, by omega⟩, hx, z]
          · rw [if_neg (by omega)]; exact A j (by omega))
        exact q
      refine c_146_2 (by omega) L ⟨fun z => by omega, fun _ => ?_⟩
      rw [e, ex, Int.toNat_natCast, w32_i (x := (i : Int) + 1) (by omega) (by omega)]
      exact ⟨fun z => ⟨by omega, by omega, go v (by rw [if_pos (by omega)])⟩, fun z => ⟨by omega, by omega, go 0 (by rw [if_neg (by omega)])⟩⟩
  refine jE_of (as := [jP 141, jL v]) (Nat.le_of_ble_eq_true rfl) (c_146_0 (by omega) L ?_)
  exact key 41 0 h rfl L Fq.refl h54 (fun j hj => absurd hj (Nat.not_lt_zero j))
theorem i41 (hb : b < 40) : w32 (41 * w32 (((b + 2 : Nat) : Int) - 2)) = ((41 * b : Nat) : Int) ∧ w32 (41 * w32 (((b + 2 : Nat) : Int) - 1)) = ((41 * (b + 1) : Nat) : Int) := by
  rw [w32_i (x := ((b + 2 : Nat) : Int) - 2) (by omega) (by omega), w32_i (x := ((b + 2 : Nat) : Int) - 1) (by omega) (by omega), w32_i (by omega) (by omega), w32_i (by omega) (by omega)]
  omega
theorem i41b {x j : Nat} (hx : x ≤ 2000) (hj : j ≤ 40) : w32 ((x : Int) + (j : Int)) = ((x + j : Nat) : Int) := by rw [w32_i (by omega) (by omega)]; omega
theorem i41c {x : Nat} (hx : x ≤ 2000) : w32 ((x : Int) + 40) = ((x + 40 : Nat) : Int) := by rw [w32_i (by omega) (by omega)]; omega
/-- s + v * q -/
theorem m_150 (hd : 10 ≤ d) (L : Ly p h) (h54 : ji h 141 54 = ((b + 2 : Nat) : Int)) (hb : b + 2 ≤ 40) (S1 : StK h b f) (S2 : StK h (b + 1) f2) : ∃ h', jE d 150 [jP 141, jL v] h none h' ∧ Ly p h' ∧ Fq (ZK b) h h' ∧ ji h' 141 54 = ((b + 1 : Nat) : Int) ∧ StK h' b (fun j => f j + v * f2 j) := by
  obtain ⟨d, rfl⟩ : ∃ d', d = d' + 1 := ⟨d - 1, by omega⟩
  suffices hh : ∃ w h', jE (d + 1) 150 [jP 141, jL v] h w h' ∧ w = none ∧ Ly p h' ∧ Fq (ZK b) h h' ∧ ji h' 141 54 = ((b + 1 : Nat) : Int) ∧ StK h' b (fun j => f j + v * f2 j) by
    obtain ⟨w, h', hE, rfl, q⟩ := hh
    exact ⟨h', hE, q⟩
  have key : ∀ (s i : Nat) (g : AH), 41 = i + s → Ly p g → Fq (ZK b) h g → ji g 141 54 = ((b + 2 : Nat) : Int) → (∀ j, j < i → jl g 172 (41 * b + j) = w64 (f j + v * f2 j)) → (∀ j, i ≤ j → j ≤ 40 → jl g 172 (41 * b + j) = w64 (f j)) → StK g (b + 1) f2 → WF d 150 24 [jP 141, jL v, jU, jI ((41 * b : Nat) : Int), jI ((41 * (b + 1) : Nat) : Int), jI (i : Int)] [] g (fun w h' => w = none ∧ Ly p h' ∧ Fq (ZK b) h h' ∧ ji h' 141 54 = ((b + 1 : Nat) : Int) ∧ StK h' b (fun j => f j + v * f2 j)) := by
    intro s
    induction s with
    | zero =>
      intro i g hi L F e A1 A2 S
      refine c_150_24 (by omega) L ⟨fun _ => ?_, fun z => by omega⟩
      rw [e, w32_i (x := ((b + 2 : Nat) : Int) - 1) (by omega) (by omega)]
      refine fun L2 => c_150_71 (by omega) L2 ⟨rfl, L2, F.trans (Fq.wi (by omega)), by rw [ji_wi, if_pos ⟨rfl, rfl⟩]; omega, fun j hj => ?_⟩
      rw [jl_wi]; exact A1 j (by omega)
    | succ s ih =>
      intro i g hi L F e A1 A2 S
      refine c_150_24 (by omega) L ⟨fun z => by omega, fun _ => ?_⟩
      rw [i41b (by omega) (by omega), i41b (by omega) (by omega), Int.toNat_natCast, Int.toNat_natCast, A2 i (Nat.le_refl _) (by omega), S i (by omega), Int.mul_comm v (w64 (f2 i)), w64_m, w64_a, w64_a2, Int.mul_comm (f2 i) v]
      refine ⟨by omega, by omega, by omega, by omega, by omega, by omega, fun L2 => c_150_55 (by omega) L2 ?_⟩
      rw [w32_i (x := (i : Int) + 1) (by omega) (by omega)]
      have q := ih (i + 1) (wl g 172 (41 * b + i) (w64 (f i + v * f2 i))) (by omega) L2 (F.trans (Fq.wl (by omega))) (by rw [ji_wl]; exact e) (fun j hj => by
        rw [jl_wl]
        by_cases z : j = i
        · rw [if_pos ⟨rfl, by omega⟩, z]
        · rw [if_neg (by omega)]; exact A1 j (by omega)) (fun j h1 h2 => by rw [jl_wl, if_neg (by omega)]; exact A2 j (by omega) h2) (fun j hj => by rw [jl_wl, if_neg (by omega)]; exact S j hj)
      exact q
  refine jE_of (as := [jP 141, jL v]) (Nat.le_of_ble_eq_true rfl) (c_150_0 (by omega) L ?_)
  rw [h54, (i41 (by omega)).1]
  refine c_150_10 (by omega) L ?_
  rw [h54, (i41 (by omega)).2]
  exact c_150_21 (by omega) L (key 41 0 h rfl L Fq.refl h54 (fun j hj => absurd hj (Nat.not_lt_zero j)) (fun j _ hj => S1 j hj) S2)
theorem w64_mm (x y : Int) : w64 (w64 x * w64 y) = w64 (x * y) := by rw [w64_m, Int.mul_comm, w64_m, Int.mul_comm]
theorem w64_aa (x y : Int) : w64 (w64 x + w64 y) = w64 (x + y) := by rw [w64_a, w64_a2]
def mulL (f f2 : Nat → Int) (j : Nat) : Int := if j = 40 then f 40 * f2 40 else f j * f2 40 + f2 j * f 40
/-- s * q -/
theorem m_149 (hd : 10 ≤ d) (L : Ly p h) (h54 : ji h 141 54 = ((b + 2 : Nat) : Int)) (hb : b + 2 ≤ 40) (S1 : StK h b f) (S2 : StK h (b + 1) f2) : ∃ h', jE d 149 [jP 141] h none h' ∧ Ly p h' ∧ Fq (ZK b) h h' ∧ ji h' 141 54 = ((b + 1 : Nat) : Int) ∧ StK h' b (mulL f f2) := by
  obtain ⟨d, rfl⟩ : ∃ d', d = d' + 1 := ⟨d - 1, by omega⟩
  suffices hh : ∃ w h', jE (d + 1) 149 [jP 141] h w h' ∧ w = none ∧ Ly p h' ∧ Fq (ZK b) h h' ∧ ji h' 141 54 = ((b + 1 : Nat) : Int) ∧ StK h' b (mulL f f2) by
    obtain ⟨w, h', hE, rfl, q⟩ := hh
    exact ⟨h', hE, q⟩
  have key : ∀ (s i : Nat) (g : AH), 40 = i + s → Ly p g → Fq (ZK b) h g → ji g 141 54 = ((b + 2 : Nat) : Int) → (∀ j, j < i → jl g 172 (41 * b + j) = w64 (mulL f f2 j)) → (∀ j, i ≤ j → j ≤ 40 → jl g 172 (41 * b + j) = w64 (f j)) → StK g (b + 1) f2 → WF d 149 22 [jP 141, jI ((41 * b : Nat) : Int), jI ((41 * (b + 1) : Nat) : Int), jI (i : Int)] [] g (fun w h' => w = none ∧ Ly p h' ∧ Fq (ZK b) h h' ∧ ji h' 141 54 = ((b + 1 : Nat) : Int) ∧ StK h' b (mulL f f2)) := by
    intro s
    induction s with
    | zero =>
      intro i g hi L F e A1 A2 S
      refine c_149_22 (by omega) L ⟨fun _ => ?_, fun z => by omega⟩
      rw [i41c (x := 41 * b) (by omega), i41c (x := 41 * (b + 1)) (by omega), Int.toNat_natCast, Int.toNat_natCast, A2 40 (by omega) (by omega), S 40 (by omega), w64_mm]
      refine ⟨by omega, by omega, by omega, by omega, by omega, by omega, fun L2 => c_149_100 (by omega) L2 ?_⟩
      rw [ji_wl, e, w32_i (x := ((b + 2 : Nat) : Int) - 1) (by omega) (by omega)]
      refine fun L3 => c_149_110 (by omega) L3 ⟨rfl, L3, (F.trans (Fq.wl (by omega))).trans (Fq.wi (by omega)), by rw [ji_wi, if_pos ⟨rfl, rfl⟩]; omega, fun j hj => ?_⟩
      rw [jl_wi, jl_wl]
      by_cases z : j = 40
      · rw [if_pos ⟨rfl, by omega⟩, z]; rfl
      · rw [if_neg (by omega)]; exact A1 j (by omega)
    | succ s ih =>
      intro i g hi L F e A1 A2 S
      refine c_149_22 (by omega) L ⟨fun z => by omega, fun _ => ?_⟩
      rw [i41b (x := 41 * b) (j := i) (by omega) (by omega), i41b (x := 41 * (b + 1)) (j := i) (by omega) (by omega), i41c (x := 41 * b) (by omega), i41c (x := 41 * (b + 1)) (by omega), Int.toNat_natCast, Int.toNat_natCast, Int.toNat_natCast, Int.toNat_natCast, A2 i (Nat.le_refl _) (by omega), S i (by omega), A2 40 (by omega) (by omega), S 40 (by omega), w64_mm, w64_mm, w64_aa]
      refine ⟨by omega, by omega, by omega, by omega, by omega, by omega, by omega, by omega, by omega, by omega, fun L2 => c_149_73 (by omega) L2 ?_⟩
      rw [w32_i (x := (i : Int) + 1) (by omega) (by omega)]
      have q := ih (i + 1) (wl g 172 (41 * b + i) (w64 (f i * f2 40 + f2 i * f 40))) (by omega) L2 (F.trans (Fq.wl (by omega))) (by rw [ji_wl]; exact e) (fun j hj => by
        rw [jl_wl]
        by_cases z : j = i
        · rw [if_pos ⟨rfl, by omega⟩, z]; unfold mulL; rw [if_neg (by omega)]
        · rw [if_neg (by omega)]; exact A1 j (by omega)) (fun j h1 h2 => by rw [jl_wl, if_neg (by omega)]; exact A2 j (by omega) h2) (fun j hj => by rw [jl_wl, if_neg (by omega)]; exact S j hj)
      exact q
  refine jE_of (as := [jP 141]) (Nat.le_of_ble_eq_true rfl) (c_149_0 (by omega) L ?_)
  rw [h54, (i41 (by omega)).1]
  refine c_149_10 (by omega) L ?_
  rw [h54, (i41 (by omega)).2]
  exact c_149_20 (by omega) L (key 40 0 h rfl L Fq.refl h54 (fun j hj => absurd hj (Nat.not_lt_zero j)) (fun j _ hj => S1 j hj) S2)
end RES
