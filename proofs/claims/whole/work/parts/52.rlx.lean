/-! THE REFERENCE TAKES TOKENS -/
abbrev ZL (a k : Nat) : Prop := a = 141 ∧ 2 ≤ k ∧ k ≤ 5
abbrev ZF (a k : Nat) : Prop := a = 141 ∧ 2 ≤ k ∧ k ≤ 6
section RLX
variable {p : Lpar} {d : Nat} {h h' h0 h1 g : AH} {T : Txt} {e i k n q m : Nat}
theorem atM (X : TxM T g) (e4 : ji g 141 4 = (m : Int)) : (if (ji g 141 4) < (ji g 141 1) then ji g 142 (Int.toNat (ji g 141 4)) else -1) = tAt T m := by
  rw [X.1, e4, Int.toNat_natCast]
  unfold tAt
  by_cases c : m < T.1
  · rw [if_pos c, if_pos (by omega), X.2 m c]
  · rw [if_neg c, if_neg (by omega)]
theorem tAt_n (h : ¬ m < T.1) : tAt T m = -1 := by unfold tAt; rw [if_neg h]
theorem cdw_0 (hd : 1 ≤ d) (L : Ly p h) : jE d 114 [jI 115, jI 101, jI 116, jI 0] h (some (jI (c27 [115, 101, 116]))) h := by
  obtain ⟨d, rfl⟩ := Nat.exists_eq_add_of_le' hd
  exact jE_eq (Nat.le_of_ble_eq_true rfl) (c_114_0 (Nat.zero_le _) L ⟨fun q => absurd q (by decide), fun _ => ⟨fun q => absurd q (by decide), fun _ => ⟨fun _ => ⟨by decide, rfl⟩, fun q => absurd (by decide) q⟩⟩⟩)
theorem cdw_1 (hd : 1 ≤ d) (L : Ly p h) : jE d 114 [jI 100, jI 97, jI 116, jI 97] h (some (jI (c27 [100, 97, 116, 97]))) h := by
  obtain ⟨d, rfl⟩ := Nat.exists_eq_add_of_le' hd
  exact jE_eq (Nat.le_of_ble_eq_true rfl) (c_114_0 (Nat.zero_le _) L ⟨fun q => absurd q (by decide), fun _ => ⟨fun q => absurd q (by decide), fun _ => ⟨fun q => absurd q (by decide), fun _ => ⟨by decide, rfl⟩⟩⟩⟩)
theorem cdw_2 (hd : 1 ≤ d) (L : Ly p h) : jE d 114 [jI 118, jI 97, jI 114, jI 0] h (some (jI (c27 [118, 97, 114]))) h := by
  obtain ⟨d, rfl⟩ := Nat.exists_eq_add_of_le' hd
  exact jE_eq (Nat.le_of_ble_eq_true rfl) (c_114_0 (Nat.zero_le _) L ⟨fun q => absurd q (by decide), fun _ => ⟨fun q => absurd q (by decide), fun _ => ⟨fun _ => ⟨by decide, rfl⟩, fun q => absurd (by decide) q⟩⟩⟩)
theorem cdw_3 (hd : 1 ≤ d) (L : Ly p h) : jE d 114 [jI 114, jI 117, jI 108, jI 101] h (some (jI (c27 [114, 117, 108, 101]))) h := by
  obtain ⟨d, rfl⟩ := Nat.exists_eq_add_of_le' hd
  exact jE_eq (Nat.le_of_ble_eq_true rfl) (c_114_0 (Nat.zero_le _) L ⟨fun q => absurd q (by decide), fun _ => ⟨fun q => absurd q (by decide), fun _ => ⟨fun q => absurd q (by decide), fun _ => ⟨by decide, rfl⟩⟩⟩⟩)
theorem cdw_4 (hd : 1 ≤ d) (L : Ly p h) : jE d 114 [jI 103, jI 111, jI 97, jI 108] h (some (jI (c27 [103, 111, 97, 108]))) h := by
  obtain ⟨d, rfl⟩ := Nat.exists_eq_add_of_le' hd
  exact jE_eq (Nat.le_of_ble_eq_true rfl) (c_114_0 (Nat.zero_le _) L ⟨fun q => absurd q (by decide), fun _ => ⟨fun q => absurd q (by decide), fun _ => ⟨fun q => absurd q (by decide), fun _ => ⟨by decide, rfl⟩⟩⟩⟩)
theorem cdw_5 (hd : 1 ≤ d) (L : Ly p h) : jE d 114 [jI 109, jI 105, jI 110, jI 0] h (some (jI (c27 [109, 105, 110]))) h := by
  obtain ⟨d, rfl⟩ := Nat.exists_eq_add_of_le' hd
  exact jE_eq (Nat.le_of_ble_eq_true rfl) (c_114_0 (Nat.zero_le _) L ⟨fun q => absurd q (by decide), fun _ => ⟨fun q => absurd q (by decide), fun _ => ⟨fun _ => ⟨by decide, rfl⟩, fun q => absurd (by decide) q⟩⟩⟩)
theorem cdw_6 (hd : 1 ≤ d) (L : Ly p h) : jE d 114 [jI 109, jI 97, jI 120, jI 0] h (some (jI (c27 [109, 97, 120]))) h := by
  obtain ⟨d, rfl⟩ := Nat.exists_eq_add_of_le' hd
  exact jE_eq (Nat.le_of_ble_eq_true rfl) (c_114_0 (Nat.zero_le _) L ⟨fun q => absurd q (by decide), fun _ => ⟨fun q => absurd q (by decide), fun _ => ⟨fun _ => ⟨by decide, rfl⟩, fun q => absurd (by decide) q⟩⟩⟩)
theorem cdw_7 (hd : 1 ≤ d) (L : Ly p h) : jE d 114 [jI 115, jI 117, jI 109, jI 0] h (some (jI (c27 [115, 117, 109]))) h := by
  obtain ⟨d, rfl⟩ := Nat.exists_eq_add_of_le' hd
  exact jE_eq (Nat.le_of_ble_eq_true rfl) (c_114_0 (Nat.zero_le _) L ⟨fun q => absurd q (by decide), fun _ => ⟨fun q => absurd q (by decide), fun _ => ⟨fun _ => ⟨by decide, rfl⟩, fun q => absurd (by decide) q⟩⟩⟩)
theorem cdw_8 (hd : 1 ≤ d) (L : Ly p h) : jE d 114 [jI 105, jI 110, jI 0, jI 0] h (some (jI (c27 [105, 110]))) h := by
  obtain ⟨d, rfl⟩ := Nat.exists_eq_add_of_le' hd
  exact jE_eq (Nat.le_of_ble_eq_true rfl) (c_114_0 (Nat.zero_le _) L ⟨fun q => absurd q (by decide), fun _ => ⟨fun _ => ⟨fun _ => ⟨by decide, rfl⟩, fun q => absurd (by decide) q⟩, fun q => absurd (by decide) q⟩⟩)
theorem cdw_9 (hd : 1 ≤ d) (L : Ly p h) : jE d 114 [jI 102, jI 111, jI 114, jI 0] h (some (jI (c27 [102, 111, 114]))) h := by
  obtain ⟨d, rfl⟩ := Nat.exists_eq_add_of_le' hd
  exact jE_eq (Nat.le_of_ble_eq_true rfl) (c_114_0 (Nat.zero_le _) L ⟨fun q => absurd q (by decide), fun _ => ⟨fun q => absurd q (by decide), fun _ => ⟨fun _ => ⟨by decide, rfl⟩, fun q => absurd (by decide) q⟩⟩⟩)
theorem wordIn_no {l : List Int} : ∀ {W : List (List Int × Int)}, (∀ e ∈ W, ¬ l = e.1) → wordIn l W = 1
  | [], _ => rfl
  | w :: r, h => by
    show (if l = w.1 then w.2 else wordIn l r) = 1
    rw [if_neg (h w (by simp))]
    exact wordIn_no (fun e he => h e (List.mem_cons_of_mem _ he))
theorem m_115 (hd : 10 ≤ d) (L : Ly p h) {l : List Int} (hl : okN l) (hn : ji h 141 5 = c27 l) : jE d 115 [jP 141] h (some (jI (wordK l))) h := by
  obtain ⟨d, rfl⟩ : ∃ d', d = d' + 1 := ⟨d - 1, by omega⟩
  refine jE_eq (Nat.le_of_ble_eq_true rfl) (c_115_0 (by omega) L ?_)
  refine ⟨_, h, cdw_0 (by omega) L, L, fun c0 => ?_, fun c0 => ⟨_, h, cdw_1 (by omega) L, L, fun c1 => ?_, fun c1 => ⟨_, h, cdw_2 (by omega) L, L, fun c2 => ?_, fun c2 => ⟨_, h, cdw_3 (by omega) L, L, fun c3 => ?_, fun c3 => ⟨_, h, cdw_4 (by omega) L, L, fun c4 => ?_, fun c4 => ⟨_, h, cdw_5 (by omega) L, L, fun c5 => ?_, fun c5 => ⟨_, h, cdw_6 (by omega) L, L, fun c6 => ?_, fun c6 => ⟨_, h, cdw_7 (by omega) L, L, fun c7 => ?_, fun c7 => ⟨_, h, cdw_8 (by omega) L, L, fun c8 => ?_, fun c8 => ⟨_, h, cdw_9 (by omega) L, L, fun c9 => ?_, fun c9 => ?_⟩⟩⟩⟩⟩⟩⟩⟩⟩⟩
  · rw [c27_inj hl (by have := (wdT_ok ([115, 101, 116], 10) (by decide)).1; exact this) (hn.symm.trans c0)]; exact ⟨by decide, rfl⟩
  · rw [c27_inj hl (by have := (wdT_ok ([100, 97, 116, 97], 11) (by decide)).1; exact this) (hn.symm.trans c1)]; exact ⟨by decide, rfl⟩
  · rw [c27_inj hl (by have := (wdT_ok ([118, 97, 114], 12) (by decide)).1; exact this) (hn.symm.trans c2)]; exact ⟨by decide, rfl⟩
  · rw [c27_inj hl (by have := (wdT_ok ([114, 117, 108, 101], 13) (by decide)).1; exact this) (hn.symm.trans c3)]; exact ⟨by decide, rfl⟩
  · rw [c27_inj hl (by have := (wdT_ok ([103, 111, 97, 108], 14) (by decide)).1; exact this) (hn.symm.trans c4)]; exact ⟨by decide, rfl⟩
  · rw [c27_inj hl (by have := (wdT_ok ([109, 105, 110], 15) (by decide)).1; exact this) (hn.symm.trans c5)]; exact ⟨by decide, rfl⟩
  · rw [c27_inj hl (by have := (wdT_ok ([109, 97, 120], 16) (by decide)).1; exact this) (hn.symm.trans c6)]; exact ⟨by decide, rfl⟩
  · rw [c27_inj hl (by have := (wdT_ok ([115, 117, 109], 17) (by decide)).1; exact this) (hn.symm.trans c7)]; exact ⟨by decide, rfl⟩
  · rw [c27_inj hl (by have := (wdT_ok ([105, 110], 18) (by decide)).1; exact this) (hn.symm.trans c8)]; exact ⟨by decide, rfl⟩
  · rw [c27_inj hl (by have := (wdT_ok ([102, 111, 114], 19) (by decide)).1; exact this) (hn.symm.trans c9)]; exact ⟨by decide, rfl⟩
  · refine ⟨?_, rfl⟩
    have : wordK l = 1 := wordIn_no (fun e he => ?_)
    · rw [this]
    · simp only [wdT, List.mem_cons, List.mem_nil_iff, or_false] at he
      rcases he with rfl | rfl | rfl | rfl | rfl | rfl | rfl | rfl | rfl | rfl
      · exact fun z => c0 (by rw [hn, z])
      · exact fun z => c1 (by rw [hn, z])
      · exact fun z => c2 (by rw [hn, z])
      · exact fun z => c3 (by rw [hn, z])
      · exact fun z => c4 (by rw [hn, z])
      · exact fun z => c5 (by rw [hn, z])
      · exact fun z => c6 (by rw [hn, z])
      · exact fun z => c7 (by rw [hn, z])
      · exact fun z => c8 (by rw [hn, z])
      · exact fun z => c9 (by rw [hn, z])
theorem c27_r4 {l : List Int} (h : ∀ c ∈ l, 97 ≤ c ∧ c ≤ 122) (hl : l.length ≤ 4) : 0 ≤ c27 l ∧ c27 l ≤ 531440 := by
  by_cases z : l.length = 0
  · rw [List.eq_nil_of_length_eq_zero z]; decide
  · have := okN_c27 ⟨by omega, hl, h⟩; omega
def LxI (p : Lpar) (T : Txt) (c : List Int → Int) (q m : Nat) (h g : AH) : Prop := Ly p g ∧ TxM T g ∧ Fq ZL h g ∧ ji g 141 3 = (q : Int) ∧ ji g 141 4 = (m : Int) ∧ q ≤ m ∧ m ≤ T.1 ∧ (m - q ≤ 4 → ji g 141 5 = c (slc T q m))
theorem lx_step {c : List Int → Int} (I : LxI p T c q m h g) (hm : m < T.1) (hT : okT T) {x : Int} (hx : m + 1 - q ≤ 4 → x = c (slc T q (m + 1))) : LxI p T c q (m + 1) h (wi (wi g 141 5 x) 141 4 (w32 ((m : Int) + 1))) := by
  obtain ⟨L, X, F, e3, e4, h1, h2, h3⟩ := I
  have hT1 := hT.1
  rw [w32_i (by omega) (by omega)]
  have f2 : Fq ZL g (wi (wi g 141 5 x) 141 4 ((m : Int) + 1)) := (Fq.wi (by omega)).trans (Fq.wi (by omega))
  refine ⟨(L.wi (by decide)).wi (by decide), X.fq f2 (by omega) (fun k => by omega), F.trans f2, ?_, ?_, by omega, by omega, fun z => ?_⟩
  · rw [ji_wi, if_neg (by omega), ji_wi, if_neg (by omega)]; exact e3
  · rw [ji_wi, if_pos ⟨rfl, rfl⟩]; omega
  · rw [ji_wi, if_neg (by omega), ji_wi, if_pos ⟨rfl, rfl⟩]; exact hx z
theorem lt_c27 {l : List Int} {b : Int} (h : ∀ c ∈ l, 97 ≤ c ∧ c ≤ 122) (hl : l.length ≤ 4) (hb : 0 ≤ b ∧ b ≤ 255) : w32 ((w32 ((w32 (27 * (c27 l))) + b)) - 96) = c27 (l ++ [b]) := by
  have := c27_r4 h hl
  rw [c27_snoc, w32_i (x := 27 * c27 l) (by omega) (by omega), w32_i (x := 27 * c27 l + b) (by omega) (by omega), w32_i (by omega) (by omega)]
theorem dg_c10 {l : List Int} {b : Int} (h : ∀ c ∈ l, 48 ≤ c ∧ c ≤ 57) (hl : l.length ≤ 4) (hb : 0 ≤ b ∧ b ≤ 255) : w32 ((w32 ((w32 (10 * (c10 l))) + b)) - 48) = c10 (l ++ [b]) := by
  have := c10_r l h hl
  rw [c10_snoc, w32_i (x := 10 * c10 l) (by omega) (by omega), w32_i (x := 10 * c10 l + b) (by omega) (by omega), w32_i (by omega) (by omega)]
theorem slcLt {f : Int → Bool} (hs : spn f T m = spn f T q) : ∀ c ∈ slc T q m, f c = true := fun c hc => by
  obtain ⟨i, h1, h2, rfl⟩ := slc_mem hc
  exact spn_all h1 (by have := spn_ge f T m; omega)
theorem m_113 (hd : 12 ≤ d) (L : Ly p h) (hT : okT T) (X : TxM T h) (e3 : ji h 141 3 = (q : Int)) (e4 : ji h 141 4 = (q : Int)) (hq : q < T.1) (hl : isLt (T.2 q) = true) : ∃ h', jE d 113 [jP 141] h none h' ∧ Ly p h' ∧ Fq ZL h h' ∧ ji h' 141 3 = (q : Int) ∧ ji h' 141 2 = (lexL T q).1 ∧ ji h' 141 4 = (spn isLt T q : Int) ∧ (spn isLt T q - q ≤ 4 → ji h' 141 5 = c27 (slc T q (spn isLt T q))) := by
  obtain ⟨d, rfl⟩ : ∃ d', d = d' + 1 := ⟨d - 1, by omega⟩
  have hT1 := hT.1
  have s1 := spn_lt hq hl
  have key : ∀ (j m : Nat) (g : AH), T.1 - m = j → spn isLt T m = spn isLt T q → LxI p T c27 q m h g → WF d 113 5 [jP 141] [] g (fun w h' => w = none ∧ Ly p h' ∧ Fq ZL h h' ∧ ji h' 141 3 = (q : Int) ∧ ji h' 141 2 = (lexL T q).1 ∧ ji h' 141 4 = (spn isLt T q : Int) ∧ (spn isLt T q - q ≤ 4 → ji h' 141 5 = c27 (slc T q (spn isLt T q)))) := by
    intro j
    induction j with
    | zero =>
      intro m g hj hs I
      have I0 := I
      obtain ⟨Lg, Xg, F, e3, e4, h1, h2, h3⟩ := I
      have em : spn isLt T q = m := by rw [← hs]; exact spn_end (by omega)
      refine c_113_5 (by omega) Lg ?_
      rw [atM Xg e4, tAt_n (by omega), e4, Xg.1, e3, w32_i (x := (m : Int) - (q : Int)) (by omega) (by omega)]
      refine ⟨by omega, by omega, fun z => by omega, fun _ => ?_⟩
      rw [em]
      have eK : (lexL T q).1 = if 4 < m - q then 4 else wordK (slc T q m) := by unfold lexL; rw [em]
      refine ⟨fun z => ⟨_, g, m_115 (by omega) Lg (l := slc T q m) (by rw [← em]; exact slcL (by omega) s1) (h3 (by omega)), Lg, fun L2 => ⟨rfl, L2, F.trans (Fq.wi (by omega)), ?_, ?_, ?_, fun _ => ?_⟩⟩, fun z L2 => ⟨rfl, L2, F.trans (Fq.wi (by omega)), ?_, ?_, ?_, fun z2 => by omega⟩⟩
      · rw [ji_wi, if_neg (by omega)]; exact e3
      · rw [ji_wi, if_pos ⟨rfl, rfl⟩, eK, if_neg (by omega)]
      · rw [ji_wi, if_neg (by omega)]; exact e4
      · rw [ji_wi, if_neg (by omega)]; exact h3 (by omega)
      · rw [ji_wi, if_neg (by omega)]; exact e3
      · rw [ji_wi, if_pos ⟨rfl, rfl⟩, eK, if_pos (by omega)]
      · rw [ji_wi, if_neg (by omega)]; exact e4
    | succ j ih =>
      intro m g hj hs I
      have I0 := I
      obtain ⟨Lg, Xg, F, e3, e4, h1, h2, h3⟩ := I
      have hm : m < T.1 := by omega
      have hb := hT.2 m hm
      refine c_113_5 (by omega) Lg ?_
      rw [atM Xg e4, tAt_y hm, e4, Xg.1, e3, w32_i (x := (m : Int) - (q : Int)) (by omega) (by omega)]
      refine ⟨by omega, by omega, fun z => ⟨fun z2 L2 => ?_, fun z2 => ⟨by omega, by omega, fun L2 => ?_⟩⟩, fun z => ?_⟩
      · exact ih (m + 1) _ (by omega) (by rw [← hs]; exact (spn_yes hm (isLt_i.mpr z)).symm) (lx_step I0 hm hT (fun z3 => by omega))
      · refine ih (m + 1) _ (by omega) (by rw [← hs]; exact (spn_yes hm (isLt_i.mpr z)).symm) (lx_step I0 hm hT (fun z3 => ?_))
        rw [h3 (by omega), slc_snoc T h1]
        exact lt_c27 (fun c hc => isLt_i.mp (slcLt hs c hc)) (by rw [slc_len]; omega) hb
      · have em : spn isLt T q = m := by rw [← hs]; exact spn_no (fun y => z (isLt_i.mp y))
        rw [em]
        have eK : (lexL T q).1 = if 4 < m - q then 4 else wordK (slc T q m) := by unfold lexL; rw [em]
        refine ⟨fun z => ⟨_, g, m_115 (by omega) Lg (l := slc T q m) (by rw [← em]; exact slcL (by omega) s1) (h3 (by omega)), Lg, fun L2 => ⟨rfl, L2, F.trans (Fq.wi (by omega)), ?_, ?_, ?_, fun _ => ?_⟩⟩, fun z L2 => ⟨rfl, L2, F.trans (Fq.wi (by omega)), ?_, ?_, ?_, fun z2 => by omega⟩⟩
        · rw [ji_wi, if_neg (by omega)]; exact e3
        · rw [ji_wi, if_pos ⟨rfl, rfl⟩, eK, if_neg (by omega)]
        · rw [ji_wi, if_neg (by omega)]; exact e4
        · rw [ji_wi, if_neg (by omega)]; exact h3 (by omega)
        · rw [ji_wi, if_neg (by omega)]; exact e3
        · rw [ji_wi, if_pos ⟨rfl, rfl⟩, eK, if_pos (by omega)]
        · rw [ji_wi, if_neg (by omega)]; exact e4
  have f1 : Fq ZL h (wi h 141 5 0) := Fq.wi (by omega)
  obtain ⟨v, h', hE, rfl, r⟩ := jE_of (d := d) (y := 113) (h := h) (as := [jP 141]) (Nat.le_of_ble_eq_true rfl) (c_113_0 (by omega) L (fun L2 => key _ q _ rfl rfl ⟨L2, X.fq f1 (by omega) (fun k => by omega), f1, by rw [ji_wi, if_neg (by omega)]; exact e3, by rw [ji_wi, if_neg (by omega)]; exact e4, Nat.le_refl _, by omega, fun _ => by rw [ji_wi, if_pos ⟨rfl, rfl⟩, slc_nil]; rfl⟩))
  exact ⟨h', hE, r⟩
theorem m_116 (hd : 12 ≤ d) (L : Ly p h) (hT : okT T) (X : TxM T h) (e3 : ji h 141 3 = (q : Int)) (e4 : ji h 141 4 = (q : Int)) (hq : q < T.1) (hl : isDg (T.2 q) = true) : ∃ h', jE d 116 [jP 141] h none h' ∧ Ly p h' ∧ Fq ZL h h' ∧ ji h' 141 3 = (q : Int) ∧ ji h' 141 2 = (lexD T q).1 ∧ ji h' 141 4 = (spn isDg T q : Int) ∧ (spn isDg T q - q ≤ 4 → ji h' 141 5 = c10 (slc T q (spn isDg T q))) := by
  obtain ⟨d, rfl⟩ : ∃ d', d = d' + 1 := ⟨d - 1, by omega⟩
  have hT1 := hT.1
  have s1 := spn_lt hq hl
  have fin : ∀ (m : Nat) (g : AH), spn isDg T q = m → LxI p T c10 q m h g → ((m : Int) - (q : Int) ≤ 4 → (Ly p (wi g 141 2 2) → ((none : Option AV) = none ∧ Ly p (wi g 141 2 2) ∧ Fq ZL h (wi g 141 2 2) ∧ ji (wi g 141 2 2) 141 3 = (q : Int) ∧ ji (wi g 141 2 2) 141 2 = (lexD T q).1 ∧ ji (wi g 141 2 2) 141 4 = (m : Int) ∧ (m - q ≤ 4 → ji (wi g 141 2 2) 141 5 = c10 (slc T q m))))) ∧ (¬ (m : Int) - (q : Int) ≤ 4 → (Ly p (wi g 141 2 4) → ((none : Option AV) = none ∧ Ly p (wi g 141 2 4) ∧ Fq ZL h (wi g 141 2 4) ∧ ji (wi g 141 2 4) 141 3 = (q : Int) ∧ ji (wi g 141 2 4) 141 2 = (lexD T q).1 ∧ ji (wi g 141 2 4) 141 4 = (m : Int) ∧ (m - q ≤ 4 → ji (wi g 141 2 4) 141 5 = c10 (slc T q m))))) := by
    intro m g em I
    obtain ⟨Lg, Xg, F, e3, e4, h1, h2, h3⟩ := I
    have eK : (lexD T q).1 = if 4 < m - q then 4 else 2 := by unfold lexD; rw [em]
    refine ⟨fun z L2 => ⟨rfl, L2, F.trans (Fq.wi (by omega)), ?_, ?_, ?_, fun _ => ?_⟩, fun z L2 => ⟨rfl, L2, F.trans (Fq.wi (by omega)), ?_, ?_, ?_, fun z2 => by omega⟩⟩
    · rw [ji_wi, if_neg (by omega)]; exact e3
    · rw [ji_wi, if_pos ⟨rfl, rfl⟩, eK, if_neg (by omega)]
    · rw [ji_wi, if_neg (by omega)]; exact e4
    · rw [ji_wi, if_neg (by omega)]; exact h3 (by omega)
    · rw [ji_wi, if_neg (by omega)]; exact e3
    · rw [ji_wi, if_pos ⟨rfl, rfl⟩, eK, if_pos (by omega)]
    · rw [ji_wi, if_neg (by omega)]; exact e4
  have key : ∀ (j m : Nat) (g : AH), T.1 - m = j → spn isDg T m = spn isDg T q → LxI p T c10 q m h g → WF d 116 5 [jP 141] [] g (fun w h' => w = none ∧ Ly p h' ∧ Fq ZL h h' ∧ ji h' 141 3 = (q : Int) ∧ ji h' 141 2 = (lexD T q).1 ∧ ji h' 141 4 = (spn isDg T q : Int) ∧ (spn isDg T q - q ≤ 4 → ji h' 141 5 = c10 (slc T q (spn isDg T q)))) := by
    intro j
    induction j with
    | zero =>
      intro m g hj hs I
      have I0 := I
      obtain ⟨Lg, Xg, F, e3, e4, h1, h2, h3⟩ := I
      have em : spn isDg T q = m := by rw [← hs]; exact spn_end (by omega)
      refine c_116_5 (by omega) Lg ?_
      rw [atM Xg e4, tAt_n (by omega), e4, Xg.1, e3, w32_i (x := (m : Int) - (q : Int)) (by omega) (by omega), em]
      exact ⟨by omega, by omega, fun z => by omega, fun _ => fin m g em I0⟩
    | succ j ih =>
      intro m g hj hs I
      have I0 := I
      obtain ⟨Lg, Xg, F, e3, e4, h1, h2, h3⟩ := I
      have hm : m < T.1 := by omega
      have hb := hT.2 m hm
      refine c_116_5 (by omega) Lg ?_
      rw [atM Xg e4, tAt_y hm, e4, Xg.1, e3, w32_i (x := (m : Int) - (q : Int)) (by omega) (by omega)]
      refine ⟨by omega, by omega, fun z => ⟨fun z2 L2 => ?_, fun z2 => ⟨by omega, by omega, fun L2 => ?_⟩⟩, fun z => ?_⟩
      · exact ih (m + 1) _ (by omega) (by rw [← hs]; exact (spn_yes hm (isDg_i.mpr z)).symm) (lx_step I0 hm hT (fun z3 => by omega))
      · refine ih (m + 1) _ (by omega) (by rw [← hs]; exact (spn_yes hm (isDg_i.mpr z)).symm) (lx_step I0 hm hT (fun z3 => ?_))
        rw [h3 (by omega), slc_snoc T h1]
        exact dg_c10 (fun c hc => isDg_i.mp (slcLt hs c hc)) (by rw [slc_len]; omega) hb
      · have em : spn isDg T q = m := by rw [← hs]; exact spn_no (fun y => z (isDg_i.mp y))
        rw [em]
        exact fin m g em I0
  have f1 : Fq ZL h (wi h 141 5 0) := Fq.wi (by omega)
  obtain ⟨v, h', hE, rfl, r⟩ := jE_of (d := d) (y := 116) (h := h) (as := [jP 141]) (Nat.le_of_ble_eq_true rfl) (c_116_0 (by omega) L (fun L2 => key _ q _ rfl rfl ⟨L2, X.fq f1 (by omega) (fun k => by omega), f1, by rw [ji_wi, if_neg (by omega)]; exact e3, by rw [ji_wi, if_neg (by omega)]; exact e4, Nat.le_refl _, by omega, fun _ => by rw [ji_wi, if_pos ⟨rfl, rfl⟩, slc_nil]; rfl⟩))
  exact ⟨h', hE, r⟩
end RLX
