/-! THE LAW: each call -/
section LWC
variable {L i d : Nat} {xs : Nat → Int} {h : AH} {Q : Option AV → AH → Prop}
abbrev lv (v3 : Int) : List AV := [jP 2, jP 32, jP 141, jI v3]
theorem lw_c3 (hd : 100 ≤ d) (hx : ∀ k, r32 (xs k)) {v3 : Int} (v0 : 0 ≤ v3) (vL : v3 + 4 ≤ (L : Int)) (l2 : L ≤ 2048) (I : LIn L xs i h) (K : ∀ h', LIn L xs (i + 1) h' → WF d 202 723 (lv v3) [] h' Q) : WF d 202 227 (lv v3) [] h Q := by
  obtain ⟨p, T, c, pt, W, e, SC, SR, P1, P2, H2, x1, x2⟩ := I
  have sr := sc_r hx SC.1 e
  have A : ∀ k : Int, 1 ≤ k → k ≤ 3 → inA h 2 0 (w32 (v3 + k)) := fun k k1 k2 => by
    rw [w32_i (by omega) (by omega)]; exact sc_in SC.1 e (by omega) (by omega)
  exact b_202_227 ⟨A 1 (by omega) (by omega), A 2 (by omega) (by omega), A 3 (by omega) (by omega), SC.1.t32, _, h, m_84 (by omega) SC (sr _), A 1 (by omega) (by omega), A 2 (by omega) (by omega), A 3 (by omega) (by omega), SC.1.t141, _, h, m_161 (by omega) SR, fun _ => K h ⟨p, T, c, pt, W, e, SC, SR, P1, P2, H2, by omega, x2⟩, fun z => absurd rfl z⟩
theorem lw_c4 (hd : 100 ≤ d) (hx : ∀ k, r32 (xs k)) {v3 : Int} (v0 : 0 ≤ v3) (vL : v3 + 4 ≤ (L : Int)) (l2 : L ≤ 2048) (I : LIn L xs i h) (K : ∀ h', LIn L xs (i + 1) h' → WF d 202 723 (lv v3) [] h' Q) : WF d 202 270 (lv v3) [] h Q := by
  obtain ⟨p, T, c, pt, W, e, SC, SR, P1, P2, H2, x1, x2⟩ := I
  have sr := sc_r hx SC.1 e
  have A : ∀ k : Int, 1 ≤ k → k ≤ 3 → inA h 2 0 (w32 (v3 + k)) := fun k k1 k2 => by
    rw [w32_i (by omega) (by omega)]; exact sc_in SC.1 e (by omega) (by omega)
  exact b_202_270 ⟨A 1 (by omega) (by omega), A 2 (by omega) (by omega), SC.1.t32, _, h, m_85 (by omega) SC, A 1 (by omega) (by omega), A 2 (by omega) (by omega), SC.1.t141, _, h, m_162 (by omega) SR, fun _ => K h ⟨p, T, c, pt, W, e, SC, SR, P1, P2, H2, by omega, x2⟩, fun z => absurd rfl z⟩
theorem lw_c5 (hd : 100 ≤ d) (hx : ∀ k, r32 (xs k)) {v3 : Int} (v0 : 0 ≤ v3) (vL : v3 + 4 ≤ (L : Int)) (l2 : L ≤ 2048) (I : LIn L xs i h) (K : ∀ h', LIn L xs (i + 1) h' → WF d 202 723 (lv v3) [] h' Q) : WF d 202 303 (lv v3) [] h Q := by
  obtain ⟨p, T, c, pt, W, e, SC, SR, P1, P2, H2, x1, x2⟩ := I
  have sr := sc_r hx SC.1 e
  have A : ∀ k : Int, 1 ≤ k → k ≤ 3 → inA h 2 0 (w32 (v3 + k)) := fun k k1 k2 => by
    rw [w32_i (by omega) (by omega)]; exact sc_in SC.1 e (by omega) (by omega)
  exact b_202_303 ⟨A 1 (by omega) (by omega), A 2 (by omega) (by omega), A 3 (by omega) (by omega), SC.1.t32, _, h, m_86 (by omega) SC (sr _) (sr _), A 1 (by omega) (by omega), A 2 (by omega) (by omega), A 3 (by omega) (by omega), SC.1.t141, _, h, m_165 (by omega) SR, fun _ => K h ⟨p, T, c, pt, W, e, SC, SR, P1, P2, H2, by omega, x2⟩, fun z => absurd rfl z⟩
theorem lw_c6 (hd : 100 ≤ d) (hx : ∀ k, r32 (xs k)) {v3 : Int} (v0 : 0 ≤ v3) (vL : v3 + 4 ≤ (L : Int)) (l2 : L ≤ 2048) (I : LIn L xs i h) (K : ∀ h', LIn L xs (i + 1) h' → WF d 202 723 (lv v3) [] h' Q) : WF d 202 346 (lv v3) [] h Q := by
  obtain ⟨p, T, c, pt, W, e, SC, SR, P1, P2, H2, x1, x2⟩ := I
  have sr := sc_r hx SC.1 e
  have A : ∀ k : Int, 1 ≤ k → k ≤ 3 → inA h 2 0 (w32 (v3 + k)) := fun k k1 k2 => by
    rw [w32_i (by omega) (by omega)]; exact sc_in SC.1 e (by omega) (by omega)
  exact b_202_346 ⟨A 1 (by omega) (by omega), A 2 (by omega) (by omega), A 3 (by omega) (by omega), SC.1.t32, _, h, m_87 (by omega) SC (sr _) (sr _), A 1 (by omega) (by omega), A 2 (by omega) (by omega), A 3 (by omega) (by omega), SC.1.t141, _, h, m_166 (by omega) SR, fun _ => K h ⟨p, T, c, pt, W, e, SC, SR, P1, P2, H2, by omega, x2⟩, fun z => absurd rfl z⟩
theorem lw_c7 (hd : 100 ≤ d) (hx : ∀ k, r32 (xs k)) {v3 : Int} (v0 : 0 ≤ v3) (vL : v3 + 4 ≤ (L : Int)) (l2 : L ≤ 2048) (I : LIn L xs i h) (K : ∀ h', LIn L xs (i + 1) h' → WF d 202 723 (lv v3) [] h' Q) : WF d 202 389 (lv v3) [] h Q := by
  obtain ⟨p, T, c, pt, W, e, SC, SR, P1, P2, H2, x1, x2⟩ := I
  have sr := sc_r hx SC.1 e
  have A : ∀ k : Int, 1 ≤ k → k ≤ 3 → inA h 2 0 (w32 (v3 + k)) := fun k k1 k2 => by
    rw [w32_i (by omega) (by omega)]; exact sc_in SC.1 e (by omega) (by omega)
  exact b_202_389 ⟨A 1 (by omega) (by omega), A 2 (by omega) (by omega), SC.1.t32, _, h, m_88 (by omega) SC, A 1 (by omega) (by omega), A 2 (by omega) (by omega), SC.1.t141, _, h, m_169 (by omega) SR, fun _ => K h ⟨p, T, c, pt, W, e, SC, SR, P1, P2, H2, by omega, x2⟩, fun z => absurd rfl z⟩
theorem lw_c8 (hd : 100 ≤ d) (hx : ∀ k, r32 (xs k)) {v3 : Int} (v0 : 0 ≤ v3) (vL : v3 + 4 ≤ (L : Int)) (l2 : L ≤ 2048) (I : LIn L xs i h) (K : ∀ h', LIn L xs (i + 1) h' → WF d 202 723 (lv v3) [] h' Q) : WF d 202 422 (lv v3) [] h Q := by
  obtain ⟨p, T, c, pt, W, e, SC, SR, P1, P2, H2, x1, x2⟩ := I
  have sr := sc_r hx SC.1 e
  have A : ∀ k : Int, 1 ≤ k → k ≤ 3 → inA h 2 0 (w32 (v3 + k)) := fun k k1 k2 => by
    rw [w32_i (by omega) (by omega)]; exact sc_in SC.1 e (by omega) (by omega)
  exact b_202_422 ⟨A 1 (by omega) (by omega), A 2 (by omega) (by omega), SC.1.t32, _, h, m_89 (by omega) SC, A 1 (by omega) (by omega), A 2 (by omega) (by omega), SC.1.t141, _, h, m_170 (by omega) SR, fun _ => K h ⟨p, T, c, pt, W, e, SC, SR, P1, P2, H2, by omega, x2⟩, fun z => absurd rfl z⟩
theorem lw_c9 (hd : 100 ≤ d) (hx : ∀ k, r32 (xs k)) {v3 : Int} (v0 : 0 ≤ v3) (vL : v3 + 4 ≤ (L : Int)) (l2 : L ≤ 2048) (I : LIn L xs i h) (K : ∀ h', LIn L xs (i + 1) h' → WF d 202 723 (lv v3) [] h' Q) : WF d 202 455 (lv v3) [] h Q := by
  obtain ⟨p, T, c, pt, W, e, SC, SR, P1, P2, H2, x1, x2⟩ := I
  have sr := sc_r hx SC.1 e
  have A : ∀ k : Int, 1 ≤ k → k ≤ 3 → inA h 2 0 (w32 (v3 + k)) := fun k k1 k2 => by
    rw [w32_i (by omega) (by omega)]; exact sc_in SC.1 e (by omega) (by omega)
  exact b_202_455 ⟨A 1 (by omega) (by omega), A 2 (by omega) (by omega), SC.1.t32, _, h, m_90 (by omega) SC, A 1 (by omega) (by omega), A 2 (by omega) (by omega), SC.1.t141, _, h, m_171 (by omega) SR, fun _ => K h ⟨p, T, c, pt, W, e, SC, SR, P1, P2, H2, by omega, x2⟩, fun z => absurd (jcmp_0.mpr rfl) z⟩
theorem lw_c10 (hd : 100 ≤ d) (hx : ∀ k, r32 (xs k)) {v3 : Int} (v0 : 0 ≤ v3) (vL : v3 + 4 ≤ (L : Int)) (l2 : L ≤ 2048) (I : LIn L xs i h) (K : ∀ h', LIn L xs (i + 1) h' → WF d 202 723 (lv v3) [] h' Q) : WF d 202 489 (lv v3) [] h Q := by
  obtain ⟨p, T, c, pt, W, e, SC, SR, P1, P2, H2, x1, x2⟩ := I
  have sr := sc_r hx SC.1 e
  have A : ∀ k : Int, 1 ≤ k → k ≤ 3 → inA h 2 0 (w32 (v3 + k)) := fun k k1 k2 => by
    rw [w32_i (by omega) (by omega)]; exact sc_in SC.1 e (by omega) (by omega)
  exact b_202_489 ⟨A 1 (by omega) (by omega), SC.1.t32, _, h, m_91 (by omega) SC, A 1 (by omega) (by omega), SC.1.t141, _, h, m_172 (by omega) SR, fun _ => K h ⟨p, T, c, pt, W, e, SC, SR, P1, P2, H2, by omega, x2⟩, fun z => absurd (jcmp_0.mpr rfl) z⟩
theorem lw_c11 (hd : 100 ≤ d) (hx : ∀ k, r32 (xs k)) {v3 : Int} (v0 : 0 ≤ v3) (vL : v3 + 4 ≤ (L : Int)) (l2 : L ≤ 2048) (I : LIn L xs i h) (K : ∀ h', LIn L xs (i + 1) h' → WF d 202 723 (lv v3) [] h' Q) : WF d 202 513 (lv v3) [] h Q := by
  obtain ⟨p, T, c, pt, W, e, SC, SR, P1, P2, H2, x1, x2⟩ := I
  have sr := sc_r hx SC.1 e
  have A : ∀ k : Int, 1 ≤ k → k ≤ 3 → inA h 2 0 (w32 (v3 + k)) := fun k k1 k2 => by
    rw [w32_i (by omega) (by omega)]; exact sc_in SC.1 e (by omega) (by omega)
  exact b_202_513 ⟨A 1 (by omega) (by omega), SC.1.t32, _, h, m_92 (by omega) SC, A 1 (by omega) (by omega), SC.1.t141, _, h, m_173 (by omega) SR, fun _ => K h ⟨p, T, c, pt, W, e, SC, SR, P1, P2, H2, by omega, x2⟩, fun z => absurd (jcmp_0.mpr rfl) z⟩
theorem lw_c12 (hd : 100 ≤ d) (hx : ∀ k, r32 (xs k)) {v3 : Int} (v0 : 0 ≤ v3) (vL : v3 + 4 ≤ (L : Int)) (l2 : L ≤ 2048) (I : LIn L xs i h) (K : ∀ h', LIn L xs (i + 1) h' → WF d 202 723 (lv v3) [] h' Q) : WF d 202 537 (lv v3) [] h Q := by
  obtain ⟨p, T, c, pt, W, e, SC, SR, P1, P2, H2, x1, x2⟩ := I
  have sr := sc_r hx SC.1 e
  have A : ∀ k : Int, 1 ≤ k → k ≤ 3 → inA h 2 0 (w32 (v3 + k)) := fun k k1 k2 => by
    rw [w32_i (by omega) (by omega)]; exact sc_in SC.1 e (by omega) (by omega)
  exact b_202_537 ⟨A 1 (by omega) (by omega), SC.1.t32, _, h, m_93 (by omega) SC P1.1, A 1 (by omega) (by omega), SC.1.t141, _, h, m_174 (by omega) SR P2.1, fun _ => K h ⟨p, T, c, pt, W, e, SC, SR, P1, P2, H2, by omega, x2⟩, fun z => absurd rfl z⟩
theorem lw_c14 (hd : 100 ≤ d) (hx : ∀ k, r32 (xs k)) {v3 : Int} (v0 : 0 ≤ v3) (vL : v3 + 4 ≤ (L : Int)) (l2 : L ≤ 2048) (I : LIn L xs i h) (K : ∀ h', LIn L xs (i + 1) h' → WF d 202 723 (lv v3) [] h' Q) : WF d 202 593 (lv v3) [] h Q := by
  obtain ⟨p, T, c, pt, W, e, SC, SR, P1, P2, H2, x1, x2⟩ := I
  have sr := sc_r hx SC.1 e
  have A : ∀ k : Int, 1 ≤ k → k ≤ 3 → inA h 2 0 (w32 (v3 + k)) := fun k k1 k2 => by
    rw [w32_i (by omega) (by omega)]; exact sc_in SC.1 e (by omega) (by omega)
  exact b_202_593 ⟨A 1 (by omega) (by omega), SC.1.t32, _, h, m_95 (by omega) SC, A 1 (by omega) (by omega), SC.1.t141, _, h, m_177 (by omega) SR, fun _ => K h ⟨p, T, c, pt, W, e, SC, SR, P1, P2, H2, by omega, x2⟩, fun z => absurd (jcmp_0.mpr rfl) z⟩
theorem lw_c15 (hd : 100 ≤ d) (hx : ∀ k, r32 (xs k)) {v3 : Int} (v0 : 0 ≤ v3) (vL : v3 + 4 ≤ (L : Int)) (l2 : L ≤ 2048) (I : LIn L xs i h) (K : ∀ h', LIn L xs (i + 1) h' → WF d 202 723 (lv v3) [] h' Q) : WF d 202 617 (lv v3) [] h Q := by
  obtain ⟨p, T, c, pt, W, e, SC, SR, P1, P2, H2, x1, x2⟩ := I
  have sr := sc_r hx SC.1 e
  have A : ∀ k : Int, 1 ≤ k → k ≤ 3 → inA h 2 0 (w32 (v3 + k)) := fun k k1 k2 => by
    rw [w32_i (by omega) (by omega)]; exact sc_in SC.1 e (by omega) (by omega)
  exact b_202_617 ⟨A 1 (by omega) (by omega), SC.1.t32, _, h, m_96 (by omega) SC, A 1 (by omega) (by omega), SC.1.t141, _, h, m_179 (by omega) SR, fun _ => K h ⟨p, T, c, pt, W, e, SC, SR, P1, P2, H2, by omega, x2⟩, fun z => absurd rfl z⟩
theorem lw_c16 (hd : 100 ≤ d) (hx : ∀ k, r32 (xs k)) {v3 : Int} (v0 : 0 ≤ v3) (vL : v3 + 4 ≤ (L : Int)) (l2 : L ≤ 2048) (I : LIn L xs i h) (K : ∀ h', LIn L xs (i + 1) h' → WF d 202 723 (lv v3) [] h' Q) : WF d 202 640 (lv v3) [] h Q := by
  obtain ⟨p, T, c, pt, W, e, SC, SR, P1, P2, H2, x1, x2⟩ := I
  have sr := sc_r hx SC.1 e
  have A : ∀ k : Int, 1 ≤ k → k ≤ 3 → inA h 2 0 (w32 (v3 + k)) := fun k k1 k2 => by
    rw [w32_i (by omega) (by omega)]; exact sc_in SC.1 e (by omega) (by omega)
  exact b_202_640 ⟨A 1 (by omega) (by omega), SC.1.t32, _, h, m_97 (by omega) SC (sr _), A 1 (by omega) (by omega), SC.1.t141, _, h, m_180 (by omega) SR (sr _), fun _ => K h ⟨p, T, c, pt, W, e, SC, SR, P1, P2, H2, by omega, x2⟩, fun z => absurd rfl z⟩
theorem lw_c17 (hd : 100 ≤ d) (hx : ∀ k, r32 (xs k)) {v3 : Int} (v0 : 0 ≤ v3) (vL : v3 + 4 ≤ (L : Int)) (l2 : L ≤ 2048) (I : LIn L xs i h) (K : ∀ h', LIn L xs (i + 1) h' → WF d 202 723 (lv v3) [] h' Q) : WF d 202 663 (lv v3) [] h Q := by
  obtain ⟨p, T, c, pt, W, e, SC, SR, P1, P2, H2, x1, x2⟩ := I
  have sr := sc_r hx SC.1 e
  have A : ∀ k : Int, 1 ≤ k → k ≤ 3 → inA h 2 0 (w32 (v3 + k)) := fun k k1 k2 => by
    rw [w32_i (by omega) (by omega)]; exact sc_in SC.1 e (by omega) (by omega)
  exact b_202_663 ⟨SC.1.t32, _, h, m_98 (by omega) SC, SC.1.t141, _, h, m_181 (by omega) SR, fun _ => K h ⟨p, T, c, pt, W, e, SC, SR, P1, P2, H2, by omega, x2⟩, fun z => absurd (jcmp_0.mpr rfl) z⟩
theorem lw_c19 (hd : 100 ≤ d) (hx : ∀ k, r32 (xs k)) {v3 : Int} (v0 : 0 ≤ v3) (vL : v3 + 4 ≤ (L : Int)) (l2 : L ≤ 2048) (I : LIn L xs i h) (K : ∀ h', LIn L xs (i + 1) h' → WF d 202 723 (lv v3) [] h' Q) : WF d 202 700 (lv v3) [] h Q := by
  obtain ⟨p, T, c, pt, W, e, SC, SR, P1, P2, H2, x1, x2⟩ := I
  have sr := sc_r hx SC.1 e
  have A : ∀ k : Int, 1 ≤ k → k ≤ 3 → inA h 2 0 (w32 (v3 + k)) := fun k k1 k2 => by
    rw [w32_i (by omega) (by omega)]; exact sc_in SC.1 e (by omega) (by omega)
  exact b_202_700 ⟨A 1 (by omega) (by omega), SC.1.t32, _, h, m_100 (by omega) SC P1, A 1 (by omega) (by omega), SC.1.t141, _, h, m_187 (by omega) SR P2, fun _ => K h ⟨p, T, c, pt, W, e, SC, SR, P1, P2, H2, by omega, x2⟩, fun z => absurd rfl z⟩
end LWC
