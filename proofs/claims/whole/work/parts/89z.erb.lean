/-! WHERE A TEXT CAN BE WRONG -/
def EB {α : Type} (r : Er α) : Prop := ∀ q, r = .error q → q ≤ 1000
section ERB
variable {T : Txt} {α β : Type} {C : Cx}
theorem eb_ok (a : α) : EB (.ok a : Er α) := fun q h => by cases h
theorem eb_n {n : Nat} (hn : n ≤ 1000) : EB (.error n : Er α) := fun q h => by cases h; exact hn
theorem eb_xb {r : Er α} {f : α → Er β} (h1 : EB r) (h2 : ∀ a, EB (f a)) : EB (xb r f) := by
  cases r with
  | error e => exact fun q h => h1 q (by cases h; rfl)
  | ok a => exact h2 a
theorem eb_if {c : Prop} [Decidable c] {x y : Er α} (h1 : EB x) (h2 : EB y) : EB (if c then x else y) := by
  split
  · exact h1
  · exact h2
theorem lexS_e (T : Txt) (q : Nat) : (lexS T q).2.1 = q ∧ (lexS T q).2.2.2.2 ≤ q + 2 := by
  unfold lexS
  split
  · exact ⟨rfl, Nat.le_refl _⟩
  split
  · exact ⟨rfl, Nat.le_refl _⟩
  split
  · exact ⟨rfl, Nat.le_refl _⟩
  · exact ⟨rfl, by show q + 1 ≤ q + 2; omega⟩
theorem lex_b {k : Nat} (hk : k ≤ T.1 + 1) : (lex T k).2.1 ≤ T.1 + 1 ∧ (lex T k).2.2.2.2 ≤ T.1 + 1 := by
  unfold lex
  have hq : spn isBl T k ≤ T.1 + 1 := by
    by_cases z : k ≤ T.1
    · have := spn_le isBl T z; omega
    · rw [spn_end (by omega)]; exact hk
  generalize spn isBl T k = q at hq ⊢
  unfold lex0
  by_cases z : T.1 ≤ q
  · rw [if_pos z]; exact ⟨hq, hq⟩
  rw [if_neg z]
  split
  · have := spn_le isLt T (k := q) (by omega)
    exact ⟨by show q ≤ _; omega, by show spn isLt T q ≤ _; omega⟩
  split
  · have := spn_le isDg T (k := q) (by omega)
    exact ⟨by show q ≤ _; omega, by show spn isDg T q ≤ _; omega⟩
  · have := lexS_e T q
    omega
theorem tk_b : ∀ i, (tk T i).2.1 ≤ T.1 + 1 ∧ (tk T i).2.2.2.2 ≤ T.1 + 1
  | 0 => lex_b (Nat.zero_le _)
  | i + 1 => lex_b (tk_b i).2
theorem eb_e (hT : okT T) (i : Nat) : EB (.error (tkP T i) : Er α) := eb_n (by
  have := (tk_b (T := T) i).1
  have := hT.1
  show (tk T i).2.1 ≤ 1000
  omega)
theorem eb_take (hT : okT T) (k : Int) (i : Nat) : EB (pTake T k i) := eb_if (eb_ok _) (eb_e hT _)
theorem eb_place (hT : okT T) (G : NmL) (sl : List Int) (s : Int) (i : Nat) : EB (pPlace T C G sl s i) := eb_if (eb_if (eb_e hT _) (eb_ok _)) (eb_if (eb_ok _) (eb_e hT _))
theorem eb_places (hT : okT T) (G : NmL) (sl : List Int) (o : Int × Int) (i : Nat) : EB (pPlaces T C G sl o i) := by
  unfold pPlaces
  exact eb_if (eb_ok _) (eb_xb (eb_take hT _ _) (fun _ => eb_xb (eb_place hT _ _ _ _) (fun _ => eb_if (eb_xb (eb_take hT _ _) (fun _ => eb_ok _)) (eb_xb (eb_take hT _ _) (fun _ => eb_xb (eb_place hT _ _ _ _) (fun _ => eb_xb (eb_take hT _ _) (fun _ => eb_ok _)))))))
theorem eb_named (hT : okT T) (G : NmL) (sl : List Int) (i : Nat) : EB (pNamed T C G sl i) := by
  unfold pNamed
  exact eb_if (eb_ok _) (eb_if (eb_xb (eb_places hT _ _ _ _) (fun _ => eb_ok _)) (eb_if (eb_xb (eb_places hT _ _ _ _) (fun _ => eb_ok _)) (eb_e hT _)))
theorem eb_ind1 (hT : okT T) (G : NmL) (sl : List Int) (i : Nat) : EB (pInd1 T G sl i) := by
  unfold pInd1
  exact eb_if (eb_xb (eb_take hT _ _) (fun _ => eb_if (eb_ok _) (eb_e hT _))) (eb_e hT _)
theorem eb_ind (hT : okT T) (G : NmL) (sl : List Int) (i : Nat) : EB (pInd T G sl i) := by
  unfold pInd
  exact eb_xb (eb_ind1 hT _ _ _) (fun _ => eb_if (eb_ind1 hT _ _ _) (eb_ok _))
theorem eb_fac (hT : okT T) {deep : Bool} {rec : NmL → List Int → Nat → Er (Ex × Nat)} (hr : ∀ G sl i, EB (rec G sl i)) (G : NmL) (sl : List Int) (i : Nat) : EB (facW T C deep rec G sl i) := by
  unfold facW
  exact eb_if (eb_ok _) (eb_if (eb_named hT _ _ _) (eb_if (eb_xb (hr _ _ _) (fun _ => eb_xb (eb_take hT _ _) (fun _ => eb_ok _))) (eb_if (eb_xb (eb_take hT _ _) (fun _ => eb_xb (eb_ind hT _ _ _) (fun _ => eb_xb (eb_take hT _ _) (fun _ => eb_xb (hr _ _ _) (fun _ => eb_xb (eb_take hT _ _) (fun _ => eb_ok _)))))) (eb_e hT _))))
theorem eb_loop (hT : okT T) {fac : Nat → Er (Ex × Nat)} (hf : ∀ i, EB (fac i)) : ∀ (n : Nat) (s : Ex) (neg : Bool) (q : Ex) (i : Nat), EB (loopW T fac n s neg q i) := by
  intro n
  induction n with
  | zero => intro s neg q i; exact eb_e hT i
  | succ n ih =>
    intro s neg q i
    unfold loopW
    exact eb_xb (hf i) (fun f => eb_if (eb_e hT _) (eb_if (ih _ _ _ _) (eb_if (ih _ _ _ _) (eb_if (ih _ _ _ _) (eb_ok _)))))
theorem eb_sumW (hT : okT T) {fac : Nat → Er (Ex × Nat)} (hf : ∀ i, EB (fac i)) (i : Nat) : EB (sumW T fac i) := by
  unfold sumW
  exact eb_if (eb_loop hT hf _ _ _ _ _) (eb_loop hT hf _ _ _ _ _)
theorem eb_sum (hT : okT T) : ∀ (n : Nat) (G : NmL) (sl : List Int) (i : Nat), EB (pSum T C n G sl i) := by
  intro n
  induction n with
  | zero => intro G sl i; exact eb_sumW hT (fun i => eb_fac hT (fun _ _ _ => eb_n (by omega)) G sl i) i
  | succ n ih => intro G sl i; exact eb_sumW hT (fun i => eb_fac hT ih G sl i) i
theorem eb_name (hT : okT T) (G : NmL) (n m i : Nat) : EB (pName T G n m i) := eb_if (eb_ok _) (eb_e hT _)
theorem eb_setn (hT : okT T) (G : NmL) (i : Nat) : EB (pSetN T G i) := eb_if (eb_ok _) (eb_e hT _)
theorem eb_of (hT : okT T) (G : NmL) (i : Nat) : EB (pOf T G i) := by
  unfold pOf
  exact eb_if (eb_xb (eb_setn hT _ _) (fun _ => eb_if (eb_xb (eb_setn hT _ _) (fun _ => eb_xb (eb_take hT _ _) (fun _ => eb_ok _))) (eb_xb (eb_take hT _ _) (fun _ => eb_ok _)))) (eb_ok _)
theorem eb_val (hT : okT T) (i : Nat) : EB (pVal T i) := by
  unfold pVal
  exact eb_if (eb_xb (eb_take hT _ _) (fun _ => eb_ok _)) (eb_xb (eb_take hT _ _) (fun _ => eb_ok _))
theorem eb_vals (hT : okT T) : ∀ (n : Nat) (l : List Int) (i : Nat), EB (pVals T n l i) := by
  intro n
  induction n with
  | zero => intro l i; exact eb_ok _
  | succ n ih => intro l i; unfold pVals; exact eb_xb (eb_val hT _) (fun _ => ih _ _)
theorem eb_decl (hT : okT T) (D : Dc) (i : Nat) : EB (pDecl T D i) := by
  unfold pDecl
  refine eb_if ?_ (eb_if ?_ (eb_if ?_ (eb_if ?_ (eb_if ?_ (eb_e hT _)))))
  · unfold pSet
    exact eb_xb (eb_name hT _ _ _ _) (fun _ => eb_xb (eb_take hT _ _) (fun _ => eb_xb (eb_take hT _ _) (fun _ => eb_xb (eb_take hT _ _) (fun _ => eb_if (eb_xb (eb_take hT _ _) (fun _ => eb_ok _)) (eb_e hT _)))))
  · unfold pTab
    exact eb_xb (eb_name hT _ _ _ _) (fun _ => eb_xb (eb_of hT _ _) (fun _ => eb_xb (eb_take hT _ _) (fun _ => eb_xb (eb_vals hT _ _ _) (fun _ => eb_xb (eb_take hT _ _) (fun _ => eb_ok _)))))
  · unfold pVar
    exact eb_xb (eb_name hT _ _ _ _) (fun _ => eb_xb (eb_of hT _ _) (fun _ => eb_xb (eb_take hT _ _) (fun _ => eb_xb (eb_val hT _) (fun _ => eb_xb (eb_take hT _ _) (fun _ => eb_xb (eb_val hT _) (fun _ => eb_if (eb_e hT _) (eb_xb (eb_take hT _ _) (fun _ => eb_ok _))))))))
  · unfold pRule
    have hF : ∀ G j, EB (pFor T G j) := fun G j => eb_if (eb_ind hT _ _ _) (eb_ok _)
    have hR : ∀ j, EB (pRel T j) := fun j => eb_if (eb_ok _) (eb_if (eb_ok _) (eb_if (eb_ok _) (eb_e hT _)))
    exact eb_xb (eb_name hT _ _ _ _) (fun _ => eb_xb (hF _ _) (fun _ => eb_xb (eb_take hT _ _) (fun _ => eb_xb (eb_sum hT _ _ _ _) (fun _ => eb_xb (hR _) (fun _ => eb_xb (eb_sum hT _ _ _ _) (fun _ => eb_xb (eb_take hT _ _) (fun _ => eb_ok _)))))))
  · unfold pGoal
    exact eb_if (eb_e hT _) (eb_if (eb_xb (eb_sum hT _ _ _ _) (fun _ => eb_xb (eb_take hT _ _) (fun _ => eb_ok _))) (eb_e hT _))
theorem eb_text (hT : okT T) : ∀ (n : Nat) (D : Dc) (i : Nat), EB (pText T n D i) := by
  intro n
  induction n with
  | zero => intro D i; exact eb_e hT i
  | succ n ih => intro D i; unfold pText; exact eb_if (eb_ok _) (eb_xb (eb_decl hT _ _) (fun _ => ih _ _))
end ERB
