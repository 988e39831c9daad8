/-! the link tables -/
def tbs (j : Nat) : List Cond := match j with
  | 0 => k2_sels lw_privs
  | 1 => tables_1_1
  | 2 => tables_1_2
  | 3 => tables_1_3
  | 4 => tables_1_4
  | 5 => tables_1_5
  | 6 => tables_1_6
  | _ => tables_1_7
theorem tbs_in (j : Nat) {w : Cond} (h : w ∈ tbs j) : w ∈ lw_tbl := by
  unfold lw_tbl tables_1
  simp only [List.mem_append]
  unfold tbs at h
  split at h
  · exact Or.inl h
  · exact Or.inr (Or.inl h)
  · exact Or.inr (Or.inr (Or.inl h))
  · exact Or.inr (Or.inr (Or.inr (Or.inl h)))
  · exact Or.inr (Or.inr (Or.inr (Or.inr (Or.inl h))))
  · exact Or.inr (Or.inr (Or.inr (Or.inr (Or.inr (Or.inl h)))))
  · exact Or.inr (Or.inr (Or.inr (Or.inr (Or.inr (Or.inr (Or.inl h))))))
  · exact Or.inr (Or.inr (Or.inr (Or.inr (Or.inr (Or.inr (Or.inr h))))))
def at_ (i : Nat) (w : Cond) : Bool := decide ((tbs (i / 1000))[i % 1000]? = some w)
theorem at_in {i : Nat} {w : Cond} (h : at_ i w = true) : w ∈ lw_tbl := tbs_in _ (List.mem_of_getElem? (of_decide_eq_true h))
def ckF (o : Nat) (q : Nat × Nat × Nat) : Bool :=
  bif Nat.beq q.2.1 1200 then at_ q.2.2 (.fieldLink (oR o) q.1 "java/lang/String" "value" "[B")
  else bif Nat.beq q.2.1 1201 then at_ q.2.2 (.fieldLink (oR o) q.1 "java/lang/String" "coder" "B")
  else Nat.ble (q.2.1 / 100 + 1) 12 && (Nat.ble (q.2.1 % 100 + 1) (kC (q.2.1 / 100)).2.2 && at_ q.2.2 (.fieldLink (oR o) q.1 ((kC (q.2.1 / 100)).2.1 (q.2.1 % 100)).1 ((kC (q.2.1 / 100)).2.1 (q.2.1 % 100)).2.1 ((kC (q.2.1 / 100)).2.1 (q.2.1 % 100)).2.2.1))
def ckM (o : Nat) (q : Nat × Nat × Nat) : Bool := bif Nat.beq q.2.1 900 then at_ q.2.2 (.methodLink (oR o) q.1 Lib.objectInit) else bif Nat.beq q.2.1 901 then at_ q.2.2 (.methodLink (oR o) q.1 Lib.Math.max.name) else bif Nat.beq q.2.1 902 then at_ q.2.2 (.methodLink (oR o) q.1 Lib.Math.min.name) else bif Nat.beq q.2.1 903 then at_ q.2.2 (.methodLink (oR o) q.1 Lib.MathLoose.min_long.x) else at_ q.2.2 (.methodLink (oR o) q.1 (mT q.2.1).1)
def ckN (o : Nat) (q : Nat × Nat × Nat) : Bool := Nat.beq o 1 && ((Nat.beq q.1 11 && decide ((mT q.2.1).1 = ⟨RX4, "<init>", "()V"⟩)) || (Nat.beq q.1 20 && decide ((mT q.2.1).1 = ⟨RX7, "<init>", "()V"⟩)))
def ckC (o : Nat) (q : Nat × Nat × Nat) : Bool := Nat.beq q.2.1 77 || at_ q.2.2 (.classLink (oR o) q.1 (kC q.2.1).1)
def ckI (o : Nat) (q : Nat × Int × Nat) : Bool := at_ q.2.2 (.constant (oR o) q.1 (Int32.ofInt q.2.1))
def ckL (o : Nat) (q : Nat × Int × Nat) : Bool := at_ q.2.2 (.constantLong (oR o) q.1 (Int64.ofInt q.2.1))
def ckS (o : Nat) (q : Nat × Nat × Nat) : Bool := Nat.ble 2 q.2.1 && strL.any (fun r => decide (r.1 = oR o) && (Nat.beq r.2.1 q.1 && Nat.beq r.2.2.2 q.2.1))
def ckG (o : Nat) (q : Nat × Nat × Nat) : Bool :=
  bif Nat.beq q.2.1 0 then at_ q.2.2 (.fieldLink (oR o) q.1 "java/lang/String" "COMPACT_STRINGS" "Z")
  else bif Nat.beq q.2.1 1 then at_ q.2.2 (.fieldLink (oR o) q.1 "jdk/internal/util/Preconditions" "SIOOBE_FORMATTER" "Ljava/util/function/BiFunction;")
  else Nat.beq o 9 && Nat.beq q.1 66
def ckAll {α : Type} (L : List (List α)) (f : Nat → α → Bool) : Bool := (List.range L.length).all (fun o => (L.getD o []).all (f o))
theorem ckAll_e {α : Type} {L : List (List α)} {f : Nat → α → Bool} (h : ckAll L f = true) {o : Nat} {q : α} (hq : q ∈ L.getD o []) : f o q = true := by
  by_cases ho : o < L.length
  · exact List.all_eq_true.mp (List.all_eq_true.mp h o (List.mem_range.mpr ho)) q hq
  · rw [List.getD_eq_getElem?_getD, List.getElem?_eq_none (by omega)] at hq
    cases hq
