/-! WHAT IS READ: texts, tokens, sums, declarations -/
/-- a text: its length, its bytes -/
abbrev Txt : Type := Nat × (Nat → Int)
def tAt (T : Txt) (k : Nat) : Int := if k < T.1 then T.2 k else -1
def okT (T : Txt) : Prop := T.1 ≤ 400 ∧ ∀ k, k < T.1 → 0 ≤ T.2 k ∧ T.2 k ≤ 255
def isLt (c : Int) : Bool := decide (97 ≤ c ∧ c ≤ 122)
def isDg (c : Int) : Bool := decide (48 ≤ c ∧ c ≤ 57)
def isBl (c : Int) : Bool := decide (c = 32 ∨ c = 10)
def spnF (f : Int → Bool) (T : Txt) : Nat → Nat → Nat
  | 0, k => k
  | n + 1, k => if f (T.2 k) = true then spnF f T n (k + 1) else k
/-- the end of the run of bytes with f from k on -/
def spn (f : Int → Bool) (T : Txt) (k : Nat) : Nat := spnF f T (T.1 - k) k
theorem spn_end {f : Int → Bool} {T : Txt} {k : Nat} (h : T.1 ≤ k) : spn f T k = k := by
  unfold spn; rw [Nat.sub_eq_zero_of_le h]; rfl
theorem spn_yes {f : Int → Bool} {T : Txt} {k : Nat} (h : k < T.1) (hf : f (T.2 k) = true) : spn f T k = spn f T (k + 1) := by
  unfold spn
  rw [show T.1 - k = (T.1 - (k + 1)) + 1 by omega]
  show (if f (T.2 k) = true then spnF f T (T.1 - (k + 1)) (k + 1) else k) = _
  rw [if_pos hf]
theorem spn_no {f : Int → Bool} {T : Txt} {k : Nat} (hf : ¬ f (T.2 k) = true) : spn f T k = k := by
  unfold spn
  cases T.1 - k with
  | zero => rfl
  | succ n => show (if f (T.2 k) = true then _ else k) = k; rw [if_neg hf]
theorem spnF_ge {f : Int → Bool} {T : Txt} : ∀ (n k : Nat), k ≤ spnF f T n k ∧ spnF f T n k ≤ k + n
  | 0, k => ⟨Nat.le_refl _, Nat.le_refl _⟩
  | n + 1, k => by
    show k ≤ (if f (T.2 k) = true then spnF f T n (k + 1) else k) ∧ (if f (T.2 k) = true then spnF f T n (k + 1) else k) ≤ k + (n + 1)
    have := spnF_ge (f := f) (T := T) n (k + 1)
    split <;> omega
theorem spn_ge (f : Int → Bool) (T : Txt) (k : Nat) : k ≤ spn f T k := (spnF_ge _ k).1
theorem spn_le (f : Int → Bool) (T : Txt) {k : Nat} (h : k ≤ T.1) : spn f T k ≤ T.1 := by have := (spnF_ge (f := f) (T := T) (T.1 - k) k).2; unfold spn; omega
theorem spnF_all {f : Int → Bool} {T : Txt} : ∀ (n k i : Nat), k ≤ i → i < spnF f T n k → f (T.2 i) = true
  | 0, k, i, h1, h2 => by have : i < k := h2; omega
  | n + 1, k, i, h1, h2 => by
    have h2 : i < (if f (T.2 k) = true then spnF f T n (k + 1) else k) := h2
    by_cases hf : f (T.2 k) = true
    · rw [if_pos hf] at h2
      by_cases e : i = k
      · rw [e]; exact hf
      · exact spnF_all n (k + 1) i (by omega) h2
    · rw [if_neg hf] at h2; omega
theorem spn_all {f : Int → Bool} {T : Txt} {k i : Nat} (h1 : k ≤ i) (h2 : i < spn f T k) : f (T.2 i) = true := spnF_all _ k i h1 h2
theorem spn_stop {f : Int → Bool} {T : Txt} : ∀ {k : Nat}, spn f T k < T.1 → ¬ f (T.2 (spn f T k)) = true := by
  have key : ∀ (n k : Nat), T.1 - k = n → spn f T k < T.1 → ¬ f (T.2 (spn f T k)) = true := by
    intro n
    induction n with
    | zero => intro k hn hk; rw [spn_end (by omega)] at hk; omega
    | succ n ih =>
      intro k hn hk
      by_cases hf : f (T.2 k) = true
      · rw [spn_yes (by omega) hf] at hk ⊢; exact ih (k + 1) (by omega) hk
      · rw [spn_no hf]; exact hf
  exact fun {k} => key _ k rfl
/-- the bytes from a up to b -/
def slc (T : Txt) (a b : Nat) : List Int := (List.range (b - a)).map (fun i => T.2 (a + i))
theorem slc_nil (T : Txt) (a : Nat) : slc T a a = [] := by unfold slc; rw [Nat.sub_self]; rfl
theorem slc_snoc (T : Txt) {a b : Nat} (h : a ≤ b) : slc T a (b + 1) = slc T a b ++ [T.2 b] := by
  unfold slc
  rw [show b + 1 - a = (b - a) + 1 by omega, List.range_succ, List.map_append]
  rw [List.map_cons, List.map_nil, show a + (b - a) = b by omega]
theorem slc_len (T : Txt) (a b : Nat) : (slc T a b).length = b - a := by unfold slc; rw [List.length_map, List.length_range]
theorem slc_mem {T : Txt} {a b : Nat} {c : Int} (h : c ∈ slc T a b) : ∃ i, a ≤ i ∧ i < b ∧ c = T.2 i := by
  unfold slc at h
  obtain ⟨i, hi, rfl⟩ := List.mem_map.mp h
  have := List.mem_range.mp hi
  exact ⟨a + i, by omega, by omega, rfl⟩
def c256 (l : List Int) : Int := l.foldl (fun a b => a * 256 + b) 0
def c27 (l : List Int) : Int := l.foldl (fun a b => 27 * a + b - 96) 0
def c10 (l : List Int) : Int := l.foldl (fun a b => 10 * a + b - 48) 0
theorem c256_snoc (l : List Int) (b : Int) : c256 (l ++ [b]) = c256 l * 256 + b := by unfold c256; rw [List.foldl_append]; rfl
theorem c27_snoc (l : List Int) (b : Int) : c27 (l ++ [b]) = 27 * c27 l + b - 96 := by unfold c27; rw [List.foldl_append]; rfl
theorem c10_snoc (l : List Int) (b : Int) : c10 (l ++ [b]) = 10 * c10 l + b - 48 := by unfold c10; rw [List.foldl_append]; rfl
/-- a NAME -/
def okN (l : List Int) : Prop := 1 ≤ l.length ∧ l.length ≤ 4 ∧ ∀ c ∈ l, 97 ≤ c ∧ c ≤ 122
def wdT : List (List Int × Int) := [([115, 101, 116], 10), ([100, 97, 116, 97], 11), ([118, 97, 114], 12), ([114, 117, 108, 101], 13), ([103, 111, 97, 108], 14), ([109, 105, 110], 15), ([109, 97, 120], 16), ([115, 117, 109], 17), ([105, 110], 18), ([102, 111, 114], 19)]
def wordIn (l : List Int) : List (List Int × Int) → Int
  | [] => 1
  | e :: r => if l = e.1 then e.2 else wordIn l r
def wordK (l : List Int) : Int := wordIn l wdT
/-- kind, place, number, letters, where it ends. Kinds: 1 NAME, 2 NUMBER, 3 END, 4 BAD, 10 .. 19 WORDS, 20 <=, 21 >=, 22 .., 100 + a SIGN -/
abbrev Tk : Type := Int × Nat × Int × List Int × Nat
def lexL (T : Txt) (q : Nat) : Tk := (if 4 < spn isLt T q - q then 4 else wordK (slc T q (spn isLt T q)), q, 0, slc T q (spn isLt T q), spn isLt T q)
def lexD (T : Txt) (q : Nat) : Tk := (if 4 < spn isDg T q - q then 4 else 2, q, c10 (slc T q (spn isDg T q)), [], spn isDg T q)
def isSg (c : Int) : Bool := decide (c = 61 ∨ c = 43 ∨ c = 45 ∨ c = 42 ∨ c = 40 ∨ c = 41 ∨ c = 91 ∨ c = 93 ∨ c = 44 ∨ c = 59 ∨ c = 58)
def lexS (T : Txt) (q : Nat) : Tk :=
  if T.2 q = 60 then (if tAt T (q + 1) = 61 then 20 else 4, q, 0, [], q + 2)
  else if T.2 q = 62 then (if tAt T (q + 1) = 61 then 21 else 4, q, 0, [], q + 2)
  else if T.2 q = 46 then (if tAt T (q + 1) = 46 then 22 else 4, q, 0, [], q + 2)
  else (if isSg (T.2 q) = true then 100 + T.2 q else 4, q, 0, [], q + 1)
/-- the token at q, where no blank is -/
def lex0 (T : Txt) (q : Nat) : Tk := if T.1 ≤ q then (3, q, 0, [], q) else if isLt (T.2 q) = true then lexL T q else if isDg (T.2 q) = true then lexD T q else lexS T q
def lex (T : Txt) (k : Nat) : Tk := lex0 T (spn isBl T k)
def tk (T : Txt) : Nat → Tk
  | 0 => lex T 0
  | i + 1 => lex T (tk T i).2.2.2.2
def tkK (T : Txt) (i : Nat) : Int := (tk T i).1
def tkP (T : Txt) (i : Nat) : Nat := (tk T i).2.1
def tkV (T : Txt) (i : Nat) : Int := (tk T i).2.2.1
def tkN (T : Txt) (i : Nat) : List Int := (tk T i).2.2.2.1
def tkE (T : Txt) (i : Nat) : Nat := (tk T i).2.2.2.2
/-- the first END or BAD -/
def stopAt (T : Txt) (e : Nat) : Prop := (tkK T e = 3 ∨ tkK T e = 4) ∧ ∀ i, i < e → ¬ (tkK T i = 3 ∨ tkK T i = 4)
/-- the class's kinds -/
def cknL : List (Int × Int) := [(1, 3), (2, 4), (3, 1), (4, 2), (10, 7562612), (11, 1684108385), (12, 7758194), (13, 1920298085), (14, 1735352684), (15, 7170414), (16, 7168376), (17, 7566701), (18, 26990), (19, 6713202), (20, 5), (21, 6), (22, 7), (161, 61), (143, 43), (145, 45), (142, 42), (140, 40), (141, 41), (191, 91), (193, 93), (144, 44), (159, 59), (158, 58)]
def ckIn (k : Int) : List (Int × Int) → Int
  | [] => 0
  | e :: r => if k = e.1 then e.2 else ckIn k r
def ck (k : Int) : Int := ckIn k cknL
def okK (k : Int) : Prop := k ∈ cknL.map Prod.fst
theorem ck_inj0 : ∀ a ∈ cknL.map Prod.fst, ∀ b ∈ cknL.map Prod.fst, ck a = ck b → a = b := by decide +kernel
theorem ck_inj {a b : Int} (ha : okK a) (hb : okK b) : ck a = ck b ↔ a = b := ⟨ck_inj0 a ha b hb, fun e => by rw [e]⟩

/-! sums: a tree of nodes (what, three numbers) -/
abbrev Ex : Type := Std.DTreeMap.Internal.Impl (Int × Int × Int) (fun _ => Unit)
abbrev xNd (t : Nat) (k : Int × Int × Int) (l r : Ex) : Ex := .inner t k () l r
abbrev xNum (v : Int) : Ex := xNd 0 (v, 0, 0) .leaf .leaf
abbrev xIdx (s : Int) : Ex := xNd 1 (s, 0, 0) .leaf .leaf
abbrev xTab (k q r : Int) : Ex := xNd 2 (k, q, r) .leaf .leaf
abbrev xVar (k q r : Int) : Ex := xNd 3 (k, q, r) .leaf .leaf
abbrev xInn (s a b : Int) (e : Ex) : Ex := xNd 4 (s, a, b) e .leaf
abbrev xOne : Ex := .leaf
abbrev xMul (q f : Ex) : Ex := xNd 5 (0, 0, 0) q f
abbrev xZero : Ex := xNd 6 (0, 0, 0) .leaf .leaf
abbrev xAdd (s q : Ex) : Ex := xNd 7 (0, 0, 0) s q
abbrev xSub (s q : Ex) : Ex := xNd 8 (0, 0, 0) s q
/-- holds vars -/
def hv : Ex → Bool
  | .leaf => false
  | .inner t _ _ l r => if t = 3 then true else if t ≤ 2 then false else if t = 4 then hv l else if t = 6 then false else hv l || hv r
abbrev NmL : Type := List (List Int × Int × Int)
/-- what a NAME stands for: sort and number -/
def lkNm : NmL → List Int → Int × Int
  | [], _ => (-1, -1)
  | e :: r, l => if e.1 = l then e.2 else lkNm r l
def lkT (G : NmL) (T : Txt) (i : Nat) : Int × Int := if tkK T i = 1 then lkNm G (tkN T i) else (-1, -1)
def inR (s : Int) (n : Nat) : Prop := 0 ≤ s ∧ s < (n : Int)
/-- how many numbers: of no set 1 -/
def szO (S : List (Int × Int)) (s : Int) : Int := if s < 0 ∨ (S.length : Int) ≤ s then 1 else (S.getD s.toNat (0, 0)).2
def fsO (S : List (Int × Int)) (s : Int) : Int := (S.getD s.toNat (0, 0)).1
def ofO (S : List (Int × Int)) (s v : Int) : Int := if s < 0 ∨ (S.length : Int) ≤ s then 0 else if v < fsO S s ∨ szO S s ≤ v - fsO S s then -1 else v - fsO S s
def nuO (S : List (Int × Int)) (s k : Int) : Int := if s < 0 ∨ (S.length : Int) ≤ s then -1 else fsO S s + k
def wiO (S : List (Int × Int)) (a b : Int) : Bool := decide (0 ≤ a ∧ a < (S.length : Int) ∧ 0 ≤ b ∧ b < (S.length : Int) ∧ (szO S a = 0 ∨ (fsO S b ≤ fsO S a ∧ fsO S a + szO S a ≤ fsO S b + szO S b)))
abbrev Er (α : Type) : Type := Except Nat α
def xb {α β : Type} (x : Er α) (f : α → Er β) : Er β := match x with
  | .error e => .error e
  | .ok a => f a
def pTake (T : Txt) (k : Int) (i : Nat) : Er Nat := if tkK T i = k then .ok (i + 1) else .error (tkP T i)
/-- sets, tables and vars with their sets -/
abbrev Cx : Type := List (Int × Int) × List (Int × Int) × List (Int × Int)
def pPlace (T : Txt) (C : Cx) (G : NmL) (sl : List Int) (set : Int) (i : Nat) : Er (Int × Nat) :=
  if tkK T i = 2 then (if ofO C.1 set (tkV T i) = -1 then .error (tkP T i) else .ok (tkV T i, i + 1))
  else if (lkT G T i).1 = 4 ∧ wiO C.1 (sl.getD (lkT G T i).2.toNat (-1)) set = true then .ok (-1 - (lkT G T i).2, i + 1) else .error (tkP T i)
def pPlaces (T : Txt) (C : Cx) (G : NmL) (sl : List Int) (o : Int × Int) (i : Nat) : Er (Int × Int × Nat) :=
  if o.1 = -1 then .ok (0, 0, i)
  else xb (pTake T 191 i) fun i => xb (pPlace T C G sl o.1 i) fun q =>
    if o.2 = -1 then xb (pTake T 193 q.2) fun i => .ok (q.1, 0, i)
    else xb (pTake T 144 q.2) fun i => xb (pPlace T C G sl o.2 i) fun r => xb (pTake T 193 r.2) fun i => .ok (q.1, r.1, i)
def pNamed (T : Txt) (C : Cx) (G : NmL) (sl : List Int) (i : Nat) : Er (Ex × Nat) :=
  if (lkT G T i).1 = 4 then .ok (xIdx (lkT G T i).2, i + 1)
  else if (lkT G T i).1 = 1 then xb (pPlaces T C G sl (C.2.1.getD (lkT G T i).2.toNat (-1, -1)) (i + 1)) fun q => .ok (xTab (lkT G T i).2 q.1 q.2.1, q.2.2)
  else if (lkT G T i).1 = 2 then xb (pPlaces T C G sl (C.2.2.getD (lkT G T i).2.toNat (-1, -1)) (i + 1)) fun q => .ok (xVar (lkT G T i).2 q.1 q.2.1, q.2.2)
  else .error (tkP T i)
/-- NAME in SET -/
def pInd1 (T : Txt) (G : NmL) (sl : List Int) (i : Nat) : Er (NmL × List Int × Nat) :=
  if tkK T i = 1 ∧ (lkNm G (tkN T i)).1 = -1 then xb (pTake T 18 (i + 1)) fun j => if (lkT G T j).1 = 0 then .ok (G ++ [(tkN T i, 4, (sl.length : Int))], sl ++ [(lkT G T j).2], j + 1) else .error (tkP T j)
  else .error (tkP T i)
def pInd (T : Txt) (G : NmL) (sl : List Int) (i : Nat) : Er (NmL × List Int × Nat) :=
  xb (pInd1 T G sl i) fun q => if tkK T q.2.2 = 144 then pInd1 T q.1 q.2.1 (q.2.2 + 1) else .ok q
/-- one factor; rec reads the sum inside, where ok says that it may stand so deep -/
def facW (T : Txt) (C : Cx) (deep : Bool) (rec : NmL → List Int → Nat → Er (Ex × Nat)) (G : NmL) (sl : List Int) (i : Nat) : Er (Ex × Nat) :=
  if tkK T i = 2 then .ok (xNum (tkV T i), i + 1)
  else if tkK T i = 1 then pNamed T C G sl i
  else if deep = true ∧ tkK T i = 140 then xb (rec G sl (i + 1)) fun q => xb (pTake T 141 q.2) fun j => .ok (xInn sl.length (-1) (-1) q.1, j)
  else if deep = true ∧ tkK T i = 17 then xb (pTake T 140 (i + 1)) fun j => xb (pInd T G sl j) fun n => xb (pTake T 158 n.2.2) fun j => xb (rec n.1 n.2.1 j) fun q => xb (pTake T 141 q.2) fun j => .ok (xInn sl.length (n.2.1.getD sl.length (-1)) (n.2.1.getD (sl.length + 1) (-1)) q.1, j)
  else .error (tkP T i)
def xPart (neg : Bool) (s q : Ex) : Ex := if neg = true then xSub s q else xAdd s q
/-- the rest of a sum: s stands, the part q of sign neg is under way -/
def loopW (T : Txt) (fac : Nat → Er (Ex × Nat)) : Nat → Ex → Bool → Ex → Nat → Er (Ex × Nat)
  | 0, _, _, _, i => .error (tkP T i)
  | n + 1, s, neg, q, i => xb (fac i) fun f =>
    if hv f.1 = true ∧ hv q = true then .error (tkP T i)
    else if tkK T f.2 = 142 then loopW T fac n s neg (xMul q f.1) (f.2 + 1)
    else if tkK T f.2 = 143 then loopW T fac n (xPart neg s (xMul q f.1)) false xOne (f.2 + 1)
    else if tkK T f.2 = 145 then loopW T fac n (xPart neg s (xMul q f.1)) true xOne (f.2 + 1)
    else .ok (xPart neg s (xMul q f.1), f.2)
def sumW (T : Txt) (fac : Nat → Er (Ex × Nat)) (i : Nat) : Er (Ex × Nat) := if tkK T i = 145 then loopW T fac 400 xZero true xOne (i + 1) else loopW T fac 400 xZero false xOne i
/-- a sum; the first number says how many sums may stand inside each other below -/
def pSum (T : Txt) (C : Cx) : Nat → NmL → List Int → Nat → Er (Ex × Nat)
  | 0, G, sl, i => sumW T (facW T C false (fun _ _ _ => .error 0) G sl) i
  | n + 1, G, sl, i => sumW T (facW T C true (pSum T C n) G sl) i
/-- names, sets (first, many), tables, values, vars (sets), (low, high), rules (sets), (relation, left, right), goal, its sum -/
abbrev Dc : Type := NmL × List (Int × Int) × List (Int × Int) × List Int × List (Int × Int) × List (Int × Int) × List (Int × Int) × List (Int × Ex × Ex) × Int × Ex
abbrev dN (D : Dc) : NmL := D.1
abbrev dS (D : Dc) : List (Int × Int) := D.2.1
abbrev dT (D : Dc) : List (Int × Int) := D.2.2.1
abbrev dV (D : Dc) : List Int := D.2.2.2.1
abbrev dX (D : Dc) : List (Int × Int) := D.2.2.2.2.1
abbrev dB (D : Dc) : List (Int × Int) := D.2.2.2.2.2.1
abbrev dR (D : Dc) : List (Int × Int) := D.2.2.2.2.2.2.1
abbrev dL (D : Dc) : List (Int × Ex × Ex) := D.2.2.2.2.2.2.2.1
abbrev dG (D : Dc) : Int := D.2.2.2.2.2.2.2.2.1
abbrev dE (D : Dc) : Ex := D.2.2.2.2.2.2.2.2.2
def D0 : Dc := ([], [], [], [], [], [], [], [], 0, xZero)
abbrev dC (D : Dc) : Cx := (dS D, dT D, dX D)
def pName (T : Txt) (G : NmL) (n most : Nat) (i : Nat) : Er (List Int × Nat) := if tkK T (i + 1) = 1 ∧ n < most ∧ (lkNm G (tkN T (i + 1))).1 = -1 then .ok (tkN T (i + 1), i + 2) else .error (tkP T (i + 1))
def pSet (T : Txt) (D : Dc) (i : Nat) : Er (Dc × Nat) :=
  xb (pName T (dN D) (dS D).length 6 i) fun q => xb (pTake T 161 q.2) fun j => xb (pTake T 2 j) fun j2 => xb (pTake T 22 j2) fun j3 =>
  if tkK T j3 = 2 ∧ 0 ≤ tkV T j3 - tkV T j + 1 ∧ tkV T j3 - tkV T j + 1 ≤ 8 then xb (pTake T 159 (j3 + 1)) fun j4 => .ok ((dN D ++ [(q.1, 0, ((dS D).length : Int))], dS D ++ [(tkV T j, tkV T j3 - tkV T j + 1)], D.2.2), j4)
  else .error (tkP T j3)
def pSetN (T : Txt) (G : NmL) (i : Nat) : Er (Int × Nat) := if (lkT G T i).1 = 0 then .ok ((lkT G T i).2, i + 1) else .error (tkP T i)
def pOf (T : Txt) (G : NmL) (i : Nat) : Er (Int × Int × Nat) :=
  if tkK T i = 191 then xb (pSetN T G (i + 1)) fun q => if tkK T q.2 = 144 then xb (pSetN T G (q.2 + 1)) fun r => xb (pTake T 193 r.2) fun j => .ok (q.1, r.1, j) else xb (pTake T 193 q.2) fun j => .ok (q.1, -1, j)
  else .ok (-1, -1, i)
def pVal (T : Txt) (i : Nat) : Er (Int × Nat) := if tkK T i = 145 then xb (pTake T 2 (i + 1)) fun j => .ok (-tkV T (i + 1), j) else xb (pTake T 2 i) fun j => .ok (tkV T i, j)
def pVals (T : Txt) : Nat → List Int → Nat → Er (List Int × Nat)
  | 0, l, i => .ok (l, i)
  | n + 1, l, i => xb (pVal T i) fun q => pVals T n (l ++ [q.1]) q.2
def pTab (T : Txt) (D : Dc) (i : Nat) : Er (Dc × Nat) :=
  xb (pName T (dN D) (dT D).length 6 i) fun q => xb (pOf T (dN D ++ [(q.1, 1, ((dT D).length : Int))]) q.2) fun o => xb (pTake T 161 o.2.2) fun j =>
  xb (pVals T (szO (dS D) o.1 * szO (dS D) o.2.1).toNat (dV D) j) fun l => xb (pTake T 159 l.2) fun j =>
  .ok ((dN D ++ [(q.1, 1, ((dT D).length : Int))], dS D, dT D ++ [(o.1, o.2.1)], l.1, D.2.2.2.2), j)
def pVar (T : Txt) (D : Dc) (i : Nat) : Er (Dc × Nat) :=
  xb (pName T (dN D) (dX D).length 6 i) fun q => xb (pOf T (dN D ++ [(q.1, 2, ((dX D).length : Int))]) q.2) fun o => xb (pTake T 18 o.2.2) fun j =>
  xb (pVal T j) fun a => xb (pTake T 22 a.2) fun j2 => xb (pVal T j2) fun b => if b.1 < a.1 then .error (tkP T j2) else xb (pTake T 159 b.2) fun j =>
  .ok ((dN D ++ [(q.1, 2, ((dX D).length : Int))], dS D, dT D, dV D, dX D ++ [(o.1, o.2.1)], dB D ++ [(a.1, b.1)], D.2.2.2.2.2.2), j)
def pRel (T : Txt) (i : Nat) : Er (Int × Nat) := if tkK T i = 20 then .ok (-1, i + 1) else if tkK T i = 161 then .ok (0, i + 1) else if tkK T i = 21 then .ok (1, i + 1) else .error (tkP T i)
def pFor (T : Txt) (G : NmL) (i : Nat) : Er (NmL × List Int × Nat) := if tkK T i = 19 then pInd T G [] (i + 1) else .ok (G, [], i)
def pRule (T : Txt) (D : Dc) (i : Nat) : Er (Dc × Nat) :=
  xb (pName T (dN D) (dR D).length 10 i) fun q => xb (pFor T (dN D ++ [(q.1, 3, ((dR D).length : Int))]) q.2) fun n => xb (pTake T 158 n.2.2) fun j =>
  xb (pSum T (dC D) 8 n.1 n.2.1 j) fun a => xb (pRel T a.2) fun r => xb (pSum T (dC D) 8 n.1 n.2.1 r.2) fun b => xb (pTake T 159 b.2) fun j =>
  .ok ((dN D ++ [(q.1, 3, ((dR D).length : Int))], dS D, dT D, dV D, dX D, dB D, dR D ++ [(n.2.1.getD 0 (-1), n.2.1.getD 1 (-1))], dL D ++ [(r.1, a.1, b.1)], D.2.2.2.2.2.2.2.2), j)
def pGoal (T : Txt) (D : Dc) (i : Nat) : Er (Dc × Nat) :=
  if ¬ dG D = 0 then .error (tkP T i) else if tkK T (i + 1) = 15 ∨ tkK T (i + 1) = 16 then xb (pSum T (dC D) 8 (dN D) [] (i + 2)) fun a => xb (pTake T 159 a.2) fun j =>
    .ok ((dN D, dS D, dT D, dV D, dX D, dB D, dR D, dL D, if tkK T (i + 1) = 15 then 1 else 2, a.1), j)
  else .error (tkP T (i + 1))
def pDecl (T : Txt) (D : Dc) (i : Nat) : Er (Dc × Nat) := if tkK T i = 10 then pSet T D i else if tkK T i = 11 then pTab T D i else if tkK T i = 12 then pVar T D i else if tkK T i = 13 then pRule T D i else if tkK T i = 14 then pGoal T D i else .error (tkP T i)
def pText (T : Txt) : Nat → Dc → Nat → Er Dc
  | 0, _, i => .error (tkP T i)
  | n + 1, D, i => if tkK T i = 3 then .ok D else xb (pDecl T D i) fun q => pText T n q.1 q.2
