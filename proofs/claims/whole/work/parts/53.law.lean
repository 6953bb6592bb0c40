/-! THE LAW: what its steps say of a rope -/
def lw (ω : gW) (ln k : Nat) : Int32 := ω (468 + 4 * ln + k)
def sc (ω : gW) (k : Nat) : Int32 := ω (516 + 2 * k)
def sn (ω : gW) (k : Nat) : Int32 := ω (517 + 2 * k)
def cLn (ω : gW) : Nat := (ω 467).toNatClampNeg
def lb (ω : gW) (ln : Nat) : Nat := (lw ω ln 2).toNatClampNeg
def le (ω : gW) (ln : Nat) : Nat := (lw ω ln 3).toNatClampNeg
def bcS (x : Int32) : Int32 := (f_J6_bitCount_0f7a4 x).getD 0
theorem bcS_e (x : Int32) : f_J6_bitCount_0f7a4 x = some (bcS x) := rfl
def reS (a b c : Int32) : Int32 := bcS ((((1 : Int32) <<< (a &&& 31)) ||| ((1 : Int32) <<< (b &&& 31))) ||| ((1 : Int32) <<< (c &&& 31)))
def wiS (ω : gW) : Int32 := if ω 5 - ω 5 / 4 * 4 = 3 then 1 else 0
/-- what a step that pushes says of a rope -/
def fcS (ω : gW) (i : Nat) (c n : Int32) : Int32 :=
  if c = 0 then gmin (yv ω (ry ω i 0) 0) (gmin (yv ω (ry ω i 1) 0) (yv ω (ry ω i 2) 0))
  else if c = 1 then gmax (yv ω (ry ω i 0) 0) (gmax (yv ω (ry ω i 1) 0) (yv ω (ry ω i 2) 0))
  else if c = 2 then yv ω (ry ω i 0) 2 + yv ω (ry ω i 1) 2 + yv ω (ry ω i 2) 2
  else if c = 3 then reS (yv ω (ry ω i 0) 3) (yv ω (ry ω i 1) 3) (yv ω (ry ω i 2) 3)
  else if c = 4 then rv ω i 4
  else if c = 5 then rv ω i 5
  else if c = 6 then rv ω i 3
  else if c = 7 then rv ω i 7
  else if c = 8 then rv ω i 9
  else if c = 9 then rv ω i 6
  else if c = 10 then wiS ω
  else n
/-- two of the stack made one -/
def opS (c a b : Int32) : Int32 := if c = 12 then a + b else if c = 13 then (if a < b then 1 else 0) else if c = 14 then (if b < a then 1 else 0) else if c = 16 then (if a + b = 2 then 1 else 0) else if a + b ≤ 0 then 0 else 1
def stepL (ω : gW) (i : Nat) (k : Nat) (L : List Int32) : List Int32 :=
  if sc ω k ≤ 11 then fcS ω i (sc ω k) (sn ω k) :: L
  else if sc ω k = 15 then (match L with | x :: r => (1 - x) :: r | [] => [])
  else (match L with | b :: a :: r => opS (sc ω k) a b :: r | _ => L)
def evL (ω : gW) (i b : Nat) (k : Nat) : List Int32 := acc (fun j L => stepL ω i (b + j) L) [] k
/-- which of the stack is a truth -/
def tyS (c : Int32) (T : List Bool) : Option (List Bool) :=
  if c ≤ 11 then some (decide (c = 9 ∨ c = 10) :: T)
  else if c = 15 then (match T with | true :: r => some (true :: r) | _ => none)
  else if c = 12 then (match T with | false :: false :: r => some (false :: r) | _ => none)
  else if c = 13 ∨ c = 14 then (match T with | false :: false :: r => some (true :: r) | _ => none)
  else (match T with | true :: true :: r => some (true :: r) | _ => none)
def tyR (ω : gW) (b : Nat) : Nat → Option (List Bool)
  | 0 => some []
  | k + 1 => (tyR ω b k).bind (tyS (sc ω (b + k)))
def stV (ω : gW) (k : Nat) : Prop := ∃ j : Nat, j ≤ 17 ∧ sc ω k = nI j ∧ (j = 11 → bt (sn ω k) 0 999)
/-- a line's condition is well made -/
def CI (ω : gW) (b e : Nat) : Prop := b ≤ e ∧ e ≤ 400 ∧ (b = e ∨ tyR ω b (e - b) = some [true]) ∧ (∀ k, k ≤ e - b → ∃ T, tyR ω b k = some T ∧ T.length ≤ 20) ∧ ∀ k, b ≤ k → k < e → stV ω k
def LI (ω : gW) : Prop := ω 4 = 1 → ω 467 = nI (cLn ω) ∧ cLn ω ≤ 12 ∧ ∀ ln, ln < cLn ω → (lw ω ln 0 = 0 ∨ lw ω ln 0 = 1 ∨ lw ω ln 0 = -1) ∧ lw ω ln 2 = nI (lb ω ln) ∧ lw ω ln 3 = nI (le ω ln) ∧ CI ω (lb ω ln) (le ω ln) ∧ lb ω ln = (if ln = 0 then 0 else le ω (ln - 1)) ∧ bt (lw ω ln 1) 0 99
/-- whether a line holds -/
def cnS (ω : gW) (i ln : Nat) : Int32 := match evL ω i (lb ω ln) (le ω ln - lb ω ln) with
  | [] => 1
  | v :: _ => if v = 1 then 1 else 0
def TV : List Bool → List Int32 → Prop
  | [], [] => True
  | t :: T, v :: L => (t = true → v = 0 ∨ v = 1) ∧ TV T L
  | _, _ => False
/-- a row holds a stack -/
def SK (f : Nat → Int32) : List Int32 → Prop
  | [] => True
  | v :: L => f L.length = v ∧ SK f L
theorem SK.keep {f g : Nat → Int32} : ∀ {L : List Int32}, SK f L → (∀ j, j < L.length → g j = f j) → SK g L := by
  intro L
  induction L with
  | nil => intro _ _; trivial
  | cons v L ih =>
    intro h hk
    refine ⟨?_, ih h.2 fun j hj => hk j (Nat.lt_succ_of_lt hj)⟩
    rw [hk L.length (Nat.lt_succ_self _)]
    exact h.1
theorem TV.len {T : List Bool} : ∀ {L : List Int32}, TV T L → T.length = L.length := by
  induction T with
  | nil => intro L h; cases L with
    | nil => rfl
    | cons v L => cases h
  | cons t T ih => intro L h; cases L with
    | nil => cases h
    | cons v L => show T.length + 1 = L.length + 1; rw [ih h.2]
theorem wiS01 (ω : gW) : wiS ω = 0 ∨ wiS ω = 1 := by
  unfold wiS
  split
  · exact Or.inr rfl
  · exact Or.inl rfl
theorem bt01 {x : Int32} (h : bt x 0 1) : x = 0 ∨ x = 1 := by
  obtain ⟨k, -, h2, rfl⟩ := h
  match k, h2 with
  | 0, _ => exact Or.inl rfl
  | 1, _ => exact Or.inr rfl
theorem opS01 {c a b : Int32} (h : ¬ c = 12) : opS c a b = 0 ∨ opS c a b = 1 := by
  unfold opS
  rw [if_neg h]
  split
  · split
    · exact Or.inr rfl
    · exact Or.inl rfl
  · split
    · split
      · exact Or.inr rfl
      · exact Or.inl rfl
    · split
      · split
        · exact Or.inr rfl
        · exact Or.inl rfl
      · split
        · exact Or.inl rfl
        · exact Or.inr rfl
theorem sub01 {x : Int32} (h : x = 0 ∨ x = 1) : 1 - x = 0 ∨ 1 - x = 1 := by
  rcases h with rfl | rfl
  · exact Or.inr rfl
  · exact Or.inl rfl
theorem fcS01 {ω : gW} {i : Nat} {c n : Int32} (h6 : rv ω i 6 = 0 ∨ rv ω i 6 = 1) (hc : c = 9 ∨ c = 10) : fcS ω i c n = 0 ∨ fcS ω i c n = 1 := by
  rcases hc with rfl | rfl
  · have e : fcS ω i 9 n = rv ω i 6 := rfl
    rw [e]; exact h6
  · have e : fcS ω i 10 n = wiS ω := rfl
    rw [e]; exact wiS01 ω
theorem TV.step {ω : gW} {i k : Nat} (h6 : rv ω i 6 = 0 ∨ rv ω i 6 = 1) {T T' : List Bool} {L : List Int32} (h : TV T L) (ht : tyS (sc ω k) T = some T') : TV T' (stepL ω i k L) := by
  unfold tyS at ht
  unfold stepL
  by_cases h11 : sc ω k ≤ 11
  · rw [if_pos h11] at ht ⊢
    cases ht
    refine ⟨fun hd => ?_, h⟩
    exact fcS01 h6 (of_decide_eq_true hd)
  · rw [if_neg h11] at ht ⊢
    by_cases h15 : sc ω k = 15
    · rw [if_pos h15] at ht ⊢
      match T, L, h, ht with
      | true :: r, x :: L, h, ht => cases ht; exact ⟨fun _ => sub01 (h.1 rfl), h.2⟩
      | false :: r, x :: L, h, ht => cases ht
      | [], [], h, ht => cases ht
    · rw [if_neg h15] at ht ⊢
      by_cases h12 : sc ω k = 12
      · rw [if_pos h12] at ht
        match T, L, h, ht with
        | false :: false :: r, b :: a :: L, h, ht => cases ht; exact ⟨(fun e => by cases e), h.2.2⟩
        | true :: r, x :: L, h, ht => cases ht
        | false :: true :: r, x :: L, h, ht => cases ht
        | [false], x :: L, h, ht => cases ht
        | [], [], h, ht => cases ht
      · rw [if_neg h12] at ht
        have sh : ∃ t r, T = t :: t :: r ∧ T' = true :: r := by
          clear h
          by_cases h13 : sc ω k = 13 ∨ sc ω k = 14
          · rw [if_pos h13] at ht
            match T, ht with
            | false :: false :: r, ht => cases ht; exact ⟨false, r, rfl, rfl⟩
            | true :: r, ht => cases ht
            | false :: true :: r, ht => cases ht
            | [false], ht => cases ht
            | [], ht => cases ht
          · rw [if_neg h13] at ht
            match T, ht with
            | true :: true :: r, ht => cases ht; exact ⟨true, r, rfl, rfl⟩
            | false :: r, ht => cases ht
            | true :: false :: r, ht => cases ht
            | [true], ht => cases ht
            | [], ht => cases ht
        obtain ⟨t, r, rfl, rfl⟩ := sh
        match L, h with
        | b :: a :: L, h => exact ⟨fun _ => opS01 h12, h.2.2⟩
theorem TV.run {ω : gW} {i b : Nat} (h6 : rv ω i 6 = 0 ∨ rv ω i 6 = 1) : ∀ {k : Nat} {T : List Bool}, tyR ω b k = some T → TV T (evL ω i b k) := by
  intro k
  induction k with
  | zero => intro T h; cases h; trivial
  | succ k ih =>
    intro T h
    have h : (tyR ω b k).bind (tyS (sc ω (b + k))) = some T := h
    cases hT : tyR ω b k with
    | none => rw [hT] at h; cases h
    | some T0 =>
      rw [hT] at h
      exact TV.step h6 (ih hT) h
