/-! BITS of sets (the first rows began as the kit's starting text) -/
def bb (x : Int32) (i : Nat) : Bool := x.toBitVec.getLsbD i
theorem b_ext {x y : Int32} (h : ∀ i, i < 32 → bb x i = bb y i) : x = y := Int32.toBitVec_inj.mp (BitVec.eq_of_getLsbD_eq (fun i hi => h i hi))
theorem b_or (x y : Int32) (i : Nat) : bb (x ||| y) i = (bb x i || bb y i) := by unfold bb; rw [Int32.toBitVec_or, BitVec.getLsbD_or]
theorem b_and (x y : Int32) (i : Nat) : bb (x &&& y) i = (bb x i && bb y i) := by unfold bb; rw [Int32.toBitVec_and, BitVec.getLsbD_and]
theorem b_xor (x y : Int32) (i : Nat) : bb (x ^^^ y) i = (bb x i ^^ bb y i) := by unfold bb; rw [Int32.toBitVec_xor, BitVec.getLsbD_xor]
theorem b_big {x : Int32} {i : Nat} (h : 32 ≤ i) : bb x i = false := BitVec.getLsbD_of_ge _ _ h
theorem b_255 (i : Nat) : bb 255 i = decide (i < 8) := by
  rcases Nat.lt_or_ge i 32 with h | h
  · exact (by decide +kernel : ∀ i, i < 32 → bb 255 i = decide (i < 8)) i h
  · rw [b_big h, decide_eq_false (by omega)]
theorem b_m1 : ∀ i, i < 32 → bb (-1) i = true := by decide +kernel
theorem b_0 (i : Nat) : bb 0 i = false := BitVec.getLsbD_zero
theorem s_l : ∀ n, n < 32 → ((nI n &&& 31).toBitVec.smod 32).toNat = n := by decide +kernel
theorem b_shl (n : Nat) (hn : n < 32) (x : Int32) {i : Nat} (hi : i < 32) : bb (x <<< (nI n &&& 31)) i = (decide (n ≤ i) && bb x (i - n)) := by
  unfold bb
  rw [Int32.toBitVec_shiftLeft]
  show (x.toBitVec <<< ((nI n &&& 31).toBitVec.smod 32).toNat).getLsbD i = _
  rw [s_l n hn, BitVec.getLsbD_shiftLeft]
  rcases Nat.lt_or_ge i n with h | h
  · simp [h, Nat.not_le.mpr h]
  · simp [hi, h, Nat.not_lt.mpr h]
theorem b_sshr (n : Nat) (hn : n < 32) (x : Int32) {i : Nat} (hi : i < 32) : bb (x >>> (nI n &&& 31)) i = if n + i < 32 then bb x (n + i) else bb x 31 := by
  unfold bb
  rw [Int32.toBitVec_shiftRight]
  show (x.toBitVec.sshiftRight ((nI n &&& 31).toBitVec.smod 32).toNat).getLsbD i = _
  rw [s_l n hn, BitVec.getLsbD_sshiftRight, BitVec.msb_eq_getLsbD_last]
  simp [hi]

theorem bb_1 : ∀ i, i < 32 → bb 1 i = decide (i = 0) := by decide +kernel
theorem bb_b1 {n i : Nat} (hn : n < 32) (hi : i < 32) : bb (b1 n) i = decide (i = n) := by
  unfold b1
  rw [b_shl n hn 1 hi, bb_1 (i - n) (by omega)]
  by_cases h : i = n
  · subst h
    simp
  · rcases Nat.lt_or_ge i n with h1 | h1
    · rw [decide_eq_false (show ¬ n ≤ i by omega), decide_eq_false h]; rfl
    · rw [decide_eq_false (show ¬ i - n = 0 by omega), decide_eq_false h, Bool.and_false]
theorem bb_and1 (x : Int32) : x &&& 1 = 1 ↔ bb x 0 = true := by
  constructor
  · intro h
    have := congrArg (fun y => bb y 0) h
    simp only [b_and, bb_1 0 (by decide)] at this
    simpa using this
  · intro h
    refine b_ext fun i hi => ?_
    rw [b_and, bb_1 i hi]
    by_cases h0 : i = 0
    · subst h0
      rw [h]; rfl
    · rw [decide_eq_false h0, Bool.and_false]
theorem hs_bb (x : Int32) {i : Nat} (hi : i < 32) : (x >>> (nI i &&& 31)) &&& 1 = 1 ↔ bb x i = true := by
  rw [bb_and1, b_sshr i hi x (by decide), if_pos (by omega)]
  exact Iff.rfl
theorem acc_bb {p : Nat → Prop} [DecidablePred p] {j : Nat} (hj : j < 32) : ∀ {N : Nat}, N ≤ 32 → bb (acc (fun i b => if p i then b ||| b1 i else b) 0 N) j = (decide (j < N) && decide (p j)) := by
  intro N
  induction N with
  | zero => intro _; exact b_0 j
  | succ N ih =>
    intro hN
    have ih := ih (by omega)
    rw [acc_s]
    by_cases hp : p N
    · rw [if_pos hp, b_or, ih, bb_b1 (by omega) hj]
      by_cases hjn : j = N
      · subst hjn
        simp [hp]
      · have e : decide (j < N + 1) = decide (j < N) := by
          by_cases h : j < N
          · rw [decide_eq_true h, decide_eq_true (by omega)]
          · rw [decide_eq_false h, decide_eq_false (by omega)]
        rw [decide_eq_false hjn, Bool.or_false, e]
    · rw [if_neg hp, ih]
      by_cases hjn : j = N
      · subst hjn
        simp [hp]
      · have e : decide (j < N + 1) = decide (j < N) := by
          by_cases h : j < N
          · rw [decide_eq_true h, decide_eq_true (by omega)]
          · rw [decide_eq_false h, decide_eq_false (by omega)]
        rw [e]
/-- all of N -/
theorem bb_full : ∀ N, N ≤ 10 → ∀ j, j < 32 → bb (((1 : Int32) <<< (nI N &&& 31)) - 1) j = decide (j < N) := by decide +kernel
theorem b_not (x : Int32) {i : Nat} (hi : i < 32) : bb (x ^^^ (-1)) i = !bb x i := by
  rw [b_xor, b_m1 i hi]
  cases bb x i <;> rfl
