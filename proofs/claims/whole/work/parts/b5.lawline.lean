/-! TEXTS: a line of the law, pure -/
section
variable {tb : Nat → Nat} {L a b f : Nat} {Q : List (Nat × Int32)} {v κ : Int32}
theorem wo_fail : wO s_fail := wO_of (by decide)
theorem wo_bear : wO s_bear := wO_of (by decide)
theorem wo_wear : wO s_wear := wO_of (by decide)
theorem wo_if : wO s_if := wO_of (by decide)
/-- a line's kind: fail -1, bear 1, wear 0 -/
def kdP (tb : Nat → Nat) (L a : Nat) : (Nat × Int32) ⊕ Nat :=
  if wd tb L s_fail a then .inl (bl tb L (a + 4), -1) else if wd tb L s_bear a then .inl (bl tb L (a + 4), 1) else if wd tb L s_wear a then .inl (bl tb L (a + 4), 0) else .inr a
theorem kd_ok (ha : a ≤ L) (h : kdP tb L a = .inl (b, κ)) : (a + 4 ≤ b ∧ b ≤ L) ∧ (κ = 0 ∨ κ = 1 ∨ κ = -1) := by
  unfold kdP at h
  by_cases h1 : wd tb L s_fail a = true
  · rw [if_pos h1] at h
    cases h
    have h0 : a + 4 ≤ L := wd_le h1 ha
    have := bl_le (tb := tb) h0
    exact ⟨this, Or.inr (Or.inr rfl)⟩
  · rw [if_neg h1] at h
    by_cases h2 : wd tb L s_bear a = true
    · rw [if_pos h2] at h
      cases h
      have h0 : a + 4 ≤ L := wd_le h2 ha
      have := bl_le (tb := tb) h0
      exact ⟨this, Or.inr (Or.inl rfl)⟩
    · rw [if_neg h2] at h
      by_cases h3 : wd tb L s_wear a = true
      · rw [if_pos h3] at h
        cases h
        have h0 : a + 4 ≤ L := wd_le h3 ha
        have := bl_le (tb := tb) h0
        exact ⟨this, Or.inl rfl⟩
      · rw [if_neg h3] at h
        cases h
/-- from the number on -/
def llN (tb : Nat → Nat) (L b : Nat) (κ : Int32) : (Nat × Int32 × Int32 × List (Nat × Int32)) ⊕ Nat := match nbS tb L 0 99 (.inl b) with
  | .inr f => .inr f
  | .inl c => if wd tb L s_if c then (match cdP tb L (atQ tb L 7) (bl tb L (c + 2)) with
    | .inr f => .inr f
    | .inl r => .inl (r.1, κ, nbV tb L 0 99 (.inl b), r.2)) else .inl (c, κ, nbV tb L 0 99 (.inl b), [])
def llR (tb : Nat → Nat) (L a : Nat) : (Nat × Int32 × Int32 × List (Nat × Int32)) ⊕ Nat := match kdP tb L a with
  | .inr f => .inr f
  | .inl r => llN tb L r.1 r.2
/-- what a line tells -/
def LLO (L a : Nat) (e : Nat) (κ v : Int32) (Q : List (Nat × Int32)) : Prop := (a + 5 ≤ e ∧ e ≤ L) ∧ a + Q.length ≤ e ∧ (κ = 0 ∨ κ = 1 ∨ κ = -1) ∧ bt v 0 99 ∧ (Q = [] ∨ stQ Q ∧ sqL 17 [] Q [true])
theorem ll_ok {e : Nat} (ha : a ≤ L) (h : llR tb L a = .inl (e, κ, v, Q)) : LLO L a e κ v Q := by
  unfold llR at h
  cases hk : kdP tb L a with
  | inr f => rw [hk] at h; cases h
  | inl r =>
    rw [hk] at h
    obtain ⟨b, κ'⟩ := r
    obtain ⟨⟨k1, k2⟩, k3⟩ := kd_ok ha hk
    have h : llN tb L b κ' = .inl (e, κ, v, Q) := h
    unfold llN at h
    cases hr : nbS tb L 0 99 (.inl b) with
    | inr f => rw [hr] at h; cases h
    | inl c =>
      rw [hr] at h
      have hbt := af_bt (l := 0) (h := 99) (by decide) (by decide) rfl rfl hr
      obtain ⟨b', e1, e2, e3, e4⟩ := nb_ok hr
      cases e1
      have hn : ¬ numT tb L b < 0 := fun e => e3 (Or.inl (by rw [e2]; exact e))
      have h1 := num_dg (lo := 0) (by decide) k2 hn
      have h2 := dg_le (tb := tb) k2
      have h3 := bl_le (tb := tb) h2.2
      have h : (if wd tb L s_if c = true then (match cdP tb L (atQ tb L 7) (bl tb L (c + 2)) with
        | .inr f => .inr f
        | .inl r => .inl (r.1, κ', nbV tb L 0 99 (.inl b), r.2)) else .inl (c, κ', nbV tb L 0 99 (.inl b), [])) = (.inl (e, κ, v, Q) : (Nat × Int32 × Int32 × List (Nat × Int32)) ⊕ Nat) := h
      by_cases hw : wd tb L s_if c = true
      · rw [if_pos hw] at h
        have h0 : c + 2 ≤ L := wd_le hw (by omega)
        have h4 := bl_le (tb := tb) h0
        have hc := cdP_ok (tb := tb) (L := L) (d := 17) (e := 15) (A := atQ tb L 7) (a := bl tb L (c + 2)) (T := []) (fun a T h h' => atQ_ok h h') (by decide) h4.2 (by decide)
        cases hu : cdP tb L (atQ tb L 7) (bl tb L (c + 2)) with
        | inr f => rw [hu] at h; cases h
        | inl r =>
          rw [hu] at h
          obtain ⟨⟨g1, g2⟩, g3, g4, g5⟩ := hc r.1 r.2 hu
          cases h
          exact ⟨⟨by omega, g2⟩, by omega, k3, hbt, Or.inr ⟨g4, g5⟩⟩
      · rw [if_neg hw] at h
        cases h
        exact ⟨⟨by omega, by omega⟩, by show a + 0 ≤ _; omega, k3, hbt, Or.inl rfl⟩
end
