/-! TEXTS: all lines of the law, pure -/
section
variable {tb : Nat → Nat} {L a b f k : Nat} {P Q : List (Nat × Int32)} {v κ : Int32}
/-- a line told: its kind, its number, where its steps begin and end -/
abbrev lwL : Type := Int32 × Int32 × Nat × Nat
def lnX (Λ : List lwL) (P : List (Nat × Int32)) (r : Nat × Int32 × Int32 × List (Nat × Int32)) : List lwL := Λ ++ [(r.2.1, r.2.2.1, P.length, P.length + r.2.2.2.length)]
def laN (tb : Nat → Nat) (L : Nat) (z : (Nat × Int32 × Int32 × List (Nat × Int32)) ⊕ Nat) (Λ : List lwL) (P : List (Nat × Int32)) (g : Nat → List lwL → List (Nat × Int32) → (List lwL × List (Nat × Int32)) ⊕ Nat) : (List lwL × List (Nat × Int32)) ⊕ Nat := match z with
  | .inr f => .inr f
  | .inl r => if r.1 = L then .inl (lnX Λ P r, P ++ r.2.2.2) else if tb r.1 = 59 then g (bl tb L (r.1 + 1)) (lnX Λ P r) (P ++ r.2.2.2) else .inr r.1
def laA (tb : Nat → Nat) (L : Nat) : Nat → List lwL → List (Nat × Int32) → Nat → (List lwL × List (Nat × Int32)) ⊕ Nat
  | 0, _, _, a => .inr a
  | k + 1, Λ, P, a => laN tb L (llR tb L a) Λ P fun b Λ' P' => laA tb L k Λ' P' b
/-- a text of the law: its lines and steps, or where its fault is -/
def laW (tb : Nat → Nat) (L : Nat) : (List lwL × List (Nat × Int32)) ⊕ Nat := if bl tb L 0 = L then .inl ([], []) else laA tb L 12 [] [] (bl tb L 0)
variable {Λ : List lwL} {r : Nat × Int32 × Int32 × List (Nat × Int32)}
theorem laA_f (h : llR tb L a = .inr f) : laA tb L (k + 1) Λ P a = .inr f := by
  show laN tb L (llR tb L a) Λ P _ = _
  rw [h]
  rfl
theorem laA_e (h : llR tb L a = .inl r) (h1 : r.1 = L) : laA tb L (k + 1) Λ P a = .inl (lnX Λ P r, P ++ r.2.2.2) := by
  show laN tb L (llR tb L a) Λ P _ = _
  rw [h]
  exact if_pos h1
theorem laA_n (h : llR tb L a = .inl r) (h1 : r.1 ≠ L) (h2 : tb r.1 = 59) : laA tb L (k + 1) Λ P a = laA tb L k (lnX Λ P r) (P ++ r.2.2.2) (bl tb L (r.1 + 1)) := by
  show laN tb L (llR tb L a) Λ P _ = _
  rw [h]
  show (if r.1 = L then _ else if tb r.1 = 59 then _ else _) = _
  rw [if_neg h1, if_pos h2]
theorem laA_x (h : llR tb L a = .inl r) (h1 : r.1 ≠ L) (h2 : tb r.1 ≠ 59) : laA tb L (k + 1) Λ P a = .inr r.1 := by
  show laN tb L (llR tb L a) Λ P _ = _
  rw [h]
  show (if r.1 = L then _ else if tb r.1 = 59 then _ else _) = _
  rw [if_neg h1, if_neg h2]
/-- where line j begins -/
def enL (Λ : List lwL) (j : Nat) : Nat := if j = 0 then 0 else (Λ.getD (j - 1) (0, 0, 0, 0)).2.2.2
/-- what holds of lines read -/
def LW (Λ : List lwL) (P : List (Nat × Int32)) : Prop := stQ P ∧ enL Λ Λ.length = P.length ∧ ∀ j r, Λ[j]? = some r → (r.1 = 0 ∨ r.1 = 1 ∨ r.1 = -1) ∧ bt r.2.1 0 99 ∧ (r.2.2.1 ≤ r.2.2.2 ∧ r.2.2.2 ≤ P.length) ∧ r.2.2.1 = enL Λ j ∧ ∃ Q : List (Nat × Int32), r.2.2.1 + Q.length = r.2.2.2 ∧ (∀ k s, Q[k]? = some s → P[r.2.2.1 + k]? = some s) ∧ (Q = [] ∨ sqL 17 [] Q [true])
theorem LW.nil : LW [] [] := ⟨fun s hs => absurd hs List.not_mem_nil, rfl, fun j r h => by cases h⟩
theorem gn_ap {α : Type} {A : List α} {x y : α} {j : Nat} (h : (A ++ [x])[j]? = some y) : (j < A.length ∧ A[j]? = some y) ∨ (j = A.length ∧ y = x) := by
  rw [List.getElem?_append] at h
  by_cases hj : j < A.length
  · rw [if_pos hj] at h
    exact Or.inl ⟨hj, h⟩
  · rw [if_neg hj] at h
    by_cases h0 : j - A.length = 0
    · rw [h0] at h
      cases h
      exact Or.inr ⟨by omega, rfl⟩
    · exfalso
      rw [List.getElem?_eq_none (by show 1 ≤ j - A.length; omega)] at h
      cases h
theorem gn_lo {α : Type} {A B : List α} {j : Nat} (h : j < A.length) : (A ++ B)[j]? = A[j]? := by rw [List.getElem?_append, if_pos h]
theorem gn_hi {α : Type} {A B : List α} {j : Nat} : (A ++ B)[A.length + j]? = B[j]? := by
  rw [List.getElem?_append, if_neg (by omega), show A.length + j - A.length = j by omega]
theorem enL_lo {x : lwL} {j : Nat} (h : j ≤ Λ.length) : enL (Λ ++ [x]) j = enL Λ j := by
  unfold enL
  by_cases h0 : j = 0
  · rw [if_pos h0, if_pos h0]
  · rw [if_neg h0, if_neg h0, List.getD_eq_getElem?_getD, List.getD_eq_getElem?_getD, gn_lo (by omega)]
theorem enL_hi {x : lwL} : enL (Λ ++ [x]) (Λ ++ [x]).length = x.2.2.2 := by
  unfold enL
  rw [List.length_append]
  rw [if_neg (show ¬ Λ.length + [x].length = 0 by show ¬ Λ.length + 1 = 0; omega), List.getD_eq_getElem?_getD, show Λ.length + [x].length - 1 = Λ.length + 0 from rfl, gn_hi]
  rfl
theorem LW.add {e : Nat} (h : LW Λ P) (ho : LLO L a e κ v Q) : LW (lnX Λ P (e, κ, v, Q)) (P ++ Q) := by
  obtain ⟨h1, h2, h3⟩ := h
  obtain ⟨-, -, o1, o2, o3⟩ := ho
  have hx : (P ++ Q).length = P.length + Q.length := List.length_append
  refine ⟨?_, ?_, fun j r hr => ?_⟩
  · rcases o3 with o3 | o3
    · rw [o3, List.append_nil]; exact h1
    · exact h1.app o3.1
  · unfold lnX
    rw [enL_hi, hx]
  · unfold lnX at hr ⊢
    rcases gn_ap hr with ⟨hj, hr⟩ | ⟨hj, hr⟩
    · obtain ⟨c1, c2, c3, c4, D, c5, c6, c7⟩ := h3 j r hr
      refine ⟨c1, c2, ⟨c3.1, by omega⟩, by rw [enL_lo (by omega)]; exact c4, D, c5, fun k s hk => ?_, c7⟩
      have hk' : k < D.length := by
        rcases Nat.lt_or_ge k D.length with q | q
        · exact q
        · rw [List.getElem?_eq_none q] at hk; cases hk
      rw [gn_lo (by omega)]
      exact c6 k s hk
    · subst hr
      subst hj
      refine ⟨o1, o2, ⟨by show P.length ≤ P.length + Q.length; omega, by rw [hx]; exact Nat.le_refl _⟩, by rw [enL_lo (Nat.le_refl _), h2], Q, rfl, fun k s hk => ?_, o3.imp id fun o => o.2⟩
      show (P ++ Q)[P.length + k]? = some s
      rw [gn_hi]
      exact hk
theorem laA_ok : ∀ {k : Nat} {Λ : List lwL} {P : List (Nat × Int32)} {a : Nat}, a ≤ L → P.length ≤ a → LW Λ P → ∀ Λ' P', laA tb L k Λ P a = .inl (Λ', P') → LW Λ' P' ∧ P'.length ≤ L ∧ Λ'.length ≤ Λ.length + k
  | 0, Λ, P, a, ha, hP, hW, Λ', P', h => by cases h
  | k + 1, Λ, P, a, ha, hP, hW, Λ', P', h => by
    cases hr : llR tb L a with
    | inr e => rw [laA_f hr] at h; cases h
    | inl r =>
      obtain ⟨e, κ, v, Q⟩ := r
      have ho := ll_ok ha hr
      obtain ⟨⟨o1, o2⟩, o3, -⟩ := id ho
      have hx : (P ++ Q).length = P.length + Q.length := List.length_append
      have hl : (lnX Λ P (e, κ, v, Q)).length = Λ.length + 1 := List.length_append
      have hW' := hW.add ho
      by_cases h1 : e = L
      · rw [laA_e hr h1] at h
        cases h
        exact ⟨hW', by show (P ++ Q).length ≤ L; omega, by omega⟩
      · by_cases h2 : tb e = 59
        · rw [laA_n hr h1 h2] at h
          have hb := bl_le (tb := tb) (L := L) (p := e + 1) (by omega)
          obtain ⟨q1, q2, q3⟩ := laA_ok (a := bl tb L (e + 1)) hb.2 (by show (P ++ Q).length ≤ _; omega) hW' Λ' P' h
          exact ⟨q1, q2, by omega⟩
        · rw [laA_x hr h1 h2] at h; cases h
theorem laW_ok {Λ' : List lwL} {P' : List (Nat × Int32)} (h : laW tb L = .inl (Λ', P')) : LW Λ' P' ∧ P'.length ≤ L ∧ Λ'.length ≤ 12 := by
  unfold laW at h
  by_cases h0 : bl tb L 0 = L
  · rw [if_pos h0] at h
    cases h
    exact ⟨LW.nil, Nat.zero_le _, Nat.zero_le _⟩
  · rw [if_neg h0] at h
    obtain ⟨q1, q2, q3⟩ := laA_ok (a := bl tb L 0) (bl_le (Nat.zero_le L)).2 (Nat.zero_le _) LW.nil Λ' P' h
    exact ⟨q1, q2, by show Λ'.length ≤ 12; have : ([] : List lwL).length + 12 = 12 := rfl; omega⟩
end
