/-! TEXTS: what and joins, in the class -/
section
variable {τ : gτ} {n : Nat} {G G' G'' : gG} {x l' : Nat} {tb : Nat → Nat} {L a b f k : Nat} {D E : Int32} {P Q : List (Nat × Int32)} {z s : (Nat × List (Nat × Int32)) ⊕ Nat} {F : Nat → Nat → Int32 → gG → Option gG} {A : Nat → (Nat × List (Nat × Int32)) ⊕ Nat}
theorem alL_0 (h : ¬ wd tb L s_and a = true) : alL tb L A (k + 1) a P = .inl (a, P) := if_neg h
theorem alL_r {r : Nat × List (Nat × Int32)} (h : wd tb L s_and a = true) (hr : A (bl tb L (a + 3)) = .inl r) : alL tb L A (k + 1) a P = alL tb L A k r.1 (P ++ (r.2 ++ [(16, 0)])) := by
  show (if wd tb L s_and a = true then (match A (bl tb L (a + 3)) with
    | .inl r => alL tb L A k r.1 (P ++ (r.2 ++ [(16, 0)]))
    | .inr f => .inr f) else _) = _
  rw [if_pos h, hr]
theorem alL_f (h : wd tb L s_and a = true) (hr : A (bl tb L (a + 3)) = .inr f) : alL tb L A (k + 1) a P = .inr f := by
  show (if wd tb L s_and a = true then (match A (bl tb L (a + 3)) with
    | .inl r => alL tb L A k r.1 (P ++ (r.2 ++ [(16, 0)]))
    | .inr f => .inr f) else _) = _
  rw [if_pos h, hr]
theorem wo_and : wO s_and := wO_of (by decide)
theorem wo_or : wO s_or := wO_of (by decide)
def alK (tb : Nat → Nat) (L : Nat) (A : Nat → (Nat × List (Nat × Int32)) ⊕ Nat) : (Nat × List (Nat × Int32)) ⊕ Nat → (Nat × List (Nat × Int32)) ⊕ Nat
  | .inl r => alL tb L A L r.1 r.2
  | .inr f => .inr f
theorem alK_e : alK tb L A (A a) = alP tb L A a := by
  unfold alP
  cases A a with
  | inl r => rfl
  | inr f => rfl
/-- a parser's end lies behind its begin, and it makes no more steps than that -/
def adR (L : Nat) (A : Nat → (Nat × List (Nat × Int32)) ⊕ Nat) : Prop := ∀ a b Q, a ≤ L → A a = .inl (b, Q) → (a < b ∧ b ≤ L) ∧ Q.length ≤ b - a
theorem c_andL (hA : ∀ {s : (Nat × List (Nat × Int32)) ⊕ Nat} {G : gG}, LQ τ G x l' tb L s → cnR s → gOk (F 1 (x + 4) D G) (fun G' => LM x l' G G' ∧ LQ τ G' x l' tb L (bnd s A))) (hB : adR L A) (h : LQ τ G x l' tb L (apR P z)) (hz : ∀ b Q, z = .inl (b, Q) → (0 < b ∧ b ≤ L) ∧ P.length + Q.length + 7 ≤ b) (hn : 500 < n) : gOk (l_X2_readCondition_32 τ n F (x + 4) D E 0 G) (fun G' => LM x l' G G' ∧ LQ τ G' x l' tb L (apR P (alK tb L A z))) := by
  generalize hW : alK tb L A z = W
  unfold l_X2_readCondition_32
  refine ka_loop 400 (fun c q => q.1 = nI c ∧ LM x l' G q.2 ∧ ((∃ a Q, LQ τ q.2 x l' tb L (.inl (a, P ++ Q)) ∧ c < a ∧ P.length + Q.length + 7 ≤ a ∧ alL tb L A (L - c) a Q = W) ∨ ∃ f, LQ τ q.2 x l' tb L (.inr f) ∧ W = .inr f)) (by omega) ?_ (fun c q hc hq => ?_)
  · refine ⟨rfl, LM.rf, ?_⟩
    cases z with
    | inl r =>
      obtain ⟨h1, h2⟩ := hz r.1 r.2 rfl
      exact Or.inl ⟨r.1, r.2, h, h1.1, h2, hW⟩
    | inr f => exact Or.inr ⟨f, h, hW.symm⟩
  · obtain ⟨x1, G1⟩ := q
    obtain ⟨e1, m1, hq⟩ := hq
    have e1 : x1 = nI c := e1
    have m1 : LM x l' G G1 := m1
    subst e1
    show gOk (b_X2_readCondition_32 τ n F (x + 4) D E (nI c) G1) _
    unfold b_X2_readCondition_32
    rcases hq with ⟨a, Q, h1, hca, hl, hs⟩ | ⟨f, h1, hs⟩
    · have h1 : LQ τ G1 x l' tb L (.inl (a, P ++ Q)) := h1
      have hle := h1.le
      rw [show L - c = (L - (c + 1)) + 1 by omega] at hs
      rw [if_neg (show ¬ (400 : Int32) ≤ nI c from nI_ge (b := 400) (by omega) (by decide)), h1.1.1.1, ka_bs, ka_bind2]
      refine gOk.mono (c_tkW h1.2.1 wo_and hn) fun q hq => ?_
      obtain ⟨v, G2⟩ := q
      obtain ⟨d2, hq⟩ := hq
      have d2 : TE x G1 G2 := d2
      rcases hq with ⟨w1, e1, j1⟩ | ⟨w1, e1⟩
      · have e1 : v = 1 := e1
        subst e1
        have j1 : TJ τ G2 x tb L (.inl (bl tb L (a + 3))) := j1
        obtain ⟨m2, h2⟩ := h1.mv d2 j1
        have h0 : a + 3 ≤ L := wd_le w1 hle.1
        have hb := bl_le (tb := tb) (L := L) (p := a + 3) (by omega)
        rw [if_neg ka_n10]
        show gOk ((F 1 (x + 4) D G2).bind _) _
        rw [ka_bind]
        refine gOk.mono (hA (s := .inl (bl tb L (a + 3), P ++ Q)) h2 (by show (P ++ Q).length + 7 ≤ bl tb L (a + 3); rw [List.length_append]; omega)) fun G3 g3 => ?_
        obtain ⟨m3, h3⟩ := g3
        have h3 : LQ τ G3 x l' tb L (apR (P ++ Q) (A (bl tb L (a + 3)))) := h3
        rw [h3.ls.1.2, ka_bs, ka_bind]
        cases hr : A (bl tb L (a + 3)) with
        | inr f =>
          rw [hr] at h3
          rw [alL_f w1 hr] at hs
          refine gOk.mono (c_emit0 h3) fun G4 g4 => ?_
          rw [ka_letE, nI_1]
          exact ⟨_, rfl, by omega, rfl, ((m1.tr m2).tr m3).tr g4.1, Or.inr ⟨f, g4.2, hs.symm⟩⟩
        | inl r =>
          rw [hr] at h3
          rw [alL_r w1 hr] at hs
          obtain ⟨⟨k1, k2⟩, k3⟩ := hB _ r.1 r.2 hb.2 hr
          have h3 : LQ τ G3 x l' tb L (.inl (r.1, (P ++ Q) ++ r.2)) := h3
          have hl3 : ((P ++ Q) ++ r.2).length = P.length + Q.length + r.2.length := by rw [List.length_append, List.length_append]
          refine gOk.mono (c_emit (s := (16, 0)) h3 (by omega)) fun G4 g4 => ?_
          rw [ka_letE, nI_1]
          refine ⟨_, rfl, by omega, rfl, ((m1.tr m2).tr m3).tr g4.1, Or.inl ⟨r.1, Q ++ (r.2 ++ [(16, 0)]), ?_, by omega, ?_, hs⟩⟩
          · show LQ τ G4 x l' tb L (.inl (r.1, P ++ (Q ++ (r.2 ++ [(16, 0)]))))
            have := g4.2
            rw [List.append_assoc, List.append_assoc] at this
            exact this
          · rw [List.length_append, List.length_append]
            show P.length + (Q.length + (r.2.length + 1)) + 7 ≤ r.1
            omega
      · cases e1
        rw [if_pos rfl]
        rw [alL_0 w1] at hs
        refine ⟨_, rfl, m1, ?_⟩
        rw [← hs]
        exact h1
    · have h1 : LQ τ G1 x l' tb L (.inr f) := h1
      have hfin : LM x l' G G1 ∧ LQ τ G1 x l' tb L (apR P W) := ⟨m1, by rw [hs]; exact h1⟩
      by_cases h4 : (400 : Int32) ≤ nI c
      · rw [if_pos h4]
        exact ⟨_, rfl, hfin⟩
      · rw [if_neg h4, h1.1.1.1, ka_bs, ka_b2 (c_tkW0 h1.2.1), if_pos rfl]
        exact ⟨_, rfl, hfin⟩
end
