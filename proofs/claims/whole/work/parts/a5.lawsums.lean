/-! TEXTS: sums and comparisons of the law, in the class -/
section
variable {τ : gτ} {n : Nat} {G G' G'' : gG} {x l' : Nat} {tb : Nat → Nat} {L a b f : Nat} {P Q : List (Nat × Int32)} {z s : (Nat × List (Nat × Int32)) ⊕ Nat} {T : List Bool}
def apR (P : List (Nat × Int32)) : (Nat × List (Nat × Int32)) ⊕ Nat → (Nat × List (Nat × Int32)) ⊕ Nat
  | .inl r => .inl (r.1, P ++ r.2)
  | .inr f => .inr f
def bnd (s : (Nat × List (Nat × Int32)) ⊕ Nat) (g : Nat → (Nat × List (Nat × Int32)) ⊕ Nat) : (Nat × List (Nat × Int32)) ⊕ Nat := match s with
  | .inl r => apR r.2 (g r.1)
  | .inr f => .inr f
/-- there is room for more codes -/
def cnR : (Nat × List (Nat × Int32)) ⊕ Nat → Prop
  | .inl r => r.2.length + 7 ≤ r.1
  | .inr _ => True
theorem LQ.le (h : LQ τ G x l' tb L (.inl (a, P))) : a ≤ L ∧ L ≤ 400 := ⟨h.2.1.2.1, h.2.1.1.2.1.1⟩
/-- a part, emitted -/
theorem c_part (h : LQ τ G x l' tb L s) (hc : cnR s) (hn : 500 < n) : gOk (gBind2 (f_X2_takePart τ n (x + 4) G) fun v G1 => f_X1_emit τ l' v G1) (fun G' => LM x l' G G' ∧ LQ τ G' x l' tb L (bnd s (ptP tb L))) := by
  rw [ka_bind2]
  cases s with
  | inr f =>
    refine gOk.mono (c_takePart0 h.1.1.1 h.2.1 hn) fun q hq => ?_
    obtain ⟨m1, l1⟩ := h.mv0 hq.1 hq.2
    refine gOk.mono (c_emit0 l1) fun G2 g2 => ?_
    exact ⟨m1.tr g2.1, g2.2⟩
  | inl r =>
    obtain ⟨a, P⟩ := r
    have hc : P.length + 7 ≤ a := hc
    have hle := h.le
    refine gOk.mono (c_takePart h.1.1.1 h.2.1 hn) fun q hq => ?_
    obtain ⟨d1, j1, c1⟩ := hq
    show gOk (f_X1_emit τ l' q.1 q.2) (fun G' => LM x l' G G' ∧ LQ τ G' x l' tb L (apR P (ptP tb L a)))
    cases hr : ptP tb L a with
    | inr f =>
      rw [hr] at j1
      obtain ⟨m1, l1⟩ := h.no (by omega) d1 j1
      refine gOk.mono (c_emit0 l1) fun G2 g2 => ?_
      exact ⟨m1.tr g2.1, g2.2⟩
    | inl u =>
      rw [hr] at j1
      obtain ⟨m1, l1⟩ := h.mv d1 j1
      obtain ⟨st, e1, e2⟩ := c1 u.1 u.2 hr
      rw [e2]
      refine gOk.mono (c_emit l1 (by omega)) fun G2 g2 => ?_
      refine ⟨m1.tr g2.1, ?_⟩
      show LQ τ G2 x l' tb L (.inl (u.1, P ++ u.2))
      rw [e1]
      exact g2.2
theorem smL_0 {k : Nat} (h : ¬ (a < L ∧ tb a = 43)) : smL tb L (k + 1) a P = .inl (a, P) := if_neg h
theorem smL_r {k : Nat} {r : Nat × List (Nat × Int32)} (h : a < L ∧ tb a = 43) (hr : ptP tb L (bl tb L (a + 1)) = .inl r) : smL tb L (k + 1) a P = smL tb L k r.1 (P ++ (r.2 ++ [(12, 0)])) := by
  show (if a < L ∧ tb a = 43 then _ else _) = _
  rw [if_pos h, hr]
theorem smL_f {k : Nat} (h : a < L ∧ tb a = 43) (hr : ptP tb L (bl tb L (a + 1)) = .inr f) : smL tb L (k + 1) a P = .inr f := by
  show (if a < L ∧ tb a = 43 then _ else _) = _
  rw [if_pos h, hr]
def smK (tb : Nat → Nat) (L : Nat) : (Nat × List (Nat × Int32)) ⊕ Nat → (Nat × List (Nat × Int32)) ⊕ Nat
  | .inl r => smL tb L L r.1 r.2
  | .inr f => .inr f
theorem smK_e : smK tb L (ptP tb L a) = smP tb L a := by
  unfold smP
  cases ptP tb L a with
  | inl r => rfl
  | inr f => rfl
theorem c_sumL (h : LQ τ G x l' tb L (apR P z)) (hz : ∀ b Q, z = .inl (b, Q) → (0 < b ∧ b ≤ L) ∧ P.length + Q.length + 7 ≤ b) (hn : 500 < n) : gOk (l_X2_readSum_13 τ n (x + 4) 0 G) (fun G' => LM x l' G G' ∧ LQ τ G' x l' tb L (apR P (smK tb L z))) := by
  generalize hW : smK tb L z = W
  unfold l_X2_readSum_13
  refine ka_loop 400 (fun c q => q.1 = nI c ∧ LM x l' G q.2 ∧ ((∃ a Q, LQ τ q.2 x l' tb L (.inl (a, P ++ Q)) ∧ c < a ∧ P.length + Q.length + 7 ≤ a ∧ smL tb L (L - c) a Q = W) ∨ ∃ f, LQ τ q.2 x l' tb L (.inr f) ∧ W = .inr f)) (by omega) ?_ (fun c q hc hq => ?_)
  · refine ⟨rfl, LM.rf, ?_⟩
    cases z with
    | inl r =>
      obtain ⟨h1, h2⟩ := hz r.1 r.2 rfl
      exact Or.inl ⟨r.1, r.2, h, h1.1, h2, hW⟩
    | inr f => exact Or.inr ⟨f, h, hW.symm⟩
  · obtain ⟨x1, G1⟩ := q
    obtain ⟨e1, m1, hq⟩ := hq
    have e1 : x1 = nI c := e1
    have m1 : LM x l' G G1 := m1
    subst e1
    show gOk (b_X2_readSum_13 τ n (x + 4) (nI c) G1) _
    unfold b_X2_readSum_13
    rcases hq with ⟨a, Q, h1, hca, hl, hs⟩ | ⟨f, h1, hs⟩
    · have h1 : LQ τ G1 x l' tb L (.inl (a, P ++ Q)) := h1
      have hle := h1.le
      have hx := h1.1.2.2
      rw [show L - c = (L - (c + 1)) + 1 by omega] at hs
      rw [if_neg (show ¬ (400 : Int32) ≤ nI c from nI_ge (b := 400) (by omega) (by decide)), h1.1.1.1, ka_bs, ka_bind2]
      refine gOk.mono (c_tkS (sg := 43) h1.2.1 (by decide) hn) fun q hq => ?_
      obtain ⟨d2, hq⟩ := hq
      rcases hq with ⟨w1, e1, j1⟩ | ⟨w1, e1⟩
      · obtain ⟨v, G2⟩ := q
        have e1 : v = 1 := e1
        subst e1
        have d2 : TE x G1 G2 := d2
        have j1 : TJ τ G2 x tb L (.inl (bl tb L (a + 1))) := j1
        obtain ⟨m2, h2⟩ := h1.mv d2 j1
        have hb := bl_le (tb := tb) (L := L) (p := a + 1) (by omega)
        have hpt := ptP_ok (tb := tb) (L := L) (a := bl tb L (a + 1)) (T := []) (d := 1) hb.2 (Nat.le_refl 1)
        rw [if_neg ka_n10]
        show gOk ((gr G2 2 1 (x + 4)).bind _) _
        rw [h2.1.1.2, ka_bs]
        have hp := c_part (s := .inl (bl tb L (a + 1), P ++ Q)) h2 (by show (P ++ Q).length + 7 ≤ bl tb L (a + 1); rw [List.length_append]; omega) hn
        rw [ka_bind2] at hp ⊢
        refine gOk.mono hp fun q hq => ?_
        rw [ka_bind]
        refine gOk.mono hq fun G3 g3 => ?_
        obtain ⟨m3, h3⟩ := g3
        have h3 : LQ τ G3 x l' tb L (apR (P ++ Q) (ptP tb L (bl tb L (a + 1)))) := h3
        rw [h3.ls.1.2, ka_bs, ka_bind]
        cases hr : ptP tb L (bl tb L (a + 1)) with
        | inr f =>
          rw [hr] at h3
          rw [smL_f w1 hr] at hs
          refine gOk.mono (c_emit0 h3) fun G4 g4 => ?_
          rw [ka_letE, nI_1]
          exact ⟨_, rfl, by omega, rfl, ((m1.tr m2).tr m3).tr g4.1, Or.inr ⟨f, g4.2, hs.symm⟩⟩
        | inl r =>
          rw [hr] at h3
          rw [smL_r w1 hr] at hs
          obtain ⟨⟨k1, k2⟩, k3, -, -⟩ := hpt r.1 r.2 hr
          have h3 : LQ τ G3 x l' tb L (.inl (r.1, (P ++ Q) ++ r.2)) := h3
          have hl3 : ((P ++ Q) ++ r.2).length = P.length + Q.length + r.2.length := by rw [List.length_append, List.length_append]
          refine gOk.mono (c_emit (s := (12, 0)) h3 (by omega)) fun G4 g4 => ?_
          rw [ka_letE, nI_1]
          refine ⟨_, rfl, by omega, rfl, ((m1.tr m2).tr m3).tr g4.1, Or.inl ⟨r.1, Q ++ (r.2 ++ [(12, 0)]), ?_, by omega, ?_, hs⟩⟩
          · show LQ τ G4 x l' tb L (.inl (r.1, P ++ (Q ++ (r.2 ++ [(12, 0)]))))
            have := g4.2
            rw [List.append_assoc, List.append_assoc] at this
            exact this
          · rw [List.length_append, List.length_append]
            show P.length + (Q.length + (r.2.length + 1)) + 7 ≤ r.1
            omega
      · subst e1
        rw [if_pos rfl]
        rw [smL_0 w1] at hs
        refine ⟨_, rfl, m1, ?_⟩
        rw [← hs]
        exact h1
    · have h1 : LQ τ G1 x l' tb L (.inr f) := h1
      have hfin : LM x l' G G1 ∧ LQ τ G1 x l' tb L (apR P W) := ⟨m1, by rw [hs]; exact h1⟩
      by_cases h4 : (400 : Int32) ≤ nI c
      · rw [if_pos h4]
        exact ⟨_, rfl, hfin⟩
      · rw [if_neg h4, h1.1.1.1, ka_bs, ka_b2 (c_tkS0 h1.2.1), if_pos rfl]
        exact ⟨_, rfl, hfin⟩
theorem c_readSum (h : LQ τ G x l' tb L s) (hc : cnR s) (hn : 500 < n) : gOk (f_X2_readSum τ n (x + 4) G) (fun G' => LM x l' G G' ∧ LQ τ G' x l' tb L (bnd s (smP tb L))) := by
  unfold f_X2_readSum
  rw [h.ls.1.2, ka_bs]
  have hp := c_part h hc hn
  rw [ka_bind2] at hp ⊢
  refine gOk.mono hp fun q hq => ?_
  rw [ka_bind]
  refine gOk.mono hq fun G1 g1 => ?_
  obtain ⟨m1, h1⟩ := g1
  rw [ka_bind]
  cases s with
  | inr f =>
    refine gOk.mono (c_sumL (P := []) (z := .inr f) h1 (fun b Q e => by cases e) hn) fun G2 g2 => ?_
    rw [ka_letE]
    exact ⟨_, rfl, m1.tr g2.1, g2.2⟩
  | inl r =>
    obtain ⟨a, P⟩ := r
    have hc : P.length + 7 ≤ a := hc
    have hle := h.le
    have hpt := ptP_ok (tb := tb) (L := L) (a := a) (T := []) (d := 1) hle.1 (Nat.le_refl 1)
    refine gOk.mono (c_sumL (P := P) (z := ptP tb L a) h1 (fun b Q e => ?_) hn) fun G2 g2 => ?_
    · obtain ⟨⟨k1, k2⟩, k3, -, -⟩ := hpt b Q e
      exact ⟨⟨by omega, k2⟩, by omega⟩
    · rw [ka_letE]
      refine ⟨_, rfl, m1.tr g2.1, ?_⟩
      show LQ τ G2 x l' tb L (apR P (smP tb L a))
      rw [← smK_e]
      exact g2.2
end
