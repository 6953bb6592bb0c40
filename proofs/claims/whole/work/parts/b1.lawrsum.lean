/-! TEXTS: sums of the law, in the reference -/
section
variable {τ : gτ} {n : Nat} {G G' G'' : gG} {m : Nat} {tb : Nat → Nat} {L a b f D : Nat} {P Q : List (Nat × Int32)} {z s : (Nat × List (Nat × Int32)) ⊕ Nat}
theorem m_sign {sg : Nat} {u : Int32} (h : NQ τ G m tb L D (.inl (a, P))) (hs : 0 < sg ∧ sg < 128) (hu : u = nI sg) (hn : 500 < n) : gOk (f_X11_sign τ n m u G) (fun q => (NK m G q.2 ∧ MB τ q.2 m tb L ∧ FM τ q.2 m ∧ gi q.2 11 12 m = nI a) ∧ (((a < L ∧ tb a = sg) ∧ q.1 = 1 ∧ NQ τ q.2 m tb L D (.inl (bl tb L (a + 1), P))) ∨ (¬ (a < L ∧ tb a = sg) ∧ q.1 = 0 ∧ NQ τ q.2 m tb L D (.inl (a, P))))) := by
  have hle := h.at
  unfold f_X11_sign
  rw [ka_bind]
  obtain ⟨p, hp, h10, hbp⟩ := h.1.2
  have hbp : bl tb L p = a := hbp
  refine gOk.mono (m_blanks h.1.1 hn h10 hp) fun G1 g1 => ?_
  obtain ⟨d1, e10, e12⟩ := g1
  rw [hbp] at e10 e12
  have hB1 := h.1.1.tm d1
  have hJ : MJ τ G1 m tb L (.inl a) := ⟨hB1, a, hle.1, e10, h.bq⟩
  obtain ⟨m1, h1⟩ := h.mv d1 hJ
  rw [m_isAt hB1 (lo := sg) (hi := sg) hu hu ⟨hs.1, hs.2, hs.2⟩ e10 hle.1, ka_bs]
  by_cases ht : a < L ∧ tb a = sg
  · rw [if_pos (show a < L ∧ sg ≤ tb a ∧ tb a ≤ sg by omega), if_neg ka_n10, e10, nI_1, ka_letE]
    have d2 : TM m G1 (gsi G1 11 10 m (nI (a + 1))) := TM.put (Or.inl rfl)
    have hJ2 : MJ τ (gsi G1 11 10 m (nI (a + 1))) m tb L (.inl (bl tb L (a + 1))) := ⟨hB1.tm d2, a + 1, by omega, by rw [ka_ii, if_pos ⟨rfl, rfl, rfl⟩], rfl⟩
    obtain ⟨m2, h2⟩ := h1.mv d2 hJ2
    refine ⟨_, rfl, ⟨m1.tr m2, hB1.tm d2, h2.2.1, ?_⟩, Or.inl ⟨ht, rfl, h2⟩⟩
    show gi (gsi G1 11 10 m _) 11 12 m = _
    rw [ka_ii, if_neg (fun h => absurd h.2.1 (by decide))]
    exact e12
  · rw [if_neg (show ¬ (a < L ∧ sg ≤ tb a ∧ tb a ≤ sg) by omega), if_pos rfl]
    exact ⟨_, rfl, ⟨m1, hB1, h1.2.1, e12⟩, Or.inr ⟨ht, rfl, h1⟩⟩
/-- how a loop of the reference ends -/
def NE (τ : gτ) (m : Nat) (tb : Nat → Nat) (L D : Nat) (G : gG) (z : (Nat × List (Nat × Int32)) ⊕ Nat) (q : gG ⊕ gG) : Prop := (∃ G' r, q = .inl G' ∧ z = .inl r ∧ NK m G G' ∧ NQ τ G' m tb L D z) ∨ ∃ G' f, q = .inr G' ∧ z = .inr f ∧ NK m G G' ∧ NQ τ G' m tb L D z
theorem m_sumL {W : (Nat × List (Nat × Int32)) ⊕ Nat} (h : NQ τ G m tb L D (.inl (b, P ++ Q))) (hb : 0 < b ∧ P.length + Q.length + 7 ≤ b) (hW : smL tb L L b Q = W) (hn : 500 < n) : gOk (l_X11_readSum_9 τ n m G) (NE τ m tb L D G (apR P W)) := by
  unfold l_X11_readSum_9
  refine ka_loop 400 (fun c q => NK m G q ∧ ∃ a Q, NQ τ q m tb L D (.inl (a, P ++ Q)) ∧ c < a ∧ P.length + Q.length + 7 ≤ a ∧ smL tb L (L - c) a Q = W) (by omega) ⟨NK.rf, b, Q, h, hb.1, hb.2, hW⟩ (fun c G1 hc hq => ?_)
  obtain ⟨m1, a, Q, h1, hca, hl, hs⟩ := hq
  have hle := h1.at
  rw [show L - c = (L - (c + 1)) + 1 by omega] at hs
  unfold b_X11_readSum_9
  rw [ka_bind2]
  refine gOk.mono (m_sign (sg := 43) (u := 43) h1 (by decide) rfl hn) fun q hq => ?_
  obtain ⟨v, G2⟩ := q
  obtain ⟨⟨m2, -⟩, hq⟩ := hq
  have m2 : NK m G1 G2 := m2
  rcases hq with ⟨w1, e1, h2⟩ | ⟨w1, e1, h2⟩
  · have e1 : v = 1 := e1
    subst e1
    have h2 : NQ τ G2 m tb L D (.inl (bl tb L (a + 1), P ++ Q)) := h2
    have hbl := bl_le (tb := tb) (L := L) (p := a + 1) (by omega)
    have hpt := ptP_ok (tb := tb) (L := L) (a := bl tb L (a + 1)) (T := []) (d := 1) hbl.2 (Nat.le_refl 1)
    rw [if_neg ka_n10, ka_bind2]
    have hlen : (P ++ Q).length = P.length + Q.length := List.length_append
    refine gOk.mono (m_part h2 (by omega) hn) fun q hq => ?_
    obtain ⟨v5, G6⟩ := q
    obtain ⟨m6, h6, e6⟩ := hq
    have m6 : NK m G2 G6 := m6
    have h6 : NQ τ G6 m tb L D (apR (P ++ Q) (ptP tb L (bl tb L (a + 1)))) := h6
    have e6 : v5 = isL (plR (apR (P ++ Q) (ptP tb L (bl tb L (a + 1))))) := e6
    show gOk (if v5 = 0 then _ else _) _
    cases hr : ptP tb L (bl tb L (a + 1)) with
    | inr f =>
      rw [hr] at h6 e6
      rw [smL_f w1 hr] at hs
      rw [if_pos (show v5 = 0 from e6)]
      rw [← hs]
      exact ⟨_, rfl, Or.inr ⟨G6, f, rfl, rfl, (m1.tr m2).tr m6, h6⟩⟩
    | inl r =>
      rw [hr] at h6 e6
      rw [smL_r w1 hr] at hs
      obtain ⟨⟨k1, k2⟩, k3, -, -⟩ := hpt r.1 r.2 hr
      have h6 : NQ τ G6 m tb L D (.inl (r.1, (P ++ Q) ++ r.2)) := h6
      have hl3 : ((P ++ Q) ++ r.2).length = P.length + Q.length + r.2.length := by rw [List.length_append, List.length_append]
      rw [if_neg (by rw [show v5 = 1 from e6]; exact ka_n10), ka_bind]
      refine gOk.mono (m_emits (s := (12, 0)) h6 (by omega)) fun G7 g7 => ?_
      refine ⟨_, rfl, by omega, ((m1.tr m2).tr m6).tr g7.1, r.1, Q ++ (r.2 ++ [(12, 0)]), ?_, by omega, ?_, hs⟩
      · have := g7.2
        rw [List.append_assoc, List.append_assoc] at this
        exact this
      · rw [List.length_append, List.length_append]
        show P.length + (Q.length + (r.2.length + 1)) + 7 ≤ r.1
        omega
  · have e1 : v = 0 := e1
    subst e1
    rw [if_pos rfl]
    rw [smL_0 w1] at hs
    rw [← hs]
    exact ⟨_, rfl, Or.inl ⟨G2, _, rfl, rfl, m1.tr m2, h2⟩⟩
theorem m_readSum (h : NQ τ G m tb L D (.inl (a, P))) (hc : P.length + 7 ≤ a) (hn : 500 < n) : gOk (f_X11_readSum τ n m G) (NO τ m tb L D G (apR P (smP tb L a))) := by
  have hle := h.at
  have hpt := ptP_ok (tb := tb) (L := L) (a := a) (T := []) (d := 1) hle.1 (Nat.le_refl 1)
  unfold f_X11_readSum
  rw [ka_bind2]
  refine gOk.mono (m_part h (by omega) hn) fun q hq => ?_
  obtain ⟨v1, G2⟩ := q
  obtain ⟨m2, h2, e2⟩ := hq
  have m2 : NK m G G2 := m2
  have h2 : NQ τ G2 m tb L D (apR P (ptP tb L a)) := h2
  have e2 : v1 = isL (plR (apR P (ptP tb L a))) := e2
  show gOk (if v1 = 0 then _ else _) _
  rw [← smK_e]
  cases hr : ptP tb L a with
  | inr f =>
    rw [hr] at h2 e2
    rw [if_pos (show v1 = 0 from e2)]
    exact ⟨_, rfl, m2, h2, rfl⟩
  | inl r =>
    rw [hr] at h2 e2
    obtain ⟨⟨k1, k2⟩, k3, -, -⟩ := hpt r.1 r.2 hr
    rw [if_neg (by rw [show v1 = 1 from e2]; exact ka_n10), ka_bind]
    refine gOk.mono (m_sumL (W := smK tb L (.inl r)) h2 ⟨by omega, by omega⟩ rfl hn) fun q hq => ?_
    rcases hq with ⟨G', u, e1, ez, m3, h3⟩ | ⟨G', f, e1, ez, m3, h3⟩
    · subst e1
      refine ⟨(1, G'), rfl, m2.tr m3, h3, ?_⟩
      rw [ez]
      rfl
    · subst e1
      refine ⟨(0, G'), rfl, m2.tr m3, h3, ?_⟩
      rw [ez]
      rfl
end
