/-! TEXTS: all lines of the law, in the reference -/
section
variable {τ : gτ} {n : Nat} {G G' G'' : gG} {m : Nat} {tb : Nat → Nat} {L a b f c k D : Nat} {P Q : List (Nat × Int32)} {Λ : List lwL} {ω : gW} {im : Option gW} {me : List gW} {ta : List Nat} {fa : Int32} {W : (List lwL × List (Nat × Int32)) ⊕ Nat}
/-- the reference at the end of a text of the law -/
def MEz (τ : gτ) (m : Nat) (tb : Nat → Nat) (L : Nat) (G : gG) (W : (List lwL × List (Nat × Int32)) ⊕ Nat) (q : gG ⊕ (Int32 × gG) ⊕ gG) : Prop := (∃ G' f, (q = .inl G' ∨ q = .inr (.inr G')) ∧ NL m G G' ∧ FM τ G' m ∧ W = .inr f ∧ MJ τ G' m tb L (.inr f)) ∨ ∃ Λ P z G', q = .inr (.inl (nI z, G')) ∧ z + 1 = Λ.length ∧ NL m G G' ∧ FM τ G' m ∧ W = .inl (Λ, P) ∧ SQ G' m P ∧ SLn G' m Λ
theorem m_lawLines (hJ : MJ τ G m tb L (.inl a)) (hM : FM τ G m) (hQ : SQ G m []) (hn : 500 < n) : gOk (l_X11_readAll_28 τ n m 0 0 G) (MEz τ m tb L G (laA tb L 12 [] [] a)) := by
  generalize hW : laA tb L 12 [] [] a = W
  unfold l_X11_readAll_28
  refine ka_loop 12 (fun c q => q.1 = nI c ∧ NL m G q.2 ∧ ∃ a' Λ P, MJ τ q.2 m tb L (.inl a') ∧ FM τ q.2 m ∧ SQ q.2 m P ∧ SLn q.2 m Λ ∧ Λ.length = c ∧ P.length ≤ a' ∧ laA tb L (12 - c) Λ P a' = W) (by omega) ⟨rfl, NL.rf, a, [], [], hJ, hM, hQ, (fun j r hj => by cases hj), rfl, Nat.zero_le _, hW⟩ (fun c q hc hq => ?_)
  obtain ⟨x2, G1⟩ := q
  obtain ⟨e1, n1, a', Λ, P, j1, m1, q1, s1, l1, p1, er⟩ := hq
  have e1 : x2 = nI c := e1
  have n1 : NL m G G1 := n1
  have j1 : MJ τ G1 m tb L (.inl a') := j1
  have m1 : FM τ G1 m := m1
  have q1 : SQ G1 m P := q1
  have s1 : SLn G1 m Λ := s1
  subst e1
  have hle := j1.ale
  show gOk (b_X11_readAll_28 τ n m 0 (nI c) G1) _
  unfold b_X11_readAll_28
  by_cases h12 : c = 12
  · subst h12
    rw [ka_bind2]
    refine gOk.mono (m_lawReadO j1 m1 hn) fun q hq => ?_
    obtain ⟨v4, G5⟩ := q
    obtain ⟨n5, m5, e4, j5⟩ := hq
    have e4 : v4 = 0 := e4
    subst e4
    rw [if_pos rfl]
    refine ⟨_, rfl, Or.inl ⟨G5, a', Or.inl rfl, n1.tr n5, m5, ?_, j5⟩⟩
    rw [← er]
    rfl
  · rw [show 12 - c = (12 - (c + 1)) + 1 by omega] at er
    rw [ka_bind2]
    refine gOk.mono (m_lawRead j1 m1 q1 s1 l1 (by omega) p1 hn) fun q hq => ?_
    obtain ⟨v4, G5⟩ := q
    obtain ⟨n5, m5, hz⟩ := hq
    have n5 : NL m G1 G5 := n5
    have m5 : FM τ G5 m := m5
    show gOk (if v4 = 0 then _ else _) _
    rcases hz with ⟨f, ez, e4, j5⟩ | ⟨r, ez, e4, j5, q5, s5⟩
    · rw [if_pos (show v4 = 0 from e4)]
      rw [laA_f ez] at er
      exact ⟨_, rfl, Or.inl ⟨G5, f, Or.inl rfl, n1.tr n5, m5, er.symm, j5⟩⟩
    · obtain ⟨e, κ, v', Q⟩ := r
      obtain ⟨⟨o1, o2⟩, o3, -⟩ := ll_ok hle.1 ez
      have hx : (P ++ Q).length = P.length + Q.length := List.length_append
      have hl : (lnX Λ P (e, κ, v', Q)).length = Λ.length + 1 := List.length_append
      have j5 : MJ τ G5 m tb L (.inl e) := j5
      have q5 : SQ G5 m (P ++ Q) := q5
      have s5 : SLn G5 m (lnX Λ P (e, κ, v', Q)) := s5
      rw [if_neg (show ¬ v4 = 0 by rw [show v4 = 1 from e4]; exact ka_n10), ka_bind]
      obtain ⟨hB5, p, hp, h10, hbp⟩ := j5
      refine gOk.mono (m_blanks hB5 hn h10 hp) fun G6 g6 => ?_
      obtain ⟨d6, e10, e12⟩ := g6
      rw [hbp] at e10 e12
      have hB6 := hB5.tm d6
      have m6 := (NK.tm d6).fm m5
      have nA : NL m G G6 := (n1.tr n5).tr (NL.nk (NK.tm d6))
      have hL := hB6.2.1.1
      rw [e10, hB6.2.1.2]
      by_cases hb : e = L
      · rw [if_pos (by rw [hb])]
        rw [laA_e ez hb] at er
        exact ⟨_, rfl, Or.inr ⟨_, P ++ Q, c, G6, rfl, by omega, nA, m6, er.symm, q5.tm d6, s5.tm d6⟩⟩
      · rw [if_neg (fun h => hb ((nI_eq (by omega) (by omega)).mp h)), m_isAt hB6 (lo := 59) (hi := 59) (u := 59) (v := 59) rfl rfl (by decide) e10 o2, ka_bs]
        by_cases h59 : tb e = 59
        · rw [if_pos (show e < L ∧ 59 ≤ tb e ∧ tb e ≤ 59 by omega), if_neg ka_n10, nI_1, ka_letE, nI_1, ka_letE]
          rw [laA_n ez hb h59] at er
          have d7 : TM m G6 (gsi G6 11 10 m (nI (e + 1))) := TM.put (Or.inl rfl)
          have hbl := bl_le (tb := tb) (L := L) (p := e + 1) (by omega)
          refine ⟨_, rfl, by omega, rfl, nA.tr (NL.nk (NK.tm d7)), bl tb L (e + 1), _, P ++ Q, ⟨hB6.tm d7, e + 1, by omega, ?_, rfl⟩, (NK.tm d7).fm m6, (q5.tm d6).tm d7, (s5.tm d6).tm d7, by omega, by omega, er⟩
          show gi (gsi G6 11 10 m _) 11 10 m = _
          rw [ka_ii, if_pos ⟨rfl, rfl, rfl⟩]
        · rw [if_neg (show ¬ (e < L ∧ 59 ≤ tb e ∧ tb e ≤ 59) by omega), if_pos rfl]
          rw [laA_x ez hb h59] at er
          exact ⟨_, rfl, Or.inl ⟨G6, e, Or.inr rfl, nA, m6, er.symm, hB6, o2, e12⟩⟩
theorem m_lread (hM : MV τ G m ω im me ta fa) (hI : IV ω im me ta) (hn : 500 < n) : gOk (f_X11_readAll τ n m 0 G) (fun q => (Fr (fun b => b = m ∨ b = m + 1) G q.2 ∧ FM τ q.2 m ∧ ∀ j, j < 1317 → ge q.2 (m + 1) j = ω j) ∧ (gi q.2 11 0 m = 0 ∧ gi q.2 11 6 m = gi G 11 6 m ∧ gi q.2 11 7 m = gi G 11 7 m ∧ gi q.2 11 9 m = 0) ∧ ((∃ Λ P, laW (tbT ta) ta.length = .inl (Λ, P) ∧ q.1 = nI Λ.length ∧ SQ q.2 m P ∧ SLn q.2 m Λ) ∨ ∃ f, laW (tbT ta) ta.length = .inr f ∧ q.1 = -1 ∧ gi q.2 11 12 m = nI f)) := by
  obtain ⟨hF, hω, -, -, ⟨t1, t2⟩, -⟩ := hM
  have hL := hI.2.2.2.2.1
  unfold f_X11_readAll f_X11_uses
  rw [ka_letE, ka_letE, ka_letE, ka_letE, ka_bs, ka_letE]
  generalize hG2 : gsi (gsi (gsi (gsi (gsi G 11 0 m 0) 11 11 m (gi (gsi G 11 0 m 0) 11 9 m)) 11 9 m 0) 11 10 m 0) 11 16 m 0 = G2
  have fr2 : Fr (fun b => b = m) G G2 := by
    have fi : ∀ {G : gG} {k : Nat} {v : Int32}, Fr (fun b => b = m) G (gsi G 11 k m v) := fun {G k v} => Fr.i (A := fun b => b = m) rfl
    rw [← hG2]
    exact (((fi.tr fi).tr fi).tr fi).tr fi
  have v0 : gi G2 11 0 m = 0 ∧ gi G2 11 6 m = gi G 11 6 m ∧ gi G2 11 7 m = gi G 11 7 m ∧ gi G2 11 9 m = 0 := by
    rw [← hG2]
    simp [ka_ii]
  have v10 : gi G2 11 10 m = nI 0 ∧ gi G2 11 11 m = nI ta.length ∧ gi G2 11 16 m = nI 0 := by
    rw [← hG2]
    simp only [ka_ii]
    simp [t1]
    rfl
  have r2 : ∀ c k d, gr G2 c k d = gr G c k d := fun c k d => by rw [← hG2]; rfl
  have hF2 : FM τ G2 m := by
    unfold FM at hF ⊢
    simp only [r2]
    exact hF
  have w2 : ge G2 (m + 1) = ω := by rw [(fr2 (m + 1) (by omega)).2.2.1]; exact hω
  have hB2 : MB τ G2 m (tbT ta) ta.length := ⟨⟨hF2.rf.2.2.2.2.2.1, hF2.2.2.2.2.2.2.1⟩, ⟨hL, v10.2.1⟩, fun j hj => ⟨by rw [(fr2 (m + 6) (by omega)).2.2.1]; exact t2 j _ (tbT_get hj), tbT_lt hI hj⟩⟩
  have q2 : SQ G2 m [] := ⟨v10.2.2, fun k s hk => by cases hk⟩
  clear hG2
  rw [ka_bind]
  refine gOk.mono (m_blanks hB2 hn v10.1 (Nat.zero_le _)) fun G3 g3 => ?_
  obtain ⟨d3, e10, e12⟩ := g3
  have hbl := bl_le (tb := tbT ta) (L := ta.length) (p := 0) (Nat.zero_le _)
  have hB3 := hB2.tm d3
  have hF3 := (MK.tm d3).fm hF2
  have q3 := q2.tm d3
  have w3 : ge G3 (m + 1) = ω := by rw [d3.2.1]; exact w2
  have v3 : gi G3 11 0 m = 0 ∧ gi G3 11 6 m = gi G 11 6 m ∧ gi G3 11 7 m = gi G 11 7 m ∧ gi G3 11 9 m = 0 := by
    rw [d3.2.2.2.2 _ _ _ (by omega), d3.2.2.2.2 _ _ _ (by omega), d3.2.2.2.2 _ _ _ (by omega), d3.2.2.2.2 _ _ _ (by omega)]
    exact v0
  have fr3 : Fr (fun b => b = m ∨ b = m + 1) G G3 := (fr2.mono fun b hb => Or.inl hb).tr (d3.fr.mono fun b hb => Or.inl hb)
  rw [e10, hB3.2.1.2]
  unfold laW
  by_cases h0 : bl (tbT ta) ta.length 0 = ta.length
  · rw [if_pos (by rw [h0]), if_pos h0]
    exact ⟨_, rfl, ⟨fr3, hF3, fun j _ => by rw [w3]⟩, v3, Or.inl ⟨[], [], rfl, rfl, q3, fun j r hj => by cases hj⟩⟩
  · rw [if_neg (fun e => h0 ((nI_eq (by omega) (by omega)).mp e)), ka_bind, if_neg h0]
    have j3 : MJ τ G3 m (tbT ta) ta.length (.inl (bl (tbT ta) ta.length 0)) := ⟨hB3, bl (tbT ta) ta.length 0, hbl.2, e10, by unfold bl; exact rn_no (rn_end (f := ta.length - 0) rfl)⟩
    have vk : ∀ {G' : gG}, NL m G3 G' → (gi G' 11 0 m = 0 ∧ gi G' 11 6 m = gi G 11 6 m ∧ gi G' 11 7 m = gi G 11 7 m ∧ gi G' 11 9 m = 0) ∧ ∀ j, j < 1317 → ge G' (m + 1) j = ω j := fun {G'} h => by
      rw [h.2.2.1 _ _ (by omega), h.2.2.1 _ _ (by omega), h.2.2.1 _ _ (by omega), h.2.2.1 _ _ (by omega)]
      exact ⟨v3, fun j hj => by rw [h.2.2.2 j hj, w3]⟩
    refine gOk.mono (m_lawLines j3 hF3 q3 hn) fun q hq => ?_
    rcases hq with ⟨G', f, hq, n', m', ef, j'⟩ | ⟨Λ, P, z, G', hq, hz, n', m', eb, q', s'⟩
    · obtain ⟨vk1, vk2⟩ := vk n'
      rcases hq with hq | hq
      · subst hq
        exact ⟨(-1, G'), rfl, ⟨fr3.tr n'.1, m', vk2⟩, vk1, Or.inr ⟨f, ef, rfl, j'.2.2⟩⟩
      · subst hq
        exact ⟨(-1, G'), rfl, ⟨fr3.tr n'.1, m', vk2⟩, vk1, Or.inr ⟨f, ef, rfl, j'.2.2⟩⟩
    · obtain ⟨vk1, vk2⟩ := vk n'
      subst hq
      refine ⟨(nI z + 1, G'), rfl, ⟨fr3.tr n'.1, m', vk2⟩, vk1, Or.inl ⟨Λ, P, eb, ?_, q', s'⟩⟩
      show nI z + 1 = nI Λ.length
      rw [nI_1, hz]
end
