/-! TEXTS: atoms of the law, in the reference -/
section
variable {τ : gτ} {n : Nat} {G G' G'' : gG} {m : Nat} {tb : Nat → Nat} {L a b f k D D' : Nat} {P Q : List (Nat × Int32)} {z s : (Nat × List (Nat × Int32)) ⊕ Nat} {F : Nat → Nat → gG → Option (Int32 × gG)} {w : List Int32}
theorem wd_let (h : wd tb L w a = true) (hw : wO w) : a < L ∧ 97 ≤ tb a ∧ tb a ≤ 122 := by
  have h1 := (wd_iff.mp h).1
  have h2 := hw.1
  exact rn_in (lo := 97) (hi := 122) (f := L - a) rfl a (Nat.le_refl _) (by show a < lt tb L a; omega)
theorem m_passes (h : NQ τ G m tb L D (.inl (a, P))) (hw : wO w) (hn : 500 < n) : gOk (f_X11_passes τ n m w G) (fun q => (NK m G q.2 ∧ MB τ q.2 m tb L ∧ FM τ q.2 m ∧ gi q.2 11 12 m = nI a) ∧ ((wd tb L w a = true ∧ q.1 = 1 ∧ NQ τ q.2 m tb L D (.inl (bl tb L (a + w.length), P))) ∨ (¬ wd tb L w a = true ∧ q.1 = 0 ∧ NQ τ q.2 m tb L D (.inl (a, P))))) := by
  have hle := h.at
  unfold f_X11_passes
  rw [ka_bind]
  refine gOk.mono (m_word h.1 hn) fun G1 g1 => ?_
  obtain ⟨d1, j1, g2⟩ := g1
  obtain ⟨e1, e2⟩ := g2 w hw
  have hF1 := (NK.tm d1).fm h.2.1
  rw [e1, ka_bs]
  by_cases hwd : wd tb L w a = true
  · rw [if_pos hwd, if_neg ka_n10]
    obtain ⟨m1, h1⟩ := h.mv d1 (e2 hwd)
    exact ⟨_, rfl, ⟨m1, j1.1, hF1, j1.2.2⟩, Or.inl ⟨hwd, rfl, h1⟩⟩
  · rw [if_neg hwd, if_pos rfl, j1.2.2, ka_letE]
    have d2 : TM m G1 (gsi G1 11 10 m (nI a)) := TM.put (Or.inl rfl)
    have hJ : MJ τ (gsi G1 11 10 m (nI a)) m tb L (.inl a) := ⟨j1.1.tm d2, a, hle.1, by rw [ka_ii, if_pos ⟨rfl, rfl, rfl⟩], h.bq⟩
    obtain ⟨m1, h1⟩ := h.mv (d1.tr d2) hJ
    refine ⟨_, rfl, ⟨m1, j1.1.tm d2, h1.2.1, ?_⟩, Or.inr ⟨hwd, rfl, h1⟩⟩
    show gi (gsi G1 11 10 m _) 11 12 m = _
    rw [ka_ii, if_neg (fun h => absurd h.2.1 (by decide))]
    exact j1.2.2
/-- whipped, winter -/
theorem m_tag (h : NQ τ G m tb L D (.inl (a, P))) (hl : P.length < 400) (hn : 500 < n) : gOk (f_X11_readTag τ n m G) (fun q => NK m G q.2 ∧ ((wd tb L s_whipped a = true ∧ q.1 = 1 ∧ NQ τ q.2 m tb L D (.inl (bl tb L (a + s_whipped.length), P ++ [(9, 0)]))) ∨ (¬ wd tb L s_whipped a = true ∧ wd tb L s_winter a = true ∧ q.1 = 1 ∧ NQ τ q.2 m tb L D (.inl (bl tb L (a + s_winter.length), P ++ [(10, 0)]))) ∨ (¬ wd tb L s_whipped a = true ∧ ¬ wd tb L s_winter a = true ∧ q.1 = 0 ∧ NQ τ q.2 m tb L D (.inl (a, P))))) := by
  have hle := h.at
  unfold f_X11_readTag
  rw [ka_bind]
  refine gOk.mono (m_word h.1 hn) fun G1 g1 => ?_
  obtain ⟨d1, j1, g2⟩ := g1
  obtain ⟨e1, e2⟩ := g2 _ wo_whipped
  obtain ⟨e3, e4⟩ := g2 _ wo_winter
  rw [e1, ka_bs]
  by_cases w1 : wd tb L s_whipped a = true
  · rw [if_pos w1, if_neg ka_n10]
    obtain ⟨m1, h1⟩ := h.mv d1 (e2 w1)
    unfold k_X11_readTag_33 k_X11_readTag_55
    rw [if_neg (by decide), ka_bind]
    refine gOk.mono (m_emits (s := (9, 0)) h1 hl) fun G2 g2 => ?_
    rw [if_neg (by decide)]
    exact ⟨_, rfl, m1.tr g2.1, Or.inl ⟨w1, rfl, g2.2⟩⟩
  · rw [if_neg w1, if_pos rfl, e3, ka_bs]
    by_cases w2 : wd tb L s_winter a = true
    · rw [if_pos w2, if_neg ka_n10]
      obtain ⟨m1, h1⟩ := h.mv d1 (e4 w2)
      unfold k_X11_readTag_33 k_X11_readTag_55
      rw [if_neg (by decide), ka_bind]
      refine gOk.mono (m_emits (s := (10, 0)) h1 hl) fun G2 g2 => ?_
      rw [if_neg (by decide)]
      exact ⟨_, rfl, m1.tr g2.1, Or.inr (Or.inl ⟨w1, w2, rfl, g2.2⟩)⟩
    · rw [if_neg w2, if_pos rfl]
      unfold k_X11_readTag_33 k_X11_readTag_55
      rw [if_pos (by decide), j1.2.2, ka_letE, if_pos (by decide)]
      have d2 : TM m G1 (gsi G1 11 10 m (nI a)) := TM.put (Or.inl rfl)
      have hJ : MJ τ (gsi G1 11 10 m (nI a)) m tb L (.inl a) := ⟨j1.1.tm d2, a, hle.1, by rw [ka_ii, if_pos ⟨rfl, rfl, rfl⟩], h.bq⟩
      obtain ⟨m1, h1⟩ := h.mv (d1.tr d2) hJ
      exact ⟨_, rfl, m1, Or.inr (Or.inr ⟨w1, w2, rfl, h1⟩)⟩
theorem NQ.dep (h : NQ τ G m tb L D (.inl (a, P))) : NK m G (gsi G 11 13 m (nI D')) ∧ NQ τ (gsi G 11 13 m (nI D')) m tb L D' (.inl (a, P)) := by
  have m1 : NK m G (gsi G 11 13 m (nI D')) := ⟨Fr.i (A := fun b => b = m ∨ b = m + 1) (Or.inl rfl), fun _ _ => rfl, fun c k hn => by rw [ka_ii, if_neg (fun h => hn ⟨h.1, by omega⟩)], fun _ _ => rfl⟩
  obtain ⟨⟨h1, p, hp, h10, hbp⟩, h2, h3, h4, h5⟩ := h
  refine ⟨m1, ⟨h1.nk m1, p, hp, ?_, hbp⟩, h2, ?_, ?_, h5⟩
  · rw [ka_ii, if_neg (fun h => absurd h.2.1 (by decide))]; exact h10
  · rw [ka_ii, if_pos ⟨rfl, rfl, rfl⟩]
  · rw [ka_ii, if_neg (fun h => absurd h.2.1 (by decide))]; exact h4
/-- a comparison's second half -/
theorem m_cmpK {v : Int32} (h : NQ τ G m tb L D (.inl (a, P))) (hc : P.length + 7 ≤ a) (hn : 500 < n) : gOk (k_X11_readAtom_152 τ n F m v G) (NO τ m tb L D G (apR P (match smP tb L a with
    | .inr f => .inr f
    | .inl u => .inl (u.1, u.2 ++ [(if v = 0 then 14 else 13, 0)])))) := by
  have hle := h.at
  have hsm := smP_ok (tb := tb) (L := L) (a := a) (T := []) (d := 2) hle.1 (Nat.le_refl 2)
  unfold k_X11_readAtom_152
  rw [ka_bind2]
  refine gOk.mono (m_readSum h hc hn) fun q hq => ?_
  obtain ⟨v14, G1⟩ := q
  obtain ⟨m1, h1, e1⟩ := hq
  have m1 : NK m G G1 := m1
  have h1 : NQ τ G1 m tb L D (apR P (smP tb L a)) := h1
  have e1 : v14 = isL (plR (apR P (smP tb L a))) := e1
  show gOk (if v14 = 0 then _ else _) _
  cases hr : smP tb L a with
  | inr f =>
    rw [hr] at h1 e1
    rw [if_pos (show v14 = 0 from e1)]
    exact ⟨_, rfl, m1, h1, rfl⟩
  | inl u =>
    rw [hr] at h1 e1
    obtain ⟨⟨k1, k2⟩, k3, -, -⟩ := hsm u.1 u.2 hr
    have h1 : NQ τ G1 m tb L D (.inl (u.1, P ++ u.2)) := h1
    have hl : (P ++ u.2).length < 400 := by rw [List.length_append]; omega
    rw [if_neg (by rw [show v14 = 1 from e1]; exact ka_n10)]
    unfold k_X11_readAtom_173
    by_cases hv : v = 0
    · simp only [if_pos hv]
      rw [ka_bind]
      refine gOk.mono (m_emits (s := (14, 0)) h1 hl) fun G2 g2 => ?_
      refine ⟨_, rfl, m1.tr g2.1, ?_, rfl⟩
      have := g2.2
      rw [List.append_assoc] at this
      exact this
    · simp only [if_neg hv]
      rw [ka_bind]
      refine gOk.mono (m_emits (s := (13, 0)) h1 hl) fun G2 g2 => ?_
      refine ⟨_, rfl, m1.tr g2.1, ?_, rfl⟩
      have := g2.2
      rw [List.append_assoc] at this
      exact this
end
