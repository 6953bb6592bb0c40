/-! TEXTS: a line's kind, in the class -/
section
variable {τ : gτ} {n : Nat} {G G' : gG} {x l' : Nat} {tb : Nat → Nat} {L a b f : Nat} {P : List (Nat × Int32)}
/-- what the class keeps for a kind, and where it stands -/
def kdC (τ : gτ) (G : gG) (x l' : Nat) (tb : Nat → Nat) (L : Nat) (P : List (Nat × Int32)) (v : Int32) : (Nat × Int32) ⊕ Nat → Prop
  | .inl r => LQ τ G x l' tb L (.inl (r.1, P)) ∧ v = if r.2 = 0 then 1 else 0
  | .inr f => LQ τ G x l' tb L (.inr f)
theorem c_kind (h : LQ τ G x l' tb L (.inl (a, P))) (hl : P.length ≤ 400) (hf : ¬ wd tb L s_fail a = true) (hn : 500 < n) : gOk (f_X2_takeKind τ n (x + 4) G) (fun q => LM x l' G q.2 ∧ kdC τ q.2 x l' tb L P q.1 (kdP tb L a)) := by
  unfold f_X2_takeKind
  rw [h.1.1.1, ka_bs, ka_bind2]
  refine gOk.mono (c_tkW h.2.1 wo_bear hn) fun q hq => ?_
  obtain ⟨v, G1⟩ := q
  obtain ⟨d1, hq⟩ := hq
  have d1 : TE x G G1 := d1
  rcases hq with ⟨w1, e1, j1⟩ | ⟨w1, e1⟩
  · have e1 : v = 1 := e1
    subst e1
    have j1 : TJ τ G1 x tb L (.inl (bl tb L (a + 4))) := j1
    obtain ⟨m1, h1⟩ := h.mv d1 j1
    rw [if_neg ka_n10]
    refine ⟨_, rfl, m1, ?_⟩
    unfold kdP
    rw [if_neg hf, if_pos w1]
    exact ⟨h1, by rw [if_neg ka_n10]⟩
  · cases e1
    rw [if_pos rfl]
    show gOk ((gr G 2 0 (x + 4)).bind fun a5 => (f_X7_needWord τ n a5 s_wear G).bind fun G7 => some (1, G7)) _
    rw [h.1.1.1, ka_bs, ka_bind]
    refine gOk.mono (c_ndW h.2.1 wo_wear hn) fun G7 g7 => ?_
    obtain ⟨d7, j7⟩ := g7
    rw [ndW_i] at j7
    unfold kdP
    rw [if_neg hf, if_neg w1]
    by_cases w2 : wd tb L s_wear a = true
    · rw [if_pos w2] at j7 ⊢
      have j7 : TJ τ G7 x tb L (.inl (bl tb L (a + 4))) := j7
      obtain ⟨m1, h1⟩ := h.mv d7 j7
      exact ⟨_, rfl, m1, h1, by rw [if_pos rfl]⟩
    · rw [if_neg w2] at j7 ⊢
      obtain ⟨m1, h1⟩ := h.no hl d7 j7
      exact ⟨_, rfl, m1, h1⟩
theorem c_kind0 (h : LQ τ G x l' tb L (.inr f)) (hn : 500 < n) : gOk (f_X2_takeKind τ n (x + 4) G) (fun q => LM x l' G q.2 ∧ LQ τ q.2 x l' tb L (.inr f)) := by
  unfold f_X2_takeKind
  rw [h.1.1.1, ka_bs, ka_b2 (c_tkW0 h.2.1), if_pos rfl]
  show gOk ((gr G 2 0 (x + 4)).bind fun a5 => (f_X7_needWord τ n a5 s_wear G).bind fun G7 => some (1, G7)) _
  rw [h.1.1.1, ka_bs, ka_bind]
  refine gOk.mono (c_ndW h.2.1 wo_wear hn) fun G7 g7 => ?_
  obtain ⟨d7, j7⟩ := g7
  exact ⟨_, rfl, h.mv0 d7 j7⟩
end
