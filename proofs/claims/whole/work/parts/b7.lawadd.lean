/-! TEXTS: from a line's number on, in the class -/
section
variable {τ : gτ} {n : Nat} {G G' : gG} {x l' : Nat} {tb : Nat → Nat} {L a b f : Nat} {P : List (Nat × Int32)} {κ : Int32}
/-- the class behind a line's condition -/
def llC (τ : gτ) (G : gG) (x l' : Nat) (tb : Nat → Nat) (L : Nat) (P : List (Nat × Int32)) (v : Int32) : (Nat × Int32 × Int32 × List (Nat × Int32)) ⊕ Nat → Prop
  | .inl r => LQ τ G x l' tb L (.inl (r.1, P ++ r.2.2.2)) ∧ v = r.2.2.1
  | .inr f => LQ τ G x l' tb L (.inr f)
theorem c_llN {ρ : Type} {K : Int32 → gG → Option ρ} {Z : ρ → Prop} (h : LQ τ G x l' tb L (.inl (b, P))) (hc : P.length + 4 ≤ b) (hn : 500 < n) (hK : ∀ v G', LM x l' G G' → llC τ G' x l' tb L P v (llN tb L b κ) → gOk (K v G') Z) : gOk (gBind2 (f_X7_takeNumber τ n (x + 1) 0 99 G) fun v15 G16 => (gr G16 2 0 (x + 4)).bind fun a17 => gBind2 (f_X7_takeWord τ n a17 s_if G16) fun v19 G20 => if v19 = 0 then K v15 G20 else ((f_X2_readCondition τ n (x + 4) 0 G20).bind fun G27 => K v15 G27)) Z := by
  have hle := h.le
  rw [ka_bind2]
  refine gOk.mono (c_nb h.2.1 (lo := 0) (hi := 99) (by decide) hn) fun q hq => ?_
  obtain ⟨v15, G1⟩ := q
  obtain ⟨d1, e1, j1⟩ := hq
  have d1 : TE x G G1 := d1
  have e1 : v15 = nbV tb L 0 99 (.inl b) := e1
  have j1 : TJ τ G1 x tb L (nbS tb L 0 99 (.inl b)) := j1
  show gOk ((gr G1 2 0 (x + 4)).bind _) _
  cases hr : nbS tb L 0 99 (.inl b) with
  | inr f =>
    rw [hr] at j1
    obtain ⟨m1, h1⟩ := h.no (by omega) d1 j1
    rw [h1.1.1.1, ka_bs, ka_b2 (c_tkW0 h1.2.1), if_pos rfl]
    refine hK v15 G1 m1 ?_
    unfold llN
    rw [hr]
    exact h1
  | inl c =>
    rw [hr] at j1
    obtain ⟨m1, h1⟩ := h.mv d1 j1
    obtain ⟨b', u1, u2, u3, u4⟩ := nb_ok hr
    cases u1
    have hn' : ¬ numT tb L b < 0 := fun e => u3 (Or.inl (by rw [u2]; exact e))
    have g1 := num_dg (lo := 0) (by decide) hle.1 hn'
    have g2 := dg_le (tb := tb) hle.1
    have g3 := bl_le (tb := tb) g2.2
    rw [h1.1.1.1, ka_bs, ka_bind2]
    refine gOk.mono (c_tkW h1.2.1 wo_if hn) fun q hq => ?_
    obtain ⟨v19, G2⟩ := q
    obtain ⟨d2, hq⟩ := hq
    have d2 : TE x G1 G2 := d2
    rcases hq with ⟨w1, e2, j2⟩ | ⟨w1, e2⟩
    · have e2 : v19 = 1 := e2
      subst e2
      have j2 : TJ τ G2 x tb L (.inl (bl tb L (c + 2))) := j2
      obtain ⟨m2, h2⟩ := h1.mv d2 j2
      have h0 : c + 2 ≤ L := wd_le w1 (by omega)
      have g4 := bl_le (tb := tb) h0
      rw [if_neg ka_n10]
      show gOk ((f_X2_readCondition τ n (x + 4) 0 G2).bind fun G27 => K v15 G27) _
      rw [ka_bind]
      refine gOk.mono (c_condition (s := .inl (bl tb L (c + 2), P)) h2 (by show P.length + 7 ≤ bl tb L (c + 2); omega) hn) fun G3 g5 => ?_
      refine hK v15 G3 ((m1.tr m2).tr g5.1) ?_
      have g6 : LQ τ G3 x l' tb L (apR P (cdP tb L (atQ tb L 7) (bl tb L (c + 2)))) := g5.2
      unfold llN
      rw [hr]
      show llC τ G3 x l' tb L P v15 (if wd tb L s_if c = true then _ else _)
      rw [if_pos w1]
      cases hu : cdP tb L (atQ tb L 7) (bl tb L (c + 2)) with
      | inr f => rw [hu] at g6; exact g6
      | inl r => rw [hu] at g6; exact ⟨g6, e1⟩
    · cases e2
      rw [if_pos rfl]
      refine hK v15 G1 m1 ?_
      unfold llN
      rw [hr]
      show llC τ G1 x l' tb L P v15 (if wd tb L s_if c = true then _ else _)
      rw [if_neg w1]
      refine ⟨?_, e1⟩
      show LQ τ G1 x l' tb L (.inl (c, P ++ []))
      rw [List.append_nil]
      exact h1
/-- the same at a fault -/
theorem c_llN0 {ρ : Type} {K : Int32 → gG → Option ρ} {Z : ρ → Prop} (h : LQ τ G x l' tb L (.inr f)) (hn : 500 < n) (hK : ∀ v G', LM x l' G G' → LQ τ G' x l' tb L (.inr f) → gOk (K v G') Z) : gOk (gBind2 (f_X7_takeNumber τ n (x + 1) 0 99 G) fun v15 G16 => (gr G16 2 0 (x + 4)).bind fun a17 => gBind2 (f_X7_takeWord τ n a17 s_if G16) fun v19 G20 => if v19 = 0 then K v15 G20 else ((f_X2_readCondition τ n (x + 4) 0 G20).bind fun G27 => K v15 G27)) Z := by
  rw [ka_bind2]
  refine gOk.mono (c_nb h.2.1 (lo := 0) (hi := 99) (by decide) hn) fun q hq => ?_
  obtain ⟨v15, G1⟩ := q
  obtain ⟨d1, e1, j1⟩ := hq
  have d1 : TE x G G1 := d1
  have j1 : TJ τ G1 x tb L (.inr f) := j1
  obtain ⟨m1, h1⟩ := h.mv0 d1 j1
  show gOk ((gr G1 2 0 (x + 4)).bind _) _
  rw [h1.1.1.1, ka_bs, ka_b2 (c_tkW0 h1.2.1), if_pos rfl]
  exact hK v15 G1 m1 h1
end
