/-! THE REFERENCE REMEMBERS -/
section
variable {τ : gτ} {n : Nat} {G : gG} {x m s t l l' o : Nat} {ω ω' : gW} {im : Option gW} {me : List gW} {ta : List Nat} {fa : Int32}
theorem m_acts (hM : FM τ G m) {k : Nat} (hk : k < 5604) {ρ : Type} {e : Option ρ} : gchk (gIn (nI k) (gn τ (m + 5))) e = e := ka_chkT (by rw [hM.2.2.2.2.2.1]; exact ka_in hk (by decide))
theorem m_rem1 (hM : FM τ G m) (hn : 6000 < n) : gOk (l_X11_remembers_11 τ n m 0 G) (fun G1 => (∀ j, j < 5137 → ge G1 (m + 5) j = ge G (m + 5) (j + 467)) ∧ Fr (fun b => b = m + 5) G G1) := by
  unfold l_X11_remembers_11
  refine ka_loop 5137 (fun k q => q.1 = nI k ∧ (∀ j, ge q.2 (m + 5) j = if j < k then ge G (m + 5) (j + 467) else ge G (m + 5) j) ∧ Fr (fun b => b = m + 5) G q.2) (by omega) ⟨rfl, fun j => by rw [if_neg (by omega)], Fr.rf⟩ (fun k q hk hp => ?_)
  obtain ⟨y, G1⟩ := q
  obtain ⟨e1, e2, e3⟩ := hp
  have e1 : y = nI k := e1
  have e2 : ∀ j, ge G1 (m + 5) j = if j < k then ge G (m + 5) (j + 467) else ge G (m + 5) j := e2
  have e3 : Fr (fun b => b = m + 5) G G1 := e3
  subst e1
  have hM1 : FM τ G1 m := e3.fm hM (by omega)
  show gOk (b_X11_remembers_11 τ n m (nI k) G1) _
  unfold b_X11_remembers_11
  by_cases hlt : k < 5137
  · rw [if_neg (show ¬ (5137 : Int32) ≤ nI k from nI_ge (b := 5137) hlt (by decide)), hM1.rf.2.2.2.2.1, ka_bs, ka_bs, show nI k + (467 : Int32) = nI (k + 467) by rw [show (467 : Int32) = nI 467 from rfl, nI_add], m_acts hM1 (by omega), m_acts hM1 (by omega), ka_letE, ka_letE, nI_1, nI_clamp (by omega), nI_clamp (by omega)]
    refine ⟨_, rfl, hlt, rfl, fun j => ?_, e3.tr (Fr.e rfl)⟩
    show ge (gse G1 (m + 5) k (ge G1 (m + 5) (k + 467))) (m + 5) j = _
    rw [ka_ee]
    by_cases hj : j = k
    · rw [if_pos ⟨rfl, hj⟩, if_pos (by omega), e2, if_neg (by omega), hj]
    · rw [if_neg (fun h => hj h.2), e2]
      by_cases hjk : j < k
      · rw [if_pos hjk, if_pos (by omega)]
      · rw [if_neg hjk, if_neg (by omega)]
  · rw [if_pos (show (5137 : Int32) ≤ nI k from nI_le (a := 5137) (by omega) (by omega))]
    exact ⟨_, rfl, fun j hj => by show ge G1 (m + 5) j = _; rw [e2, if_pos (by omega)], e3⟩
theorem m_rem2 (hM : FM τ G m) {c : Nat} (hc : gi G 11 7 m = nI (c + 1)) (hc12 : c < 12) (hn : 6000 < n) : gOk (l_X11_remembers_55 τ n m 0 G) (fun G1 => (∀ j, ge G1 (m + 5) j = if 467 * c ≤ j ∧ j < 467 * c + 467 then ge G (m + 1) (j - 467 * c) else ge G (m + 5) j) ∧ Fr (fun b => b = m + 5) G G1) := by
  unfold l_X11_remembers_55
  refine ka_loop 467 (fun k q => q.1 = nI k ∧ (∀ j, ge q.2 (m + 5) j = if 467 * c ≤ j ∧ j < 467 * c + k then ge G (m + 1) (j - 467 * c) else ge G (m + 5) j) ∧ Fr (fun b => b = m + 5) G q.2) (by omega) ⟨rfl, fun j => by rw [if_neg (by omega)], Fr.rf⟩ (fun k q hk hp => ?_)
  obtain ⟨y, G1⟩ := q
  obtain ⟨e1, e2, e3⟩ := hp
  have e1 : y = nI k := e1
  have e2 : ∀ j, ge G1 (m + 5) j = if 467 * c ≤ j ∧ j < 467 * c + k then ge G (m + 1) (j - 467 * c) else ge G (m + 5) j := e2
  have e3 : Fr (fun b => b = m + 5) G G1 := e3
  subst e1
  have hM1 : FM τ G1 m := e3.fm hM (by omega)
  have e7 : gi G1 11 7 m = nI (c + 1) := by rw [(e3 m (by omega)).1]; exact hc
  have ew : ge G1 (m + 1) = ge G (m + 1) := (e3 (m + 1) (by omega)).2.2.1
  have p1 : nI (c + 1) - 1 = nI c := by rw [← nI_1, Int32.add_sub_cancel]
  have p2 : (467 : Int32) * nI c + nI k = nI (467 * c + k) := by rw [show (467 : Int32) = nI 467 from rfl, pk_mul, nI_add]
  show gOk (b_X11_remembers_55 τ n m (nI k) G1) _
  unfold b_X11_remembers_55
  by_cases hlt : k < 467
  · rw [if_neg (show ¬ (467 : Int32) ≤ nI k from nI_ge (b := 467) hlt (by decide)), hM1.rf.2.2.2.2.1, ka_bs, hM1.rf.1, ka_bs, hM1.w k rfl (by omega), e7, p1, p2, m_acts hM1 (by omega), ka_letE, ka_letE, nI_1, nI_clamp (by omega), nI_clamp (by omega)]
    refine ⟨_, rfl, hlt, rfl, fun j => ?_, e3.tr (Fr.e rfl)⟩
    show ge (gse G1 (m + 5) (467 * c + k) (ge G1 (m + 1) k)) (m + 5) j = _
    rw [ka_ee, ew]
    by_cases hj : j = 467 * c + k
    · rw [if_pos ⟨rfl, hj⟩, if_pos (by omega), show j - 467 * c = k by omega]
    · rw [if_neg (fun h => hj h.2), e2]
      by_cases hjk : 467 * c ≤ j ∧ j < 467 * c + k
      · rw [if_pos hjk, if_pos (by omega)]
      · rw [if_neg hjk, if_neg (by omega)]
  · have hkN : k = 467 := by omega
    subst hkN
    rw [if_pos (show (467 : Int32) ≤ nI 467 from Int32.le_refl _)]
    exact ⟨_, rfl, e2, e3⟩
theorem m_remembers (hM : MV τ G m ω im me ta fa) (hlen : me.length ≤ 12) (hn : 6000 < n) : gOk (f_X11_remembers τ n m G) (fun G' => MV τ G' m ω im (pushM me ω) ta fa ∧ gi G' 11 0 m = gi G 11 0 m ∧ Fr (fun b => b = m ∨ b = m + 5) G G') := by
  obtain ⟨hF, hω, ⟨i1, i2⟩, ⟨m1, m2⟩, ⟨t1, t2⟩, t3⟩ := hM
  -- what both ways end in
  have fin : ∀ (G0 : gG) (c : Nat), c < 12 → gi G0 11 7 m = nI (c + 1) → (pushM me ω).length = c + 1 → (∀ c' k', ¬ (c' = 11 ∧ k' = 7) → gi G0 c' k' m = gi G c' k' m) → (∀ c' k', gr G0 c' k' m = gr G c' k' m) → Fr (fun b => b = m ∨ b = m + 5) G G0 → (∀ (j : Nat) (w : gW), (pushM me ω)[j]? = some w → j < c → ∀ i, i < 467 → ge G0 (m + 5) (467 * j + i) = w i) → (pushM me ω)[c]? = some ω → gOk (k_X11_remembers_53 τ n m G0) (fun G' => MV τ G' m ω im (pushM me ω) ta fa ∧ gi G' 11 0 m = gi G 11 0 m ∧ Fr (fun b => b = m ∨ b = m + 5) G G') := by
    intro G0 c hc h7 hl hi0 hr0 hf0 hold hnew
    have hM0 : FM τ G0 m := by
      unfold FM
      simp only [hr0]
      exact hF
    unfold k_X11_remembers_53
    rw [ka_bind]
    refine gOk.mono (m_rem2 hM0 h7 hc hn) fun G1 h1 => ?_
    obtain ⟨h1, hf1⟩ := h1
    rw [ka_letE]
    have q1 := hf1 m (by omega)
    have hw : ge G0 (m + 1) = ω := by rw [(hf0 (m + 1) (by omega)).2.2.1]; exact hω
    refine ⟨_, rfl, ⟨hf1.fm hM0 (by omega), ?_, ⟨?_, fun w hw j hj => ?_⟩, ⟨?_, fun j w hj i hi => ?_⟩, ⟨?_, fun j b hj => ?_⟩, ?_⟩, ?_, hf0.tr (hf1.mono fun b hb => Or.inr hb)⟩
    · rw [(hf1 (m + 1) (by omega)).2.2.1]; exact hw
    · rw [q1.1, hi0 11 6 (by decide)]; exact i1
    · rw [(hf1 (m + 2) (by omega)).2.2.1, (hf0 (m + 2) (by omega)).2.2.1]; exact i2 w hw j hj
    · rw [q1.1, h7, hl]
    · rw [h1]
      have hjl : j < c + 1 := by rw [← hl]; exact (List.getElem?_eq_some_iff.mp hj).1
      by_cases hjc : j = c
      · subst hjc
        rw [hnew] at hj
        cases hj
        rw [if_pos (by omega), show 467 * j + i - 467 * j = i by omega, hw]
      · rw [if_neg (by omega)]
        exact hold j w hj (by omega) i hi
    · rw [q1.1, hi0 11 9 (by decide)]; exact t1
    · rw [(hf1 (m + 6) (by omega)).2.2.1, (hf0 (m + 6) (by omega)).2.2.1]; exact t2 j b hj
    · rw [q1.1, hi0 11 14 (by decide)]; exact t3
    · rw [q1.1, hi0 11 0 (by decide)]
  unfold f_X11_remembers
  by_cases h12 : me.length = 12
  · rw [if_pos (by rw [m1, h12]; rfl), ka_bind]
    refine gOk.mono (m_rem1 hF hn) fun G1 h1 => ?_
    obtain ⟨h1, hf1⟩ := h1
    rw [ka_letE]
    unfold k_X11_remembers_40
    have q1 := hf1 m (by omega)
    have hpl : (pushM me ω).length = 11 + 1 := by rw [push_len hlen, if_pos h12]
    refine fin G1 11 (by decide) (by rw [q1.1, m1, h12]) hpl (fun c' k' _ => q1.1 c' k') q1.2.1 (hf1.mono fun b hb => Or.inr hb) (fun j w hj hjc i hi => ?_) ?_
    · rcases push_get hlen hj with ⟨-, -, h⟩ | ⟨-, h, -⟩ | ⟨h, -, -⟩ | ⟨h, -, -⟩
      · rw [h1 _ (by omega), show 467 * j + i + 467 = 467 * (j + 1) + i by omega]
        exact m2 (j + 1) w h i hi
      · omega
      · omega
      · omega
    · unfold pushM
      rw [if_pos h12, List.getElem?_append, List.length_tail, h12]
      rfl
  · rw [if_neg (by rw [m1]; exact fun e => h12 ((nI_eq (b := 12) (by omega) (by decide)).mp e)), ka_letE, m1, nI_1]
    have hpl : (pushM me ω).length = me.length + 1 := by rw [push_len hlen, if_neg h12]
    refine fin _ me.length (by omega) (by simp [ka_ii]) hpl (fun c' k' hk => by rw [ka_ii, if_neg (fun e => hk ⟨e.1, e.2.1⟩)]) (fun _ _ => rfl) (Fr.i (Or.inl rfl)) (fun j w hj hjc i hi => ?_) ?_
    · rcases push_get hlen hj with ⟨h, -, -⟩ | ⟨h, -, -⟩ | ⟨-, -, h⟩ | ⟨-, h, -⟩
      · omega
      · omega
      · rw [ka_ei]; exact m2 j w h i hi
      · omega
    · unfold pushM
      rw [if_neg h12, List.getElem?_append, if_neg (Nat.lt_irrefl _), Nat.sub_self]
      rfl
end
