/-! TEXTS: how the reference scans -/
section
variable {τ : gτ} {n : Nat} {G G' G'' : gG} {m : Nat} {tb : Nat → Nat} {L a f p : Nat} {r : Nat ⊕ Nat} {w : List Int32}
def sb (b : Nat) : Int32 := (nI b).toInt8.toInt32
theorem sbF : ∀ b : Fin 256, (b.1 < 128 → sb b.1 = nI b.1) ∧ (128 ≤ b.1 → sb b.1 < 0) := by decide +kernel
theorem sb_lo {b : Nat} (h : b < 128) : sb b = nI b := (sbF ⟨b, by omega⟩).1 h
theorem sb_hi {b : Nat} (h : b < 256) (h2 : 128 ≤ b) : sb b < 0 := (sbF ⟨b, h⟩).2 h2
theorem sb_lt {b c : Nat} (h : b < 256) (hc : 0 < c ∧ c < 128) : sb b < nI c ↔ (b < c ∨ 128 ≤ b) := by
  by_cases hb : b < 128
  · rw [sb_lo hb]
    constructor
    · intro h1
      by_cases h2 : b < c
      · exact Or.inl h2
      · exact absurd h1 (nI_nlt (by omega) (by omega))
    · intro h1
      exact nI_lt (by omega) (by omega)
  · constructor
    · intro _; omega
    · intro _
      exact Int32.lt_trans (sb_hi h (by omega)) (nI_lt (a := 0) hc.1 (by omega))
theorem sb_gt {b c : Nat} (h : b < 256) (hc : c < 128) : nI c < sb b ↔ (c < b ∧ b < 128) := by
  by_cases hb : b < 128
  · rw [sb_lo hb]
    constructor
    · intro h1
      by_cases h2 : c < b
      · exact ⟨h2, hb⟩
      · exact absurd h1 (nI_nlt (by omega) (by omega))
    · intro h1
      exact nI_lt h1.1 (by omega)
  · constructor
    · intro h1
      have h3 := Int32.lt_trans h1 (sb_hi h (by omega))
      exact absurd h3 (nI_pos (by omega))
    · intro h1; omega
theorem sb_eq {b c : Nat} (h : b < 256) (hc : c < 128) : sb b = nI c ↔ b = c := by
  by_cases hb : b < 128
  · rw [sb_lo hb]
    exact nI_eq (by omega) (by omega)
  · constructor
    · intro h1
      have h2 := sb_hi h (by omega)
      rw [h1] at h2
      exact absurd h2 (nI_pos (by omega))
    · intro h1; omega
/-- of the reference its place alone has changed -/
def TM (m : Nat) (G G' : gG) : Prop := (∀ c k d, gr G' c k d = gr G c k d) ∧ (∀ d, ge G' d = ge G d) ∧ (∀ d, gq G' d = gq G d) ∧ (∀ d, gl G' d = gl G d) ∧ ∀ c k d, ¬ (c = 11 ∧ d = m ∧ (k = 10 ∨ k = 12)) → gi G' c k d = gi G c k d
theorem TM.rf : TM m G G := ⟨fun _ _ _ => rfl, fun _ => rfl, fun _ => rfl, fun _ => rfl, fun _ _ _ _ => rfl⟩
theorem TM.tr (h : TM m G G') (h' : TM m G' G'') : TM m G G'' :=
  ⟨fun c k d => (h'.1 c k d).trans (h.1 c k d), fun d => (h'.2.1 d).trans (h.2.1 d), fun d => (h'.2.2.1 d).trans (h.2.2.1 d), fun d => (h'.2.2.2.1 d).trans (h.2.2.2.1 d), fun c k d hn => (h'.2.2.2.2 c k d hn).trans (h.2.2.2.2 c k d hn)⟩
theorem TM.put {k : Nat} {v : Int32} (hk : k = 10 ∨ k = 12) : TM m G (gsi G 11 k m v) :=
  ⟨fun _ _ _ => rfl, fun _ => rfl, fun _ => rfl, fun _ => rfl, fun c k' d hn => by rw [ka_ii, if_neg (fun h => hn ⟨h.1, h.2.2, by rw [h.2.1]; exact hk⟩)]⟩
theorem TM.fr (h : TM m G G') : Fr (fun b => b = m) G G' := fun b hb => ⟨fun c k => h.2.2.2.2 c k b (fun e => hb e.2.1), fun c k => h.1 c k b, h.2.1 b, h.2.2.1 b, h.2.2.2.1 b⟩
def MB (τ : gτ) (G : gG) (m : Nat) (tb : Nat → Nat) (L : Nat) : Prop := (gr G 11 8 m = some (m + 6) ∧ gn τ (m + 6) = 400) ∧ (L ≤ 400 ∧ gi G 11 11 m = nI L) ∧ ∀ j, j < L → ge G (m + 6) j = sb (tb j) ∧ tb j < 256
theorem MB.tm (h : MB τ G m tb L) (hd : TM m G G') : MB τ G' m tb L := by
  obtain ⟨⟨a1, a2⟩, ⟨b1, b2⟩, c⟩ := h
  refine ⟨⟨by rw [hd.1]; exact a1, a2⟩, ⟨b1, ?_⟩, fun j hj => by rw [hd.2.1]; exact c j hj⟩
  rw [hd.2.2.2.2 _ _ _ (by omega)]
  exact b2
theorem MB.ix (h : MB τ G m tb L) {j : Nat} (hj : j < L) {ρ : Type} {e : Option ρ} : gchk (gIn (nI j) (gn τ (m + 6))) e = e := by
  have := h.2.1.1
  exact ka_chkT (by rw [h.1.2]; exact ka_in (by omega) (by decide))
theorem MB.b (h : MB τ G m tb L) {j : Nat} (hj : j < L) : ge G (m + 6) (nI j).toNatClampNeg = sb (tb j) := by
  have := h.2.1.1
  rw [nI_clamp (by omega)]
  exact (h.2.2 j hj).1
theorem MB.l (h : MB τ G m tb L) : ∀ j, j < L → tb j < 256 := fun j hj => (h.2.2 j hj).2
theorem m_isAt (hB : MB τ G m tb L) {lo hi : Nat} {u v : Int32} (hu : u = nI lo) (hv : v = nI hi) (hh : 0 < lo ∧ lo < 128 ∧ hi < 128) (h10 : gi G 11 10 m = nI p) (hp : p ≤ L) : f_X11_isAt τ m u v G = some (if p < L ∧ lo ≤ tb p ∧ tb p ≤ hi then 1 else 0) := by
  have hL := hB.2.1.1
  subst hu
  subst hv
  unfold f_X11_isAt
  rw [h10, hB.2.1.2]
  by_cases hlt : p < L
  · have hb := hB.l _ hlt
    rw [if_neg (nI_ge hlt (by omega)), hB.1.1, ka_bs, hB.ix hlt, hB.b hlt]
    by_cases h1 : tb p < lo ∨ 128 ≤ tb p
    · rw [if_pos ((sb_lt hb ⟨hh.1, hh.2.1⟩).mpr h1), if_neg (by omega)]
    · rw [if_neg (fun e => h1 ((sb_lt hb ⟨hh.1, hh.2.1⟩).mp e)), ka_bs, hB.ix hlt, hB.b hlt]
      by_cases h2 : hi < tb p ∧ tb p < 128
      · rw [if_pos ((sb_gt hb hh.2.2).mpr h2), if_neg (by omega)]
      · rw [if_neg (fun e => h2 ((sb_gt hb hh.2.2).mp e)), if_pos (by omega)]
  · rw [if_pos (nI_le (by omega) (by omega)), if_neg (by omega)]
theorem m_blanks (hB : MB τ G m tb L) (hn : 500 < n) (h10 : gi G 11 10 m = nI p) (hp : p ≤ L) : gOk (f_X11_blanks τ n m G) (fun G' => TM m G G' ∧ gi G' 11 10 m = nI (bl tb L p) ∧ gi G' 11 12 m = nI (bl tb L p)) := by
  have hL := hB.2.1.1
  unfold f_X11_blanks
  rw [ka_bind]
  unfold l_X11_blanks_0
  refine gOk.mono (ka_loop (L - p) (fun c q => TM m G q ∧ gi q 11 10 m = nI (p + c) ∧ bl tb L (p + c) = bl tb L p) (K := fun G' => TM m G G' ∧ gi G' 11 10 m = nI (bl tb L p)) (by omega) ⟨TM.rf, h10, rfl⟩ (fun c G1 hc hq => ?_)) fun G2 h2 => ?_
  · obtain ⟨d1, e3, b4⟩ := hq
    have hB1 := hB.tm d1
    unfold b_X11_blanks_0
    rw [m_isAt hB1 (lo := 32) (hi := 32) (u := 32) (v := 32) rfl rfl (by decide) e3 (by omega), ka_bs]
    by_cases h : p + c < L ∧ 32 ≤ tb (p + c) ∧ tb (p + c) ≤ 32
    · rw [if_pos h, if_neg ka_n10, e3, nI_1, ka_letE]
      refine ⟨_, rfl, by omega, d1.tr (TM.put (Or.inl rfl)), ?_, ?_⟩
      · rw [ka_ii, if_pos ⟨rfl, rfl, rfl⟩]
        rfl
      · rw [← b4]
        unfold bl
        rw [rn_go (p := p + c) h]
        rfl
    · rw [if_neg h, if_pos rfl]
      refine ⟨_, rfl, d1, ?_⟩
      rw [e3, ← b4]
      unfold bl
      rw [rn_no h]
  · obtain ⟨d2, e2⟩ := h2
    rw [ka_letE]
    unfold k_X11_blanks_24
    rw [e2, ka_letE]
    refine ⟨_, rfl, d2.tr (TM.put (Or.inr rfl)), ?_, ?_⟩
    · rw [ka_ii, if_neg (fun h => absurd h.2.1 (by decide))]
      exact e2
    · rw [ka_ii, if_pos ⟨rfl, rfl, rfl⟩]
theorem m_letters (hB : MB τ G m tb L) (hn : 500 < n) (h10 : gi G 11 10 m = nI p) (hp : p ≤ L) : gOk (f_X11_letters τ n m G) (fun G' => TM m G G' ∧ gi G' 11 10 m = nI (lt tb L (bl tb L p)) ∧ gi G' 11 12 m = nI (bl tb L p)) := by
  have hL := hB.2.1.1
  unfold f_X11_letters
  rw [ka_bind]
  refine gOk.mono (m_blanks hB hn h10 hp) fun G1 g1 => ?_
  obtain ⟨d1, p1, b1⟩ := g1
  have hbl := bl_le (tb := tb) hp
  generalize bl tb L p = a at p1 b1 hbl
  rw [ka_bind]
  unfold l_X11_letters_4
  refine gOk.mono (ka_loop (L - a) (fun c q => TM m G q ∧ gi q 11 10 m = nI (a + c) ∧ gi q 11 12 m = nI a ∧ lt tb L (a + c) = lt tb L a) (K := fun G' => TM m G G' ∧ gi G' 11 10 m = nI (lt tb L a) ∧ gi G' 11 12 m = nI a) (by omega) ⟨d1, p1, b1, rfl⟩ (fun c G2 hc hq => ?_)) fun G3 h3 => ?_
  · obtain ⟨d2, e3, e5, b4⟩ := hq
    have hB1 := hB.tm d2
    unfold b_X11_letters_4
    rw [m_isAt hB1 (lo := 97) (hi := 122) (u := 97) (v := 122) rfl rfl (by decide) e3 (by omega), ka_bs]
    by_cases h : a + c < L ∧ 97 ≤ tb (a + c) ∧ tb (a + c) ≤ 122
    · rw [if_pos h, if_neg ka_n10, e3, nI_1, ka_letE]
      refine ⟨_, rfl, by omega, d2.tr (TM.put (Or.inl rfl)), ?_, ?_, ?_⟩
      · rw [ka_ii, if_pos ⟨rfl, rfl, rfl⟩]
        rfl
      · rw [ka_ii, if_neg (fun h => absurd h.2.1 (by decide))]
        exact e5
      · rw [← b4]
        unfold lt
        rw [rn_go (p := a + c) h]
        rfl
    · rw [if_neg h, if_pos rfl]
      refine ⟨_, rfl, d2, ?_, e5⟩
      rw [e3, ← b4]
      unfold lt
      rw [rn_no h]
  · rw [ka_letE]
    exact ⟨_, rfl, h3⟩
theorem m_isWord (hB : MB τ G m tb L) (hn : 500 < n) (hw : wO w) (h10 : gi G 11 10 m = nI (lt tb L a)) (h12 : gi G 11 12 m = nI a) (ha : a ≤ L) : f_X11_isWord τ n m w G = some (if wd tb L w a then 1 else 0) := by
  have hL := hB.2.1.1
  have hlt := lt_le (tb := tb) ha
  have hw2 := hw.1
  have h0 : ∀ {s0 : Int32}, (s0 = 1 ∧ lt tb L a = a + w.length) ∨ (s0 = 0 ∧ ¬ wd tb L w a) → k_X11_isWord_21 τ n m w s0 G = some (if wd tb L w a then 1 else 0) := fun {s0} hs => by
    have hloop : gOk (l_X11_isWord_24 τ n m w s0 0 G) (fun z => z = if wd tb L w a then 1 else 0) := by
      unfold l_X11_isWord_24
      refine ka_loop (w.length + 1) (fun c q => (q.1 = 1 ∧ q.2 = nI c ∧ c ≤ w.length ∧ lt tb L a = a + w.length ∧ ∀ j, j < c → nI (tb (a + j)) = w.getD j 0) ∨ (q.1 = 0 ∧ ¬ wd tb L w a)) (by omega) ?_ (fun c q hc hq => ?_)
      · rcases hs with ⟨e, h⟩ | ⟨e, h⟩
        · exact Or.inl ⟨e, rfl, Nat.zero_le _, h, fun j hj => absurd hj (Nat.not_lt_zero _)⟩
        · exact Or.inr ⟨e, h⟩
      · obtain ⟨x2, x3⟩ := q
        show gOk (b_X11_isWord_24 τ n m w x2 x3 G) _
        unfold b_X11_isWord_24
        rcases hq with ⟨e1, e2, e3, e4, e5⟩ | ⟨e1, e2⟩
        · have e1 : x2 = 1 := e1
          have e2 : x3 = nI c := e2
          subst e1
          subst e2
          rw [if_neg ka_n10]
          by_cases hcw : c < w.length
          · have hac : a + c < L := by omega
            have hbb := hB.l _ hac
            obtain ⟨cc, cc1, cc2, cc3⟩ := hw.2 c hcw
            rw [if_neg (nI_ge hcw (by omega)), hB.1.1, ka_bs, h12, nI_add, hB.ix hac, ka_chkT (show gIn (nI c) w.length from ka_in hcw (by omega)), hB.b hac, gch_nI (by omega) (by omega) cc3]
            by_cases he : tb (a + c) = cc
            · rw [if_pos ((sb_eq hbb (by omega)).mpr he), ka_letE, nI_1]
              refine ⟨_, rfl, by omega, Or.inl ⟨rfl, rfl, hcw, e4, fun j hj => ?_⟩⟩
              by_cases hj2 : j = c
              · rw [hj2, he, cc3]
              · exact e5 j (by omega)
            · rw [if_neg (fun e => he ((sb_eq hbb (by omega)).mp e)), ka_letE]
              refine ⟨_, rfl, by omega, Or.inr ⟨rfl, fun hwd' => he ?_⟩⟩
              have := (wd_iff.mp hwd').2 c hcw
              rw [cc3] at this
              exact (nI_eq (by omega) (by omega)).mp this
          · have hcw' : c = w.length := by omega
            subst hcw'
            rw [if_pos (nI_le (Nat.le_refl _) (by omega))]
            exact ⟨_, rfl, (if_pos (wd_iff.mpr ⟨e4, e5⟩)).symm⟩
        · have e1 : x2 = 0 := e1
          subst e1
          rw [if_pos rfl]
          exact ⟨_, rfl, (if_neg e2).symm⟩
    unfold k_X11_isWord_21
    obtain ⟨z, hz, ez⟩ := hloop
    rw [hz, ka_bs, ka_letE, ez, ka_chkT]
    by_cases h : wd tb L w a
    · rw [if_pos h]; exact Or.inr rfl
    · rw [if_neg h]; exact Or.inl rfl
  unfold f_X11_isWord
  rw [h10, h12, nI_sub hlt.1]
  by_cases hs : lt tb L a - a = w.length
  · rw [if_pos (by rw [hs])]
    exact h0 (Or.inl ⟨rfl, by omega⟩)
  · rw [if_neg (show ¬ nI (lt tb L a - a) = nI w.length from fun e => hs ((nI_eq (by omega) (by omega)).mp e))]
    exact h0 (Or.inr ⟨rfl, fun h => hs (by have := (wd_iff.mp h).1; omega)⟩)
theorem m_number (hB : MB τ G m tb L) (hn : 500 < n) {lo hi : Int32} (hlo : (-1 : Int32) < lo) (h10 : gi G 11 10 m = nI p) (hp : p ≤ L) : gOk (f_X11_number τ n m lo hi G) (fun q => TM m G q.2 ∧ q.1 = nbV tb L lo hi (.inl (bl tb L p)) ∧ gi q.2 11 10 m = nI (dg tb L (bl tb L p)) ∧ gi q.2 11 12 m = nI (bl tb L p)) := by
  have hL := hB.2.1.1
  unfold f_X11_number
  rw [ka_bind]
  refine gOk.mono (m_blanks hB hn h10 hp) fun G1 g1 => ?_
  obtain ⟨d1, p1, b1⟩ := g1
  have hbl := bl_le (tb := tb) hp
  generalize bl tb L p = a at p1 b1 hbl
  have hdg := dg_le (tb := tb) hbl.2
  rw [ka_bind]
  unfold l_X11_number_6
  refine gOk.mono (ka_loop (L - a) (fun c q => q.1 = vcT tb a (min c 3) ∧ TM m G q.2 ∧ gi q.2 11 10 m = nI (a + c) ∧ gi q.2 11 12 m = nI a ∧ dg tb L (a + c) = dg tb L a) (K := fun q => q.1 = vcT tb a (min (dg tb L a - a) 3) ∧ TM m G q.2 ∧ gi q.2 11 10 m = nI (dg tb L a) ∧ gi q.2 11 12 m = nI a) (by omega) ⟨rfl, d1, p1, b1, rfl⟩ (fun c q hc hq => ?_)) fun q h3 => ?_
  · obtain ⟨x3, G2⟩ := q
    obtain ⟨c1, c2, c3, c4, b4⟩ := hq
    have e1 : x3 = vcT tb a (min c 3) := c1
    have d2 : TM m G G2 := c2
    have e3 : gi G2 11 10 m = nI (a + c) := c3
    have e5 : gi G2 11 12 m = nI a := c4
    clear c1 c2 c3 c4
    subst e1
    have hB1 := hB.tm d2
    show gOk (b_X11_number_6 τ n m lo hi (vcT tb a (min c 3)) G2) _
    unfold b_X11_number_6
    rw [m_isAt hB1 (lo := 48) (hi := 57) (u := 48) (v := 57) rfl rfl (by decide) e3 (by omega), ka_bs]
    by_cases h : a + c < L ∧ 48 ≤ tb (a + c) ∧ tb (a + c) ≤ 57
    · have hk : ∀ {v : Int32}, v = vcT tb a (min (c + 1) 3) → gOk (k_X11_number_51 τ n m lo hi v G2) (gKK (fun s' => c < L - a ∧ (s'.1 = vcT tb a (min (c + 1) 3) ∧ TM m G s'.2 ∧ gi s'.2 11 10 m = nI (a + (c + 1)) ∧ gi s'.2 11 12 m = nI a ∧ dg tb L (a + (c + 1)) = dg tb L a)) (fun q => q.1 = vcT tb a (min (dg tb L a - a) 3) ∧ TM m G q.2 ∧ gi q.2 11 10 m = nI (dg tb L a) ∧ gi q.2 11 12 m = nI a)) := fun {v} hv => by
        unfold k_X11_number_51
        rw [e3, nI_1, ka_letE]
        refine ⟨_, rfl, by omega, hv, d2.tr (TM.put (Or.inl rfl)), ?_, ?_, ?_⟩
        · show gi (gsi G2 11 10 m _) 11 10 m = _
          rw [ka_ii, if_pos ⟨rfl, rfl, rfl⟩]
          rfl
        · show gi (gsi G2 11 10 m _) 11 12 m = _
          rw [ka_ii, if_neg (fun h => absurd h.2.1 (by decide))]
          exact e5
        · rw [← b4]
          unfold dg
          rw [rn_go (p := a + c) h]
          rfl
      rw [if_pos h, if_neg ka_n10, e3, e5, nI_sub (by omega), Nat.add_sub_cancel_left]
      by_cases hc3 : 3 ≤ c
      · rw [if_pos (show (3 : Int32) ≤ nI c from nI_le (a := 3) hc3 (by omega))]
        exact hk (by rw [show min c 3 = min (c + 1) 3 by omega])
      · rw [if_neg (show ¬ (3 : Int32) ≤ nI c from nI_ge (b := 3) (by omega) (by decide)), hB1.1.1, ka_bs, hB1.ix h.1, hB1.b h.1]
        refine hk ?_
        rw [sb_lo (by omega), show min c 3 = c by omega, show min (c + 1) 3 = c + 1 by omega, Int32.mul_comm]
        rfl
    · rw [if_neg h, if_pos rfl]
      have e : dg tb L a = a + c := by
        rw [← b4]
        unfold dg
        rw [rn_no h]
      refine ⟨_, rfl, ?_, d2, ?_, e5⟩
      · rw [e, Nat.add_sub_cancel_left]
      · rw [e]; exact e3
  · obtain ⟨z5, G6⟩ := q
    obtain ⟨c1, c2, c3, c4⟩ := h3
    have e1 : z5 = vcT tb a (min (dg tb L a - a) 3) := c1
    have d2 : TM m G G6 := c2
    have e3 : gi G6 11 10 m = nI (dg tb L a) := c3
    have e5 : gi G6 11 12 m = nI a := c4
    clear c1 c2 c3 c4
    rw [ka_letE, ka_letE]
    show gOk (k_X11_number_65 τ n m lo hi z5 G6) _
    unfold k_X11_number_65
    rw [e3, e5, nI_sub hdg.1, nbV_i]
    have hbad : (dg tb L a = a ∨ a + 3 < dg tb L a) → numT tb L a < lo := fun h => by
      unfold numT
      rw [if_pos h]
      exact hlo
    by_cases h0 : dg tb L a = a
    · rw [if_pos (by rw [h0]), if_pos (hbad (Or.inl h0))]
      exact ⟨_, rfl, d2, rfl, e3, e5⟩
    · rw [if_neg (show ¬ nI (dg tb L a) = nI a from fun e => h0 ((nI_eq (by omega) (by omega)).mp e))]
      by_cases h3 : a + 3 < dg tb L a
      · rw [if_pos (show (3 : Int32) < nI (dg tb L a - a) from nI_lt (a := 3) (by omega) (by omega)), if_pos (hbad (Or.inr h3))]
        exact ⟨_, rfl, d2, rfl, e3, e5⟩
      · have en : numT tb L a = z5 := by
          rw [e1, show min (dg tb L a - a) 3 = dg tb L a - a by omega]
          unfold numT
          rw [if_neg (fun h => h.elim h0 h3)]
        rw [if_neg (show ¬ (3 : Int32) < nI (dg tb L a - a) from nI_nlt (a := 3) (by omega) (by decide)), en]
        by_cases h1 : z5 < lo
        · rw [if_pos h1, if_pos h1]
          exact ⟨_, rfl, d2, rfl, e3, e5⟩
        · rw [if_neg h1, if_neg h1]
          by_cases h2 : z5 ≤ hi
          · rw [if_pos h2, if_pos h2]
            exact ⟨_, rfl, d2, rfl, e3, e5⟩
          · rw [if_neg h2, if_neg h2]
            exact ⟨_, rfl, d2, rfl, e3, e5⟩
end
