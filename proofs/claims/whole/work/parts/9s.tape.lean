/-! TEXTS: what the class's tape takes -/
section
variable {tb : Nat → Nat} {L a : Nat} {w : List Int32}
/-- a word of small letters -/
def wO (w : List Int32) : Prop := (0 < w.length ∧ w.length ≤ 20) ∧ ∀ j, j < w.length → ∃ c : Nat, 97 ≤ c ∧ c ≤ 122 ∧ w.getD j 0 = nI c
theorem wO_of (h : (0 < w.length ∧ w.length ≤ 20) ∧ ∀ j, j < w.length → nI 97 ≤ w.getD j 0 ∧ w.getD j 0 < nI 123) : wO w := by
  refine ⟨h.1, fun j hj => ?_⟩
  obtain ⟨h1, h2⟩ := h.2 j hj
  rcases arg_ix (w.getD j 0) (N := 123) (by decide) with ⟨k, hk, e⟩ | ⟨h3, -⟩
  · rw [e] at h1
    refine ⟨k, ?_, by omega, e⟩
    by_cases hk2 : 97 ≤ k
    · exact hk2
    · exact absurd h1 (nI_ge (by omega) (by decide))
  · rcases h3 with h3 | h3
    · exact absurd (Int32.lt_of_le_of_lt h1 h3) (by decide)
    · exact absurd (Int32.lt_of_lt_of_le h2 h3) (fun h => Int32.lt_irrefl h)
def wd (tb : Nat → Nat) (L : Nat) (w : List Int32) (a : Nat) : Bool := decide (lt tb L a = a + w.length ∧ ∀ j, j < w.length → nI (tb (a + j)) = w.getD j 0)
theorem wd_iff : wd tb L w a = true ↔ (lt tb L a = a + w.length ∧ ∀ j, j < w.length → nI (tb (a + j)) = w.getD j 0) := by
  unfold wd
  exact decide_eq_true_iff
theorem sz_wd (hb : ∀ j, j < L → tb j < 256) (ha : a ≤ L) (hw : wO w) : (szT tb L a = w.length ∧ ∀ j, j < w.length → nI (tb (a + j)) = w.getD j 0) ↔ wd tb L w a := by
  obtain ⟨⟨w1, w2⟩, w3⟩ := hw
  obtain ⟨c, c1, c2, c3⟩ := w3 0 w1
  have hdg := dg_le (tb := tb) ha
  have hlt := lt_le (tb := tb) ha
  have dgi : a < dg tb L a → a < L ∧ 48 ≤ tb a ∧ tb a ≤ 57 := fun h => rn_in (f := L - a) rfl a (Nat.le_refl _) h
  have lti : a < lt tb L a → a < L ∧ 97 ≤ tb a ∧ tb a ≤ 122 := fun h => rn_in (f := L - a) rfl a (Nat.le_refl _) h
  have hfst : (∀ j, j < w.length → nI (tb (a + j)) = w.getD j 0) → a < L → tb a = c := fun h hl => by
    have h0 := h 0 w1
    rw [c3] at h0
    have := hb a hl
    exact (nI_eq (by omega) (by omega)).mp h0
  rw [wd_iff]
  constructor
  · rintro ⟨h1, h2⟩
    refine ⟨?_, h2⟩
    unfold szT at h1
    by_cases hd : a < dg tb L a
    · have := dgi hd
      have := hfst h2 this.1
      omega
    · rw [if_neg hd] at h1
      by_cases hl : a < lt tb L a
      · rw [if_pos hl] at h1
        omega
      · rw [if_neg hl] at h1
        by_cases hL : a < L
        · have e := hfst h2 hL
          have : lt tb L a = lt tb L (a + 1) := rn_go (by omega)
          have := lt_le (tb := tb) (show a + 1 ≤ L by omega)
          omega
        · rw [if_neg hL] at h1
          omega
  · rintro ⟨h1, h2⟩
    refine ⟨?_, h2⟩
    have hl : a < lt tb L a := by omega
    have := lti hl
    have hd : ¬ a < dg tb L a := fun h => by
      have := dgi h
      omega
    unfold szT
    rw [if_neg hd, if_pos hl]
    omega
theorem gch_nI {j c : Nat} (hj : j < 2 ^ 31) (hc : c < 128) (h : w.getD j 0 = nI c) : gch w (nI j) = nI c := by
  unfold gch
  rw [nI_clamp hj, h]
  exact (show ∀ c : Fin 128, (Int32.toUInt32 (nI c.1 &&& 255) % 65536).toInt32 = nI c.1 by decide +kernel) ⟨c, hc⟩
/-- what stands at a number -/
theorem num_dg {lo : Int32} (hlo : (-1 : Int32) < lo) (ha : a ≤ L) (h : ¬ numT tb L a < lo) : a < dg tb L a ∧ szT tb L a = dg tb L a - a := by
  have hdg := dg_le (tb := tb) ha
  have hd : a < dg tb L a := by
    by_cases e : dg tb L a = a
    · exfalso
      apply h
      unfold numT
      rw [if_pos (Or.inl e)]
      exact hlo
    · omega
  refine ⟨hd, ?_⟩
  unfold szT
  rw [if_pos hd]
theorem sz_sg {sg : Nat} (hb : ∀ j, j < L → tb j < 256) (ha : a ≤ L) (hs : sg < 48 ∨ (57 < sg ∧ sg < 97) ∨ 122 < sg) : (szT tb L a = 1 ∧ tb a = sg) ↔ (a < L ∧ tb a = sg) := by
  have hz := sz_le (tb := tb) ha
  have hdg := dg_le (tb := tb) ha
  have hlt := lt_le (tb := tb) ha
  have dgi : a < dg tb L a → a < L ∧ 48 ≤ tb a ∧ tb a ≤ 57 := fun h => rn_in (f := L - a) rfl a (Nat.le_refl _) h
  have lti : a < lt tb L a → a < L ∧ 97 ≤ tb a ∧ tb a ≤ 122 := fun h => rn_in (f := L - a) rfl a (Nat.le_refl _) h
  constructor
  · rintro ⟨h1, h2⟩
    exact ⟨by omega, h2⟩
  · rintro ⟨h1, h2⟩
    refine ⟨?_, h2⟩
    unfold szT
    rw [if_neg (fun h => by have := dgi h; omega), if_neg (fun h => by have := lti h; omega), if_pos h1]
def ndW (tb : Nat → Nat) (L : Nat) (w : List Int32) : Nat ⊕ Nat → Nat ⊕ Nat
  | .inl a => if wd tb L w a then .inl (bl tb L (a + w.length)) else .inr a
  | .inr f => .inr f
def nbV (tb : Nat → Nat) (L : Nat) (lo hi : Int32) : Nat ⊕ Nat → Int32
  | .inl a => if numT tb L a < lo then -1 else if numT tb L a ≤ hi then numT tb L a else -1
  | .inr _ => -1
def nbS (tb : Nat → Nat) (L : Nat) (lo hi : Int32) : Nat ⊕ Nat → Nat ⊕ Nat
  | .inl a => if numT tb L a < lo then .inr a else if numT tb L a ≤ hi then .inl (bl tb L (dg tb L a)) else .inr a
  | .inr f => .inr f
theorem ndW_i : ndW tb L w (.inl a) = if wd tb L w a then .inl (bl tb L (a + w.length)) else .inr a := rfl
theorem nbV_i {lo hi : Int32} : nbV tb L lo hi (.inl a) = if numT tb L a < lo then -1 else if numT tb L a ≤ hi then numT tb L a else -1 := rfl
theorem nbS_i {lo hi : Int32} : nbS tb L lo hi (.inl a) = if numT tb L a < lo then .inr a else if numT tb L a ≤ hi then .inl (bl tb L (dg tb L a)) else .inr a := rfl
def rfS : Nat ⊕ Nat → Nat ⊕ Nat
  | .inl a => .inr a
  | .inr f => .inr f
end
section
variable {τ : gτ} {n : Nat} {G G' G'' : gG} {x : Nat} {tb : Nat → Nat} {L a f : Nat} {r : Nat ⊕ Nat} {w : List Int32}
/-- of the tape its place, size, number and fault alone have changed -/
def TE (x : Nat) (G G' : gG) : Prop := (∀ c k d, gr G' c k d = gr G c k d) ∧ (∀ d, ge G' d = ge G d) ∧ (∀ d, gq G' d = gq G d) ∧ (∀ d, gl G' d = gl G d) ∧ ∀ c k d, ¬ (c = 7 ∧ d = x + 1 ∧ (k = 2 ∨ k = 3 ∨ k = 4 ∨ k = 5)) → gi G' c k d = gi G c k d
theorem TE.rf : TE x G G := ⟨fun _ _ _ => rfl, fun _ => rfl, fun _ => rfl, fun _ => rfl, fun _ _ _ _ => rfl⟩
theorem TE.tr (h : TE x G G') (h' : TE x G' G'') : TE x G G'' :=
  ⟨fun c k d => (h'.1 c k d).trans (h.1 c k d), fun d => (h'.2.1 d).trans (h.2.1 d), fun d => (h'.2.2.1 d).trans (h.2.2.1 d), fun d => (h'.2.2.2.1 d).trans (h.2.2.2.1 d), fun c k d hn => (h'.2.2.2.2 c k d hn).trans (h.2.2.2.2 c k d hn)⟩
theorem TE.put {k : Nat} {v : Int32} (hk : k = 2 ∨ k = 3 ∨ k = 4 ∨ k = 5) : TE x G (gsi G 7 k (x + 1) v) :=
  ⟨fun _ _ _ => rfl, fun _ => rfl, fun _ => rfl, fun _ => rfl, fun c k' d hn => by rw [ka_ii, if_neg (fun h => hn ⟨h.1, h.2.2, by rw [h.2.1]; exact hk⟩)]⟩
theorem TD.te (h : TD x G G') : TE x G G' := ⟨h.1, h.2.1, h.2.2.1, h.2.2.2.1, fun c k d hn => h.2.2.2.2 c k d (fun e => hn ⟨e.1, e.2.1, by omega⟩)⟩
theorem TE.fr (h : TE x G G') : Fr (fun b => b = x + 1) G G' := fun b hb => ⟨fun c k => h.2.2.2.2 c k b (fun e => hb e.2.1), fun c k => h.1 c k b, h.2.1 b, h.2.2.1 b, h.2.2.2.1 b⟩
theorem TB.te (h : TB τ G x tb L) (hd : TE x G G') : TB τ G' x tb L := by
  obtain ⟨⟨a1, a2⟩, ⟨b1, b2⟩, c⟩ := h
  refine ⟨⟨by rw [hd.1]; exact a1, a2⟩, ⟨b1, ?_⟩, fun j hj => by rw [hd.2.1]; exact c j hj⟩
  rw [hd.2.2.2.2 _ _ _ (by omega)]
  exact b2
def TJ (τ : gτ) (G : gG) (x : Nat) (tb : Nat → Nat) (L : Nat) : Nat ⊕ Nat → Prop
  | .inl a => TB τ G x tb L ∧ a ≤ L ∧ TA G x tb L a ∧ gi G 7 2 (x + 1) = -1
  | .inr f => TB τ G x tb L ∧ f ≤ L ∧ gi G 7 2 (x + 1) = nI f
theorem TJ.tbb (h : TJ τ G x tb L r) : TB τ G x tb L := by
  cases r with
  | inl a => exact h.1
  | inr f => exact h.1
theorem TJ.no1 (h : TJ τ G x tb L (.inr f)) : ¬ gi G 7 2 (x + 1) = (-1 : Int32) := by
  have := h.1.2.1.1
  have := h.2.1
  rw [h.2.2]
  exact fun e => nI_pos (show f < 2 ^ 31 by omega) (by rw [e]; decide)
theorem TB.lt (h : TB τ G x tb L) : ∀ j, j < L → tb j < 256 := fun j hj => (h.2.2 j hj).2
theorem c_step (h : TJ τ G x tb L (.inl a)) (hn : 500 < n) : gOk (f_X7_advance τ n (x + 1) G) (fun G' => TE x G G' ∧ TJ τ G' x tb L (.inl (bl tb L (a + szT tb L a)))) := by
  obtain ⟨hT, ha, hA, h2⟩ := h
  have hz := sz_le (tb := tb) ha
  refine gOk.mono (c_advance hT hn hz hA.1 hA.2.1) fun G1 h1 => ?_
  obtain ⟨d1, a1⟩ := h1
  exact ⟨d1.te, hT.td d1, (bl_le hz).2, a1, by rw [d1.2.2.2.2 _ _ _ (by omega)]; exact h2⟩
theorem c_refuse (h : TJ τ G x tb L r) : gOk (f_X7_refuse (x + 1) G) (fun G' => TE x G G' ∧ TJ τ G' x tb L (rfS r)) := by
  unfold f_X7_refuse
  cases r with
  | inl a =>
    obtain ⟨hT, ha, hA, h2⟩ := h
    rw [if_pos h2, ka_letE]
    have d : TE x G (gsi G 7 2 (x + 1) (gi G 7 3 (x + 1))) := TE.put (Or.inl rfl)
    refine ⟨_, rfl, d, hT.te d, ha, ?_⟩
    rw [ka_ii, if_pos ⟨rfl, rfl, rfl⟩]
    exact hA.1
  | inr f =>
    rw [if_neg h.no1]
    exact ⟨_, rfl, TE.rf, h⟩
theorem c_tkW0 (h : TJ τ G x tb L (.inr f)) : f_X7_takeWord τ n (x + 1) w G = some (0, G) := by
  unfold f_X7_takeWord
  rw [if_neg h.no1]
theorem c_tkW (h : TJ τ G x tb L (.inl a)) (hw : wO w) (hn : 500 < n) : gOk (f_X7_takeWord τ n (x + 1) w G) (fun q => TE x G q.2 ∧ ((wd tb L w a ∧ q.1 = 1 ∧ TJ τ q.2 x tb L (.inl (bl tb L (a + w.length)))) ∨ (¬ wd tb L w a ∧ q = (0, G)))) := by
  obtain ⟨hT, ha, hA, h2⟩ := h
  have hL := hT.2.1.1
  have hw2 := hw.1
  have hz := sz_le (tb := tb) ha
  have hwd := sz_wd hT.lt ha hw
  unfold f_X7_takeWord
  rw [if_pos h2, hA.2.1]
  by_cases hs : szT tb L a = w.length
  · rw [if_pos (by rw [hs])]
    have hloop : gOk (l_X7_takeWord_23 τ n (x + 1) w 0 G) (fun q => (q = .inl () ∧ wd tb L w a) ∨ (q = .inr () ∧ ¬ wd tb L w a)) := by
      unfold l_X7_takeWord_23
      refine ka_loop w.length (fun c q => q = nI c ∧ ∀ j, j < c → nI (tb (a + j)) = w.getD j 0) (by omega) ⟨rfl, fun j hj => absurd hj (Nat.not_lt_zero _)⟩ (fun c q hc hq => ?_)
      obtain ⟨e1, e2⟩ := hq
      subst e1
      show gOk (b_X7_takeWord_23 τ n (x + 1) w (nI c) G) _
      unfold b_X7_takeWord_23
      rw [hA.2.1, hs]
      by_cases hlt : c < w.length
      · have hac : a + c < L := by omega
        obtain ⟨cc, cc1, cc2, cc3⟩ := hw.2 c hlt
        have hbb := hT.lt _ hac
        rw [if_neg (nI_ge hlt (by omega)), hT.1.1, ka_bs, hA.1, nI_add, hT.ix hac, ka_chkT (show gIn (nI c) w.length from ka_in hlt (by omega)), hT.b hac, gch_nI (by omega) (by omega) cc3]
        by_cases he : tb (a + c) = cc
        · rw [if_pos (by rw [he]), ka_letE, nI_1]
          refine ⟨_, rfl, hlt, rfl, fun j hj => ?_⟩
          by_cases hj2 : j = c
          · rw [hj2, he, cc3]
          · exact e2 j (by omega)
        · rw [if_neg (show ¬ nI (tb (a + c)) = nI cc from fun e => he ((nI_eq (by omega) (by omega)).mp e))]
          refine ⟨_, rfl, Or.inr ⟨rfl, fun hwd' => he ?_⟩⟩
          have := (wd_iff.mp hwd').2 c hlt
          rw [cc3] at this
          exact (nI_eq (by omega) (by omega)).mp this
      · have hcw : c = w.length := by omega
        subst hcw
        rw [if_pos (nI_le (Nat.le_refl _) (by omega))]
        exact ⟨_, rfl, Or.inl ⟨rfl, hwd.mp ⟨hs, e2⟩⟩⟩
    · rw [ka_bind]
      refine gOk.mono hloop fun q hq => ?_
      rcases hq with ⟨rfl, hq⟩ | ⟨rfl, hq⟩
      · show gOk (k_X7_takeWord_58 τ n (x + 1) G) _
        unfold k_X7_takeWord_58
        rw [ka_bind]
        refine gOk.mono (c_step ⟨hT, ha, hA, h2⟩ hn) fun G1 h1 => ?_
        rw [hs] at h1
        exact ⟨_, rfl, h1.1, Or.inl ⟨hq, rfl, h1.2⟩⟩
      · exact ⟨_, rfl, TE.rf, Or.inr ⟨hq, rfl⟩⟩
  · rw [if_neg (show ¬ nI (szT tb L a) = nI w.length from fun e => hs ((nI_eq (by omega) (by omega)).mp e))]
    exact ⟨_, rfl, TE.rf, Or.inr ⟨fun h => hs (hwd.mpr h).1, rfl⟩⟩
theorem c_ndW (h : TJ τ G x tb L r) (hw : wO w) (hn : 500 < n) : gOk (f_X7_needWord τ n (x + 1) w G) (fun G' => TE x G G' ∧ TJ τ G' x tb L (ndW tb L w r)) := by
  unfold f_X7_needWord
  cases r with
  | inl a =>
    rw [ka_bind2]
    refine gOk.mono (c_tkW h hw hn) fun q hq => ?_
    obtain ⟨v1, G2⟩ := q
    obtain ⟨d1, hq⟩ := hq
    rw [ndW_i]
    rcases hq with ⟨w1, e1, j1⟩ | ⟨w1, e1⟩
    · have e1 : v1 = 1 := e1
      subst e1
      rw [if_neg ka_n10, if_pos w1]
      exact ⟨_, rfl, d1, j1⟩
    · cases e1
      rw [if_pos rfl, if_neg w1, ka_bind]
      refine gOk.mono (c_refuse h) fun G3 h3 => ?_
      exact ⟨_, rfl, h3⟩
  | inr f =>
    rw [ka_b2 (c_tkW0 h), if_pos rfl, ka_bind]
    refine gOk.mono (c_refuse h) fun G3 h3 => ?_
    exact ⟨_, rfl, h3⟩
theorem c_nb {lo hi : Int32} (h : TJ τ G x tb L r) (hlo : (-1 : Int32) < lo) (hn : 500 < n) : gOk (f_X7_takeNumber τ n (x + 1) lo hi G) (fun q => TE x G q.2 ∧ q.1 = nbV tb L lo hi r ∧ TJ τ q.2 x tb L (nbS tb L lo hi r)) := by
  have hk : ∀ {r' : Nat ⊕ Nat}, rfS r = r' → gOk (k_X7_takeNumber_24 τ n (x + 1) G) (fun q => TE x G q.2 ∧ q.1 = -1 ∧ TJ τ q.2 x tb L r') := fun {r'} e => by
    unfold k_X7_takeNumber_24
    rw [ka_bind]
    refine gOk.mono (c_refuse h) fun G3 h3 => ?_
    rw [e] at h3
    exact ⟨_, rfl, h3.1, rfl, h3.2⟩
  unfold f_X7_takeNumber
  cases r with
  | inl a =>
    obtain ⟨hT, ha, hA, h2⟩ := id h
    unfold nbV nbS
    rw [if_pos h2, hA.2.2]
    by_cases h1 : numT tb L a < lo
    · simp only [if_pos h1]
      exact hk rfl
    · simp only [if_neg h1]
      by_cases h3 : numT tb L a ≤ hi
      · simp only [if_pos h3, ka_letE]
        have hd := num_dg hlo ha h1
        rw [ka_bind]
        refine gOk.mono (c_step h hn) fun G1 g1 => ?_
        rw [show a + szT tb L a = dg tb L a by omega] at g1
        exact ⟨_, rfl, g1.1, rfl, g1.2⟩
      · simp only [if_neg h3]
        exact hk rfl
  | inr f =>
    rw [if_neg h.no1]
    exact hk rfl
theorem c_tkS {sg : Nat} (h : TJ τ G x tb L (.inl a)) (hs : (sg < 48 ∨ (57 < sg ∧ sg < 97) ∨ 122 < sg) ∧ sg < 128) (hn : 500 < n) : gOk (f_X7_takeSign τ n (x + 1) (nI sg) G) (fun q => TE x G q.2 ∧ (((a < L ∧ tb a = sg) ∧ q.1 = 1 ∧ TJ τ q.2 x tb L (.inl (bl tb L (a + 1)))) ∨ (¬ (a < L ∧ tb a = sg) ∧ q = (0, G)))) := by
  obtain ⟨hT, ha, hA, h2⟩ := id h
  have hL := hT.2.1.1
  have hz := sz_le (tb := tb) ha
  have hsg := sz_sg hT.lt ha hs.1
  unfold f_X7_takeSign
  rw [if_pos h2, hA.2.1]
  by_cases h1 : szT tb L a = 1
  · have haL : a < L := by omega
    have hbb := hT.lt _ haL
    rw [if_pos (show nI (szT tb L a) = 1 by rw [h1]; rfl), hT.1.1, ka_bs, hA.1, hT.ix haL, hT.b haL]
    by_cases he : tb a = sg
    · rw [if_pos (by rw [he]), ka_bind]
      refine gOk.mono (c_step h hn) fun G1 g1 => ?_
      rw [h1] at g1
      exact ⟨_, rfl, g1.1, Or.inl ⟨⟨haL, he⟩, rfl, g1.2⟩⟩
    · rw [if_neg (show ¬ nI (tb a) = nI sg from fun e => he ((nI_eq (by omega) (by omega)).mp e))]
      exact ⟨_, rfl, TE.rf, Or.inr ⟨fun h => he h.2, rfl⟩⟩
  · rw [if_neg (show ¬ nI (szT tb L a) = (1 : Int32) from fun e => h1 ((nI_eq (b := 1) (by omega) (by decide)).mp e))]
    exact ⟨_, rfl, TE.rf, Or.inr ⟨fun h => h1 (hsg.mpr h).1, rfl⟩⟩
theorem c_tkS0 {v : Int32} (h : TJ τ G x tb L (.inr f)) : f_X7_takeSign τ n (x + 1) v G = some (0, G) := by
  unfold f_X7_takeSign
  rw [if_neg h.no1]
def enS (tb : Nat → Nat) (L : Nat) : Nat ⊕ Nat → Nat ⊕ Nat
  | .inl a => if a = L then .inl a else if tb a = 59 then .inl (bl tb L (a + 1)) else .inr a
  | .inr f => .inr f
def enV (tb : Nat → Nat) (L : Nat) : Nat ⊕ Nat → Int32
  | .inl a => if a = L then 0 else if tb a = 59 then 1 else 0
  | .inr _ => 0
theorem enS_i : enS tb L (.inl a) = if a = L then .inl a else if tb a = 59 then .inl (bl tb L (a + 1)) else .inr a := rfl
theorem enV_i : enV tb L (.inl a) = if a = L then 0 else if tb a = 59 then 1 else 0 := rfl
theorem c_right (h : TJ τ G x tb L r) : f_X7_isRight (x + 1) G = some (match r with | .inl _ => 1 | .inr _ => 0) := by
  unfold f_X7_isRight
  cases r with
  | inl a => rw [if_pos h.2.2.2]
  | inr f => rw [if_neg h.no1]
theorem c_lineEnd (h : TJ τ G x tb L r) (hn : 500 < n) : gOk (f_X7_takeLineEnd τ n (x + 1) G) (fun q => TE x G q.2 ∧ q.1 = enV tb L r ∧ TJ τ q.2 x tb L (enS tb L r)) := by
  unfold f_X7_takeLineEnd f_X7_isAtEnd
  cases r with
  | inl a =>
    obtain ⟨hT, ha, hA, h2⟩ := id h
    have hL := hT.2.1.1
    rw [enV_i, enS_i, hA.1, hT.2.1.2]
    by_cases haL : a = L
    · rw [if_neg (show ¬ nI a < nI L from nI_nlt (by omega) (by omega)), ka_bs, if_neg ka_n10, if_pos haL, if_pos haL]
      exact ⟨_, rfl, TE.rf, rfl, h⟩
    · rw [if_pos (nI_lt (show a < L by omega) (by omega)), ka_bs, if_pos rfl, if_neg haL, if_neg haL]
      unfold f_X7_needSign
      have hx : gOk (f_X7_needSign τ n (x + 1) 59 G) (fun G' => TE x G G' ∧ TJ τ G' x tb L (if tb a = 59 then .inl (bl tb L (a + 1)) else .inr a)) := by
        unfold f_X7_needSign
        rw [ka_bind2]
        refine gOk.mono (c_tkS (sg := 59) h (by decide) hn) fun q hq => ?_
        obtain ⟨v1, G2⟩ := q
        obtain ⟨d1, hq⟩ := hq
        rcases hq with ⟨w1, e1, j1⟩ | ⟨w1, e1⟩
        · have e1 : v1 = 1 := e1
          subst e1
          rw [if_neg ka_n10, if_pos w1.2]
          exact ⟨_, rfl, d1, j1⟩
        · cases e1
          rw [if_pos rfl, if_neg (fun e => w1 ⟨by omega, e⟩), ka_bind]
          refine gOk.mono (c_refuse h) fun G3 h3 => ?_
          exact ⟨_, rfl, h3⟩
      unfold f_X7_needSign at hx
      rw [ka_bind]
      refine gOk.mono hx fun G1 g1 => ?_
      by_cases h59 : tb a = 59
      · rw [if_pos h59] at g1
        rw [if_pos h59, if_pos h59, c_right g1.2]
        exact ⟨_, ka_chkT (Or.inr rfl), g1.1, rfl, g1.2⟩
      · rw [if_neg h59] at g1
        rw [if_neg h59, if_neg h59, c_right g1.2]
        exact ⟨_, ka_chkT (Or.inl rfl), g1.1, rfl, g1.2⟩
  | inr f =>
    have hx : gOk (f_X7_needSign τ n (x + 1) 59 G) (fun G' => TE x G G' ∧ TJ τ G' x tb L (.inr f)) := by
      unfold f_X7_needSign
      rw [ka_b2 (c_tkS0 h), if_pos rfl, ka_bind]
      refine gOk.mono (c_refuse h) fun G3 h3 => ?_
      exact ⟨_, rfl, h3⟩
    by_cases hc : gi G 7 3 (x + 1) < gi G 7 1 (x + 1)
    · rw [if_pos hc, ka_bs, if_pos rfl, ka_bind]
      refine gOk.mono hx fun G1 g1 => ?_
      rw [c_right g1.2]
      exact ⟨_, ka_chkT (Or.inl rfl), g1.1, rfl, g1.2⟩
    · rw [if_neg hc, ka_bs, if_neg ka_n10]
      exact ⟨_, rfl, TE.rf, rfl, h⟩
theorem c_begin (hT : TB τ G x tb L) (hn : 500 < n) : gOk (f_X7_beginText τ n (x + 1) G) (fun G' => TE x G G' ∧ TJ τ G' x tb L (.inl (bl tb L 0))) := by
  unfold f_X7_beginText
  rw [ka_letE, ka_letE, ka_letE, ka_bind]
  have d : TE x G (gsi (gsi (gsi G 7 2 (x + 1) (-1)) 7 3 (x + 1) 0) 7 4 (x + 1) 0) := ((TE.put (Or.inl rfl)).tr (TE.put (Or.inr (Or.inl rfl)))).tr (TE.put (Or.inr (Or.inr (Or.inl rfl))))
  have e3 : gi (gsi (gsi (gsi G 7 2 (x + 1) (-1)) 7 3 (x + 1) 0) 7 4 (x + 1) 0) 7 3 (x + 1) = nI 0 := by
    rw [ka_ii, if_neg (fun h => absurd h.2.1 (by decide)), ka_ii, if_pos ⟨rfl, rfl, rfl⟩]
    rfl
  have e4 : gi (gsi (gsi (gsi G 7 2 (x + 1) (-1)) 7 3 (x + 1) 0) 7 4 (x + 1) 0) 7 4 (x + 1) = nI 0 := by
    rw [ka_ii, if_pos ⟨rfl, rfl, rfl⟩]
    rfl
  have e2 : gi (gsi (gsi (gsi G 7 2 (x + 1) (-1)) 7 3 (x + 1) 0) 7 4 (x + 1) 0) 7 2 (x + 1) = -1 := by
    rw [ka_ii, if_neg (fun h => absurd h.2.1 (by decide)), ka_ii, if_neg (fun h => absurd h.2.1 (by decide)), ka_ii, if_pos ⟨rfl, rfl, rfl⟩]
  refine gOk.mono (c_advance (hT.te d) hn (a := 0) (z := 0) (by omega) e3 e4) fun G1 g1 => ?_
  obtain ⟨d1, a1⟩ := g1
  exact ⟨_, rfl, d.tr d1.te, (hT.te d).td d1, (bl_le (by omega)).2, a1, by rw [d1.2.2.2.2 _ _ _ (by omega)]; exact e2⟩
end
