/-! TEXTS: what stands in one, and the class's tape -/
section
variable {tb : Nat → Nat} {L : Nat}
def atP (tb : Nat → Nat) (L lo hi p : Nat) : Prop := p < L ∧ lo ≤ tb p ∧ tb p ≤ hi
def rnF (tb : Nat → Nat) (L lo hi : Nat) : Nat → Nat → Nat
  | 0, p => p
  | f + 1, p => if p < L ∧ lo ≤ tb p ∧ tb p ≤ hi then rnF tb L lo hi f (p + 1) else p
def rnE (tb : Nat → Nat) (L lo hi p : Nat) : Nat := rnF tb L lo hi (L - p) p
theorem rn_go {lo hi p : Nat} (h : p < L ∧ lo ≤ tb p ∧ tb p ≤ hi) : rnE tb L lo hi p = rnE tb L lo hi (p + 1) := by
  unfold rnE
  rw [show L - p = (L - (p + 1)) + 1 by omega]
  show (if p < L ∧ lo ≤ tb p ∧ tb p ≤ hi then _ else p) = _
  rw [if_pos h]
theorem rn_no {lo hi p : Nat} (h : ¬ (p < L ∧ lo ≤ tb p ∧ tb p ≤ hi)) : rnE tb L lo hi p = p := by
  unfold rnE
  cases hf : L - p with
  | zero => rfl
  | succ f =>
    show (if p < L ∧ lo ≤ tb p ∧ tb p ≤ hi then _ else p) = _
    rw [if_neg h]
theorem rn_le {lo hi : Nat} : ∀ {f p : Nat}, p ≤ L → L - p = f → p ≤ rnE tb L lo hi p ∧ rnE tb L lo hi p ≤ L
  | 0, p, hp, hf => by
    rw [rn_no (by omega)]
    omega
  | f + 1, p, hp, hf => by
    by_cases h : p < L ∧ lo ≤ tb p ∧ tb p ≤ hi
    · have := rn_le (lo := lo) (hi := hi) (f := f) (p := p + 1) (by omega) (by omega)
      rw [rn_go h]
      omega
    · rw [rn_no h]
      omega
theorem rn_in {lo hi : Nat} : ∀ {f p : Nat}, L - p = f → ∀ j, p ≤ j → j < rnE tb L lo hi p → j < L ∧ lo ≤ tb j ∧ tb j ≤ hi
  | 0, p, hf, j, h1, h2 => by
    rw [rn_no (by omega)] at h2
    omega
  | f + 1, p, hf, j, h1, h2 => by
    by_cases h : p < L ∧ lo ≤ tb p ∧ tb p ≤ hi
    · by_cases hj : j = p
      · rw [hj]; exact h
      · rw [rn_go h] at h2
        exact rn_in (f := f) (p := p + 1) (by omega) j (by omega) h2
    · rw [rn_no h] at h2
      omega
theorem rn_end {lo hi : Nat} : ∀ {f p : Nat}, L - p = f → ¬ (rnE tb L lo hi p < L ∧ lo ≤ tb (rnE tb L lo hi p) ∧ tb (rnE tb L lo hi p) ≤ hi)
  | 0, p, hf => by
    have e : rnE tb L lo hi p = p := rn_no (by omega)
    rw [e]
    omega
  | f + 1, p, hf => by
    by_cases h : p < L ∧ lo ≤ tb p ∧ tb p ≤ hi
    · rw [rn_go h]
      exact rn_end (f := f) (by omega)
    · have e : rnE tb L lo hi p = p := rn_no h
      rw [e]
      exact h
def bl (tb : Nat → Nat) (L p : Nat) : Nat := rnE tb L 32 32 p
def dg (tb : Nat → Nat) (L p : Nat) : Nat := rnE tb L 48 57 p
def lt (tb : Nat → Nat) (L p : Nat) : Nat := rnE tb L 97 122 p
theorem bl_le {p : Nat} (h : p ≤ L) : p ≤ bl tb L p ∧ bl tb L p ≤ L := rn_le h rfl
theorem dg_le {p : Nat} (h : p ≤ L) : p ≤ dg tb L p ∧ dg tb L p ≤ L := rn_le h rfl
theorem lt_le {p : Nat} (h : p ≤ L) : p ≤ lt tb L p ∧ lt tb L p ≤ L := rn_le h rfl
def vcT (tb : Nat → Nat) (a : Nat) : Nat → Int32
  | 0 => 0
  | k + 1 => vcT tb a k * 10 + nI (tb (a + k)) - 48
def numT (tb : Nat → Nat) (L a : Nat) : Int32 := if dg tb L a = a ∨ a + 3 < dg tb L a then -1 else vcT tb a (dg tb L a - a)
def szT (tb : Nat → Nat) (L a : Nat) : Nat := if a < dg tb L a then dg tb L a - a else if a < lt tb L a then lt tb L a - a else if a < L then 1 else 0
theorem sz_le {a : Nat} (h : a ≤ L) : a + szT tb L a ≤ L := by
  have h1 := dg_le (tb := tb) h
  have h2 := lt_le (tb := tb) h
  unfold szT
  split
  · omega
  · split
    · omega
    · split <;> omega
end
section
variable {τ : gτ} {n : Nat} {G G' G'' : gG} {x : Nat} {tb : Nat → Nat} {L a z : Nat}
/-- of the tape its place, size and number alone have changed -/
def TD (x : Nat) (G G' : gG) : Prop := (∀ c k d, gr G' c k d = gr G c k d) ∧ (∀ d, ge G' d = ge G d) ∧ (∀ d, gq G' d = gq G d) ∧ (∀ d, gl G' d = gl G d) ∧ ∀ c k d, ¬ (c = 7 ∧ d = x + 1 ∧ (k = 3 ∨ k = 4 ∨ k = 5)) → gi G' c k d = gi G c k d
theorem TD.rf : TD x G G := ⟨fun _ _ _ => rfl, fun _ => rfl, fun _ => rfl, fun _ => rfl, fun _ _ _ _ => rfl⟩
theorem TD.tr (h : TD x G G') (h' : TD x G' G'') : TD x G G'' :=
  ⟨fun c k d => (h'.1 c k d).trans (h.1 c k d), fun d => (h'.2.1 d).trans (h.2.1 d), fun d => (h'.2.2.1 d).trans (h.2.2.1 d), fun d => (h'.2.2.2.1 d).trans (h.2.2.2.1 d), fun c k d hn => (h'.2.2.2.2 c k d hn).trans (h.2.2.2.2 c k d hn)⟩
theorem TD.put {k : Nat} {v : Int32} (hk : k = 3 ∨ k = 4 ∨ k = 5) : TD x G (gsi G 7 k (x + 1) v) :=
  ⟨fun _ _ _ => rfl, fun _ => rfl, fun _ => rfl, fun _ => rfl, fun c k' d hn => by rw [ka_ii, if_neg (fun h => hn ⟨h.1, h.2.2, by rw [h.2.1]; exact hk⟩)]⟩
theorem TD.fr (h : TD x G G') : Fr (fun b => b = x + 1) G G' := fun b hb => ⟨fun c k => h.2.2.2.2 c k b (fun e => hb e.2.1), fun c k => h.1 c k b, h.2.1 b, h.2.2.1 b, h.2.2.2.1 b⟩
def TB (τ : gτ) (G : gG) (x : Nat) (tb : Nat → Nat) (L : Nat) : Prop := (gr G 7 0 (x + 1) = some (x + 2) ∧ gn τ (x + 2) = 400) ∧ (L ≤ 400 ∧ gi G 7 1 (x + 1) = nI L) ∧ ∀ j, j < L → ge G (x + 2) j = nI (tb j) ∧ tb j < 256
theorem TB.td (h : TB τ G x tb L) (hd : TD x G G') : TB τ G' x tb L := by
  obtain ⟨⟨a1, a2⟩, ⟨b1, b2⟩, c⟩ := h
  refine ⟨⟨by rw [hd.1]; exact a1, a2⟩, ⟨b1, ?_⟩, fun j hj => by rw [hd.2.1]; exact c j hj⟩
  rw [hd.2.2.2.2 _ _ _ (by omega)]
  exact b2
theorem TB.ix (h : TB τ G x tb L) {j : Nat} (hj : j < L) {ρ : Type} {e : Option ρ} : gchk (gIn (nI j) (gn τ (x + 2))) e = e := by
  have := h.2.1.1
  exact ka_chkT (by rw [h.1.2]; exact ka_in (by omega) (by decide))
theorem TB.b (h : TB τ G x tb L) {j : Nat} (hj : j < L) : ge G (x + 2) (nI j).toNatClampNeg = nI (tb j) := by
  have := h.2.1.1
  rw [nI_clamp (by omega)]
  exact (h.2.2 j hj).1
def TA (G : gG) (x : Nat) (tb : Nat → Nat) (L a : Nat) : Prop := gi G 7 3 (x + 1) = nI a ∧ gi G 7 4 (x + 1) = nI (szT tb L a) ∧ gi G 7 5 (x + 1) = numT tb L a
theorem c_adv1 (hT : TB τ G x tb L) (hn : 500 < n) {p : Nat} (hp : p ≤ L) (h3 : gi G 7 3 (x + 1) = nI p) : gOk (l_X7_advance_18 τ n (x + 1) (nI p) G) (fun G' => TD x G G' ∧ gi G' 7 3 (x + 1) = nI (bl tb L p) ∧ gi G' 7 4 (x + 1) = gi G 7 4 (x + 1)) := by
  have hL := hT.2.1.1
  unfold l_X7_advance_18
  refine ka_loop (L - p) (fun c q => q.1 = nI (p + c) ∧ TD x G q.2 ∧ gi q.2 7 3 (x + 1) = nI (p + c) ∧ bl tb L (p + c) = bl tb L p ∧ gi q.2 7 4 (x + 1) = gi G 7 4 (x + 1)) (by omega) ⟨rfl, TD.rf, h3, rfl, rfl⟩ (fun c q hc hq => ?_)
  obtain ⟨x1, G1⟩ := q
  obtain ⟨b1', b2, b3, b4, b5⟩ := hq
  have e1 : x1 = nI (p + c) := b1'
  have d1 : TD x G G1 := b2
  have e3 : gi G1 7 3 (x + 1) = nI (p + c) := b3
  have e5 : gi G1 7 4 (x + 1) = gi G 7 4 (x + 1) := b5
  clear b1' b2 b3 b5
  subst e1
  have hT1 := hT.td d1
  show gOk (b_X7_advance_18 τ n (x + 1) (nI (p + c)) G1) _
  unfold b_X7_advance_18
  rw [hT1.2.1.2]
  by_cases hlt : p + c < L
  · rw [if_neg (nI_ge hlt (by omega)), hT1.1.1, ka_bs, hT1.ix hlt, hT1.b hlt]
    have hb := (hT1.2.2 _ hlt).2
    by_cases h32 : tb (p + c) = 32
    · rw [if_pos (show nI (tb (p + c)) = 32 by rw [h32]; rfl), e3, ka_letE, ka_letE, nI_1]
      refine ⟨_, rfl, by omega, rfl, d1.tr (TD.put (Or.inl rfl)), ?_, ?_, ?_⟩
      · show gi (gsi G1 7 3 (x + 1) _) 7 3 (x + 1) = _
        rw [ka_ii, if_pos ⟨rfl, rfl, rfl⟩]
        rfl
      · rw [← b4]
        unfold bl
        rw [rn_go (p := p + c) (by omega)]
        rfl
      · show gi (gsi G1 7 3 (x + 1) _) 7 4 (x + 1) = _
        rw [ka_ii, if_neg (fun h => absurd h.2.1 (by decide))]
        exact e5
    · rw [if_neg (show ¬ nI (tb (p + c)) = 32 from fun e => h32 ((nI_eq (b := 32) (by omega) (by decide)).mp e))]
      refine ⟨_, rfl, d1, ?_, e5⟩
      rw [e3, ← b4]
      unfold bl
      rw [rn_no (by omega)]
  · rw [if_pos (nI_le (by omega) (by omega))]
    refine ⟨_, rfl, d1, ?_, e5⟩
    rw [e3, ← b4]
    unfold bl
    rw [rn_no (by omega)]
theorem c_adv2 (hT : TB τ G x tb L) (hn : 500 < n) {p : Nat} (hp : p ≤ L) (h3 : gi G 7 3 (x + 1) = nI p) (h4 : gi G 7 4 (x + 1) = nI 0) (h5 : gi G 7 5 (x + 1) = 0) : gOk (l_X7_advance_68 τ n (x + 1) (nI p) G) (fun G' => TD x G G' ∧ gi G' 7 3 (x + 1) = nI p ∧ gi G' 7 4 (x + 1) = nI (dg tb L p - p) ∧ gi G' 7 5 (x + 1) = vcT tb p (dg tb L p - p)) := by
  have hL := hT.2.1.1
  unfold l_X7_advance_68
  refine ka_loop (L - p) (fun c q => q.1 = nI (p + c) ∧ TD x G q.2 ∧ gi q.2 7 3 (x + 1) = nI p ∧ dg tb L (p + c) = dg tb L p ∧ gi q.2 7 4 (x + 1) = nI c ∧ gi q.2 7 5 (x + 1) = vcT tb p c) (by omega) ⟨rfl, TD.rf, h3, rfl, h4, h5⟩ (fun c q hc hq => ?_)
  obtain ⟨x1, G1⟩ := q
  obtain ⟨b1', b2, b3, b4, b5, b6⟩ := hq
  have e1 : x1 = nI (p + c) := b1'
  have d1 : TD x G G1 := b2
  have e3 : gi G1 7 3 (x + 1) = nI p := b3
  have e5 : gi G1 7 4 (x + 1) = nI c := b5
  have e6 : gi G1 7 5 (x + 1) = vcT tb p c := b6
  clear b1' b2 b3 b5 b6
  subst e1
  have hT1 := hT.td d1
  have hstop : ¬ (p + c < L ∧ 48 ≤ tb (p + c) ∧ tb (p + c) ≤ 57) → gi G1 7 4 (x + 1) = nI (dg tb L p - p) ∧ gi G1 7 5 (x + 1) = vcT tb p (dg tb L p - p) := fun h => by
    have e : dg tb L p = p + c := by
      rw [← b4]
      unfold dg
      rw [rn_no h]
    rw [e, Nat.add_sub_cancel_left]
    exact ⟨e5, e6⟩
  show gOk (b_X7_advance_68 τ n (x + 1) (nI (p + c)) G1) _
  unfold b_X7_advance_68
  rw [hT1.2.1.2]
  by_cases hlt : p + c < L
  · rw [if_neg (nI_ge hlt (by omega)), hT1.1.1, ka_bs, hT1.ix hlt, hT1.b hlt]
    have hb := (hT1.2.2 _ hlt).2
    by_cases h48 : tb (p + c) < 48
    · rw [if_pos (show nI (tb (p + c)) < 48 from nI_lt (b := 48) h48 (by decide))]
      obtain ⟨r1, r2⟩ := hstop (by omega)
      exact ⟨_, rfl, d1, e3, r1, r2⟩
    · rw [if_neg (show ¬ nI (tb (p + c)) < 48 from nI_nlt (b := 48) (by omega) (by omega)), ka_bs, hT1.ix hlt, hT1.b hlt]
      by_cases h57 : 57 < tb (p + c)
      · rw [if_pos (show 57 < nI (tb (p + c)) from nI_lt (a := 57) h57 (by omega))]
        obtain ⟨r1, r2⟩ := hstop (by omega)
        exact ⟨_, rfl, d1, e3, r1, r2⟩
      · rw [if_neg (show ¬ 57 < nI (tb (p + c)) from nI_nlt (a := 57) (by omega) (by decide)), ka_bs, hT1.ix hlt, hT1.b hlt, e6, ka_letE, show gi (gsi G1 7 5 (x + 1) (vcT tb p c * 10 + nI (tb (p + c)) - 48)) 7 4 (x + 1) = nI c by rw [ka_ii, if_neg (fun h => absurd h.2.1 (by decide))]; exact e5, ka_letE, ka_letE, nI_1]
        refine ⟨_, rfl, by omega, rfl, (d1.tr (TD.put (Or.inr (Or.inr rfl)))).tr (TD.put (Or.inr (Or.inl rfl))), ?_, ?_, ?_, ?_⟩
        · show gi (gsi (gsi G1 7 5 (x + 1) _) 7 4 (x + 1) _) 7 3 (x + 1) = _
          rw [ka_ii, if_neg (fun h => absurd h.2.1 (by decide)), ka_ii, if_neg (fun h => absurd h.2.1 (by decide))]
          exact e3
        · rw [← b4]
          unfold dg
          rw [rn_go (p := p + c) (by omega)]
          rfl
        · show gi (gsi (gsi G1 7 5 (x + 1) _) 7 4 (x + 1) _) 7 4 (x + 1) = _
          rw [ka_ii, if_pos ⟨rfl, rfl, rfl⟩]
          exact nI_1 c
        · show gi (gsi (gsi G1 7 5 (x + 1) _) 7 4 (x + 1) _) 7 5 (x + 1) = _
          rw [ka_ii, if_neg (fun h => absurd h.2.1 (by decide)), ka_ii, if_pos ⟨rfl, rfl, rfl⟩]
          rfl
  · rw [if_pos (nI_le (by omega) (by omega))]
    obtain ⟨r1, r2⟩ := hstop (by omega)
    exact ⟨_, rfl, d1, e3, r1, r2⟩
theorem c_adv3 (hT : TB τ G x tb L) (hn : 500 < n) {p : Nat} (hp : p ≤ L) (h3 : gi G 7 3 (x + 1) = nI p) (h4 : gi G 7 4 (x + 1) = nI 0) : gOk (l_X7_advance_167 τ n (x + 1) (nI p) G) (fun G' => TD x G G' ∧ gi G' 7 3 (x + 1) = nI p ∧ gi G' 7 4 (x + 1) = nI (lt tb L p - p) ∧ gi G' 7 5 (x + 1) = gi G 7 5 (x + 1)) := by
  have hL := hT.2.1.1
  unfold l_X7_advance_167
  refine ka_loop (L - p) (fun c q => q.1 = nI (p + c) ∧ TD x G q.2 ∧ gi q.2 7 3 (x + 1) = nI p ∧ lt tb L (p + c) = lt tb L p ∧ gi q.2 7 4 (x + 1) = nI c ∧ gi q.2 7 5 (x + 1) = gi G 7 5 (x + 1)) (by omega) ⟨rfl, TD.rf, h3, rfl, h4, rfl⟩ (fun c q hc hq => ?_)
  obtain ⟨x1, G1⟩ := q
  obtain ⟨b1', b2, b3, b4, b5, b6⟩ := hq
  have e1 : x1 = nI (p + c) := b1'
  have d1 : TD x G G1 := b2
  have e3 : gi G1 7 3 (x + 1) = nI p := b3
  have e5 : gi G1 7 4 (x + 1) = nI c := b5
  have e6 : gi G1 7 5 (x + 1) = gi G 7 5 (x + 1) := b6
  clear b1' b2 b3 b5 b6
  subst e1
  have hT1 := hT.td d1
  have hstop : ¬ (p + c < L ∧ 97 ≤ tb (p + c) ∧ tb (p + c) ≤ 122) → gi G1 7 4 (x + 1) = nI (lt tb L p - p) := fun h => by
    have e : lt tb L p = p + c := by
      rw [← b4]
      unfold lt
      rw [rn_no h]
    rw [e, Nat.add_sub_cancel_left]
    exact e5
  show gOk (b_X7_advance_167 τ n (x + 1) (nI (p + c)) G1) _
  unfold b_X7_advance_167
  rw [hT1.2.1.2]
  by_cases hlt : p + c < L
  · rw [if_neg (nI_ge hlt (by omega)), hT1.1.1, ka_bs, hT1.ix hlt, hT1.b hlt]
    have hb := (hT1.2.2 _ hlt).2
    by_cases h97 : tb (p + c) < 97
    · rw [if_pos (show nI (tb (p + c)) < 97 from nI_lt (b := 97) h97 (by decide))]
      exact ⟨_, rfl, d1, e3, hstop (by omega), e6⟩
    · rw [if_neg (show ¬ nI (tb (p + c)) < 97 from nI_nlt (b := 97) (by omega) (by omega)), ka_bs, hT1.ix hlt, hT1.b hlt]
      by_cases h122 : 122 < tb (p + c)
      · rw [if_pos (show 122 < nI (tb (p + c)) from nI_lt (a := 122) h122 (by omega))]
        exact ⟨_, rfl, d1, e3, hstop (by omega), e6⟩
      · rw [if_neg (show ¬ 122 < nI (tb (p + c)) from nI_nlt (a := 122) (by omega) (by decide)), e5, ka_letE, ka_letE, nI_1, nI_1]
        refine ⟨_, rfl, by omega, rfl, d1.tr (TD.put (Or.inr (Or.inl rfl))), ?_, ?_, ?_, ?_⟩
        · show gi (gsi G1 7 4 (x + 1) _) 7 3 (x + 1) = _
          rw [ka_ii, if_neg (fun h => absurd h.2.1 (by decide))]
          exact e3
        · rw [← b4]
          unfold lt
          rw [rn_go (p := p + c) (by omega)]
          rfl
        · show gi (gsi G1 7 4 (x + 1) _) 7 4 (x + 1) = _
          rw [ka_ii, if_pos ⟨rfl, rfl, rfl⟩]
        · show gi (gsi G1 7 4 (x + 1) _) 7 5 (x + 1) = _
          rw [ka_ii, if_neg (fun h => absurd h.2.1 (by decide))]
          exact e6
  · rw [if_pos (nI_le (by omega) (by omega))]
    exact ⟨_, rfl, d1, e3, hstop (by omega), e6⟩
theorem c_advance (hT : TB τ G x tb L) (hn : 500 < n) (haz : a + z ≤ L) (h3 : gi G 7 3 (x + 1) = nI a) (h4 : gi G 7 4 (x + 1) = nI z) : gOk (f_X7_advance τ n (x + 1) G) (fun G' => TD x G G' ∧ TA G' x tb L (bl tb L (a + z))) := by
  have hL := hT.2.1.1
  have hbl := bl_le (tb := tb) haz
  unfold f_X7_advance
  rw [h3, h4, nI_add, ka_letE]
  have d1 : TD x G (gsi G 7 3 (x + 1) (nI (a + z))) := TD.put (Or.inl rfl)
  have e1 : gi (gsi G 7 3 (x + 1) (nI (a + z))) 7 3 (x + 1) = nI (a + z) := by rw [ka_ii, if_pos ⟨rfl, rfl, rfl⟩]
  rw [e1, ka_letE, ka_bind]
  refine gOk.mono (c_adv1 (hT.td d1) hn haz e1) fun G2 h2 => ?_
  obtain ⟨d2, e2, -⟩ := h2
  have d12 := d1.tr d2
  rw [ka_letE]
  unfold k_X7_advance_53
  rw [ka_letE, ka_letE]
  have d3 : TD x G (gsi (gsi G2 7 4 (x + 1) 0) 7 5 (x + 1) 0) := (d12.tr (TD.put (Or.inr (Or.inl rfl)))).tr (TD.put (Or.inr (Or.inr rfl)))
  have g3 : gi (gsi (gsi G2 7 4 (x + 1) 0) 7 5 (x + 1) 0) 7 3 (x + 1) = nI (bl tb L (a + z)) := by
    rw [ka_ii, if_neg (fun h => absurd h.2.1 (by decide)), ka_ii, if_neg (fun h => absurd h.2.1 (by decide))]
    exact e2
  have g4 : gi (gsi (gsi G2 7 4 (x + 1) 0) 7 5 (x + 1) 0) 7 4 (x + 1) = nI 0 := by
    rw [ka_ii, if_neg (fun h => absurd h.2.1 (by decide)), ka_ii, if_pos ⟨rfl, rfl, rfl⟩]
    rfl
  have g5 : gi (gsi (gsi G2 7 4 (x + 1) 0) 7 5 (x + 1) 0) 7 5 (x + 1) = 0 := by rw [ka_ii, if_pos ⟨rfl, rfl, rfl⟩]
  rw [g3, ka_letE, ka_bind]
  generalize hA : bl tb L (a + z) = A at hbl g3
  refine gOk.mono (c_adv2 (hT.td d3) hn hbl.2 g3 g4 g5) fun G4 h4' => ?_
  obtain ⟨d4, e43, e44, e45⟩ := h4'
  have d34 := d3.tr d4
  have hdg := dg_le (tb := tb) hbl.2
  have hlt := lt_le (tb := tb) hbl.2
  rw [ka_letE]
  have h213 : ∀ {G5 : gG}, TD x G G5 → gi G5 7 3 (x + 1) = nI A → gi G5 7 4 (x + 1) = nI (if A < dg tb L A then dg tb L A - A else if A < lt tb L A then lt tb L A - A else 0) → gi G5 7 5 (x + 1) = numT tb L A → gOk (k_X7_advance_213 τ n (x + 1) G5) (fun G' => TD x G G' ∧ TA G' x tb L A) := fun {G5} d5 i3 i4 i5 => by
    unfold k_X7_advance_213
    rw [i4, i3, (hT.td d5).2.1.2]
    unfold TA szT
    by_cases hd : A < dg tb L A
    · rw [if_pos hd] at i4 ⊢
      rw [if_neg (nI_ne0 (by omega) (by omega))]
      exact ⟨_, rfl, d5, i3, by rw [if_pos hd]; exact i4, i5⟩
    · rw [if_neg hd] at i4 ⊢
      by_cases hl : A < lt tb L A
      · rw [if_pos hl] at i4 ⊢
        rw [if_neg (nI_ne0 (by omega) (by omega))]
        exact ⟨_, rfl, d5, i3, by rw [if_neg hd, if_pos hl]; exact i4, i5⟩
      · rw [if_neg hl] at i4 ⊢
        rw [if_pos (show nI 0 = 0 from rfl)]
        by_cases hAL : A < L
        · rw [if_neg (nI_ge hAL (by omega)), ka_letE]
          refine ⟨_, rfl, d5.tr (TD.put (Or.inr (Or.inl rfl))), ?_, ?_, ?_⟩
          · rw [ka_ii, if_neg (fun h => absurd h.2.1 (by decide))]; exact i3
          · rw [ka_ii, if_pos ⟨rfl, rfl, rfl⟩, if_neg hd, if_neg hl, if_pos hAL]; rfl
          · rw [ka_ii, if_neg (fun h => absurd h.2.1 (by decide))]; exact i5
        · rw [if_pos (nI_le (by omega) (by omega))]
          exact ⟨_, rfl, d5, i3, by rw [if_neg hd, if_neg hl, if_neg hAL]; exact i4, i5⟩
  have h155 : ∀ {G5 : gG}, TD x G G5 → gi G5 7 3 (x + 1) = nI A → gi G5 7 4 (x + 1) = nI (dg tb L A - A) → gi G5 7 5 (x + 1) = numT tb L A → gOk (k_X7_advance_155 τ n (x + 1) G5) (fun G' => TD x G G' ∧ TA G' x tb L A) := fun {G5} d5 i3 i4 i5 => by
    unfold k_X7_advance_155
    rw [i4]
    by_cases hd : A < dg tb L A
    · rw [if_neg (nI_ne0 (by omega) (by omega))]
      exact h213 d5 i3 (by rw [if_pos hd]; exact i4) i5
    · rw [show dg tb L A - A = 0 by omega] at i4 ⊢
      rw [if_pos (show nI 0 = 0 from rfl), i3, ka_letE, ka_bind]
      refine gOk.mono (c_adv3 (hT.td d5) hn hbl.2 i3 i4) fun G6 h6 => ?_
      obtain ⟨d6, e63, e64, e65⟩ := h6
      rw [ka_letE]
      refine h213 (d5.tr d6) e63 ?_ (e65.trans i5)
      rw [if_neg hd, e64]
      by_cases hl : A < lt tb L A
      · rw [if_pos hl]
      · rw [if_neg hl, show lt tb L A - A = 0 by omega]
  have h150 : (dg tb L A = A ∨ A + 3 < dg tb L A) → gOk (k_X7_advance_150 τ n (x + 1) G4) (fun G' => TD x G G' ∧ TA G' x tb L A) := fun hbad => by
    unfold k_X7_advance_150
    rw [ka_letE]
    refine h155 (d34.tr (TD.put (Or.inr (Or.inr rfl)))) ?_ ?_ ?_
    · rw [ka_ii, if_neg (fun h => absurd h.2.1 (by decide))]; exact e43
    · rw [ka_ii, if_neg (fun h => absurd h.2.1 (by decide))]; exact e44
    · rw [ka_ii, if_pos ⟨rfl, rfl, rfl⟩]
      unfold numT
      rw [if_pos hbad]
  unfold k_X7_advance_135
  rw [e44]
  by_cases h0 : dg tb L A = A
  · rw [h0, Nat.sub_self, if_pos (show nI 0 = 0 from rfl)]
    exact h150 (Or.inl h0)
  · rw [if_neg (nI_ne0 (by omega) (by omega))]
    by_cases h3' : A + 3 < dg tb L A
    · rw [if_neg (show ¬ nI (dg tb L A - A) ≤ (3 : Int32) from nI_ge (a := 3) (by omega) (by omega))]
      exact h150 (Or.inr h3')
    · rw [if_pos (show nI (dg tb L A - A) ≤ (3 : Int32) from nI_le (b := 3) (by omega) (by decide))]
      refine h155 d34 e43 e44 ?_
      rw [e45]
      unfold numT
      rw [if_neg (fun h => h.elim h0 h3')]
end
