/-! TEXTS: parts of the law, in the reference -/
section
variable {τ : gτ} {n : Nat} {G G' G'' : gG} {m : Nat} {tb : Nat → Nat} {L a b f D : Nat} {P Q : List (Nat × Int32)} {z s : (Nat × List (Nat × Int32)) ⊕ Nat}
/-- of the reference its place, depth, count and steps alone have changed -/
def NK (m : Nat) (G G' : gG) : Prop := Fr (fun b => b = m ∨ b = m + 1) G G' ∧ (∀ c k, gr G' c k m = gr G c k m) ∧ (∀ c k, ¬ (c = 11 ∧ (k = 10 ∨ k = 12 ∨ k = 13 ∨ k = 16)) → gi G' c k m = gi G c k m) ∧ ∀ j, j < 1365 → ge G' (m + 1) j = ge G (m + 1) j
theorem NK.rf : NK m G G := ⟨Fr.rf, fun _ _ => rfl, fun _ _ _ => rfl, fun _ _ => rfl⟩
theorem NK.tr (h : NK m G G') (h' : NK m G' G'') : NK m G G'' := ⟨h.1.tr h'.1, fun c k => (h'.2.1 c k).trans (h.2.1 c k), fun c k hn => (h'.2.2.1 c k hn).trans (h.2.2.1 c k hn), fun j hj => (h'.2.2.2 j hj).trans (h.2.2.2 j hj)⟩
theorem NK.tm (h : TM m G G') : NK m G G' := ⟨h.fr.mono fun _ hb => Or.inl hb, fun c k => h.1 c k m, fun c k hn => h.2.2.2.2 c k m (fun e => hn ⟨e.1, e.2.2.elim Or.inl fun e => Or.inr (Or.inl e)⟩), fun j _ => by rw [h.2.1]⟩
theorem NK.fm (h : NK m G G') (hM : FM τ G m) : FM τ G' m := by
  unfold FM at hM ⊢
  simp only [h.2.1]
  exact hM
theorem MB.nk (h : MB τ G m tb L) (hd : NK m G G') : MB τ G' m tb L := by
  obtain ⟨⟨a1, a2⟩, ⟨b1, b2⟩, c⟩ := h
  refine ⟨⟨by rw [hd.2.1]; exact a1, a2⟩, ⟨b1, ?_⟩, fun j hj => by rw [(hd.1 (m + 6) (by omega)).2.2.1]; exact c j hj⟩
  rw [hd.2.2.1 _ _ (by omega)]
  exact b2
/-- the steps so far -/
def SQ (G : gG) (m : Nat) (P : List (Nat × Int32)) : Prop := gi G 11 16 m = nI P.length ∧ ∀ k s, P[k]? = some s → ge G (m + 1) (1365 + 2 * k) = nI s.1 ∧ ge G (m + 1) (1365 + 2 * k + 1) = s.2
def NQ (τ : gτ) (G : gG) (m : Nat) (tb : Nat → Nat) (L D : Nat) : (Nat × List (Nat × Int32)) ⊕ Nat → Prop
  | .inl r => MJ τ G m tb L (.inl r.1) ∧ FM τ G m ∧ gi G 11 13 m = nI D ∧ SQ G m r.2
  | .inr f => MJ τ G m tb L (.inr f) ∧ FM τ G m
/-- what a reading answers -/
def NO (τ : gτ) (m : Nat) (tb : Nat → Nat) (L D : Nat) (G : gG) (z : (Nat × List (Nat × Int32)) ⊕ Nat) (q : Int32 × gG) : Prop := NK m G q.2 ∧ NQ τ q.2 m tb L D z ∧ q.1 = isL (plR z)
theorem NQ.at (h : NQ τ G m tb L D (.inl (a, P))) : a ≤ L ∧ L ≤ 400 := by
  obtain ⟨p, hp, -, hbp⟩ := h.1.2
  have := (bl_le (tb := tb) hp).2
  rw [hbp] at this
  exact ⟨this, h.1.1.2.1.1⟩
theorem NQ.bq (h : NQ τ G m tb L D (.inl (a, P))) : bl tb L a = a := by
  obtain ⟨p, hp, -, hbp⟩ := h.1.2
  have e : ¬ (a < L ∧ 32 ≤ tb a ∧ tb a ≤ 32) := by
    have hbp : bl tb L p = a := hbp
    rw [← hbp]
    exact rn_end (f := L - p) rfl
  unfold bl
  exact rn_no e
theorem SQ.tm (h : SQ G m P) (hd : TM m G G') : SQ G' m P := ⟨by rw [hd.2.2.2.2 _ _ _ (by omega)]; exact h.1, fun k s hk => by rw [hd.2.1]; exact h.2 k s hk⟩
theorem NQ.mv (h : NQ τ G m tb L D (.inl (a, P))) (hd : TM m G G') (hJ : MJ τ G' m tb L (.inl b)) : NK m G G' ∧ NQ τ G' m tb L D (.inl (b, P)) := ⟨NK.tm hd, hJ, (NK.tm hd).fm h.2.1, by rw [hd.2.2.2.2 _ _ _ (by omega)]; exact h.2.2.1, h.2.2.2.tm hd⟩
theorem NQ.no (h : FM τ G m) (hd : TM m G G') (hJ : MJ τ G' m tb L (.inr f)) : NK m G G' ∧ NQ τ G' m tb L D (.inr f) := ⟨NK.tm hd, hJ, (NK.tm hd).fm h⟩
theorem emits_e {c : Nat} {u v : Int32} (hM : FM τ G m) (hc : c < 400) (h16 : gi G 11 16 m = nI c) : f_X11_emits τ m u v G = some (gsi (gse (gse G (m + 1) (1365 + 2 * c) u) (m + 1) (1365 + 2 * c + 1) v) 11 16 m (nI (c + 1))) := by
  have i0 : (1365 : Int32) + (2 : Int32) * nI c = nI (1365 + 2 * c) := by
    rw [show (1365 : Int32) = nI 1365 from rfl, show (2 : Int32) = nI 2 from rfl, pk_mul, nI_add]
  have m1 : FM τ (gse G (m + 1) (1365 + 2 * c) u) m := hM
  unfold f_X11_emits
  rw [h16, i0, m_g hM, m_w hM (1365 + 2 * c) rfl (by omega), show gi (gse G (m + 1) (1365 + 2 * c) u) 11 16 m = nI c from h16, i0, m_g m1, m_w m1 (x := nI (1365 + 2 * c) + 1) (1365 + 2 * c + 1) (ka_ix (b := 1) rfl) (by omega), show gi (gse (gse G (m + 1) (1365 + 2 * c) u) (m + 1) (1365 + 2 * c + 1) v) 11 16 m = nI c from h16, nI_1, ka_letE]
theorem emits_m {c : Nat} {u v w : Int32} : NK m G (gsi (gse (gse G (m + 1) (1365 + 2 * c) u) (m + 1) (1365 + 2 * c + 1) v) 11 16 m w) := by
  refine ⟨((Fr.e (A := fun b => b = m ∨ b = m + 1) (Or.inr rfl)).tr (Fr.e (A := fun b => b = m ∨ b = m + 1) (Or.inr rfl))).tr (Fr.i (A := fun b => b = m ∨ b = m + 1) (Or.inl rfl)), fun _ _ => rfl, fun c k hn => ?_, fun j hj => ?_⟩
  · rw [ka_ii, if_neg (fun h => hn ⟨h.1, by omega⟩)]
    rfl
  · rw [ka_ei, ka_ee, if_neg (by omega), ka_ee, if_neg (by omega)]
theorem m_emits {s : Nat × Int32} (h : NQ τ G m tb L D (.inl (a, P))) (hl : P.length < 400) : gOk (f_X11_emits τ m (nI s.1) s.2 G) (fun G' => NK m G G' ∧ NQ τ G' m tb L D (.inl (a, P ++ [s]))) := by
  obtain ⟨h1, h2, h3, h4, h5⟩ := h
  refine ⟨_, emits_e h2 hl h4, emits_m, ⟨h1.1.nk emits_m, h1.2⟩, emits_m.fm h2, ?_, ?_, fun k u hk => ?_⟩
  · rw [ka_ii, if_neg (fun h => absurd h.2.1 (by decide))]
    exact h3
  · show gi (gsi _ 11 16 m _) 11 16 m = nI (P ++ [s]).length
    rw [ka_ii, if_pos ⟨rfl, rfl, rfl⟩, List.length_append]
    rfl
  · simp only [ka_ei, ka_ee]
    rw [List.getElem?_append] at hk
    by_cases hkp : k < P.length
    · rw [if_pos hkp] at hk
      obtain ⟨g1, g2⟩ := h5 k u hk
      rw [if_neg (by omega), if_neg (by omega), if_neg (by omega), if_neg (by omega)]
      exact ⟨g1, g2⟩
    · rw [if_neg hkp] at hk
      by_cases hk0 : k - P.length = 0
      · rw [hk0] at hk
        cases hk
        have hkP : k = P.length := by omega
        subst hkP
        rw [if_neg (by omega), if_pos ⟨trivial, rfl⟩, if_pos ⟨trivial, rfl⟩]
        exact ⟨rfl, rfl⟩
      · exfalso
        rw [List.getElem?_eq_none (by show 1 ≤ k - P.length; omega)] at hk
        cases hk
/-- a step that is told at a fault -/
theorem m_emits0 {u v : Int32} {c : Nat} (h : NQ τ G m tb L D (.inr f)) (hc : c < 400) (h16 : gi G 11 16 m = nI c) : gOk (f_X11_emits τ m u v G) (fun G' => NK m G G' ∧ NQ τ G' m tb L D (.inr f)) := by
  obtain ⟨h1, h2⟩ := h
  refine ⟨_, emits_e h2 hc h16, emits_m, ⟨h1.1.nk emits_m, h1.2.1, ?_⟩, emits_m.fm h2⟩
  rw [ka_ii, if_neg (fun h => absurd h.2.1 (by decide))]
  exact h1.2.2
theorem m_part (h : NQ τ G m tb L D (.inl (a, P))) (hl : P.length < 400) (hn : 500 < n) : gOk (f_X11_readPart τ n m G) (NO τ m tb L D G (apR P (ptP tb L a))) := by
  have hle := h.at
  have hlt := lt_le (tb := tb) hle.1
  unfold f_X11_readPart
  rw [ka_bind]
  obtain ⟨p, hp, h10, hbp⟩ := h.1.2
  refine gOk.mono (m_letters h.1.1 hn h10 hp) fun G1 g1 => ?_
  obtain ⟨d1, e10, e12⟩ := g1
  rw [hbp] at e10 e12
  have hB1 := h.1.1.tm d1
  have hF1 := (NK.tm d1).fm h.2.1
  have q1 : gi G1 11 16 m = nI P.length := (h.2.2.2.tm d1).1
  have n1 : NQ τ G1 m tb L D (.inr a) := ⟨⟨hB1, hle.1, e12⟩, hF1⟩
  have bad : ∀ {u : Int32}, u < 0 → ptP tb L a = .inr a → gOk (k_X11_readPart_155 τ n m u G1) (NO τ m tb L D G (apR P (ptP tb L a))) := fun {u} hu hpt => by
    unfold k_X11_readPart_155 k_X11_readPart_162
    rw [ka_bind, hpt]
    refine gOk.mono (m_emits0 n1 hl q1) fun G2 g2 => ?_
    rw [if_pos hu]
    exact ⟨_, rfl, (NK.tm d1).tr g2.1, g2.2, rfl⟩
  have good : ∀ {c : Nat} {w : List Int32}, c ≤ 8 → wd tb L w a = true → ptP tb L a = .inl (bl tb L (a + w.length), [(c, 0)]) → gOk (k_X11_readPart_155 τ n m (nI c) G1) (NO τ m tb L D G (apR P (ptP tb L a))) := fun {c w} hc hw hpt => by
    unfold k_X11_readPart_155 k_X11_readPart_162
    rw [ka_bind, hpt]
    have hJ : MJ τ G1 m tb L (.inl (bl tb L (a + w.length))) := ⟨hB1, _, hlt.2, e10, by rw [(wd_iff.mp hw).1]⟩
    obtain ⟨m1, h1⟩ := h.mv d1 hJ
    refine gOk.mono (m_emits (s := (c, 0)) h1 hl) fun G2 g2 => ?_
    rw [if_neg (show ¬ nI c < 0 from nI_pos (by omega))]
    exact ⟨_, rfl, m1.tr g2.1, g2.2, rfl⟩
  have iw : ∀ {w : List Int32}, wO w → f_X11_isWord τ n m w G1 = some (if wd tb L w a then 1 else 0) := fun hw => m_isWord hB1 hn hw e10 e12 hle.1
  rw [e10, e12]
  by_cases h0 : lt tb L a = a
  · rw [if_pos (by rw [h0])]
    have hno : ∀ {w : List Int32}, wO w → ¬ wd tb L w a = true := fun {w} hw e => by
      have := (wd_iff.mp e).1
      have := hw.1
      omega
    have hpt : ptP tb L a = ptN tb L a := by
      unfold ptP ptL
      rw [show ptW tb L a [(s_weak, 0), (s_strong, 1), (s_rot, 2), (s_reigns, 3), (s_tar, 4), (s_worn, 5), (s_long, 6), (s_plies, 7), (s_load, 8)] = ptW tb L a [(s_strong, 1), (s_rot, 2), (s_reigns, 3), (s_tar, 4), (s_worn, 5), (s_long, 6), (s_plies, 7), (s_load, 8)] from if_neg (hno wo_weak)]
      rw [show ptW tb L a [(s_strong, 1), (s_rot, 2), (s_reigns, 3), (s_tar, 4), (s_worn, 5), (s_long, 6), (s_plies, 7), (s_load, 8)] = ptW tb L a [(s_rot, 2), (s_reigns, 3), (s_tar, 4), (s_worn, 5), (s_long, 6), (s_plies, 7), (s_load, 8)] from if_neg (hno wo_strong)]
      rw [show ptW tb L a [(s_rot, 2), (s_reigns, 3), (s_tar, 4), (s_worn, 5), (s_long, 6), (s_plies, 7), (s_load, 8)] = ptW tb L a [(s_reigns, 3), (s_tar, 4), (s_worn, 5), (s_long, 6), (s_plies, 7), (s_load, 8)] from if_neg (hno wo_rot)]
      rw [show ptW tb L a [(s_reigns, 3), (s_tar, 4), (s_worn, 5), (s_long, 6), (s_plies, 7), (s_load, 8)] = ptW tb L a [(s_tar, 4), (s_worn, 5), (s_long, 6), (s_plies, 7), (s_load, 8)] from if_neg (hno wo_reigns)]
      rw [show ptW tb L a [(s_tar, 4), (s_worn, 5), (s_long, 6), (s_plies, 7), (s_load, 8)] = ptW tb L a [(s_worn, 5), (s_long, 6), (s_plies, 7), (s_load, 8)] from if_neg (hno wo_tar)]
      rw [show ptW tb L a [(s_worn, 5), (s_long, 6), (s_plies, 7), (s_load, 8)] = ptW tb L a [(s_long, 6), (s_plies, 7), (s_load, 8)] from if_neg (hno wo_worn)]
      rw [show ptW tb L a [(s_long, 6), (s_plies, 7), (s_load, 8)] = ptW tb L a [(s_plies, 7), (s_load, 8)] from if_neg (hno wo_long)]
      rw [show ptW tb L a [(s_plies, 7), (s_load, 8)] = ptW tb L a [(s_load, 8)] from if_neg (hno wo_plies)]
      rw [show ptW tb L a [(s_load, 8)] = ptW tb L a [] from if_neg (hno wo_load)]
      rfl
    have hJ : MJ τ G1 m tb L (.inl a) := ⟨hB1, a, hle.1, by rw [← h0]; exact e10, h.bq⟩
    rw [ka_bind2]
    refine gOk.mono (m_nb hJ (lo := 0) (hi := 999) (by decide) hn) fun q hq => ?_
    obtain ⟨v2, G3⟩ := q
    obtain ⟨d3, e3, j3, g3⟩ := hq
    have d3 : TM m G1 G3 := d3
    have e3 : v2 = nbV tb L 0 999 (.inl a) := e3
    have j3 : MJ τ G3 m tb L (nbS tb L 0 999 (.inl a)) := j3
    have q3 : gi G3 11 16 m = nI P.length := by rw [d3.2.2.2.2 _ _ _ (by omega)]; exact q1
    show gOk ((f_X11_emits τ m 11 v2 G3).bind _) _
    rw [ka_bind, hpt]
    unfold ptN k_X11_readPart_162
    cases hr : nbS tb L 0 999 (.inl a) with
    | inr f =>
      rw [hr] at j3
      refine gOk.mono (m_emits0 (NQ.no (D := D) hF1 d3 j3).2 hl q3) fun G4 g4 => ?_
      rw [if_pos (show v2 < 0 by rw [e3.trans (nb_no hr)]; decide)]
      exact ⟨_, rfl, ((NK.tm d1).tr (NK.tm d3)).tr g4.1, g4.2, rfl⟩
    | inl b =>
      rw [hr] at j3
      have hd : TM m G G3 := d1.tr d3
      obtain ⟨m3, h3⟩ := h.mv hd j3
      refine gOk.mono (m_emits (s := (11, v2)) h3 hl) fun G4 g4 => ?_
      rw [if_neg (fun e => nle_of_lt e (by rw [e3]; exact nb_ge (by decide) hr))]
      refine ⟨_, rfl, m3.tr g4.1, ?_, rfl⟩
      show NQ τ G4 m tb L D (.inl (b, P ++ [(11, nbV tb L 0 999 (.inl a))]))
      rw [← e3]
      exact g4.2
  · rw [if_neg (fun e => h0 ((nI_eq (by omega) (by omega)).mp e))]
    have hnum : ptN tb L a = .inr a := by
      have hl' : a < L ∧ 97 ≤ tb a ∧ tb a ≤ 122 := rn_in (f := L - a) rfl a (Nat.le_refl _) (by show a < lt tb L a; omega)
      have hd : dg tb L a = a := rn_no (by omega)
      unfold ptN
      rw [nbS_i, if_pos (show numT tb L a < 0 by unfold numT; rw [if_pos (Or.inl hd)]; decide)]
    have t0 : ptP tb L a = ptW tb L a [(s_weak, 0), (s_strong, 1), (s_rot, 2), (s_reigns, 3), (s_tar, 4), (s_worn, 5), (s_long, 6), (s_plies, 7), (s_load, 8)] := rfl
    rw [iw wo_weak, ka_bs]
    by_cases w0 : wd tb L s_weak a = true
    · rw [if_pos w0, if_neg ka_n10]
      exact good (c := 0) (by decide) w0 (t0.trans (if_pos w0))
    rw [if_neg w0, if_pos rfl]
    have t1 : ptP tb L a = ptW tb L a [(s_strong, 1), (s_rot, 2), (s_reigns, 3), (s_tar, 4), (s_worn, 5), (s_long, 6), (s_plies, 7), (s_load, 8)] := t0.trans (if_neg w0)
    rw [iw wo_strong, ka_bs]
    by_cases w1 : wd tb L s_strong a = true
    · rw [if_pos w1, if_neg ka_n10]
      exact good (c := 1) (by decide) w1 (t1.trans (if_pos w1))
    rw [if_neg w1, if_pos rfl]
    have t2 : ptP tb L a = ptW tb L a [(s_rot, 2), (s_reigns, 3), (s_tar, 4), (s_worn, 5), (s_long, 6), (s_plies, 7), (s_load, 8)] := t1.trans (if_neg w1)
    rw [iw wo_rot, ka_bs]
    by_cases w2 : wd tb L s_rot a = true
    · rw [if_pos w2, if_neg ka_n10]
      exact good (c := 2) (by decide) w2 (t2.trans (if_pos w2))
    rw [if_neg w2, if_pos rfl]
    have t3 : ptP tb L a = ptW tb L a [(s_reigns, 3), (s_tar, 4), (s_worn, 5), (s_long, 6), (s_plies, 7), (s_load, 8)] := t2.trans (if_neg w2)
    rw [iw wo_reigns, ka_bs]
    by_cases w3 : wd tb L s_reigns a = true
    · rw [if_pos w3, if_neg ka_n10]
      exact good (c := 3) (by decide) w3 (t3.trans (if_pos w3))
    rw [if_neg w3, if_pos rfl]
    have t4 : ptP tb L a = ptW tb L a [(s_tar, 4), (s_worn, 5), (s_long, 6), (s_plies, 7), (s_load, 8)] := t3.trans (if_neg w3)
    rw [iw wo_tar, ka_bs]
    by_cases w4 : wd tb L s_tar a = true
    · rw [if_pos w4, if_neg ka_n10]
      exact good (c := 4) (by decide) w4 (t4.trans (if_pos w4))
    rw [if_neg w4, if_pos rfl]
    have t5 : ptP tb L a = ptW tb L a [(s_worn, 5), (s_long, 6), (s_plies, 7), (s_load, 8)] := t4.trans (if_neg w4)
    rw [iw wo_worn, ka_bs]
    by_cases w5 : wd tb L s_worn a = true
    · rw [if_pos w5, if_neg ka_n10]
      exact good (c := 5) (by decide) w5 (t5.trans (if_pos w5))
    rw [if_neg w5, if_pos rfl]
    have t6 : ptP tb L a = ptW tb L a [(s_long, 6), (s_plies, 7), (s_load, 8)] := t5.trans (if_neg w5)
    rw [iw wo_long, ka_bs]
    by_cases w6 : wd tb L s_long a = true
    · rw [if_pos w6, if_neg ka_n10]
      exact good (c := 6) (by decide) w6 (t6.trans (if_pos w6))
    rw [if_neg w6, if_pos rfl]
    have t7 : ptP tb L a = ptW tb L a [(s_plies, 7), (s_load, 8)] := t6.trans (if_neg w6)
    rw [iw wo_plies, ka_bs]
    by_cases w7 : wd tb L s_plies a = true
    · rw [if_pos w7, if_neg ka_n10]
      exact good (c := 7) (by decide) w7 (t7.trans (if_pos w7))
    rw [if_neg w7, if_pos rfl]
    have t8 : ptP tb L a = ptW tb L a [(s_load, 8)] := t7.trans (if_neg w7)
    rw [iw wo_load, ka_bs]
    by_cases w8 : wd tb L s_load a = true
    · rw [if_pos w8, if_neg ka_n10]
      exact good (c := 8) (by decide) w8 (t8.trans (if_pos w8))
    rw [if_neg w8, if_pos rfl]
    have t9 : ptP tb L a = ptW tb L a [] := t8.trans (if_neg w8)
    exact bad (by decide) (t9.trans hnum)
end
