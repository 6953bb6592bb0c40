/-! CALLS: walk, in the reference -/
section
variable {τ : gτ} {n : Nat} {G G' : gG} {m f c : Nat} {ω ω' : gW} {im : Option gW} {me me' : List gW} {ta : List Nat} {fa fa' : Int32}
def tbT (ta : List Nat) : Nat → Nat := fun j => ta.getD j 0
theorem tbT_get {j : Nat} (hj : j < ta.length) : ta[j]? = some (tbT ta j) := by
  unfold tbT
  rw [List.getD_eq_getElem?_getD, List.getElem?_eq_getElem hj]
  rfl
theorem tbT_lt (hI : IV ω im me ta) {j : Nat} (hj : j < ta.length) : tbT ta j < 256 := hI.2.2.2.2.2 _ (List.mem_of_getElem? (tbT_get hj))
theorem MV.mk3 (hM : MV τ G m ω im me ta fa) (hf : Fr (fun b => b = m ∨ b = m + 1 ∨ b = m + 3) G G') (hF : FM τ G' m) (hω : ge G' (m + 1) = ω') (h6 : gi G' 11 6 m = gi G 11 6 m) (h7 : gi G' 11 7 m = nI me'.length) (hme : ∀ (j : Nat) (v : gW), me'[j]? = some v → me[j]? = some v) (h9 : gi G' 11 9 m = 0) (h14 : gi G' 11 14 m = fa') : MV τ G' m ω' im me' [] fa' := by
  obtain ⟨-, -, ⟨i1, i2⟩, ⟨m1, m2⟩, -, -⟩ := hM
  refine ⟨hF, hω, ⟨h6.trans i1, fun v hv j hj => ?_⟩, ⟨h7, fun j v hj i hi => ?_⟩, ⟨h9, fun j b hj => by cases hj⟩, h14⟩
  · rw [(hf (m + 2) (by omega)).2.2.1]; exact i2 v hv j hj
  · rw [(hf (m + 5) (by omega)).2.2.1]; exact m2 j v (hme j v hj) i hi
theorem m_readAll (hM : MV τ G m ω im me ta fa) (hI : IV ω im me ta) (hn : 500 < n) : gOk (f_X11_readAll τ n m 1 G) (fun q => (Fr (fun b => b = m ∨ b = m + 1) G q.2 ∧ FM τ q.2 m ∧ ∀ j, 467 ≤ j → ge q.2 (m + 1) j = ω j) ∧ (gi q.2 11 0 m = 0 ∧ gi q.2 11 6 m = gi G 11 6 m ∧ gi q.2 11 7 m = gi G 11 7 m ∧ gi q.2 11 9 m = 0) ∧ ((∃ b, (rdW (tbT ta) ta.length ω).1 = .inl b ∧ 0 ≤ q.1 ∧ ge q.2 (m + 1) = (rdW (tbT ta) ta.length ω).2) ∨ ∃ f, (rdW (tbT ta) ta.length ω).1 = .inr f ∧ q.1 = -1 ∧ gi q.2 11 12 m = nI f)) := by
  obtain ⟨hF, hω, -, -, ⟨t1, t2⟩, -⟩ := hM
  have hL := hI.2.2.2.2.1
  unfold f_X11_readAll f_X11_uses
  rw [ka_letE, ka_letE, ka_letE, ka_letE, ka_bs, ka_letE]
  generalize hG2 : gsi (gsi (gsi (gsi (gsi G 11 0 m 0) 11 11 m (gi (gsi G 11 0 m 0) 11 9 m)) 11 9 m 0) 11 10 m 0) 11 16 m 0 = G2
  have fr2 : Fr (fun b => b = m) G G2 := by
    have fi : ∀ {G : gG} {k : Nat} {v : Int32}, Fr (fun b => b = m) G (gsi G 11 k m v) := fun {G k v} => Fr.i (A := fun b => b = m) rfl
    rw [← hG2]
    exact (((fi.tr fi).tr fi).tr fi).tr fi
  have v0 : gi G2 11 0 m = 0 ∧ gi G2 11 6 m = gi G 11 6 m ∧ gi G2 11 7 m = gi G 11 7 m ∧ gi G2 11 9 m = 0 := by
    rw [← hG2]
    simp [ka_ii]
  have v10 : gi G2 11 10 m = nI 0 ∧ gi G2 11 11 m = nI ta.length := by
    rw [← hG2]
    simp only [ka_ii]
    simp [t1]
    rfl
  have r2 : ∀ c k d, gr G2 c k d = gr G c k d := fun c k d => by rw [← hG2]; rfl
  have hF2 : FM τ G2 m := by
    unfold FM at hF ⊢
    simp only [r2]
    exact hF
  have w2 : ge G2 (m + 1) = ω := by rw [(fr2 (m + 1) (by omega)).2.2.1]; exact hω
  have hB2 : MB τ G2 m (tbT ta) ta.length := ⟨⟨hF2.rf.2.2.2.2.2.1, hF2.2.2.2.2.2.2.1⟩, ⟨hL, v10.2⟩, fun j hj => ⟨by rw [(fr2 (m + 6) (by omega)).2.2.1]; exact t2 j _ (tbT_get hj), tbT_lt hI hj⟩⟩
  clear hG2
  rw [ka_bind]
  refine gOk.mono (m_blanks hB2 hn v10.1 (Nat.zero_le _)) fun G3 g3 => ?_
  obtain ⟨d3, e10, e12⟩ := g3
  have hbl := bl_le (tb := tbT ta) (L := ta.length) (p := 0) (Nat.zero_le _)
  have hB3 := hB2.tm d3
  have hF3 := (MK.tm d3).fm hF2
  have w3 : ge G3 (m + 1) = ω := by rw [d3.2.1]; exact w2
  have v3 : gi G3 11 0 m = 0 ∧ gi G3 11 6 m = gi G 11 6 m ∧ gi G3 11 7 m = gi G 11 7 m ∧ gi G3 11 9 m = 0 := by
    rw [d3.2.2.2.2 _ _ _ (by omega), d3.2.2.2.2 _ _ _ (by omega), d3.2.2.2.2 _ _ _ (by omega), d3.2.2.2.2 _ _ _ (by omega)]
    exact v0
  have fr3 : Fr (fun b => b = m ∨ b = m + 1) G G3 := (fr2.mono fun b hb => Or.inl hb).tr (d3.fr.mono fun b hb => Or.inl hb)
  rw [e10, hB3.2.1.2]
  unfold rdW
  by_cases h0 : bl (tbT ta) ta.length 0 = ta.length
  · rw [if_pos (by rw [h0])]
    simp only [if_pos h0]
    exact ⟨_, rfl, ⟨fr3, hF3, fun j _ => by rw [w3]⟩, v3, Or.inl ⟨_, rfl, Int32.le_refl _, w3⟩⟩
  · rw [if_neg (fun e => h0 ((nI_eq (by omega) (by omega)).mp e)), ka_bind]
    simp only [if_neg h0]
    have h3 : MR τ G3 m (tbT ta) ta.length (.inl (bl (tbT ta) ta.length 0)) ω := ⟨⟨hB3, bl (tbT ta) ta.length 0, hbl.2, e10, ?_⟩, hF3, w3⟩
    · refine gOk.mono (m_lines h3 hI.1 hn) fun q hq => ?_
      have vk : ∀ {G' : gG}, MK m G3 G' → (gi G' 11 0 m = 0 ∧ gi G' 11 6 m = gi G 11 6 m ∧ gi G' 11 7 m = gi G 11 7 m ∧ gi G' 11 9 m = 0) ∧ ∀ j, 467 ≤ j → ge G' (m + 1) j = ω j := fun {G'} h => by
        rw [h.2.2.1 _ _ (by omega), h.2.2.1 _ _ (by omega), h.2.2.1 _ _ (by omega), h.2.2.1 _ _ (by omega)]
        exact ⟨v3, fun j hj => by rw [h.2.2.2 j hj, w3]⟩
      rcases hq with ⟨G', hq, f', m', f, ef, j'⟩ | ⟨z, G', hq, hz, f', b, eb, h'⟩
      · obtain ⟨vk1, vk2⟩ := vk f'
        rcases hq with hq | hq
        · subst hq
          exact ⟨(-1, G'), rfl, ⟨fr3.tr f'.1, m', vk2⟩, vk1, Or.inr ⟨f, ef, rfl, j'.2.2⟩⟩
        · subst hq
          exact ⟨(-1, G'), rfl, ⟨fr3.tr f'.1, m', vk2⟩, vk1, Or.inr ⟨f, ef, rfl, j'.2.2⟩⟩
      · obtain ⟨vk1, vk2⟩ := vk f'
        subst hq
        refine ⟨(nI z + 1, G'), rfl, ⟨fr3.tr f'.1, h'.2.1, vk2⟩, vk1, Or.inl ⟨b, eb, ?_, h'.2.2⟩⟩
        show (0 : Int32) ≤ nI z + 1
        rw [nI_1]
        exact nI_le (a := 0) (Nat.zero_le _) (by omega)
    · unfold bl
      exact rn_no (rn_end (f := ta.length - 0) rfl)
theorem m_walkL (hM : FM τ G m) (hn : 6000 < n) : gOk (l_X11_walk_2 τ n m 0 G) (fun G1 => (∀ j, j < 1316 → ge G1 (m + 3) j = ge G (m + 1) j) ∧ Fr (fun b => b = m + 3) G G1) := by
  unfold l_X11_walk_2
  refine ka_loop 1316 (fun k q => q.1 = nI k ∧ (∀ j, j < k → ge q.2 (m + 3) j = ge G (m + 1) j) ∧ Fr (fun b => b = m + 3) G q.2) (by omega) ⟨rfl, fun j hj => by omega, Fr.rf⟩ (fun k q hk hp => ?_)
  obtain ⟨y, G1⟩ := q
  obtain ⟨e1, e2, e3⟩ := hp
  have e1 : y = nI k := e1
  have e2 : ∀ j, j < k → ge G1 (m + 3) j = ge G (m + 1) j := e2
  have e3 : Fr (fun b => b = m + 3) G G1 := e3
  subst e1
  have hM1 : FM τ G1 m := e3.fm hM (by omega)
  have ew : ge G1 (m + 1) = ge G (m + 1) := (e3 (m + 1) (by omega)).2.2.1
  show gOk (b_X11_walk_2 τ n m (nI k) G1) _
  unfold b_X11_walk_2
  by_cases hlt : k < 1316
  · rw [if_neg (show ¬ (1316 : Int32) ≤ nI k from nI_ge (b := 1316) hlt (by decide)), hM1.rf.2.2.1, ka_bs, hM1.rf.1, ka_bs, hM1.w k rfl (by omega), ka_chkT (by rw [hM1.2.2.2.1]; exact ka_in hlt (by decide)), ka_letE, ka_letE, nI_1, nI_clamp (by omega)]
    refine ⟨_, rfl, hlt, rfl, fun j hj => ?_, e3.tr (Fr.e rfl)⟩
    show ge (gse G1 (m + 3) k (ge G1 (m + 1) k)) (m + 3) j = _
    rw [ka_ee, ew]
    by_cases hjk : j = k
    · rw [if_pos ⟨rfl, hjk⟩, hjk]
    · rw [if_neg (fun h => hjk h.2), e2 j (by omega)]
  · have hkN : k = 1316 := by omega
    subst hkN
    rw [if_pos (show (1316 : Int32) ≤ nI 1316 from Int32.le_refl _)]
    exact ⟨_, rfl, e2, e3⟩
/-- the world is brought back -/
def bkP (G : gG) (m k : Nat) : gW := fun j => if j < k then ge G (m + 3) j else ge G (m + 1) j
theorem m_walk90 (hM : FM τ G m) (hn : 6000 < n) (h3 : ∀ j, j < 1316 → ge G (m + 3) j = ω j) (h1 : ∀ j, 467 ≤ j → ge G (m + 1) j = ω j) : gOk (k_X11_walk_90 τ n m G) (fun p => ge p.2 (m + 1) = ω ∧ Fr (fun b => b = m + 1) G p.2) := by
  unfold k_X11_walk_90
  have hl : gOk (l_X11_walk_92 τ n m 0 G) (fun G1 => ge G1 (m + 1) = bkP G m 1316 ∧ Fr (fun b => b = m + 1) G G1) := by
    unfold l_X11_walk_92
    refine ka_loop 1316 (fun k q => q.1 = nI k ∧ ge q.2 (m + 1) = bkP G m k ∧ Fr (fun b => b = m + 1) G q.2) (by omega) ⟨rfl, funext fun j => by unfold bkP; rw [if_neg (Nat.not_lt_zero j)], Fr.rf⟩ (fun k q hk hp => ?_)
    obtain ⟨y, G1⟩ := q
    obtain ⟨e1, e2, e3⟩ := hp
    have e1 : y = nI k := e1
    have e2 : ge G1 (m + 1) = bkP G m k := e2
    have e3 : Fr (fun b => b = m + 1) G G1 := e3
    subst e1
    have hM1 : FM τ G1 m := e3.fm hM (by omega)
    have ew : ge G1 (m + 3) = ge G (m + 3) := (e3 (m + 3) (by omega)).2.2.1
    show gOk (b_X11_walk_92 τ n m (nI k) G1) _
    unfold b_X11_walk_92
    by_cases hlt : k < 1316
    · rw [if_neg (show ¬ (1316 : Int32) ≤ nI k from nI_ge (b := 1316) hlt (by decide)), hM1.rf.1, ka_bs, hM1.rf.2.2.1, ka_bs, ka_chkT (by rw [hM1.2.2.2.1]; exact ka_in hlt (by decide)), m_w hM1 k rfl (by omega), nI_clamp (by omega), ka_letE, nI_1]
      refine ⟨_, rfl, hlt, rfl, ?_, e3.tr (Fr.e rfl)⟩
      show ge (gse G1 (m + 1) k (ge G1 (m + 3) k)) (m + 1) = _
      rw [ge_wSt, e2, ew]
      funext j
      unfold wSt bkP
      by_cases hjk : j = k
      · rw [if_pos hjk, if_pos (by omega), hjk]
      · rw [if_neg hjk]
        by_cases hj : j < k
        · rw [if_pos hj, if_pos (by omega)]
        · rw [if_neg hj, if_neg (by omega)]
    · have hkN : k = 1316 := by omega
      subst hkN
      rw [if_pos (show (1316 : Int32) ≤ nI 1316 from Int32.le_refl _)]
      exact ⟨_, rfl, e2, e3⟩
  rw [ka_bind]
  refine gOk.mono hl fun G1 g1 => ?_
  rw [ka_letE]
  refine ⟨_, rfl, ?_, g1.2⟩
  show ge G1 (m + 1) = ω
  rw [g1.1]
  funext j
  unfold bkP
  by_cases hj : j < 1316
  · rw [if_pos hj]; exact h3 j hj
  · rw [if_neg hj]; exact h1 j (by omega)
theorem m_walk (hM : MV τ G m ω im me ta fa) (hI : IV ω im me ta) (hn : 6000 < n) (h3 : ω 3 = nI c) (hc : c ≤ 12) : gOk (f_X11_walk τ n m G) (fun p => Fr (fun b => m ≤ b ∧ b ≤ m + 10) G p.2 ∧ ((∃ f, (rdW (tbT ta) ta.length ω).1 = .inr f ∧ gi p.2 11 0 m = 1 ∧ MV τ p.2 m ω im me [] (nI f)) ∨ ∃ b, (rdW (tbT ta) ta.length ω).1 = .inl b ∧ ((c = 12 ∧ gi p.2 11 0 m = 2 ∧ MV τ p.2 m ω im me [] (-1)) ∨ (c < 12 ∧ gi p.2 11 0 m = 0 ∧ p.1 = nI (c + 1) ∧ MV τ p.2 m (wSt (rdW (tbT ta) ta.length ω).2 3 (nI (c + 1))) im [] [] (-1))))) := by
  have hme := hM.2.2.2.1.1
  unfold f_X11_walk
  rw [ka_bind]
  refine gOk.mono (m_walkL hM.1 hn) fun G5 g5 => ?_
  obtain ⟨c5, f5⟩ := g5
  have hM5 : MV τ G5 m ω im me ta fa := by
    obtain ⟨a1, a2, ⟨i1, i2⟩, ⟨m1, m2⟩, ⟨t1, t2⟩, a6⟩ := hM
    have q := f5 m (by omega)
    refine ⟨f5.fm a1 (by omega), by rw [(f5 (m + 1) (by omega)).2.2.1]; exact a2, ⟨by rw [q.1]; exact i1, fun v hv j hj => by rw [(f5 (m + 2) (by omega)).2.2.1]; exact i2 v hv j hj⟩, ⟨by rw [q.1]; exact m1, fun j v hj i hi => by rw [(f5 (m + 5) (by omega)).2.2.1]; exact m2 j v hj i hi⟩, ⟨by rw [q.1]; exact t1, fun j b hj => by rw [(f5 (m + 6) (by omega)).2.2.1]; exact t2 j b hj⟩, by rw [q.1]; exact a6⟩
  have q5 := (f5 m (by omega)).1
  have c5' : ∀ j, j < 1316 → ge G5 (m + 3) j = ω j := fun j hj => by rw [c5 j hj, hM.2.1]
  rw [ka_letE]
  unfold k_X11_walk_27
  rw [ka_bind2]
  refine gOk.mono (m_readAll hM5 hI (by omega)) fun q hq => ?_
  obtain ⟨v6, G7⟩ := q
  obtain ⟨⟨f7, m7, w7⟩, ⟨z0, z6, z7, z9⟩, hq⟩ := hq
  have f7 : Fr (fun b => b = m ∨ b = m + 1) G5 G7 := f7
  have m7 : FM τ G7 m := m7
  have w7 : ∀ j, 467 ≤ j → ge G7 (m + 1) j = ω j := w7
  have z0 : gi G7 11 0 m = 0 := z0
  have z6 : gi G7 11 6 m = gi G 11 6 m := z6.trans (q5 _ _)
  have z7 : gi G7 11 7 m = nI me.length := z7.trans ((q5 _ _).trans hme)
  have z9 : gi G7 11 9 m = 0 := z9
  have fA : Fr (fun b => b = m ∨ b = m + 1 ∨ b = m + 3) G G7 := (f5.mono fun b hb => Or.inr (Or.inr hb)).tr (f7.mono fun b hb => hb.elim Or.inl fun h => Or.inr (Or.inl h))
  have c7 : ∀ j, j < 1316 → ge G7 (m + 3) j = ω j := fun j hj => by rw [(f7 (m + 3) (by omega)).2.2.1]; exact c5' j hj
  -- the world brought back, with a thrown thing and a fault
  have hback : ∀ {th v14 : Int32}, gOk (k_X11_walk_90 τ n m (gsi (gsi G7 11 14 m v14) 11 0 m th)) (fun p => Fr (fun b => m ≤ b ∧ b ≤ m + 10) G p.2 ∧ gi p.2 11 0 m = th ∧ MV τ p.2 m ω im me [] v14) := fun {th v14} => by
    have fg : Fr (fun b => b = m) G7 (gsi (gsi G7 11 14 m v14) 11 0 m th) := (Fr.i (A := fun b => b = m) rfl).tr (Fr.i (A := fun b => b = m) rfl)
    have mg : FM τ (gsi (gsi G7 11 14 m v14) 11 0 m th) m := m7
    have y : gi (gsi (gsi G7 11 14 m v14) 11 0 m th) 11 0 m = th ∧ gi (gsi (gsi G7 11 14 m v14) 11 0 m th) 11 6 m = gi G 11 6 m ∧ gi (gsi (gsi G7 11 14 m v14) 11 0 m th) 11 7 m = nI me.length ∧ gi (gsi (gsi G7 11 14 m v14) 11 0 m th) 11 9 m = 0 ∧ gi (gsi (gsi G7 11 14 m v14) 11 0 m th) 11 14 m = v14 := by
      simp only [ka_ii]
      simp [z6, z7, z9]
    generalize gsi (gsi G7 11 14 m v14) 11 0 m th = G8 at fg mg y
    refine gOk.mono (m_walk90 (ω := ω) mg hn (fun j hj => by rw [(fg (m + 3) (by omega)).2.2.1]; exact c7 j hj) (fun j hj => by rw [(fg (m + 1) (by omega)).2.2.1]; exact w7 j hj)) fun p hp => ?_
    obtain ⟨p1, p2⟩ := hp
    have pm := (p2 m (by omega)).1
    have fB : Fr (fun b => b = m ∨ b = m + 1 ∨ b = m + 3) G p.2 := (fA.tr (fg.mono fun b hb => Or.inl hb)).tr (p2.mono fun b hb => Or.inr (Or.inl hb))
    refine ⟨fB.mono fun b hb => by omega, (pm _ _).trans y.1, MV.mk3 hM fB (p2.fm mg (by omega)) p1 ((pm _ _).trans y.2.1) ((pm _ _).trans y.2.2.1) (fun _ _ h => h) ((pm _ _).trans y.2.2.2.1) ((pm _ _).trans y.2.2.2.2)⟩
  rcases hq with ⟨b, eb, h0, w0⟩ | ⟨f, ef, h0, e12⟩
  · have h0 : (0 : Int32) ≤ v6 := h0
    have w0 : ge G7 (m + 1) = (rdW (tbT ta) ta.length ω).2 := w0
    have hnw := rdW_nw hI.1 eb
    have e3 : (rdW (tbT ta) ta.length ω).2 3 = nI c := hnw.2.1.trans h3
    show gOk (if 0 ≤ v6 then _ else _) _
    rw [if_pos h0]
    unfold k_X11_walk_46
    rw [ka_letE]
    show gOk (if 0 ≤ v6 then _ else _) _
    rw [if_pos h0]
    unfold k_X11_walk_59
    rw [m_thIf0, ka_b2 rfl, if_pos rfl]
    show gOk ((gr (gsi G7 11 14 m (-1)) 11 1 m).bind _) _
    have m8 : FM τ (gsi G7 11 14 m (-1)) m := m7
    have w8 : ge (gsi G7 11 14 m (-1)) (m + 1) = (rdW (tbT ta) ta.length ω).2 := w0
    rw [m_g m8, m8.w (x := 3) 3 rfl (by decide), show Int32.toNatClampNeg 3 = 3 from rfl, w8, e3]
    by_cases h12 : c = 12
    · subst h12
      rw [if_pos (show nI 12 = (12 : Int32) from rfl)]
      unfold k_X11_walk_83
      rw [m_thIf1, ka_b2 rfl, if_neg ka_n10]
      refine gOk.mono hback fun p hp => ?_
      exact ⟨hp.1, Or.inr ⟨b, eb, Or.inl ⟨rfl, hp.2.1, hp.2.2⟩⟩⟩
    · rw [if_neg (show ¬ nI c = (12 : Int32) from fun e => h12 ((nI_eq (b := 12) (by omega) (by decide)).mp e))]
      unfold k_X11_walk_83
      rw [m_thIf0, ka_b2 rfl, if_pos rfl]
      show gOk ((gr (gsi G7 11 14 m (-1)) 11 1 m).bind _) _
      have ev : ge (gsi G7 11 14 m (-1)) (m + 1) (Int32.toNatClampNeg 3) + 1 = nI (c + 1) := by
        rw [w8, show Int32.toNatClampNeg 3 = 3 from rfl, e3, nI_1]
      rw [m_g m8, m_w2 m8 (x := 3) 3 rfl (by decide), ev, ka_letE]
      have f9 : Fr (fun b => b = m ∨ b = m + 1) G7 (gsi (gse (gsi G7 11 14 m (-1)) (m + 1) 3 (nI (c + 1))) 11 7 m 0) := ((Fr.i (A := fun b => b = m ∨ b = m + 1) (Or.inl rfl)).tr (Fr.e (A := fun b => b = m ∨ b = m + 1) (Or.inr rfl))).tr (Fr.i (A := fun b => b = m ∨ b = m + 1) (Or.inl rfl))
      have m9 : FM τ (gsi (gse (gsi G7 11 14 m (-1)) (m + 1) 3 (nI (c + 1))) 11 7 m 0) m := m7
      have w9 : ge (gsi (gse (gsi G7 11 14 m (-1)) (m + 1) 3 (nI (c + 1))) 11 7 m 0) (m + 1) = wSt (rdW (tbT ta) ta.length ω).2 3 (nI (c + 1)) := by
        rw [← w0]
        exact ge_wSt
      have y9 : gi (gsi (gse (gsi G7 11 14 m (-1)) (m + 1) 3 (nI (c + 1))) 11 7 m 0) 11 0 m = 0 ∧ gi (gsi (gse (gsi G7 11 14 m (-1)) (m + 1) 3 (nI (c + 1))) 11 7 m 0) 11 6 m = gi G 11 6 m ∧ gi (gsi (gse (gsi G7 11 14 m (-1)) (m + 1) 3 (nI (c + 1))) 11 7 m 0) 11 7 m = 0 ∧ gi (gsi (gse (gsi G7 11 14 m (-1)) (m + 1) 3 (nI (c + 1))) 11 7 m 0) 11 9 m = 0 ∧ gi (gsi (gse (gsi G7 11 14 m (-1)) (m + 1) 3 (nI (c + 1))) 11 7 m 0) 11 14 m = -1 := by
        simp only [ka_ii, ka_ie]
        simp [z0, z6, z9]
      generalize gsi (gse (gsi G7 11 14 m (-1)) (m + 1) 3 (nI (c + 1))) 11 7 m 0 = G9 at f9 m9 w9 y9
      rw [m_g m9, m9.w (x := 3) 3 rfl (by decide), w9]
      have fB : Fr (fun b => b = m ∨ b = m + 1 ∨ b = m + 3) G G9 := fA.tr (f9.mono fun b hb => hb.elim Or.inl fun h => Or.inr (Or.inl h))
      refine ⟨_, rfl, fB.mono fun b hb => by omega, Or.inr ⟨b, eb, Or.inr ⟨by omega, y9.1, ?_, MV.mk3 hM fB m9 w9 y9.2.1 y9.2.2.1 (fun j v h => by cases h) y9.2.2.2.1 y9.2.2.2.2⟩⟩⟩
      show wSt (rdW (tbT ta) ta.length ω).2 3 (nI (c + 1)) (Int32.toNatClampNeg 3) = nI (c + 1)
      exact wSt_eq
  · have h0 : v6 = -1 := h0
    have e12 : gi G7 11 12 m = nI f := e12
    subst h0
    show gOk (if (0 : Int32) ≤ -1 then _ else k_X11_walk_46 τ n m (-1) m (gi G7 11 12 m) G7) _
    rw [if_neg (by decide), e12]
    unfold k_X11_walk_46
    rw [ka_letE, if_neg (by decide)]
    unfold k_X11_walk_59
    rw [m_thIf1, ka_b2 rfl, if_neg ka_n10]
    refine gOk.mono hback fun p hp => ?_
    exact ⟨hp.1, Or.inl ⟨f, ef, hp.2.1, hp.2.2⟩⟩
end
