/-! TEXTS: a line of the law, in the reference -/
section
variable {τ : gτ} {n : Nat} {G G' G'' : gG} {m : Nat} {tb : Nat → Nat} {L a b f c k D : Nat} {P Q : List (Nat × Int32)} {Λ : List lwL} {κ v : Int32} {r : Nat ⊕ Nat}
/-- of the reference its place, depth, count and draft alone have changed -/
def NL (m : Nat) (G G' : gG) : Prop := Fr (fun b => b = m ∨ b = m + 1) G G' ∧ (∀ c k, gr G' c k m = gr G c k m) ∧ (∀ c k, ¬ (c = 11 ∧ (k = 10 ∨ k = 12 ∨ k = 13 ∨ k = 16)) → gi G' c k m = gi G c k m) ∧ ∀ j, j < 1317 → ge G' (m + 1) j = ge G (m + 1) j
theorem NL.rf : NL m G G := ⟨Fr.rf, fun _ _ => rfl, fun _ _ _ => rfl, fun _ _ => rfl⟩
theorem NL.tr (h : NL m G G') (h' : NL m G' G'') : NL m G G'' := ⟨h.1.tr h'.1, fun c k => (h'.2.1 c k).trans (h.2.1 c k), fun c k hn => (h'.2.2.1 c k hn).trans (h.2.2.1 c k hn), fun j hj => (h'.2.2.2 j hj).trans (h.2.2.2 j hj)⟩
theorem NL.nk (h : NK m G G') : NL m G G' := ⟨h.1, h.2.1, h.2.2.1, fun j hj => h.2.2.2 j (by omega)⟩
theorem NL.wr (hk : 1317 ≤ k) : NL m G (gse G (m + 1) k v) := ⟨Fr.e (A := fun b => b = m ∨ b = m + 1) (Or.inr rfl), fun _ _ => rfl, fun _ _ _ => rfl, fun j hj => by rw [ka_ee, if_neg (by omega)]⟩
theorem NL.fm (h : NL m G G') (hM : FM τ G m) : FM τ G' m := by
  unfold FM at hM ⊢
  simp only [h.2.1]
  exact hM
theorem MB.nl (h : MB τ G m tb L) (hd : NL m G G') : MB τ G' m tb L := by
  obtain ⟨⟨a1, a2⟩, ⟨b1, b2⟩, c⟩ := h
  refine ⟨⟨by rw [hd.2.1]; exact a1, a2⟩, ⟨b1, ?_⟩, fun j hj => by rw [(hd.1 (m + 6) (by omega)).2.2.1]; exact c j hj⟩
  rw [hd.2.2.1 _ _ (by omega)]
  exact b2
theorem MJ.wr (hk : 1317 ≤ k) (h : MJ τ G m tb L r) : MJ τ (gse G (m + 1) k v) m tb L r := by
  cases r with
  | inl a => exact ⟨h.1.nl (NL.wr hk), h.2⟩
  | inr f => exact ⟨h.1.nl (NL.wr hk), h.2⟩
theorem MJ.ale (h : MJ τ G m tb L (.inl a)) : a ≤ L ∧ L ≤ 400 := by
  obtain ⟨p, hp, -, hbp⟩ := h.2
  have := (bl_le (tb := tb) hp).2
  rw [hbp] at this
  exact ⟨this, h.1.2.1.1⟩
theorem SQ.wr (hk : k < 1365) (h : SQ G m P) : SQ (gse G (m + 1) k v) m P := ⟨h.1, fun k' s hk' => by rw [ka_ee, if_neg (by omega), ka_ee, if_neg (by omega)]; exact h.2 k' s hk'⟩
/-- the lines so far -/
def SLn (G : gG) (m : Nat) (Λ : List lwL) : Prop := ∀ j r, Λ[j]? = some r → ge G (m + 1) (1317 + 4 * j) = r.1 ∧ ge G (m + 1) (1317 + 4 * j + 1) = r.2.1 ∧ ge G (m + 1) (1317 + 4 * j + 2) = nI r.2.2.1 ∧ ge G (m + 1) (1317 + 4 * j + 3) = nI r.2.2.2
theorem gn_in {α : Type} {A : List α} {x : α} {j : Nat} (h : A[j]? = some x) : j < A.length := by
  rcases Nat.lt_or_ge j A.length with q | q
  · exact q
  · rw [List.getElem?_eq_none q] at h; cases h
theorem SLn.tm (h : SLn G m Λ) (hd : TM m G G') : SLn G' m Λ := fun j r hj => by
  rw [hd.2.1]
  exact h j r hj
/-- what a line of the law makes, in the reference -/
def NLo (τ : gτ) (m : Nat) (tb : Nat → Nat) (L : Nat) (G : gG) (Λ : List lwL) (P : List (Nat × Int32)) (z : (Nat × Int32 × Int32 × List (Nat × Int32)) ⊕ Nat) (q : Int32 × gG) : Prop := NL m G q.2 ∧ FM τ q.2 m ∧ ((∃ f, z = .inr f ∧ q.1 = 0 ∧ MJ τ q.2 m tb L (.inr f)) ∨ ∃ r, z = .inl r ∧ q.1 = 1 ∧ MJ τ q.2 m tb L (.inl r.1) ∧ SQ q.2 m (P ++ r.2.2.2) ∧ SLn q.2 m (lnX Λ P r))
theorem llN_f (h : nbS tb L 0 99 (.inl b) = .inr f) : llN tb L b κ = .inr f := by
  unfold llN
  rw [h]
theorem llN_0 (h : nbS tb L 0 99 (.inl b) = .inl c) (hw : ¬ wd tb L s_if c = true) : llN tb L b κ = .inl (c, κ, nbV tb L 0 99 (.inl b), []) := by
  unfold llN
  rw [h]
  exact if_neg hw
theorem llN_i {u : Nat × List (Nat × Int32)} (h : nbS tb L 0 99 (.inl b) = .inl c) (hw : wd tb L s_if c = true) (hu : cdP tb L (atQ tb L 7) (bl tb L (c + 2)) = .inl u) : llN tb L b κ = .inl (u.1, κ, nbV tb L 0 99 (.inl b), u.2) := by
  unfold llN
  rw [h]
  show (if wd tb L s_if c = true then _ else _) = _
  rw [if_pos hw, hu]
theorem llN_x (h : nbS tb L 0 99 (.inl b) = .inl c) (hw : wd tb L s_if c = true) (hu : cdP tb L (atQ tb L 7) (bl tb L (c + 2)) = .inr f) : llN tb L b κ = .inr f := by
  unfold llN
  rw [h]
  show (if wd tb L s_if c = true then _ else _) = _
  rw [if_pos hw, hu]
theorem m_ll66 (hM : FM τ G m) (hJ : MJ τ G m tb L (.inl b)) (hQ : SQ G m P) (hS : SLn G m Λ) (hΛ : Λ.length = c) (hc : c < 12) (hP : P.length + 4 ≤ b) (hn : 500 < n) : gOk (k_X11_readLawLine_66 τ n m (nI (1317 + 4 * c)) (m + 1) (nI (1317 + 4 * c)) κ G) (NLo τ m tb L G Λ P (llN tb L b κ)) := by
  have hle := hJ.ale
  unfold k_X11_readLawLine_66
  have M1 : FM τ (gse G (m + 1) (1317 + 4 * c) κ) m := hM
  rw [m_w hM (1317 + 4 * c) rfl (by omega), m_g M1, ka_bind2]
  refine gOk.mono (m_nb (hJ.wr (show 1317 ≤ 1317 + 4 * c by omega)) (lo := 0) (hi := 99) (by decide) hn) fun q hq => ?_
  obtain ⟨v13, G14⟩ := q
  obtain ⟨d, e13, j14, -⟩ := hq
  have d : TM m (gse G (m + 1) (1317 + 4 * c) κ) G14 := d
  have e13 : v13 = nbV tb L 0 99 (.inl b) := e13
  have j14 : MJ τ G14 m tb L (nbS tb L 0 99 (.inl b)) := j14
  have M14 : FM τ G14 m := (NK.tm d).fm M1
  show gOk (gchk (gIn (nI (1317 + 4 * c) + 1) (gn τ (m + 1))) (gLet (gse G14 (m + 1) (Int32.toNatClampNeg (nI (1317 + 4 * c) + 1)) v13) _)) _
  rw [m_w M14 (x := nI (1317 + 4 * c) + 1) (1317 + 4 * c + 1) (ka_ix (b := 1) rfl) (by omega)]
  have M15 : FM τ (gse G14 (m + 1) (1317 + 4 * c + 1) v13) m := M14
  have ev : ge (gse G14 (m + 1) (1317 + 4 * c + 1) v13) (m + 1) (Int32.toNatClampNeg (nI (1317 + 4 * c) + 1)) = v13 := by
    rw [show nI (1317 + 4 * c) + 1 = nI (1317 + 4 * c + 1) from ka_ix rfl, nI_clamp (by omega), ka_ee, if_pos ⟨rfl, rfl⟩]
  rw [m_g M15, M15.w (x := nI (1317 + 4 * c) + 1) (1317 + 4 * c + 1) (ka_ix (b := 1) rfl) (by omega), ev]
  have n15 : NL m G (gse G14 (m + 1) (1317 + 4 * c + 1) v13) := ((NL.wr (by omega)).tr (NL.nk (NK.tm d))).tr (NL.wr (by omega))
  cases hr : nbS tb L 0 99 (.inl b) with
  | inr f =>
    rw [hr] at j14
    rw [show v13 = -1 from e13.trans (nb_no hr)] at n15 M15 ⊢
    rw [if_neg (by decide)]
    exact ⟨_, rfl, n15, M15, Or.inl ⟨f, llN_f hr, rfl, j14.wr (by omega)⟩⟩
  | inl c' =>
    rw [hr] at j14
    obtain ⟨b', u1, u2, u3, u4⟩ := nb_ok hr
    cases u1
    have hn' : ¬ numT tb L b < 0 := fun e => u3 (Or.inl (by rw [u2]; exact e))
    have g1 := num_dg (lo := 0) (by decide) hle.1 hn'
    have g2 := dg_le (tb := tb) hle.1
    have g3 := bl_le (tb := tb) g2.2
    have q14 : SQ G14 m P := (hQ.wr (by omega)).tm d
    have q15 : gi (gse G14 (m + 1) (1317 + 4 * c + 1) v13) 11 16 m = nI P.length := q14.1
    rw [if_pos (show (0 : Int32) ≤ v13 by rw [e13]; exact nb_ge (by decide) hr), m_g M15, m_w M15 (x := nI (1317 + 4 * c) + 2) (1317 + 4 * c + 2) (ka_ix (b := 2) rfl) (by omega), q15, ka_letE]
    have hE : ∀ j, ge (gsi (gse (gse G14 (m + 1) (1317 + 4 * c + 1) v13) (m + 1) (1317 + 4 * c + 2) (nI P.length)) 11 13 m 0) (m + 1) j = if j = 1317 + 4 * c + 2 then nI P.length else if j = 1317 + 4 * c + 1 then v13 else if j = 1317 + 4 * c then κ else ge G (m + 1) j := fun j => by
      show ge (gse (gse G14 (m + 1) (1317 + 4 * c + 1) v13) (m + 1) (1317 + 4 * c + 2) (nI P.length)) (m + 1) j = _
      rw [ka_ee, ka_ee, d.2.1, ka_ee]
      simp only [true_and]
    have n19 : NL m G (gsi (gse (gse G14 (m + 1) (1317 + 4 * c + 1) v13) (m + 1) (1317 + 4 * c + 2) (nI P.length)) 11 13 m 0) := (n15.tr (NL.wr (by omega))).tr ⟨Fr.i (A := fun b => b = m ∨ b = m + 1) (Or.inl rfl), fun _ _ => rfl, fun c k hn => by rw [ka_ii, if_neg (fun h => hn ⟨h.1, by omega⟩)], fun _ _ => rfl⟩
    have h19 : NQ τ (gsi (gse (gse G14 (m + 1) (1317 + 4 * c + 1) v13) (m + 1) (1317 + 4 * c + 2) (nI P.length)) 11 13 m 0) m tb L 0 (.inl (c', P)) := by
      have q18 : SQ (gse (gse G14 (m + 1) (1317 + 4 * c + 1) v13) (m + 1) (1317 + 4 * c + 2) (nI P.length)) m P := (q14.wr (by omega)).wr (by omega)
      have j18 : MJ τ (gse (gse G14 (m + 1) (1317 + 4 * c + 1) v13) (m + 1) (1317 + 4 * c + 2) (nI P.length)) m tb L (.inl c') := MJ.wr (by omega) (j14.wr (by omega))
      obtain ⟨hB, p, hp, h10, hbp⟩ := j18
      refine ⟨⟨hB.nl ⟨Fr.i (A := fun b => b = m ∨ b = m + 1) (Or.inl rfl), fun _ _ => rfl, fun c k hn => by rw [ka_ii, if_neg (fun h => hn ⟨h.1, by omega⟩)], fun _ _ => rfl⟩, p, hp, ?_, hbp⟩, M14, ?_, ?_, q18.2⟩
      · rw [ka_ii, if_neg (fun h => absurd h.2.1 (by decide))]; exact h10
      · rw [ka_ii, if_pos ⟨rfl, rfl, rfl⟩]; rfl
      · rw [ka_ii, if_neg (fun h => absurd h.2.1 (by decide))]; exact q18.1
    generalize gsi (gse (gse G14 (m + 1) (1317 + 4 * c + 1) v13) (m + 1) (1317 + 4 * c + 2) (nI P.length)) 11 13 m 0 = G19 at hE n19 h19
    -- the line's end
    have fin : ∀ {e : Nat} {Q : List (Nat × Int32)} {G26 : gG}, NK m G19 G26 → NQ τ G26 m tb L 0 (.inl (e, P ++ Q)) → llN tb L b κ = .inl (e, κ, v13, Q) → gOk (k_X11_readLawLine_130 τ n m (nI (1317 + 4 * c)) G26) (NLo τ m tb L G Λ P (llN tb L b κ)) := fun {e Q G26} k26 h26 ez => by
      unfold k_X11_readLawLine_130
      rw [m_g h26.2.1, m_w h26.2.1 (x := nI (1317 + 4 * c) + 3) (1317 + 4 * c + 3) (ka_ix (b := 3) rfl) (by omega), h26.2.2.2.1]
      refine ⟨_, rfl, (n19.tr (NL.nk k26)).tr (NL.wr (by omega)), h26.2.1, Or.inr ⟨_, ez, rfl, h26.1.wr (by omega), h26.2.2.2.wr (by omega), fun j r hj => ?_⟩⟩
      have hF : ∀ i, i < 1365 → ge (gse G26 (m + 1) (1317 + 4 * c + 3) (nI (P ++ Q).length)) (m + 1) i = if i = 1317 + 4 * c + 3 then nI (P ++ Q).length else if i = 1317 + 4 * c + 2 then nI P.length else if i = 1317 + 4 * c + 1 then v13 else if i = 1317 + 4 * c then κ else ge G (m + 1) i := fun i hi => by
        rw [ka_ee, k26.2.2.2 i hi, hE]
        simp only [true_and]
      show ge (gse G26 (m + 1) (1317 + 4 * c + 3) (nI (P ++ Q).length)) (m + 1) (1317 + 4 * j) = r.1 ∧ ge (gse G26 (m + 1) (1317 + 4 * c + 3) (nI (P ++ Q).length)) (m + 1) (1317 + 4 * j + 1) = r.2.1 ∧ ge (gse G26 (m + 1) (1317 + 4 * c + 3) (nI (P ++ Q).length)) (m + 1) (1317 + 4 * j + 2) = nI r.2.2.1 ∧ ge (gse G26 (m + 1) (1317 + 4 * c + 3) (nI (P ++ Q).length)) (m + 1) (1317 + 4 * j + 3) = nI r.2.2.2
      rcases gn_ap hj with ⟨hj, hr'⟩ | ⟨hj, hr'⟩
      · obtain ⟨s0, s1, s2, s3⟩ := hS j r hr'
        refine ⟨?_, ?_, ?_, ?_⟩
        · rw [hF _ (by omega), if_neg (by omega), if_neg (by omega), if_neg (by omega), if_neg (by omega)]; exact s0
        · rw [hF _ (by omega), if_neg (by omega), if_neg (by omega), if_neg (by omega), if_neg (by omega)]; exact s1
        · rw [hF _ (by omega), if_neg (by omega), if_neg (by omega), if_neg (by omega), if_neg (by omega)]; exact s2
        · rw [hF _ (by omega), if_neg (by omega), if_neg (by omega), if_neg (by omega), if_neg (by omega)]; exact s3
      · subst hr'
        have hj : j = c := by omega
        subst hj
        refine ⟨?_, ?_, ?_, ?_⟩
        · rw [hF _ (by omega), if_neg (by omega), if_neg (by omega), if_neg (by omega), if_pos rfl]
        · rw [hF _ (by omega), if_neg (by omega), if_neg (by omega), if_pos rfl]
        · rw [hF _ (by omega), if_neg (by omega), if_pos rfl]
        · rw [hF _ (by omega), if_pos rfl, List.length_append]
    rw [ka_bind2]
    refine gOk.mono (m_passes h19 wo_if hn) fun q hq => ?_
    obtain ⟨v21, G22⟩ := q
    obtain ⟨⟨k22, -⟩, hq⟩ := hq
    have k22 : NK m G19 G22 := k22
    rcases hq with ⟨w1, e1, h22⟩ | ⟨w1, e1, h22⟩
    · have e1 : v21 = 1 := e1
      subst e1
      have h22 : NQ τ G22 m tb L 0 (.inl (bl tb L (c' + 2), P)) := h22
      have h0 : c' + 2 ≤ L := wd_le w1 (by omega)
      have g4 := bl_le (tb := tb) h0
      rw [if_neg ka_n10, ka_bind2]
      refine gOk.mono (m_condition h22 (by omega) hn) fun q hq => ?_
      obtain ⟨v25, G26⟩ := q
      obtain ⟨k26, h26, e26⟩ := hq
      have k26 : NK m G22 G26 := k26
      have h26 : NQ τ G26 m tb L 0 (apR P (cdP tb L (atQ tb L 7) (bl tb L (c' + 2)))) := h26
      have e26 : v25 = isL (plR (apR P (cdP tb L (atQ tb L 7) (bl tb L (c' + 2))))) := e26
      show gOk (if v25 = 0 then _ else _) _
      cases hu : cdP tb L (atQ tb L 7) (bl tb L (c' + 2)) with
      | inr f =>
        rw [hu] at h26 e26
        rw [if_pos (show v25 = 0 from e26)]
        exact ⟨_, rfl, n19.tr (NL.nk (k22.tr k26)), h26.2, Or.inl ⟨f, llN_x hr w1 hu, rfl, h26.1⟩⟩
      | inl u =>
        rw [hu] at h26 e26
        rw [if_neg (show ¬ v25 = 0 by rw [show v25 = 1 from e26]; exact ka_n10)]
        exact fin (k22.tr k26) h26 (by rw [llN_i hr w1 hu, e13])
    · have e1 : v21 = 0 := e1
      subst e1
      have h22 : NQ τ G22 m tb L 0 (.inl (c', P)) := h22
      rw [if_pos rfl]
      exact fin (Q := []) k22 (by rw [List.append_nil]; exact h22) (by rw [llN_0 hr w1, e13])
theorem wd_hd {w w' : List Int32} (h : wd tb L w a = true) (h' : wd tb L w' a = true) (hw : 0 < w.length) (hw' : 0 < w'.length) : w.getD 0 0 = w'.getD 0 0 := ((wd_iff.mp h).2 0 hw).symm.trans ((wd_iff.mp h').2 0 hw')
theorem NLo.pre {z : (Nat × Int32 × Int32 × List (Nat × Int32)) ⊕ Nat} {q : Int32 × gG} (hf : NL m G G') (h : NLo τ m tb L G' Λ P z q) : NLo τ m tb L G Λ P z q := ⟨hf.tr h.1, h.2⟩
theorem m_lawLine (hJ : MJ τ G m tb L (.inr a)) (hM : FM τ G m) (hQ : SQ G m P) (hS : SLn G m Λ) (hΛ : Λ.length = c) (hc : c < 12) (hP : P.length ≤ a) (hn : 500 < n) (hw : ∀ w, wO w → f_X11_isWord τ n m w G = some (if wd tb L w a then 1 else 0) ∧ (wd tb L w a → MJ τ G m tb L (.inl (bl tb L (a + w.length))))) : gOk (f_X11_readLawLine τ n m (nI c) G) (NLo τ m tb L G Λ P (llR tb L a)) := by
  have ha : a ≤ L := hJ.2.1
  have e0 : (1317 : Int32) + (4 : Int32) * nI c = nI (1317 + 4 * c) := by
    rw [show (1317 : Int32) = nI 1317 from rfl, show (4 : Int32) = nI 4 from rfl, pk_mul, nI_add]
  have go : ∀ {w : List Int32}, wO w → wd tb L w a = true → w.length = 4 → MJ τ G m tb L (.inl (bl tb L (a + 4))) ∧ P.length + 4 ≤ bl tb L (a + 4) := fun {w} h1 h2 h3 => by
    have h4 := wd_le h2 ha
    have h5 := (hw w h1).2 h2
    rw [h3] at h4 h5
    have := bl_le (tb := tb) h4
    exact ⟨h5, by omega⟩
  unfold f_X11_readLawLine
  rw [ka_letE, e0, (hw _ wo_wear).1, ka_bs]
  by_cases w3 : wd tb L s_wear a = true
  · have w1 : ¬ wd tb L s_fail a = true := fun e => absurd (wd_hd w3 e (by decide) (by decide)) (by decide)
    have w2 : ¬ wd tb L s_bear a = true := fun e => absurd (wd_hd w3 e (by decide) (by decide)) (by decide)
    have ez : llR tb L a = llN tb L (bl tb L (a + 4)) 0 := by
      unfold llR kdP
      rw [if_neg w1, if_neg w2, if_pos w3]
    obtain ⟨g1, g2⟩ := go wo_wear w3 rfl
    rw [ez, if_pos w3, if_neg ka_n10]
    unfold k_X11_readLawLine_39
    rw [m_g hM, if_neg ka_n10]
    exact m_ll66 hM g1 hQ hS hΛ hc g2 hn
  · rw [if_neg w3, if_pos rfl, (hw _ wo_bear).1, ka_bs]
    by_cases w2 : wd tb L s_bear a = true
    · have w1 : ¬ wd tb L s_fail a = true := fun e => absurd (wd_hd w2 e (by decide) (by decide)) (by decide)
      have ez : llR tb L a = llN tb L (bl tb L (a + 4)) 1 := by
        unfold llR kdP
        rw [if_neg w1, if_pos w2]
      obtain ⟨g1, g2⟩ := go wo_bear w2 rfl
      rw [ez, if_pos w2, if_neg ka_n10]
      unfold k_X11_readLawLine_39
      rw [m_g hM, if_pos rfl, (hw _ wo_bear).1, ka_bs, if_pos w2, if_neg ka_n10]
      exact m_ll66 hM g1 hQ hS hΛ hc g2 hn
    · rw [if_neg w2, if_pos rfl, (hw _ wo_fail).1, ka_bs]
      by_cases w1 : wd tb L s_fail a = true
      · have ez : llR tb L a = llN tb L (bl tb L (a + 4)) (-1) := by
          unfold llR kdP
          rw [if_pos w1]
        obtain ⟨g1, g2⟩ := go wo_fail w1 rfl
        rw [ez, if_pos w1, if_neg ka_n10]
        unfold k_X11_readLawLine_39
        rw [m_g hM, if_pos rfl, (hw _ wo_bear).1, ka_bs, if_neg w2, if_pos rfl]
        exact m_ll66 hM g1 hQ hS hΛ hc g2 hn
      · have ez : llR tb L a = .inr a := by
          unfold llR kdP
          rw [if_neg w1, if_neg w2, if_neg w3]
        rw [ez, if_neg w1, if_pos rfl]
        exact ⟨_, rfl, NL.rf, hM, Or.inl ⟨a, rfl, rfl, hJ⟩⟩
theorem m_lawRead (hJ : MJ τ G m tb L (.inl a)) (hM : FM τ G m) (hQ : SQ G m P) (hS : SLn G m Λ) (hΛ : Λ.length = c) (hc : c < 12) (hP : P.length ≤ a) (hn : 500 < n) : gOk (f_X11_readLine τ n m 0 (nI c) G) (NLo τ m tb L G Λ P (llR tb L a)) := by
  unfold f_X11_readLine
  rw [ka_bind]
  refine gOk.mono (m_word hJ hn) fun G1 g1 => ?_
  obtain ⟨d1, j1, g2⟩ := g1
  rw [if_pos rfl]
  unfold k_X11_readLine_16
  rw [if_neg (show ¬ (12 : Int32) ≤ nI c from nI_ge (b := 12) hc (by decide)), if_pos rfl, ka_bind2]
  refine gOk.mono (m_lawLine j1 ((NK.tm d1).fm hM) (hQ.tm d1) (hS.tm d1) hΛ hc hP hn g2) fun q hq => ?_
  obtain ⟨v2, G3⟩ := q
  have hq := hq.pre (NL.nk (NK.tm d1))
  obtain ⟨n3, m3, hz⟩ := hq
  have n3 : NL m G G3 := n3
  have m3 : FM τ G3 m := m3
  show gOk (if v2 = 0 then _ else _) _
  rcases hz with ⟨f, ez, e2, j3⟩ | ⟨r, ez, e2, j3⟩
  · rw [if_pos (show v2 = 0 from e2)]
    exact ⟨_, rfl, n3, m3, Or.inl ⟨f, ez, rfl, j3⟩⟩
  · rw [if_neg (show ¬ v2 = 0 by rw [show v2 = 1 from e2]; exact ka_n10)]
    exact ⟨_, rfl, n3, m3, Or.inr ⟨r, ez, rfl, j3⟩⟩
theorem m_lawReadO (hJ : MJ τ G m tb L (.inl a)) (hM : FM τ G m) (hn : 500 < n) : gOk (f_X11_readLine τ n m 0 (nI 12) G) (fun q => NL m G q.2 ∧ FM τ q.2 m ∧ q.1 = 0 ∧ MJ τ q.2 m tb L (.inr a)) := by
  unfold f_X11_readLine
  rw [ka_bind]
  refine gOk.mono (m_word hJ hn) fun G1 g1 => ?_
  obtain ⟨d1, j1, g2⟩ := g1
  rw [if_pos rfl]
  unfold k_X11_readLine_16
  rw [if_pos (show (12 : Int32) ≤ nI 12 from nI_le (Nat.le_refl 12) (by decide))]
  exact ⟨_, rfl, NL.nk (NK.tm d1), (NK.tm d1).fm hM, rfl, j1⟩
end
