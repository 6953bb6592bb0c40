/-! TEXTS: a line of the law, in the class -/
section
variable {τ : gτ} {n : Nat} {G G' G'' : gG} {x l' : Nat} {tb : Nat → Nat} {L a b f c : Nat} {P Q : List (Nat × Int32)} {Λ : List lwL} {κ : Int32} {s : (Nat × List (Nat × Int32)) ⊕ Nat}
/-- the law's rows so far -/
def LRw (G : gG) (l' : Nat) (Λ : List lwL) : Prop := gi G 1 6 l' = nI Λ.length ∧ ∀ j r, Λ[j]? = some r → ge G (l' + 1) j = (if r.1 = 0 then 1 else 0) ∧ ge G (l' + 2) j = (if r.1 = -1 then - r.2.1 else r.2.1) ∧ ge G (l' + 3) j = nI r.2.2.2
theorem LRw.lm (h : LRw G l' Λ) (hd : LM x l' G G') (hx : x + 4 < l') : LRw G' l' Λ := ⟨by rw [hd.2.2 _ _ (by omega)]; exact h.1, fun j r hj => by rw [(hd.1 (l' + 1) (by omega)).2.2.1, (hd.1 (l' + 2) (by omega)).2.2.1, (hd.1 (l' + 3) (by omega)).2.2.1]; exact h.2 j r hj⟩
/-- of the law its lines and codes alone have changed -/
def LPf (x l' : Nat) (G G' : gG) : Prop := Fr (fun b => b = x + 1 ∨ (l' ≤ b ∧ b ≤ l' + 4)) G G' ∧ (∀ c k d, gr G' c k d = gr G c k d) ∧ gi G' 1 8 l' = gi G 1 8 l'
theorem LPf.rf : LPf x l' G G := ⟨Fr.rf, fun _ _ _ => rfl, rfl⟩
theorem LPf.tr (h : LPf x l' G G') (h' : LPf x l' G' G'') : LPf x l' G G'' := ⟨h.1.tr h'.1, fun c k d => (h'.2.1 c k d).trans (h.2.1 c k d), h'.2.2.trans h.2.2⟩
theorem LPf.lm (h : LM x l' G G') : LPf x l' G G' := ⟨h.1.mono fun b hb => by omega, h.2.1, h.2.2 _ _ (by omega)⟩
theorem addLine_e {u v : Int32} (hL : LRS τ G x l') (hc : c < 12) (h6 : gi G 1 6 l' = nI c) : f_X1_addLine τ l' u v G = some (gsi (gse (gse (gse G (l' + 1) c u) (l' + 2) c v) (l' + 3) c (gi G 1 7 l')) 1 6 l' (nI (c + 1))) := by
  obtain ⟨-, ⟨⟨r0, r1, r2, r3, r4, r5⟩, n1, n2, n3, -⟩, -⟩ := hL
  unfold f_X1_addLine
  rw [h6, if_neg (show ¬ (12 : Int32) ≤ nI c from nI_ge (b := 12) hc (by decide)), r0, ka_bs, ka_chkT (show gIn (nI c) (gn τ (l' + 1)) by rw [n1]; exact ka_in hc (by decide)), nI_clamp (by omega), ka_letE]
  rw [show gr (gse G (l' + 1) c u) 1 1 l' = some (l' + 2) from r1, ka_bs, show gi (gse G (l' + 1) c u) 1 6 l' = nI c from h6, ka_chkT (show gIn (nI c) (gn τ (l' + 2)) by rw [n2]; exact ka_in hc (by decide)), nI_clamp (by omega), ka_letE]
  rw [show gr (gse (gse G (l' + 1) c u) (l' + 2) c v) 1 2 l' = some (l' + 3) from r2, ka_bs, show gi (gse (gse G (l' + 1) c u) (l' + 2) c v) 1 6 l' = nI c from h6, ka_chkT (show gIn (nI c) (gn τ (l' + 3)) by rw [n3]; exact ka_in hc (by decide)), nI_clamp (by omega), ka_letE]
  rw [show gi (gse (gse (gse G (l' + 1) c u) (l' + 2) c v) (l' + 3) c (gi (gse (gse G (l' + 1) c u) (l' + 2) c v) 1 7 l')) 1 6 l' = nI c from h6, nI_1, ka_letE]
  rfl
/-- the thing behind a line -/
def enK (P : List (Nat × Int32)) : Nat ⊕ Nat → (Nat × List (Nat × Int32)) ⊕ Nat
  | .inl b => .inl (b, P)
  | .inr f => .inr f
def enX (tb : Nat → Nat) (L : Nat) : (Nat × List (Nat × Int32)) ⊕ Nat → (Nat × List (Nat × Int32)) ⊕ Nat
  | .inl r => enK r.2 (enS tb L (.inl r.1))
  | .inr f => .inr f
/-- behind a line, in the class -/
def LLq (τ : gτ) (x l' : Nat) (tb : Nat → Nat) (L c : Nat) (G : gG) (s : (Nat × List (Nat × Int32)) ⊕ Nat) (u w : Int32) (q : (Int32 × Int32 × gG) ⊕ (Int32 × gG)) : Prop := ∃ G', q = .inl (enV tb L (plR s), nI (c + 1), G') ∧ LPf x l' G G' ∧ LQ τ G' x l' tb L (enX tb L s) ∧ ∀ Λ r, LRw G l' Λ → Λ.length = c → gi G 1 7 l' = nI r.2.2.2 → u = (if r.1 = 0 then 1 else 0) → w = (if r.1 = -1 then - r.2.1 else r.2.1) → LRw G' l' (Λ ++ [r])
theorem c_k121 {u w : Int32} (h : LQ τ G x l' tb L s) (hl : ∀ r, s = .inl r → r.2.length ≤ 400) (h6 : gi G 1 6 l' = nI c) (hc : c < 12) (hn : 500 < n) : gOk (k_X2_read_121 τ n (x + 4) (nI c) l' u w G) (LLq τ x l' tb L c G s u w) := by
  have hL := h.ls
  have hx := hL.2.2
  unfold k_X2_read_121
  rw [addLine_e hL hc h6, ka_bs]
  have f2 : Fr (fun b => b = l' ∨ b = l' + 1 ∨ b = l' + 2 ∨ b = l' + 3) G (gsi (gse (gse (gse G (l' + 1) c u) (l' + 2) c w) (l' + 3) c (gi G 1 7 l')) 1 6 l' (nI (c + 1))) := (((Fr.e (A := fun b => b = l' ∨ b = l' + 1 ∨ b = l' + 2 ∨ b = l' + 3) (by omega)).tr (Fr.e (A := fun b => b = l' ∨ b = l' + 1 ∨ b = l' + 2 ∨ b = l' + 3) (by omega))).tr (Fr.e (A := fun b => b = l' ∨ b = l' + 1 ∨ b = l' + 2 ∨ b = l' + 3) (by omega))).tr (Fr.i (A := fun b => b = l' ∨ b = l' + 1 ∨ b = l' + 2 ∨ b = l' + 3) (by omega))
  have g8 : gi (gsi (gse (gse (gse G (l' + 1) c u) (l' + 2) c w) (l' + 3) c (gi G 1 7 l')) 1 6 l' (nI (c + 1))) 1 8 l' = gi G 1 8 l' := by
    rw [ka_ii, if_neg (fun h => absurd h.2.1 (by decide))]
    rfl
  have g7 : gi (gsi (gse (gse (gse G (l' + 1) c u) (l' + 2) c w) (l' + 3) c (gi G 1 7 l')) 1 6 l' (nI (c + 1))) 1 7 l' = gi G 1 7 l' := by
    rw [ka_ii, if_neg (fun h => absurd h.2.1 (by decide))]
    rfl
  have g6 : gi (gsi (gse (gse (gse G (l' + 1) c u) (l' + 2) c w) (l' + 3) c (gi G 1 7 l')) 1 6 l' (nI (c + 1))) 1 6 l' = nI (c + 1) := by
    rw [ka_ii, if_pos ⟨rfl, rfl, rfl⟩]
  have gE : ∀ b j, ge (gsi (gse (gse (gse G (l' + 1) c u) (l' + 2) c w) (l' + 3) c (gi G 1 7 l')) 1 6 l' (nI (c + 1))) b j = if b = l' + 3 ∧ j = c then gi G 1 7 l' else if b = l' + 2 ∧ j = c then w else if b = l' + 1 ∧ j = c then u else ge G b j := fun b j => rfl
  have gR : ∀ c' k d, gr (gsi (gse (gse (gse G (l' + 1) c u) (l' + 2) c w) (l' + 3) c (gi G 1 7 l')) 1 6 l' (nI (c + 1))) c' k d = gr G c' k d := fun _ _ _ => rfl
  generalize gsi (gse (gse (gse G (l' + 1) c u) (l' + 2) c w) (l' + 3) c (gi G 1 7 l')) 1 6 l' (nI (c + 1)) = G2 at f2 g8 g7 g6 gE gR
  have p2 : LPf x l' G G2 := ⟨f2.mono fun b hb => by omega, gR, g8⟩
  have l2 : LRS τ G2 x l' := by
    obtain ⟨⟨a1, a2⟩, a3, a4⟩ := hL
    refine ⟨⟨by rw [gR]; exact a1, by rw [gR]; exact a2⟩, ?_, a4⟩
    unfold FL at a3 ⊢
    simp only [gR]
    exact a3
  have j2 : TJ τ G2 x tb L (plR s) := h.tj.mv f2 (by omega) (by omega)
  have h2 : LQ τ G2 x l' tb L s := by
    cases s with
    | inl r => exact ⟨l2, j2, by rw [g7]; exact h.2.2.1, fun k s hk => by rw [gE, if_neg (by omega), if_neg (by omega), if_neg (by omega)]; exact h.2.2.2 k s hk⟩
    | inr f =>
      obtain ⟨-, -, k, k1, k2⟩ := h
      exact ⟨l2, j2, k, k1, by rw [g7]; exact k2⟩
  have r2 : ∀ Λ r, LRw G l' Λ → Λ.length = c → gi G 1 7 l' = nI r.2.2.2 → u = (if r.1 = 0 then 1 else 0) → w = (if r.1 = -1 then - r.2.1 else r.2.1) → LRw G2 l' (Λ ++ [r]) := fun Λ r a1 a2 a3 a4 a5 => by
    refine ⟨?_, fun j r' hj => ?_⟩
    · rw [g6, List.length_append, a2]
      rfl
    · rcases gn_ap hj with ⟨hj, hr⟩ | ⟨hj, hr⟩
      · have u1 : ge G2 (l' + 1) j = ge G (l' + 1) j := by rw [gE, if_neg (by omega), if_neg (by omega), if_neg (by omega)]
        have u2 : ge G2 (l' + 2) j = ge G (l' + 2) j := by rw [gE, if_neg (by omega), if_neg (by omega), if_neg (by omega)]
        have u3 : ge G2 (l' + 3) j = ge G (l' + 3) j := by rw [gE, if_neg (by omega), if_neg (by omega), if_neg (by omega)]
        rw [u1, u2, u3]
        exact a1.2 j r' hr
      · subst hr
        have hj : j = c := by omega
        subst hj
        have u1 : ge G2 (l' + 1) j = u := by rw [gE, if_neg (by omega), if_neg (by omega), if_pos ⟨rfl, rfl⟩]
        have u2 : ge G2 (l' + 2) j = w := by rw [gE, if_neg (by omega), if_pos ⟨rfl, rfl⟩]
        have u3 : ge G2 (l' + 3) j = gi G 1 7 l' := by rw [gE, if_pos ⟨rfl, rfl⟩]
        rw [u1, u2, u3]
        exact ⟨a4, a5, a3⟩
  rw [l2.1.1, ka_bs, ka_bind2]
  refine gOk.mono (c_lineEnd j2 hn) fun q hq => ?_
  obtain ⟨v24, G25⟩ := q
  obtain ⟨d, e, j⟩ := hq
  have d : TE x G2 G25 := d
  have e : v24 = enV tb L (plR s) := e
  have j : TJ τ G25 x tb L (enS tb L (plR s)) := j
  subst e
  rw [ka_letE, nI_1]
  refine ⟨_, rfl, G25, rfl, p2.tr (LPf.lm (LM.te d hx)), ?_, fun Λ r a1 a2 a3 a4 a5 => (r2 Λ r a1 a2 a3 a4 a5).lm (LM.te d hx) hx⟩
  cases s with
  | inr f => exact (h2.mv0 d j).2
  | inl r =>
    obtain ⟨e', P'⟩ := r
    have j : TJ τ G25 x tb L (enS tb L (.inl e')) := j
    show LQ τ G25 x l' tb L (enK P' (enS tb L (.inl e')))
    cases hr : enS tb L (.inl e') with
    | inl b => rw [hr] at j; exact (h2.mv d j).2
    | inr f => rw [hr] at j; exact (h2.no (hl _ rfl) d j).2
theorem c_k102 {x4 u v : Int32} (h : LQ τ G x l' tb L s) (hl : ∀ r, s = .inl r → r.2.length ≤ 400) (h6 : gi G 1 6 l' = nI c) (hc : c < 12) (hn : 500 < n) : gOk (k_X2_read_102 τ n (x + 4) (nI c) x4 u v G) (LLq τ x l' tb L c G s u (if x4 = 0 then v else -v)) := by
  unfold k_X2_read_102
  rw [h.ls.1.2, ka_bs]
  by_cases h0 : x4 = 0
  · rw [if_pos h0, if_pos h0]
    exact c_k121 h hl h6 hc hn
  · rw [if_neg h0, if_neg h0]
    exact c_k121 h hl h6 hc hn
theorem llN_k {r : Nat × Int32 × Int32 × List (Nat × Int32)} (h : llN tb L b κ = .inl r) : r.2.1 = κ := by
  unfold llN at h
  cases hr : nbS tb L 0 99 (.inl b) with
  | inr f => rw [hr] at h; cases h
  | inl c =>
    rw [hr] at h
    have h : (if wd tb L s_if c = true then (match cdP tb L (atQ tb L 7) (bl tb L (c + 2)) with
      | .inr f => .inr f
      | .inl r => .inl (r.1, κ, nbV tb L 0 99 (.inl b), r.2)) else .inl (c, κ, nbV tb L 0 99 (.inl b), [])) = (.inl r : (Nat × Int32 × Int32 × List (Nat × Int32)) ⊕ Nat) := h
    by_cases hw : wd tb L s_if c = true
    · rw [if_pos hw] at h
      cases hu : cdP tb L (atQ tb L 7) (bl tb L (c + 2)) with
      | inr f => rw [hu] at h; cases h
      | inl r => rw [hu] at h; cases h; rfl
    · rw [if_neg hw] at h
      cases h
      rfl
theorem kd_nf (hf : ¬ wd tb L s_fail a = true) (h : kdP tb L a = .inl (b, κ)) : κ = 0 ∨ κ = 1 := by
  unfold kdP at h
  rw [if_neg hf] at h
  by_cases h2 : wd tb L s_bear a = true
  · rw [if_pos h2] at h
    cases h
    exact Or.inr rfl
  · rw [if_neg h2] at h
    by_cases h3 : wd tb L s_wear a = true
    · rw [if_pos h3] at h
      cases h
      exact Or.inl rfl
    · rw [if_neg h3] at h
      cases h
/-- what a line of the law makes, in the class -/
def LLw (τ : gτ) (x l' : Nat) (tb : Nat → Nat) (L c : Nat) (G : gG) (Λ : List lwL) (P : List (Nat × Int32)) (z : (Nat × Int32 × Int32 × List (Nat × Int32)) ⊕ Nat) (q : (Int32 × Int32 × gG) ⊕ (Int32 × gG)) : Prop := ∃ v G', q = .inl (v, nI (c + 1), G') ∧ LPf x l' G G' ∧ ((∃ f, z = .inr f ∧ v = 0 ∧ LQ τ G' x l' tb L (.inr f)) ∨ ∃ r, z = .inl r ∧ LRw G' l' (lnX Λ P r) ∧ v = enV tb L (.inl r.1) ∧ LQ τ G' x l' tb L (enX tb L (.inl (r.1, P ++ r.2.2.2))))
theorem c_lawFin {G1 : gG} {x4 u v : Int32} {z : (Nat × Int32 × Int32 × List (Nat × Int32)) ⊕ Nat} (hR : LRw G l' Λ) (hΛ : Λ.length = c) (hc : c < 12) (hx : x + 4 < l') (m1 : LM x l' G G1) (h1 : llC τ G1 x l' tb L P v z) (hk : ∀ r, z = .inl r → r.2.1 = κ ∧ (P ++ r.2.2.2).length ≤ 400) (hu : u = if κ = 0 then 1 else 0) (h4 : (x4 = 0 ∧ ¬ κ = -1) ∨ (¬ x4 = 0 ∧ κ = -1)) (hn : 500 < n) : gOk (k_X2_read_102 τ n (x + 4) (nI c) x4 u v G1) (LLw τ x l' tb L c G Λ P z) := by
  have hR1 := hR.lm m1 hx
  have h6 : gi G1 1 6 l' = nI c := by rw [hR1.1, hΛ]
  cases z with
  | inr f =>
    refine gOk.mono (c_k102 (s := .inr f) h1 (fun r e => by cases e) h6 hc hn) fun q hq => ?_
    obtain ⟨G', q1, q2, q3, -⟩ := hq
    exact ⟨0, G', q1, (LPf.lm m1).tr q2, Or.inl ⟨f, rfl, rfl, q3⟩⟩
  | inl r =>
    obtain ⟨h1, e1⟩ := h1
    obtain ⟨k1, k2⟩ := hk r rfl
    refine gOk.mono (c_k102 (s := .inl (r.1, P ++ r.2.2.2)) h1 (fun r' e => by cases e; exact k2) h6 hc hn) fun q hq => ?_
    obtain ⟨G', q1, q2, q3, q4⟩ := hq
    refine ⟨_, G', q1, (LPf.lm m1).tr q2, Or.inr ⟨r, rfl, q4 Λ _ hR1 hΛ ?_ ?_ ?_, rfl, q3⟩⟩
    · rw [h1.2.2.1, List.length_append]
    · show u = if r.2.1 = 0 then 1 else 0
      rw [k1]
      exact hu
    · show (if x4 = 0 then v else -v) = if r.2.1 = -1 then - r.2.2.1 else r.2.2.1
      rw [k1, e1]
      rcases h4 with ⟨g1, g2⟩ | ⟨g1, g2⟩
      · rw [if_pos g1, if_neg g2]
      · rw [if_neg g1, if_pos g2]
theorem c_lawLine (h : LQ τ G x l' tb L (.inl (a, P))) (hR : LRw G l' Λ) (hΛ : Λ.length = c) (hc : c < 12) (hP : P.length ≤ a) (hn : 500 < n) : gOk (b_X2_read_37 τ n (x + 4) 1 (nI c) G) (LLw τ x l' tb L c G Λ P (llR tb L a)) := by
  have hle := h.le
  have hx := h.1.2.2
  have hk : ∀ {b κ}, kdP tb L a = .inl (b, κ) → ∀ r, llN tb L b κ = .inl r → r.2.1 = κ ∧ (P ++ r.2.2.2).length ≤ 400 := fun {b κ} e r hr => by
    refine ⟨llN_k hr, ?_⟩
    obtain ⟨e', κ', v', Q'⟩ := r
    have ho : LLO L a e' κ' v' Q' := ll_ok hle.1 (by unfold llR; rw [e]; exact hr)
    obtain ⟨⟨o1, o2⟩, o3, -⟩ := ho
    rw [List.length_append]
    show P.length + Q'.length ≤ 400
    omega
  unfold b_X2_read_37
  rw [if_neg (show ¬ (12 : Int32) ≤ nI c from nI_ge (b := 12) hc (by decide)), if_neg ka_n10, h.1.1.1, ka_bs, ka_bind2]
  refine gOk.mono (c_tkW h.2.1 wo_fail hn) fun q hq => ?_
  obtain ⟨v10, G1⟩ := q
  obtain ⟨d1, hq⟩ := hq
  have d1 : TE x G G1 := d1
  rcases hq with ⟨w1, e1, j1⟩ | ⟨w1, e1⟩
  · have e1 : v10 = 1 := e1
    subst e1
    have j1 : TJ τ G1 x tb L (.inl (bl tb L (a + 4))) := j1
    obtain ⟨m1, h1⟩ := h.mv d1 j1
    have h0 : a + 4 ≤ L := wd_le w1 hle.1
    have hb := bl_le (tb := tb) h0
    have ek : kdP tb L a = .inl (bl tb L (a + 4), -1) := by
      unfold kdP
      rw [if_pos w1]
    have ez : llR tb L a = llN tb L (bl tb L (a + 4)) (-1) := by
      unfold llR
      rw [ek]
    rw [ez, if_neg ka_n10]
    show gOk (k_X2_read_71 τ n (x + 4) (nI c) 1 0 G1) _
    unfold k_X2_read_71
    rw [h1.1.1.1, ka_bs]
    refine c_llN (κ := -1) (K := fun v G => k_X2_read_102 τ n (x + 4) (nI c) 1 0 v G) h1 (by omega) hn (fun v G' m' k' => ?_)
    exact c_lawFin hR hΛ hc hx (m1.tr m') k' (hk ek) rfl (Or.inr ⟨ka_n10, rfl⟩) hn
  · cases e1
    rw [if_pos rfl]
    show gOk (gBind2 (f_X2_takeKind τ n (x + 4) G) fun v12 G13 => k_X2_read_71 τ n (x + 4) (nI c) 0 v12 G13) _
    rw [ka_bind2]
    refine gOk.mono (c_kind h (by omega) w1 hn) fun q hq => ?_
    obtain ⟨v12, G13⟩ := q
    obtain ⟨m1, h1⟩ := hq
    have m1 : LM x l' G G13 := m1
    have h1 : kdC τ G13 x l' tb L P v12 (kdP tb L a) := h1
    show gOk (k_X2_read_71 τ n (x + 4) (nI c) 0 v12 G13) _
    unfold k_X2_read_71
    cases ek : kdP tb L a with
    | inl r =>
      obtain ⟨b, κ⟩ := r
      rw [ek] at h1
      obtain ⟨h1, e1⟩ := h1
      have h1 : LQ τ G13 x l' tb L (.inl (b, P)) := h1
      have e1 : v12 = if κ = 0 then 1 else 0 := e1
      obtain ⟨⟨g1, g2⟩, -⟩ := kd_ok hle.1 ek
      have ez : llR tb L a = llN tb L b κ := by
        unfold llR
        rw [ek]
      rw [ez, h1.1.1.1, ka_bs]
      refine c_llN (κ := κ) (K := fun v G => k_X2_read_102 τ n (x + 4) (nI c) 0 v12 v G) h1 (by omega) hn (fun v G' m' k' => ?_)
      refine c_lawFin hR hΛ hc hx (m1.tr m') k' (hk ek) e1 (Or.inl ⟨rfl, ?_⟩) hn
      rcases kd_nf w1 ek with g | g
      · subst g; decide
      · subst g; decide
    | inr f =>
      rw [ek] at h1
      have h1 : LQ τ G13 x l' tb L (.inr f) := h1
      have ez : llR tb L a = .inr f := by
        unfold llR
        rw [ek]
      rw [ez, h1.1.1.1, ka_bs]
      refine c_llN0 (K := fun v G => k_X2_read_102 τ n (x + 4) (nI c) 0 v12 v G) h1 hn (fun v G' m' k' => ?_)
      have hR1 := hR.lm (m1.tr m') hx
      refine gOk.mono (c_k102 (s := .inr f) k' (fun r e => by cases e) (show gi G' 1 6 l' = nI c by rw [hR1.1, hΛ]) hc hn) fun q hq => ?_
      obtain ⟨G2, q1, q2, q3, -⟩ := hq
      exact ⟨0, G2, q1, (LPf.lm (m1.tr m')).tr q2, Or.inl ⟨f, rfl, rfl, q3⟩⟩
end
