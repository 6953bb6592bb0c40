/-! TEXTS: parts and sums of the law, in the class -/
section
variable {τ : gτ} {n : Nat} {G G' G'' : gG} {x l' : Nat} {tb : Nat → Nat} {L a b f : Nat} {P Q : List (Nat × Int32)} {z : (Nat × List (Nat × Int32)) ⊕ Nat}
theorem wo_weak : wO s_weak := wO_of (by decide)
theorem wo_strong : wO s_strong := wO_of (by decide)
theorem wo_reigns : wO s_reigns := wO_of (by decide)
theorem wo_worn : wO s_worn := wO_of (by decide)
theorem wo_plies : wO s_plies := wO_of (by decide)
theorem wo_load : wO s_load := wO_of (by decide)
/-- the place that a reading ends at, or its fault -/
def plR : (Nat × List (Nat × Int32)) ⊕ Nat → Nat ⊕ Nat
  | .inl r => .inl r.1
  | .inr f => .inr f
/-- a code shows one step -/
def cd1 (z : (Nat × List (Nat × Int32)) ⊕ Nat) (v : Int32) : Prop := ∀ b Q, z = .inl (b, Q) → ∃ s, Q = [s] ∧ v = cdS (nI s.1) s.2
theorem c_takePart (h20 : gr G 2 0 (x + 4) = some (x + 1)) (h : TJ τ G x tb L (.inl a)) (hn : 500 < n) : gOk (f_X2_takePart τ n (x + 4) G) (fun q => TE x G q.2 ∧ TJ τ q.2 x tb L (plR (ptP tb L a)) ∧ cd1 (ptP tb L a) q.1) := by
  unfold f_X2_takePart ptP ptL
  rw [h20, ka_bs, ka_bind2]
  refine gOk.mono (c_tkW h wo_weak hn) fun q hq => ?_
  obtain ⟨d1, hq⟩ := hq
  rcases hq with ⟨w1, e1, j1⟩ | ⟨w1, e1⟩
  · obtain ⟨v, G1⟩ := q
    have e1 : v = 1 := e1
    subst e1
    have d1 : TE x G G1 := d1
    have j1 : TJ τ G1 x tb L (.inl (bl tb L (a + s_weak.length))) := j1
    rw [if_neg ka_n10, show ptW tb L a [(s_weak, 0), (s_strong, 1), (s_rot, 2), (s_reigns, 3), (s_tar, 4), (s_worn, 5), (s_long, 6), (s_plies, 7), (s_load, 8)] = .inl (bl tb L (a + s_weak.length), [(0, 0)]) from if_pos w1]
    exact ⟨_, rfl, d1, j1, fun b Q hb => by cases hb; exact ⟨_, rfl, rfl⟩⟩
  subst e1
  rw [if_pos rfl, show ptW tb L a [(s_weak, 0), (s_strong, 1), (s_rot, 2), (s_reigns, 3), (s_tar, 4), (s_worn, 5), (s_long, 6), (s_plies, 7), (s_load, 8)] = ptW tb L a [(s_strong, 1), (s_rot, 2), (s_reigns, 3), (s_tar, 4), (s_worn, 5), (s_long, 6), (s_plies, 7), (s_load, 8)] from if_neg w1]
  show gOk ((gr G 2 0 (x + 4)).bind _) _
  rw [h20, ka_bs, ka_bind2]
  refine gOk.mono (c_tkW h wo_strong hn) fun q hq => ?_
  obtain ⟨d1, hq⟩ := hq
  rcases hq with ⟨w1, e1, j1⟩ | ⟨w1, e1⟩
  · obtain ⟨v, G1⟩ := q
    have e1 : v = 1 := e1
    subst e1
    have d1 : TE x G G1 := d1
    have j1 : TJ τ G1 x tb L (.inl (bl tb L (a + s_strong.length))) := j1
    rw [if_neg ka_n10, show ptW tb L a [(s_strong, 1), (s_rot, 2), (s_reigns, 3), (s_tar, 4), (s_worn, 5), (s_long, 6), (s_plies, 7), (s_load, 8)] = .inl (bl tb L (a + s_strong.length), [(1, 0)]) from if_pos w1]
    exact ⟨_, rfl, d1, j1, fun b Q hb => by cases hb; exact ⟨_, rfl, rfl⟩⟩
  subst e1
  rw [if_pos rfl, show ptW tb L a [(s_strong, 1), (s_rot, 2), (s_reigns, 3), (s_tar, 4), (s_worn, 5), (s_long, 6), (s_plies, 7), (s_load, 8)] = ptW tb L a [(s_rot, 2), (s_reigns, 3), (s_tar, 4), (s_worn, 5), (s_long, 6), (s_plies, 7), (s_load, 8)] from if_neg w1]
  show gOk ((gr G 2 0 (x + 4)).bind _) _
  rw [h20, ka_bs, ka_bind2]
  refine gOk.mono (c_tkW h wo_rot hn) fun q hq => ?_
  obtain ⟨d1, hq⟩ := hq
  rcases hq with ⟨w1, e1, j1⟩ | ⟨w1, e1⟩
  · obtain ⟨v, G1⟩ := q
    have e1 : v = 1 := e1
    subst e1
    have d1 : TE x G G1 := d1
    have j1 : TJ τ G1 x tb L (.inl (bl tb L (a + s_rot.length))) := j1
    rw [if_neg ka_n10, show ptW tb L a [(s_rot, 2), (s_reigns, 3), (s_tar, 4), (s_worn, 5), (s_long, 6), (s_plies, 7), (s_load, 8)] = .inl (bl tb L (a + s_rot.length), [(2, 0)]) from if_pos w1]
    exact ⟨_, rfl, d1, j1, fun b Q hb => by cases hb; exact ⟨_, rfl, rfl⟩⟩
  subst e1
  rw [if_pos rfl, show ptW tb L a [(s_rot, 2), (s_reigns, 3), (s_tar, 4), (s_worn, 5), (s_long, 6), (s_plies, 7), (s_load, 8)] = ptW tb L a [(s_reigns, 3), (s_tar, 4), (s_worn, 5), (s_long, 6), (s_plies, 7), (s_load, 8)] from if_neg w1]
  show gOk ((gr G 2 0 (x + 4)).bind _) _
  rw [h20, ka_bs, ka_bind2]
  refine gOk.mono (c_tkW h wo_reigns hn) fun q hq => ?_
  obtain ⟨d1, hq⟩ := hq
  rcases hq with ⟨w1, e1, j1⟩ | ⟨w1, e1⟩
  · obtain ⟨v, G1⟩ := q
    have e1 : v = 1 := e1
    subst e1
    have d1 : TE x G G1 := d1
    have j1 : TJ τ G1 x tb L (.inl (bl tb L (a + s_reigns.length))) := j1
    rw [if_neg ka_n10, show ptW tb L a [(s_reigns, 3), (s_tar, 4), (s_worn, 5), (s_long, 6), (s_plies, 7), (s_load, 8)] = .inl (bl tb L (a + s_reigns.length), [(3, 0)]) from if_pos w1]
    exact ⟨_, rfl, d1, j1, fun b Q hb => by cases hb; exact ⟨_, rfl, rfl⟩⟩
  subst e1
  rw [if_pos rfl, show ptW tb L a [(s_reigns, 3), (s_tar, 4), (s_worn, 5), (s_long, 6), (s_plies, 7), (s_load, 8)] = ptW tb L a [(s_tar, 4), (s_worn, 5), (s_long, 6), (s_plies, 7), (s_load, 8)] from if_neg w1]
  show gOk ((gr G 2 0 (x + 4)).bind _) _
  rw [h20, ka_bs, ka_bind2]
  refine gOk.mono (c_tkW h wo_tar hn) fun q hq => ?_
  obtain ⟨d1, hq⟩ := hq
  rcases hq with ⟨w1, e1, j1⟩ | ⟨w1, e1⟩
  · obtain ⟨v, G1⟩ := q
    have e1 : v = 1 := e1
    subst e1
    have d1 : TE x G G1 := d1
    have j1 : TJ τ G1 x tb L (.inl (bl tb L (a + s_tar.length))) := j1
    rw [if_neg ka_n10, show ptW tb L a [(s_tar, 4), (s_worn, 5), (s_long, 6), (s_plies, 7), (s_load, 8)] = .inl (bl tb L (a + s_tar.length), [(4, 0)]) from if_pos w1]
    exact ⟨_, rfl, d1, j1, fun b Q hb => by cases hb; exact ⟨_, rfl, rfl⟩⟩
  subst e1
  rw [if_pos rfl, show ptW tb L a [(s_tar, 4), (s_worn, 5), (s_long, 6), (s_plies, 7), (s_load, 8)] = ptW tb L a [(s_worn, 5), (s_long, 6), (s_plies, 7), (s_load, 8)] from if_neg w1]
  show gOk ((gr G 2 0 (x + 4)).bind _) _
  rw [h20, ka_bs, ka_bind2]
  refine gOk.mono (c_tkW h wo_worn hn) fun q hq => ?_
  obtain ⟨d1, hq⟩ := hq
  rcases hq with ⟨w1, e1, j1⟩ | ⟨w1, e1⟩
  · obtain ⟨v, G1⟩ := q
    have e1 : v = 1 := e1
    subst e1
    have d1 : TE x G G1 := d1
    have j1 : TJ τ G1 x tb L (.inl (bl tb L (a + s_worn.length))) := j1
    rw [if_neg ka_n10, show ptW tb L a [(s_worn, 5), (s_long, 6), (s_plies, 7), (s_load, 8)] = .inl (bl tb L (a + s_worn.length), [(5, 0)]) from if_pos w1]
    exact ⟨_, rfl, d1, j1, fun b Q hb => by cases hb; exact ⟨_, rfl, rfl⟩⟩
  subst e1
  rw [if_pos rfl, show ptW tb L a [(s_worn, 5), (s_long, 6), (s_plies, 7), (s_load, 8)] = ptW tb L a [(s_long, 6), (s_plies, 7), (s_load, 8)] from if_neg w1]
  show gOk ((gr G 2 0 (x + 4)).bind _) _
  rw [h20, ka_bs, ka_bind2]
  refine gOk.mono (c_tkW h wo_long hn) fun q hq => ?_
  obtain ⟨d1, hq⟩ := hq
  rcases hq with ⟨w1, e1, j1⟩ | ⟨w1, e1⟩
  · obtain ⟨v, G1⟩ := q
    have e1 : v = 1 := e1
    subst e1
    have d1 : TE x G G1 := d1
    have j1 : TJ τ G1 x tb L (.inl (bl tb L (a + s_long.length))) := j1
    rw [if_neg ka_n10, show ptW tb L a [(s_long, 6), (s_plies, 7), (s_load, 8)] = .inl (bl tb L (a + s_long.length), [(6, 0)]) from if_pos w1]
    exact ⟨_, rfl, d1, j1, fun b Q hb => by cases hb; exact ⟨_, rfl, rfl⟩⟩
  subst e1
  rw [if_pos rfl, show ptW tb L a [(s_long, 6), (s_plies, 7), (s_load, 8)] = ptW tb L a [(s_plies, 7), (s_load, 8)] from if_neg w1]
  show gOk ((gr G 2 0 (x + 4)).bind _) _
  rw [h20, ka_bs, ka_bind2]
  refine gOk.mono (c_tkW h wo_plies hn) fun q hq => ?_
  obtain ⟨d1, hq⟩ := hq
  rcases hq with ⟨w1, e1, j1⟩ | ⟨w1, e1⟩
  · obtain ⟨v, G1⟩ := q
    have e1 : v = 1 := e1
    subst e1
    have d1 : TE x G G1 := d1
    have j1 : TJ τ G1 x tb L (.inl (bl tb L (a + s_plies.length))) := j1
    rw [if_neg ka_n10, show ptW tb L a [(s_plies, 7), (s_load, 8)] = .inl (bl tb L (a + s_plies.length), [(7, 0)]) from if_pos w1]
    exact ⟨_, rfl, d1, j1, fun b Q hb => by cases hb; exact ⟨_, rfl, rfl⟩⟩
  subst e1
  rw [if_pos rfl, show ptW tb L a [(s_plies, 7), (s_load, 8)] = ptW tb L a [(s_load, 8)] from if_neg w1]
  show gOk ((gr G 2 0 (x + 4)).bind _) _
  rw [h20, ka_bs, ka_bind2]
  refine gOk.mono (c_tkW h wo_load hn) fun q hq => ?_
  obtain ⟨d1, hq⟩ := hq
  rcases hq with ⟨w1, e1, j1⟩ | ⟨w1, e1⟩
  · obtain ⟨v, G1⟩ := q
    have e1 : v = 1 := e1
    subst e1
    have d1 : TE x G G1 := d1
    have j1 : TJ τ G1 x tb L (.inl (bl tb L (a + s_load.length))) := j1
    rw [if_neg ka_n10, show ptW tb L a [(s_load, 8)] = .inl (bl tb L (a + s_load.length), [(8, 0)]) from if_pos w1]
    exact ⟨_, rfl, d1, j1, fun b Q hb => by cases hb; exact ⟨_, rfl, rfl⟩⟩
  subst e1
  rw [if_pos rfl, show ptW tb L a [(s_load, 8)] = ptW tb L a [] from if_neg w1]
  show gOk ((gr G 2 0 (x + 4)).bind fun a37 => gBind2 (f_X7_takeNumber τ n a37 0 999 G) fun v38 G39 => some (v38, G39)) _
  rw [h20, ka_bs, ka_bind2]
  refine gOk.mono (c_nb h (lo := 0) (hi := 999) (by decide) hn) fun q hq => ?_
  obtain ⟨v, G1⟩ := q
  obtain ⟨d1, e1, j1⟩ := hq
  have e1 : v = nbV tb L 0 999 (.inl a) := e1
  have d1 : TE x G G1 := d1
  have j1 : TJ τ G1 x tb L (nbS tb L 0 999 (.inl a)) := j1
  refine ⟨_, rfl, d1, ?_, ?_⟩
  · show TJ τ G1 x tb L (plR (ptN tb L a))
    unfold ptN
    cases hr : nbS tb L 0 999 (.inl a) with
    | inl b => rw [hr] at j1; exact j1
    | inr f => rw [hr] at j1; exact j1
  · show cd1 (ptN tb L a) v
    unfold ptN
    cases hr : nbS tb L 0 999 (.inl a) with
    | inl b => exact fun b' Q hb => by cases hb; exact ⟨_, rfl, e1⟩
    | inr f => exact fun b' Q hb => by cases hb
theorem c_takePart0 (h20 : gr G 2 0 (x + 4) = some (x + 1)) (h : TJ τ G x tb L (.inr f)) (hn : 500 < n) : gOk (f_X2_takePart τ n (x + 4) G) (fun q => TE x G q.2 ∧ TJ τ q.2 x tb L (.inr f)) := by
  have t0 : ∀ {w : List Int32}, f_X7_takeWord τ n (x + 1) w G = some (0, G) := c_tkW0 h
  unfold f_X2_takePart
  rw [h20, ka_bs, ka_b2 t0, if_pos rfl]
  show gOk ((gr G 2 0 (x + 4)).bind _) _
  rw [h20, ka_bs, ka_b2 t0, if_pos rfl]
  show gOk ((gr G 2 0 (x + 4)).bind _) _
  rw [h20, ka_bs, ka_b2 t0, if_pos rfl]
  show gOk ((gr G 2 0 (x + 4)).bind _) _
  rw [h20, ka_bs, ka_b2 t0, if_pos rfl]
  show gOk ((gr G 2 0 (x + 4)).bind _) _
  rw [h20, ka_bs, ka_b2 t0, if_pos rfl]
  show gOk ((gr G 2 0 (x + 4)).bind _) _
  rw [h20, ka_bs, ka_b2 t0, if_pos rfl]
  show gOk ((gr G 2 0 (x + 4)).bind _) _
  rw [h20, ka_bs, ka_b2 t0, if_pos rfl]
  show gOk ((gr G 2 0 (x + 4)).bind _) _
  rw [h20, ka_bs, ka_b2 t0, if_pos rfl]
  show gOk ((gr G 2 0 (x + 4)).bind _) _
  rw [h20, ka_bs, ka_b2 t0, if_pos rfl]
  show gOk ((gr G 2 0 (x + 4)).bind fun a37 => gBind2 (f_X7_takeNumber τ n a37 0 999 G) fun v38 G39 => some (v38, G39)) _
  rw [h20, ka_bs, ka_bind2]
  refine gOk.mono (c_nb h (lo := 0) (hi := 999) (by decide) hn) fun q hq => ?_
  exact ⟨_, rfl, hq.1, hq.2.2⟩
/-- the class reads a law into l' -/
def LRS (τ : gτ) (G : gG) (x l' : Nat) : Prop := (gr G 2 0 (x + 4) = some (x + 1) ∧ gr G 2 1 (x + 4) = some l') ∧ FL τ G l' ∧ x + 4 < l'
/-- the codes so far -/
def CS (G : gG) (l' : Nat) (P : List (Nat × Int32)) : Prop := gi G 1 7 l' = nI P.length ∧ ∀ k s, P[k]? = some s → ge G (l' + 4) k = cdS (nI s.1) s.2
def LQ (τ : gτ) (G : gG) (x l' : Nat) (tb : Nat → Nat) (L : Nat) : (Nat × List (Nat × Int32)) ⊕ Nat → Prop
  | .inl r => LRS τ G x l' ∧ TJ τ G x tb L (.inl r.1) ∧ CS G l' r.2
  | .inr f => LRS τ G x l' ∧ TJ τ G x tb L (.inr f) ∧ ∃ c : Nat, c ≤ 400 ∧ gi G 1 7 l' = nI c
/-- of the law its codes alone have changed -/
def LM (x l' : Nat) (G G' : gG) : Prop := Fr (fun b => b = x + 1 ∨ b = l' ∨ b = l' + 4) G G' ∧ (∀ c k d, gr G' c k d = gr G c k d) ∧ ∀ c k, ¬ (c = 1 ∧ k = 7) → gi G' c k l' = gi G c k l'
theorem LM.rf : LM x l' G G := ⟨Fr.rf, fun _ _ _ => rfl, fun _ _ _ => rfl⟩
theorem LM.tr (h : LM x l' G G') (h' : LM x l' G' G'') : LM x l' G G'' := ⟨h.1.tr h'.1, fun c k d => (h'.2.1 c k d).trans (h.2.1 c k d), fun c k hn => (h'.2.2 c k hn).trans (h.2.2 c k hn)⟩
theorem LM.te (h : TE x G G') (hx : x + 4 < l') : LM x l' G G' := ⟨h.fr.mono fun _ hb => Or.inl hb, h.1, fun c k _ => h.2.2.2.2 c k l' (by omega)⟩
theorem LRS.lm (h : LRS τ G x l') (hd : LM x l' G G') : LRS τ G' x l' := by
  obtain ⟨⟨a1, a2⟩, a3, a4⟩ := h
  refine ⟨⟨by rw [hd.2.1]; exact a1, by rw [hd.2.1]; exact a2⟩, ?_, a4⟩
  unfold FL at a3 ⊢
  simp only [hd.2.1]
  exact a3
theorem LQ.ls (h : LQ τ G x l' tb L z) : LRS τ G x l' := by
  cases z with
  | inl r => exact h.1
  | inr f => exact h.1
theorem LQ.tj (h : LQ τ G x l' tb L z) : TJ τ G x tb L (plR z) := by
  cases z with
  | inl r => exact h.2.1
  | inr f => exact h.2.1
theorem CS.te (h : CS G l' P) (hd : TE x G G') (hx : x + 4 < l') : CS G' l' P := ⟨by rw [hd.2.2.2.2 _ _ _ (by omega)]; exact h.1, fun k s hk => by rw [hd.2.1]; exact h.2 k s hk⟩
/-- the tape has moved on, or stopped -/
theorem LQ.mv (h : LQ τ G x l' tb L (.inl (a, P))) (hd : TE x G G') (hJ : TJ τ G' x tb L (.inl b)) : LM x l' G G' ∧ LQ τ G' x l' tb L (.inl (b, P)) := by
  have hx := h.1.2.2
  exact ⟨LM.te hd hx, h.1.lm (LM.te hd hx), hJ, h.2.2.te hd hx⟩
theorem LQ.no (h : LQ τ G x l' tb L (.inl (a, P))) (hl : P.length ≤ 400) (hd : TE x G G') (hJ : TJ τ G' x tb L (.inr f)) : LM x l' G G' ∧ LQ τ G' x l' tb L (.inr f) := by
  have hx := h.1.2.2
  exact ⟨LM.te hd hx, h.1.lm (LM.te hd hx), hJ, P.length, hl, (h.2.2.te hd hx).1⟩
theorem LQ.mv0 (h : LQ τ G x l' tb L (.inr f)) (hd : TE x G G') (hJ : TJ τ G' x tb L (.inr f)) : LM x l' G G' ∧ LQ τ G' x l' tb L (.inr f) := by
  have hx := h.1.2.2
  obtain ⟨h1, -, c, hc, h2⟩ := h
  exact ⟨LM.te hd hx, h1.lm (LM.te hd hx), hJ, c, hc, by rw [hd.2.2.2.2 _ _ _ (by omega)]; exact h2⟩
theorem emit_e {c : Nat} {v : Int32} (hL : LRS τ G x l') (hc : c < 400) (h7 : gi G 1 7 l' = nI c) : f_X1_emit τ l' v G = some (gsi (gse G (l' + 4) c v) 1 7 l' (nI (c + 1))) := by
  unfold f_X1_emit
  have h4 : gr G 1 3 l' = some (l' + 4) := hL.2.1.1.2.2.2.1
  have hn : gn τ (l' + 4) = 400 := hL.2.1.2.2.2.2.1
  rw [h7, if_neg (show ¬ (400 : Int32) ≤ nI c from nI_ge (b := 400) hc (by decide)), h4, ka_bs, ka_chkT (show gIn (nI c) (gn τ (l' + 4)) by rw [hn]; exact ka_in hc (by decide)), nI_clamp (by omega), ka_letE, ka_letE]
  rw [show gi (gse G (l' + 4) c v) 1 7 l' = nI c from h7, nI_1]
theorem emit_m {c : Nat} {v u : Int32} : LM x l' G (gsi (gse G (l' + 4) c v) 1 7 l' u) := ⟨(Fr.e (A := fun b => b = x + 1 ∨ b = l' ∨ b = l' + 4) (Or.inr (Or.inr rfl))).tr (Fr.i (A := fun b => b = x + 1 ∨ b = l' ∨ b = l' + 4) (Or.inr (Or.inl rfl))), fun _ _ _ => rfl, fun c k hn => by rw [ka_ii, if_neg (fun h => hn ⟨h.1, h.2.1⟩)]; rfl⟩
theorem TJ.em {r : Nat ⊕ Nat} {c : Nat} {v u : Int32} (h : TJ τ G x tb L r) (hx : x + 4 < l') : TJ τ (gsi (gse G (l' + 4) c v) 1 7 l' u) x tb L r := h.mv (A := fun b => b = l' ∨ b = l' + 4) ((Fr.e (A := fun b => b = l' ∨ b = l' + 4) (Or.inr rfl)).tr (Fr.i (A := fun b => b = l' ∨ b = l' + 4) (Or.inl rfl))) (by omega) (by omega)
theorem c_emit {s : Nat × Int32} (h : LQ τ G x l' tb L (.inl (a, P))) (hl : P.length < 400) : gOk (f_X1_emit τ l' (cdS (nI s.1) s.2) G) (fun G' => LM x l' G G' ∧ LQ τ G' x l' tb L (.inl (a, P ++ [s]))) := by
  obtain ⟨h1, h2, h3, h4⟩ := h
  refine ⟨_, emit_e h1 hl h3, emit_m, h1.lm emit_m, h2.em h1.2.2, ?_, fun k u hk => ?_⟩
  · show gi (gsi _ 1 7 l' _) 1 7 l' = nI (P ++ [s]).length
    rw [ka_ii, if_pos ⟨rfl, rfl, rfl⟩, List.length_append]
    rfl
  · show ge (gse G (l' + 4) P.length _) (l' + 4) k = _
    rw [ka_ee]
    rw [List.getElem?_append] at hk
    by_cases hkp : k < P.length
    · rw [if_pos hkp] at hk
      rw [if_neg (by omega)]
      exact h4 k u hk
    · rw [if_neg hkp] at hk
      by_cases hk0 : k - P.length = 0
      · rw [hk0] at hk
        cases hk
        rw [if_pos ⟨rfl, by omega⟩]
      · exfalso
        rw [List.getElem?_eq_none (by show 1 ≤ k - P.length; omega)] at hk
        cases hk
theorem c_emit0 {v : Int32} (h : LQ τ G x l' tb L (.inr f)) : gOk (f_X1_emit τ l' v G) (fun G' => LM x l' G G' ∧ LQ τ G' x l' tb L (.inr f)) := by
  obtain ⟨h1, h2, c, h3, h4⟩ := id h
  by_cases hc : c < 400
  · refine ⟨_, emit_e h1 hc h4, emit_m, h1.lm emit_m, h2.em h1.2.2, c + 1, by omega, ?_⟩
    rw [ka_ii, if_pos ⟨rfl, rfl, rfl⟩]
  · unfold f_X1_emit
    rw [h4, if_pos (show (400 : Int32) ≤ nI c from nI_le (a := 400) (by omega) (by omega))]
    exact ⟨_, rfl, LM.rf, h⟩
end
