/-! TEXTS: a whole line of the walk -/
section
variable {tb : Nat → Nat} {L a b f : Nat} {ω : gW} {w w' : List Int32}
theorem wd_x (h : wd tb L w a) (hw : wO w) (hw' : wO w') (hne : w.getD 0 0 ≠ w'.getD 0 0) : wd tb L w' a = false := by
  cases hb : wd tb L w' a with
  | false => rfl
  | true => exact absurd (((wd_iff.mp h).2 0 hw.1.1).symm.trans ((wd_iff.mp hb).2 0 hw'.1.1)) hne
def ln93 (tb : Nat → Nat) (L : Nat) (ω : gW) (a : Nat) : (Nat ⊕ Nat) × gW :=
  if wd tb L s_hang a then (hgS tb L ω (bl tb L (a + s_hang.length)), hgW tb L ω (bl tb L (a + s_hang.length)))
  else if wd tb L s_tar a then (ttS tb L ω (bl tb L (a + s_tar.length)), ttW tb L ω (bl tb L (a + s_tar.length)))
  else if wd tb L s_whip a then (orpS tb L ω (bl tb L (a + s_whip.length)), whW tb L ω (bl tb L (a + s_whip.length)))
  else if wd tb L s_gale a then (nbS tb L 0 100 (.inl (bl tb L (a + s_gale.length))), wSt ω 6 (nbV tb L 0 100 (.inl (bl tb L (a + s_gale.length)))))
  else if wd tb L s_damp a then (nbS tb L 0 100 (.inl (bl tb L (a + s_damp.length))), wSt ω 7 (nbV tb L 0 100 (.inl (bl tb L (a + s_damp.length)))))
  else (.inr a, ω)
def ln62 (tb : Nat → Nat) (L : Nat) (ω : gW) (a : Nat) : (Nat ⊕ Nat) × gW :=
  if cO ω < 8 ∧ wd tb L s_order a = true then (or3 tb L (.inl (bl tb L (a + s_order.length))), orW tb L ω (.inl (bl tb L (a + s_order.length)))) else ln93 tb L ω a
def ln31 (tb : Nat → Nat) (L : Nat) (ω : gW) (a : Nat) : (Nat ⊕ Nat) × gW :=
  if cR ω < 8 ∧ wd tb L s_rope a = true then (rrq5 tb L ω (bl tb L (a + s_rope.length)), rpW tb L ω (bl tb L (a + s_rope.length))) else ln62 tb L ω a
def lnR (tb : Nat → Nat) (L : Nat) (ω : gW) (a : Nat) : (Nat ⊕ Nat) × gW :=
  if cY ω < 10 ∧ wd tb L s_yarn a = true then (yr4 tb L (.inl (bl tb L (a + s_yarn.length))), yrW tb L ω (.inl (bl tb L (a + s_yarn.length)))) else ln31 tb L ω a
theorem ln_nw (hI : WI ω) (h : (lnR tb L ω a).1 = .inl b) : NW ω (lnR tb L ω a).2 := by
  unfold lnR at h ⊢
  by_cases h1 : cY ω < 10 ∧ wd tb L s_yarn a = true
  · rw [if_pos h1] at h ⊢
    exact yr_nw hI h1.1 h
  rw [if_neg h1] at h ⊢
  unfold ln31 at h ⊢
  by_cases h2 : cR ω < 8 ∧ wd tb L s_rope a = true
  · rw [if_pos h2] at h ⊢
    exact rp_nw hI h2.1 h
  rw [if_neg h2] at h ⊢
  unfold ln62 at h ⊢
  by_cases h3 : cO ω < 8 ∧ wd tb L s_order a = true
  · rw [if_pos h3] at h ⊢
    exact or_nw hI h3.1 h
  rw [if_neg h3] at h ⊢
  unfold ln93 at h ⊢
  by_cases h4 : wd tb L s_hang a = true
  · rw [if_pos h4] at h ⊢
    exact hg_nw hI h
  rw [if_neg h4] at h ⊢
  by_cases h5 : wd tb L s_tar a = true
  · rw [if_pos h5] at h ⊢
    exact tr_nw hI h
  rw [if_neg h5] at h ⊢
  by_cases h6 : wd tb L s_whip a = true
  · rw [if_pos h6] at h ⊢
    exact wh_nw hI h
  rw [if_neg h6] at h ⊢
  by_cases h7 : wd tb L s_gale a = true
  · rw [if_pos h7] at h ⊢
    exact gdW.nw hI (Or.inl rfl) (af_bt (l := 0) (h := 100) (by decide) (by decide) rfl rfl h)
  rw [if_neg h7] at h ⊢
  by_cases h8 : wd tb L s_damp a = true
  · rw [if_pos h8] at h ⊢
    exact gdW.nw hI (Or.inr rfl) (af_bt (l := 0) (h := 100) (by decide) (by decide) rfl rfl h)
  rw [if_neg h8]
  exact NW.rf hI
theorem wo_yarn : wO s_yarn := wO_of (by decide)
theorem wo_rope : wO s_rope := wO_of (by decide)
theorem wo_order : wO s_order := wO_of (by decide)
theorem wo_hang : wO s_hang := wO_of (by decide)
theorem wo_tar : wO s_tar := wO_of (by decide)
theorem wo_whip : wO s_whip := wO_of (by decide)
theorem wo_gale : wO s_gale := wO_of (by decide)
theorem wo_damp : wO s_damp := wO_of (by decide)
/-- a line that begins with one of the first three words is none of the others -/
theorem ln93_no (h : (wd tb L s_hang a = false ∧ wd tb L s_tar a = false ∧ wd tb L s_whip a = false ∧ wd tb L s_gale a = false) ∧ wd tb L s_damp a = false) : ln93 tb L ω a = (.inr a, ω) := by
  unfold ln93
  rw [h.1.1, h.1.2.1, h.1.2.2.1, h.1.2.2.2, h.2]
  rfl
theorem ln_noY (h : wd tb L s_yarn a = true) (h10 : ¬ cY ω < 10) : lnR tb L ω a = (.inr a, ω) := by
  unfold lnR
  rw [if_neg (fun e => h10 e.1)]
  unfold ln31
  rw [wd_x h wo_yarn wo_rope (by decide), if_neg (fun e => by cases e.2)]
  unfold ln62
  rw [wd_x h wo_yarn wo_order (by decide), if_neg (fun e => by cases e.2)]
  exact ln93_no ⟨⟨wd_x h wo_yarn wo_hang (by decide), wd_x h wo_yarn wo_tar (by decide), wd_x h wo_yarn wo_whip (by decide), wd_x h wo_yarn wo_gale (by decide)⟩, wd_x h wo_yarn wo_damp (by decide)⟩
theorem ln_noR (h : wd tb L s_rope a = true) (h10 : ¬ cR ω < 8) : lnR tb L ω a = (.inr a, ω) := by
  unfold lnR
  rw [wd_x h wo_rope wo_yarn (by decide), if_neg (fun e => by cases e.2)]
  unfold ln31
  rw [if_neg (fun e => h10 e.1)]
  unfold ln62
  rw [wd_x h wo_rope wo_order (by decide), if_neg (fun e => by cases e.2)]
  exact ln93_no ⟨⟨wd_x h wo_rope wo_hang (by decide), wd_x h wo_rope wo_tar (by decide), wd_x h wo_rope wo_whip (by decide), wd_x h wo_rope wo_gale (by decide)⟩, wd_x h wo_rope wo_damp (by decide)⟩
theorem ln_noO (h : wd tb L s_order a = true) (h10 : ¬ cO ω < 8) : lnR tb L ω a = (.inr a, ω) := by
  unfold lnR
  rw [wd_x h wo_order wo_yarn (by decide), if_neg (fun e => by cases e.2)]
  unfold ln31
  rw [wd_x h wo_order wo_rope (by decide), if_neg (fun e => by cases e.2)]
  unfold ln62
  rw [if_neg (fun e => h10 e.1)]
  exact ln93_no ⟨⟨wd_x h wo_order wo_hang (by decide), wd_x h wo_order wo_tar (by decide), wd_x h wo_order wo_whip (by decide), wd_x h wo_order wo_gale (by decide)⟩, wd_x h wo_order wo_damp (by decide)⟩
end
section
variable {τ : gτ} {n : Nat} {G G' G'' : gG} {x t : Nat} {tb : Nat → Nat} {L a b f : Nat} {r r' : Nat ⊕ Nat} {ω ω' : gW} {w : List Int32}
theorem RO.pre (hf : CF x t G G') (h : RO τ G' G'' x t tb L r ω) : RO τ G G'' x t tb L r ω := ⟨hf.tr h.1, h.2⟩
theorem rr_tw (h : RR τ G x t tb L (.inl a) ω) (hI : WI ω) (hw : wO w) (hn : 500 < n) : gOk (f_X7_takeWord τ n (x + 1) w G) (fun q => (wd tb L w a = true ∧ q.1 = 1 ∧ CF x t G q.2 ∧ RR τ q.2 x t tb L (.inl (bl tb L (a + w.length))) ω) ∨ (wd tb L w a = false ∧ q = (0, G))) := by
  refine gOk.mono (c_tkW h.2.1 hw hn) fun q hq => ?_
  obtain ⟨d, hq⟩ := hq
  rcases hq with ⟨h1, h2, h3⟩ | ⟨h1, h2⟩
  · exact Or.inl ⟨h1, h2, CF.te d, h.te hI d h3⟩
  · exact Or.inr ⟨Bool.eq_false_iff.mpr h1, h2⟩
theorem c_gd (h : RR τ G x t tb L (.inl a) ω) (hI : WI ω) (hn : 500 < n) {c k : Nat} (hk : (c = 8 ∧ k = 6) ∨ (c = 9 ∧ k = 7)) : gOk (gBind2 (f_X7_takeNumber τ n (x + 1) 0 100 G) fun v G1 => gLet (gsi G1 6 c t v) fun G2 => some G2) (fun G' => RO τ G G' x t tb L (nbS tb L 0 100 (.inl a)) (wSt ω k (nbV tb L 0 100 (.inl a)))) := by
  rw [ka_bind2]
  refine gOk.mono (rr_nb h hI (lo := 0) (hi := 100) (by decide) hn) fun q hq => ?_
  obtain ⟨v, G1⟩ := q
  obtain ⟨f1, e1, h1⟩ := hq
  have e1 : v = nbV tb L 0 100 (.inl a) := e1
  subst e1
  have f1 : CF x t G G1 := f1
  have h1 : RR τ G1 x t tb L (nbS tb L 0 100 (.inl a)) ω := h1
  rw [ka_letE]
  exact ⟨_, rfl, RO.wr f1 h1 ⟨s_gd h1.2.2 hI hk, h1.1.2.1, Fr.i (A := spn t) (show t ≤ t ∧ t ≤ t + 31 by omega)⟩⟩
theorem c_ln93 (h : RR τ G x t tb L (.inl a) ω) (hI : WI ω) (hn : 500 < n) : gOk (k_X8_readLine_93 τ n (x + 3) G) (fun G' => RO τ G G' x t tb L (ln93 tb L ω a).1 (ln93 tb L ω a).2) := by
  unfold k_X8_readLine_93 ln93
  rw [h.1.1.1, ka_bs, ka_bind2]
  refine gOk.mono (rr_tw h hI wo_hang hn) fun q hq => ?_
  rcases hq with ⟨w1, e1, f1, h1⟩ | ⟨w1, e1⟩
  · obtain ⟨v, G1⟩ := q
    have e1 : v = 1 := e1
    subst e1
    rw [if_neg ka_n10, w1, if_pos rfl, ka_bind]
    refine gOk.mono (c_readHang h1 hI hn) fun G2 g2 => ?_
    exact ⟨_, rfl, g2.pre f1⟩
  subst e1
  rw [if_pos rfl, w1, if_neg (by decide)]
  show gOk ((gr G 8 0 (x + 3)).bind _) _
  rw [h.1.1.1, ka_bs, ka_bind2]
  refine gOk.mono (rr_tw h hI wo_tar hn) fun q hq => ?_
  rcases hq with ⟨w1, e1, f1, h1⟩ | ⟨w1, e1⟩
  · obtain ⟨v, G1⟩ := q
    have e1 : v = 1 := e1
    subst e1
    rw [if_neg ka_n10, w1, if_pos rfl, ka_bind]
    refine gOk.mono (c_readTar h1 hI hn) fun G2 g2 => ?_
    exact ⟨_, rfl, g2.pre f1⟩
  subst e1
  rw [if_pos rfl, w1, if_neg (by decide)]
  show gOk ((gr G 8 0 (x + 3)).bind _) _
  rw [h.1.1.1, ka_bs, ka_bind2]
  refine gOk.mono (rr_tw h hI wo_whip hn) fun q hq => ?_
  rcases hq with ⟨w1, e1, f1, h1⟩ | ⟨w1, e1⟩
  · obtain ⟨v, G1⟩ := q
    have e1 : v = 1 := e1
    subst e1
    rw [if_neg ka_n10, w1, if_pos rfl, ka_bind]
    refine gOk.mono (c_readWhip h1 hI hn) fun G2 g2 => ?_
    exact ⟨_, rfl, g2.pre f1⟩
  subst e1
  rw [if_pos rfl, w1, if_neg (by decide)]
  show gOk ((gr G 8 0 (x + 3)).bind _) _
  rw [h.1.1.1, ka_bs, ka_bind2]
  refine gOk.mono (rr_tw h hI wo_gale hn) fun q hq => ?_
  rcases hq with ⟨w1, e1, f1, h1⟩ | ⟨w1, e1⟩
  · obtain ⟨v, G1⟩ := q
    have e1 : v = 1 := e1
    subst e1
    rw [if_neg ka_n10, w1, if_pos rfl]
    show gOk ((gr G1 8 1 (x + 3)).bind fun a31 => (gr G1 8 0 (x + 3)).bind fun a32 => gBind2 (f_X7_takeNumber τ n a32 0 100 G1) fun v33 G34 => gLet (gsi G34 6 8 a31 v33) fun G35 => some G35) _
    rw [h1.1.1.2, ka_bs, h1.1.1.1, ka_bs]
    refine gOk.mono (c_gd h1 hI hn (Or.inl ⟨rfl, rfl⟩)) fun G2 g2 => ?_
    exact g2.pre f1
  subst e1
  rw [if_pos rfl, w1, if_neg (by decide)]
  show gOk ((gr G 8 0 (x + 3)).bind _) _
  rw [h.1.1.1, ka_bs, ka_bind2]
  refine gOk.mono (rr_tw h hI wo_damp hn) fun q hq => ?_
  rcases hq with ⟨w1, e1, f1, h1⟩ | ⟨w1, e1⟩
  · obtain ⟨v, G1⟩ := q
    have e1 : v = 1 := e1
    subst e1
    rw [if_neg ka_n10, w1, if_pos rfl]
    show gOk ((gr G1 8 1 (x + 3)).bind fun a31 => (gr G1 8 0 (x + 3)).bind fun a32 => gBind2 (f_X7_takeNumber τ n a32 0 100 G1) fun v33 G34 => gLet (gsi G34 6 9 a31 v33) fun G35 => some G35) _
    rw [h1.1.1.2, ka_bs, h1.1.1.1, ka_bs]
    refine gOk.mono (c_gd h1 hI hn (Or.inr ⟨rfl, rfl⟩)) fun G2 g2 => ?_
    exact g2.pre f1
  subst e1
  rw [if_pos rfl, w1, if_neg (by decide)]
  show gOk ((gr G 8 0 (x + 3)).bind fun a24 => (f_X7_refuse a24 G).bind fun G25 => some G25) _
  rw [h.1.1.1, ka_bs, ka_bind]
  refine gOk.mono (c_refuse h.2.1) fun G1 g1 => ?_
  exact ⟨_, rfl, RO.of (CF.te g1.1) (h.te hI g1.1 g1.2)⟩
theorem c_ln62 (h : RR τ G x t tb L (.inl a) ω) (hI : WI ω) (hn : 500 < n) : gOk (k_X8_readLine_62 τ n (x + 3) G) (fun G' => RO τ G G' x t tb L (ln62 tb L ω a).1 (ln62 tb L ω a).2) := by
  have hb := hI.o1
  unfold k_X8_readLine_62 ln62
  rw [h.1.1.2, ka_bs, h.2.2.cn.2.2.1, hI.o0]
  by_cases h8 : cO ω < 8
  · rw [if_neg (show ¬ (8 : Int32) ≤ nI (cO ω) from nI_ge (b := 8) h8 (by decide)), h.1.1.1, ka_bs, ka_bind2]
    refine gOk.mono (rr_tw h hI wo_order hn) fun q hq => ?_
    rcases hq with ⟨w1, e1, f1, h1⟩ | ⟨w1, e1⟩
    · obtain ⟨v, G1⟩ := q
      have e1 : v = 1 := e1
      subst e1
      rw [if_neg ka_n10, if_pos ⟨h8, w1⟩, ka_bind]
      refine gOk.mono (c_readOrder h1 hI h8 hn) fun G2 g2 => ?_
      exact ⟨_, rfl, g2.pre f1⟩
    · subst e1
      rw [if_pos rfl, w1, if_neg (fun e => by cases e.2)]
      exact c_ln93 h hI hn
  · rw [if_pos (show (8 : Int32) ≤ nI (cO ω) from nI_le (a := 8) (by omega) (by omega)), if_neg (fun e => h8 e.1)]
    exact c_ln93 h hI hn
theorem c_ln31 (h : RR τ G x t tb L (.inl a) ω) (hI : WI ω) (hn : 500 < n) : gOk (k_X8_readLine_31 τ n (x + 3) G) (fun G' => RO τ G G' x t tb L (ln31 tb L ω a).1 (ln31 tb L ω a).2) := by
  have hb := hI.r1
  unfold k_X8_readLine_31 ln31
  rw [h.1.1.2, ka_bs, h.2.2.cn.2.1, hI.r0]
  by_cases h8 : cR ω < 8
  · rw [if_neg (show ¬ (8 : Int32) ≤ nI (cR ω) from nI_ge (b := 8) h8 (by decide)), h.1.1.1, ka_bs, ka_bind2]
    refine gOk.mono (rr_tw h hI wo_rope hn) fun q hq => ?_
    rcases hq with ⟨w1, e1, f1, h1⟩ | ⟨w1, e1⟩
    · obtain ⟨v, G1⟩ := q
      have e1 : v = 1 := e1
      subst e1
      rw [if_neg ka_n10, if_pos ⟨h8, w1⟩, ka_bind]
      refine gOk.mono (c_readRope h1 hI h8 hn) fun G2 g2 => ?_
      exact ⟨_, rfl, g2.pre f1⟩
    · subst e1
      rw [if_pos rfl, w1, if_neg (fun e => by cases e.2)]
      exact c_ln62 h hI hn
  · rw [if_pos (show (8 : Int32) ≤ nI (cR ω) from nI_le (a := 8) (by omega) (by omega)), if_neg (fun e => h8 e.1)]
    exact c_ln62 h hI hn
theorem c_readLine (h : RR τ G x t tb L (.inl a) ω) (hI : WI ω) (hn : 500 < n) : gOk (f_X8_readLine τ n (x + 3) G) (fun G' => RO τ G G' x t tb L (lnR tb L ω a).1 (lnR tb L ω a).2) := by
  have hb := hI.y1
  unfold f_X8_readLine lnR
  rw [h.1.1.2, ka_bs, h.2.2.cn.1, hI.y0]
  by_cases h8 : cY ω < 10
  · rw [if_neg (show ¬ (10 : Int32) ≤ nI (cY ω) from nI_ge (b := 10) h8 (by decide)), h.1.1.1, ka_bs, ka_bind2]
    refine gOk.mono (rr_tw h hI wo_yarn hn) fun q hq => ?_
    rcases hq with ⟨w1, e1, f1, h1⟩ | ⟨w1, e1⟩
    · obtain ⟨v, G1⟩ := q
      have e1 : v = 1 := e1
      subst e1
      rw [if_neg ka_n10, if_pos ⟨h8, w1⟩, ka_bind]
      refine gOk.mono (c_readYarn h1 hI h8 hn) fun G2 g2 => ?_
      exact ⟨_, rfl, g2.pre f1⟩
    · subst e1
      rw [if_pos rfl, w1, if_neg (fun e => by cases e.2)]
      exact c_ln31 h hI hn
  · rw [if_pos (show (10 : Int32) ≤ nI (cY ω) from nI_le (a := 10) (by omega) (by omega)), if_neg (fun e => h8 e.1)]
    exact c_ln31 h hI hn
end
section
variable {τ : gτ} {n : Nat} {G G' G'' : gG} {m : Nat} {tb : Nat → Nat} {L a b f : Nat} {r r' : Nat ⊕ Nat} {ω ω' : gW}
theorem mo_chk {o : Option (Int32 × gG)} (h : gOk o (MO τ m tb L G r ω)) : gOk (gBind2 o fun v G1 => gchk (v = 0 ∨ v = 1) (some (v, G1))) (MO τ m tb L G r ω) := by
  rw [ka_bind2]
  refine gOk.mono h fun q hq => ?_
  obtain ⟨v, G1⟩ := q
  have hv : v = 0 ∨ v = 1 := by
    rcases hq.2 with ⟨e, -⟩ | ⟨e, -⟩
    · exact Or.inr e
    · exact Or.inl e
  exact ⟨_, ka_chkT hv, hq⟩
theorem mo_if {o : Option (Int32 × gG)} (h : gOk o (MO τ m tb L G r ω)) : gOk (gBind2 o fun v G1 => if v = 0 then some (0, G1) else some (1, G1)) (MO τ m tb L G r ω) := by
  rw [ka_bind2]
  refine gOk.mono h fun q hq => ?_
  obtain ⟨v, G1⟩ := q
  rcases hq with ⟨d, ⟨e, h1⟩ | ⟨e, h1⟩⟩
  · have e : v = 1 := e
    subst e
    rw [if_neg ka_n10]
    exact ⟨_, rfl, d, Or.inl ⟨rfl, h1⟩⟩
  · have e : v = 0 := e
    subst e
    rw [if_pos rfl]
    exact ⟨_, rfl, d, Or.inr ⟨rfl, h1⟩⟩
theorem MO.pre {q : Int32 × gG} (hf : MK m G G') (h : MO τ m tb L G' r ω q) : MO τ m tb L G r ω q := ⟨hf.tr h.1, h.2⟩
theorem m_walkLine (hJ : MJ τ G m tb L (.inr a)) (hM : FM τ G m) (hω : ge G (m + 1) = ω) (hI : WI ω) (hn : 500 < n) (hw : ∀ w, wO w → f_X11_isWord τ n m w G = some (if wd tb L w a then 1 else 0) ∧ (wd tb L w a → MJ τ G m tb L (.inl (bl tb L (a + w.length))))) : gOk (f_X11_readWalkLine τ n m G) (MO τ m tb L G (lnR tb L ω a).1 (lnR tb L ω a).2) := by
  have no : MO τ m tb L G (.inr a) ω (0, G) := ⟨MK.rf, Or.inr ⟨rfl, a, rfl, hJ, hM⟩⟩
  have yes : ∀ {w : List Int32}, wO w → wd tb L w a = true → MR τ G m tb L (.inl (bl tb L (a + w.length))) ω := fun h1 h2 => ⟨(hw _ h1).2 h2, hM, hω⟩
  have hF : ¬ (false = true) := by decide
  have hy := hI.y1
  have hr := hI.r1
  have ho := hI.o1
  unfold f_X11_readWalkLine
  rw [(hw _ wo_yarn).1, ka_bs]
  cases w1 : wd tb L s_yarn a with
  | true =>
    rw [if_pos rfl, if_neg ka_n10]
    refine mo_chk ?_
    by_cases h10 : cY ω < 10
    · unfold lnR
      rw [if_pos ⟨h10, w1⟩]
      exact m_readYarn (yes wo_yarn w1) hI h10 hn
    · rw [ln_noY w1 h10]
      unfold f_X11_readYarn
      rw [hM.cn.1, ka_bs, hω, hI.y0, if_pos (show nI (cY ω) = (10 : Int32) by rw [show cY ω = 10 by omega]; rfl)]
      exact ⟨_, rfl, no⟩
  | false =>
  rw [if_neg hF, if_pos rfl, (hw _ wo_rope).1, ka_bs]
  cases w2 : wd tb L s_rope a with
  | true =>
    rw [if_pos rfl, if_neg ka_n10]
    refine mo_chk ?_
    by_cases h10 : cR ω < 8
    · unfold lnR ln31
      rw [w1, if_neg (fun e => by cases e.2), if_pos ⟨h10, w2⟩]
      exact m_readRope (yes wo_rope w2) hI h10 hn
    · rw [ln_noR w2 h10]
      unfold f_X11_readRope
      rw [hM.cn.2.1, ka_bs, hω, hI.r0, if_pos (show nI (cR ω) = (8 : Int32) by rw [show cR ω = 8 by omega]; rfl)]
      exact ⟨_, rfl, no⟩
  | false =>
  rw [if_neg hF, if_pos rfl, (hw _ wo_order).1, ka_bs]
  cases w3 : wd tb L s_order a with
  | true =>
    rw [if_pos rfl, if_neg ka_n10]
    refine mo_chk ?_
    by_cases h10 : cO ω < 8
    · unfold lnR ln31 ln62
      rw [w1, if_neg (fun e => by cases e.2), w2, if_neg (fun e => by cases e.2), if_pos ⟨h10, w3⟩]
      exact m_readOrder (yes wo_order w3) hI h10 hn
    · rw [ln_noO w3 h10]
      unfold f_X11_readOrder
      rw [hM.cn.2.2, ka_bs, hω, hI.o0, if_pos (show nI (cO ω) = (8 : Int32) by rw [show cO ω = 8 by omega]; rfl)]
      exact ⟨_, rfl, no⟩
  | false =>
  have eT : lnR tb L ω a = ln93 tb L ω a := by
    unfold lnR ln31 ln62
    rw [w1, if_neg (fun e => by cases e.2), w2, if_neg (fun e => by cases e.2), w3, if_neg (fun e => by cases e.2)]
  rw [eT]
  unfold ln93
  rw [if_neg hF, if_pos rfl, (hw _ wo_hang).1, ka_bs]
  cases w4 : wd tb L s_hang a with
  | true =>
    rw [if_pos rfl, if_neg ka_n10, if_pos rfl]
    exact mo_chk (m_readOf (yes wo_hang w4) hI hn (j := 9) (jj := 9) (hi := 999) rfl (by decide))
  | false =>
  rw [if_neg hF, if_neg hF, if_pos rfl, (hw _ wo_tar).1, ka_bs]
  cases w5 : wd tb L s_tar a with
  | true =>
    rw [if_pos rfl, if_neg ka_n10, if_pos rfl]
    exact mo_chk (m_readOf (yes wo_tar w5) hI hn (j := 4) (jj := 4) (hi := 9) rfl (by decide))
  | false =>
  rw [if_neg hF, if_neg hF, if_pos rfl, (hw _ wo_whip).1, ka_bs]
  cases w6 : wd tb L s_whip a with
  | true =>
    rw [if_pos rfl, if_neg ka_n10, if_pos rfl]
    exact mo_chk (m_readWhip (yes wo_whip w6) hI hn)
  | false =>
  rw [if_neg hF, if_neg hF, if_pos rfl, (hw _ wo_gale).1, ka_bs]
  cases w7 : wd tb L s_gale a with
  | true =>
    rw [if_pos rfl, if_neg ka_n10, if_pos rfl]
    exact mo_chk (m_readNumber (yes wo_gale w7) (k := 6) (kk := 6) rfl (by decide) hn)
  | false =>
  rw [if_neg hF, if_neg hF, if_pos rfl, (hw _ wo_damp).1, ka_bs]
  cases w8 : wd tb L s_damp a with
  | true =>
    rw [if_pos rfl, if_neg ka_n10, if_pos rfl]
    exact mo_if (m_readNumber (yes wo_damp w8) (k := 7) (kk := 7) rfl (by decide) hn)
  | false =>
  rw [if_neg hF, if_neg hF, if_pos rfl]
  exact ⟨_, rfl, no⟩
theorem m_readLine (h : MR τ G m tb L (.inl a) ω) (hI : WI ω) {c : Nat} (hc : c < 14) (hn : 500 < n) : gOk (f_X11_readLine τ n m 1 (nI c) G) (MO τ m tb L G (lnR tb L ω a).1 (lnR tb L ω a).2) := by
  unfold f_X11_readLine
  rw [ka_bind]
  refine gOk.mono (m_word h.1 hn) fun G1 g1 => ?_
  obtain ⟨d1, j1, g2⟩ := g1
  rw [if_neg ka_n10]
  unfold k_X11_readLine_16
  rw [if_neg (show ¬ (14 : Int32) ≤ nI c from nI_ge (b := 14) hc (by decide)), if_neg ka_n10]
  refine mo_if (gOk.mono (m_walkLine j1 ((MK.tm d1).fm h.2.1) (by rw [d1.2.1]; exact h.2.2) hI hn g2) fun q hq => ?_)
  exact hq.pre (MK.tm d1)
theorem m_readLineO (h : MR τ G m tb L (.inl a) ω) (hn : 500 < n) : gOk (f_X11_readLine τ n m 1 (nI 14) G) (MO τ m tb L G (.inr a) ω) := by
  unfold f_X11_readLine
  rw [ka_bind]
  refine gOk.mono (m_word h.1 hn) fun G1 g1 => ?_
  obtain ⟨d1, j1, g2⟩ := g1
  rw [if_neg ka_n10]
  unfold k_X11_readLine_16
  rw [if_pos (show (14 : Int32) ≤ nI 14 from nI_le (Nat.le_refl 14) (by decide))]
  exact ⟨_, rfl, MK.tm d1, Or.inr ⟨rfl, a, rfl, j1, (MK.tm d1).fm h.2.1⟩⟩
end
