/-! TEXTS: a line of yarn, of order, of gale and damp -/
section
variable {tb : Nat → Nat} {L a b f : Nat} {lo hi : Int32} {r : Nat ⊕ Nat} {w : List Int32} {ω : gW}
def afV (tb : Nat → Nat) (L : Nat) (w : List Int32) (lo hi : Int32) (r : Nat ⊕ Nat) : Int32 := nbV tb L lo hi (ndW tb L w r)
def afS (tb : Nat → Nat) (L : Nat) (w : List Int32) (lo hi : Int32) (r : Nat ⊕ Nat) : Nat ⊕ Nat := nbS tb L lo hi (ndW tb L w r)
theorem nb_ok (h : nbS tb L lo hi r = .inl b) : ∃ a, r = .inl a ∧ nbV tb L lo hi r = numT tb L a ∧ ¬ (nbV tb L lo hi r < lo ∨ hi < nbV tb L lo hi r) ∧ b = bl tb L (dg tb L a) := by
  cases r with
  | inr f => cases h
  | inl a =>
    rw [nbS_i] at h
    refine ⟨a, rfl, ?_⟩
    rw [nbV_i]
    by_cases h1 : numT tb L a < lo
    · rw [if_pos h1] at h; cases h
    · rw [if_neg h1] at h ⊢
      by_cases h2 : numT tb L a ≤ hi
      · rw [if_pos h2] at h ⊢
        cases h
        exact ⟨rfl, fun e => e.elim h1 (fun e => nle_of_lt e h2), rfl⟩
      · rw [if_neg h2] at h; cases h
theorem nb_no (h : nbS tb L lo hi r = .inr f) : nbV tb L lo hi r = -1 := by
  cases r with
  | inr f => rfl
  | inl a =>
    rw [nbS_i] at h
    rw [nbV_i]
    by_cases h1 : numT tb L a < lo
    · rw [if_pos h1]
    · rw [if_neg h1] at h ⊢
      by_cases h2 : numT tb L a ≤ hi
      · rw [if_pos h2] at h; cases h
      · rw [if_neg h2]
theorem nb_ge (hlo : (0 : Int32) ≤ lo) (h : nbS tb L lo hi r = .inl b) : (0 : Int32) ≤ nbV tb L lo hi r := by
  obtain ⟨a, -, -, h2, -⟩ := nb_ok h
  exact Int32.le_trans hlo (le_of_nlt fun e => h2 (Or.inl e))
theorem nd_ok (h : ndW tb L w r = .inl b) : ∃ a, r = .inl a := by
  cases r with
  | inr f => cases h
  | inl a => exact ⟨a, rfl⟩
theorem af_bt {l h : Nat} (hl : l < 2 ^ 31) (hh : h < 2 ^ 31) (elo : lo = nI l) (ehi : hi = nI h) (e : nbS tb L lo hi r = .inl b) : bt (nbV tb L lo hi r) l h := by
  obtain ⟨a, -, -, h2, -⟩ := nb_ok e
  subst elo
  subst ehi
  exact bt_of hh hl h2
theorem af_no : afS tb L w lo hi (.inr f) = .inr f ∧ afV tb L w lo hi (.inr f) = -1 := ⟨rfl, rfl⟩
def yr1 (tb : Nat → Nat) (L : Nat) (r : Nat ⊕ Nat) : Nat ⊕ Nat := nbS tb L 1 30 r
def yr2 (tb : Nat → Nat) (L : Nat) (r : Nat ⊕ Nat) : Nat ⊕ Nat := afS tb L s_long 0 200 (yr1 tb L r)
def yr3 (tb : Nat → Nat) (L : Nat) (r : Nat ⊕ Nat) : Nat ⊕ Nat := afS tb L s_rot 0 9 (yr2 tb L r)
def yr4 (tb : Nat → Nat) (L : Nat) (r : Nat ⊕ Nat) : Nat ⊕ Nat := afS tb L s_reign 0 5 (yr3 tb L r)
def yrW (tb : Nat → Nat) (L : Nat) (ω : gW) (r : Nat ⊕ Nat) : gW := yaW ω (nbV tb L 1 30 r) (afV tb L s_long 0 200 (yr1 tb L r)) (afV tb L s_rot 0 9 (yr2 tb L r)) (afV tb L s_reign 0 5 (yr3 tb L r))
theorem yr_nw (hI : WI ω) (h10 : cY ω < 10) (h : yr4 tb L r = .inl b) : NW ω (yrW tb L ω r) := by
  obtain ⟨a4, e4, -⟩ := nb_ok h
  obtain ⟨a3, e3⟩ := nd_ok e4
  obtain ⟨b3, f3, -⟩ := nb_ok e3
  obtain ⟨a2, e2⟩ := nd_ok f3
  obtain ⟨b2, f2, -⟩ := nb_ok e2
  obtain ⟨a1, e1⟩ := nd_ok f2
  exact yaW.nw hI h10 (af_bt (l := 1) (h := 30) (by decide) (by decide) rfl rfl e1) (af_bt (l := 0) (h := 200) (by decide) (by decide) rfl rfl e2) (af_bt (l := 0) (h := 9) (by decide) (by decide) rfl rfl e3) (af_bt (l := 0) (h := 5) (by decide) (by decide) rfl rfl h)
def or1 (tb : Nat → Nat) (L : Nat) (r : Nat ⊕ Nat) : Nat ⊕ Nat := nbS tb L 1 400 r
def or2 (tb : Nat → Nat) (L : Nat) (r : Nat ⊕ Nat) : Nat ⊕ Nat := afS tb L s_long 1 60 (or1 tb L r)
def or3 (tb : Nat → Nat) (L : Nat) (r : Nat ⊕ Nat) : Nat ⊕ Nat := afS tb L s_pay 0 99 (or2 tb L r)
def orW (tb : Nat → Nat) (L : Nat) (ω : gW) (r : Nat ⊕ Nat) : gW := oaW ω (nbV tb L 1 400 r) (afV tb L s_long 1 60 (or1 tb L r)) (afV tb L s_pay 0 99 (or2 tb L r))
theorem or_nw (hI : WI ω) (h8 : cO ω < 8) (h : or3 tb L r = .inl b) : NW ω (orW tb L ω r) := by
  obtain ⟨b3, f3, -⟩ := nb_ok h
  obtain ⟨a2, e2⟩ := nd_ok f3
  obtain ⟨b2, f2, -⟩ := nb_ok e2
  obtain ⟨a1, e1⟩ := nd_ok f2
  exact oaW.nw hI h8 (af_bt (l := 1) (h := 400) (by decide) (by decide) rfl rfl e1) (af_bt (l := 1) (h := 60) (by decide) (by decide) rfl rfl e2) (af_bt (l := 0) (h := 99) (by decide) (by decide) rfl rfl h)
theorem wo_long : wO s_long := wO_of (by decide)
theorem wo_rot : wO s_rot := wO_of (by decide)
theorem wo_reign : wO s_reign := wO_of (by decide)
theorem wo_pay : wO s_pay := wO_of (by decide)
end
section
variable {τ : gτ} {n : Nat} {G G' G'' : gG} {x t : Nat} {tb : Nat → Nat} {L a b f : Nat} {lo hi : Int32} {r r' : Nat ⊕ Nat} {w : List Int32} {ω ω' : gW}
/-- the class reads into Shed t, which shows ω -/
def RS (τ : gτ) (G : gG) (x t : Nat) : Prop := (gr G 8 0 (x + 3) = some (x + 1) ∧ gr G 8 1 (x + 3) = some t) ∧ FS τ G t ∧ x + 434 ≤ t
def RR (τ : gτ) (G : gG) (x t : Nat) (tb : Nat → Nat) (L : Nat) (r : Nat ⊕ Nat) (ω : gW) : Prop := RS τ G x t ∧ TJ τ G x tb L r ∧ VS G t ω
def CF (x t : Nat) (G G' : gG) : Prop := Fr (fun b => b = x + 1 ∨ (t ≤ b ∧ b ≤ t + 31)) G G'
theorem CF.rf : CF x t G G := Fr.rf
theorem CF.tr (h : CF x t G G') (h' : CF x t G' G'') : CF x t G G'' := Fr.tr h h'
theorem CF.te (h : TE x G G') : CF x t G G' := h.fr.mono fun _ hb => Or.inl hb
theorem CF.sp (h : Fr (spn t) G G') : CF x t G G' := h.mono fun _ hb => Or.inr hb
theorem RS.cf (h : RS τ G x t) (hf : CF x t G G') (hF : FS τ G' t) : RS τ G' x t := by
  obtain ⟨⟨a1, a2⟩, -, a4⟩ := h
  have e := hf (x + 3) (by omega)
  exact ⟨⟨by rw [e.2.1]; exact a1, by rw [e.2.1]; exact a2⟩, hF, a4⟩
theorem RR.te (h : RR τ G x t tb L r ω) (hI : WI ω) (hd : TE x G G') (hJ : TJ τ G' x tb L r') : RR τ G' x t tb L r' ω := by
  have h4 := h.1.2.2
  exact ⟨h.1.cf (CF.te hd) (hd.fr.fs h.1.2.1 fun b h1 h2 h3 => by omega), hJ, hd.fr.vs hI h.2.2 fun b h1 h2 h3 => by omega⟩
theorem TB.mv {A : Nat → Prop} (h : TB τ G x tb L) (hf : Fr A G G') (h1 : ¬ A (x + 1)) (h2 : ¬ A (x + 2)) : TB τ G' x tb L := by
  obtain ⟨⟨a1, a2⟩, ⟨b1, b2⟩, c⟩ := h
  have e1 := hf (x + 1) h1
  have e2 := hf (x + 2) h2
  exact ⟨⟨by rw [e1.2.1]; exact a1, a2⟩, ⟨b1, by rw [e1.1]; exact b2⟩, fun j hj => by rw [e2.2.2.1]; exact c j hj⟩
theorem TJ.mv {A : Nat → Prop} (h : TJ τ G x tb L r) (hf : Fr A G G') (h1 : ¬ A (x + 1)) (h2 : ¬ A (x + 2)) : TJ τ G' x tb L r := by
  have e1 := (hf (x + 1) h1).1
  cases r with
  | inl a =>
    obtain ⟨c1, c2, ⟨c3, c4, c5⟩, c6⟩ := h
    exact ⟨c1.mv hf h1 h2, c2, ⟨by rw [e1]; exact c3, by rw [e1]; exact c4, by rw [e1]; exact c5⟩, by rw [e1]; exact c6⟩
  | inr f =>
    obtain ⟨c1, c2, c3⟩ := h
    exact ⟨c1.mv hf h1 h2, c2, by rw [e1]; exact c3⟩
/-- a line has been read by the class -/
def RO (τ : gτ) (G G' : gG) (x t : Nat) (tb : Nat → Nat) (L : Nat) (r : Nat ⊕ Nat) (ω : gW) : Prop := CF x t G G' ∧ RS τ G' x t ∧ TJ τ G' x tb L r ∧ ∀ b, r = .inl b → VS G' t ω
theorem RO.of (hf : CF x t G G') (h : RR τ G' x t tb L r ω) : RO τ G G' x t tb L r ω := ⟨hf, h.1, h.2.1, fun _ _ => h.2.2⟩
theorem RO.wr (hf : CF x t G G') (h : RR τ G' x t tb L r ω) (h2 : VS G'' t ω' ∧ FS τ G'' t ∧ Fr (spn t) G' G'') : RO τ G G'' x t tb L r ω' := by
  have h4 := h.1.2.2
  exact ⟨hf.tr (CF.sp h2.2.2), h.1.cf (CF.sp h2.2.2) h2.2.1, h.2.1.mv h2.2.2 (fun e => by have e : t ≤ x + 1 ∧ x + 1 ≤ t + 31 := e; omega) (fun e => by have e : t ≤ x + 2 ∧ x + 2 ≤ t + 31 := e; omega), fun _ _ => h2.1⟩
theorem RO.no (hf : CF x t G G') (h : RR τ G' x t tb L (.inr f) ω) : RO τ G G' x t tb L (.inr f) ω' := ⟨hf, h.1, h.2.1, fun _ e => by cases e⟩
theorem rr_nb (h : RR τ G x t tb L r ω) (hI : WI ω) (hlo : (-1 : Int32) < lo) (hn : 500 < n) : gOk (f_X7_takeNumber τ n (x + 1) lo hi G) (fun q => CF x t G q.2 ∧ q.1 = nbV tb L lo hi r ∧ RR τ q.2 x t tb L (nbS tb L lo hi r) ω) := by
  refine gOk.mono (c_nb h.2.1 hlo hn) fun q hq => ?_
  exact ⟨CF.te hq.1, hq.2.1, h.te hI hq.1 hq.2.2⟩
theorem rr_nd (h : RR τ G x t tb L r ω) (hI : WI ω) (hw : wO w) (hn : 500 < n) : gOk (f_X7_needWord τ n (x + 1) w G) (fun G' => CF x t G G' ∧ RR τ G' x t tb L (ndW tb L w r) ω) := by
  refine gOk.mono (c_ndW h.2.1 hw hn) fun q hq => ?_
  exact ⟨CF.te hq.1, h.te hI hq.1 hq.2⟩
theorem c_rt1 (h : TJ τ G x tb L (.inl a)) : f_X7_isRight (x + 1) G = some 1 := c_right h
theorem c_rt0 (h : TJ τ G x tb L (.inr f)) : f_X7_isRight (x + 1) G = some 0 := c_right h
theorem c_readYarn (h : RR τ G x t tb L r ω) (hI : WI ω) (h10 : cY ω < 10) (hn : 500 < n) : gOk (f_X8_readYarn τ n (x + 3) G) (fun G' => RO τ G G' x t tb L (yr4 tb L r) (yrW tb L ω r)) := by
  unfold f_X8_readYarn
  rw [h.1.1.1, ka_bs, ka_bind2]
  refine gOk.mono (rr_nb h hI (lo := 1) (hi := 30) (by decide) hn) fun q hq => ?_
  obtain ⟨v2, G3⟩ := q
  obtain ⟨f3, e2, h3⟩ := hq
  have e2 : v2 = nbV tb L 1 30 r := e2
  subst e2
  have h3 : RR τ G3 x t tb L (yr1 tb L r) ω := h3
  have f3 : CF x t G G3 := f3
  show gOk ((gr G3 8 0 (x + 3)).bind _) _
  rw [h3.1.1.1, ka_bs, ka_bind]
  refine gOk.mono (rr_nd h3 hI wo_long hn) fun G6 g6 => ?_
  obtain ⟨f6, h6⟩ := g6
  rw [h6.1.1.1, ka_bs, ka_bind2]
  refine gOk.mono (rr_nb h6 hI (lo := 0) (hi := 200) (by decide) hn) fun q hq => ?_
  obtain ⟨v8, G9⟩ := q
  obtain ⟨f9, e8, h9⟩ := hq
  have e8 : v8 = afV tb L s_long 0 200 (yr1 tb L r) := e8
  subst e8
  have h9 : RR τ G9 x t tb L (yr2 tb L r) ω := h9
  have f9 : CF x t G6 G9 := f9
  show gOk ((gr G9 8 0 (x + 3)).bind _) _
  rw [h9.1.1.1, ka_bs, ka_bind]
  refine gOk.mono (rr_nd h9 hI wo_rot hn) fun G12 g12 => ?_
  obtain ⟨f12, h12⟩ := g12
  rw [h12.1.1.1, ka_bs, ka_bind2]
  refine gOk.mono (rr_nb h12 hI (lo := 0) (hi := 9) (by decide) hn) fun q hq => ?_
  obtain ⟨v14, G15⟩ := q
  obtain ⟨f15, e14, h15⟩ := hq
  have e14 : v14 = afV tb L s_rot 0 9 (yr2 tb L r) := e14
  subst e14
  have h15 : RR τ G15 x t tb L (yr3 tb L r) ω := h15
  have f15 : CF x t G12 G15 := f15
  show gOk ((gr G15 8 0 (x + 3)).bind _) _
  rw [h15.1.1.1, ka_bs, ka_bind]
  refine gOk.mono (rr_nd h15 hI wo_reign hn) fun G18 g18 => ?_
  obtain ⟨f18, h18⟩ := g18
  rw [h18.1.1.1, ka_bs, ka_bind2]
  refine gOk.mono (rr_nb h18 hI (lo := 0) (hi := 5) (by decide) hn) fun q hq => ?_
  obtain ⟨v20, G21⟩ := q
  obtain ⟨f21, e20, h21⟩ := hq
  have e20 : v20 = afV tb L s_reign 0 5 (yr3 tb L r) := e20
  subst e20
  have h21 : RR τ G21 x t tb L (yr4 tb L r) ω := h21
  have f21 : CF x t G18 G21 := f21
  have fA : CF x t G G21 := f3.tr (f6.tr (f9.tr (f12.tr (f15.tr (f18.tr f21)))))
  show gOk ((gr G21 8 0 (x + 3)).bind _) _
  rw [h21.1.1.1, ka_bs]
  cases hr : yr4 tb L r with
  | inr f =>
    rw [hr] at h21
    rw [c_rt0 h21.2.1, ka_bs, if_pos rfl]
    exact ⟨_, rfl, RO.no fA h21⟩
  | inl b =>
    rw [hr] at h21
    rw [c_rt1 h21.2.1, ka_bs, if_neg ka_n10, h21.1.1.2, ka_bs, ka_bind]
    refine gOk.mono (s_addYarn h21.1.2.1 h21.2.2 hI h10) fun G25 g25 => ?_
    exact ⟨_, rfl, RO.wr fA h21 g25⟩
theorem c_readOrder (h : RR τ G x t tb L r ω) (hI : WI ω) (h8 : cO ω < 8) (hn : 500 < n) : gOk (f_X8_readOrder τ n (x + 3) G) (fun G' => RO τ G G' x t tb L (or3 tb L r) (orW tb L ω r)) := by
  unfold f_X8_readOrder
  rw [h.1.1.1, ka_bs, ka_bind2]
  refine gOk.mono (rr_nb h hI (lo := 1) (hi := 400) (by decide) hn) fun q hq => ?_
  obtain ⟨v2, G3⟩ := q
  obtain ⟨f3, e2, h3⟩ := hq
  have e2 : v2 = nbV tb L 1 400 r := e2
  subst e2
  have h3 : RR τ G3 x t tb L (or1 tb L r) ω := h3
  have f3 : CF x t G G3 := f3
  show gOk ((gr G3 8 0 (x + 3)).bind _) _
  rw [h3.1.1.1, ka_bs, ka_bind]
  refine gOk.mono (rr_nd h3 hI wo_long hn) fun G6 g6 => ?_
  obtain ⟨f6, h6⟩ := g6
  rw [h6.1.1.1, ka_bs, ka_bind2]
  refine gOk.mono (rr_nb h6 hI (lo := 1) (hi := 60) (by decide) hn) fun q hq => ?_
  obtain ⟨v8, G9⟩ := q
  obtain ⟨f9, e8, h9⟩ := hq
  have e8 : v8 = afV tb L s_long 1 60 (or1 tb L r) := e8
  subst e8
  have h9 : RR τ G9 x t tb L (or2 tb L r) ω := h9
  have f9 : CF x t G6 G9 := f9
  show gOk ((gr G9 8 0 (x + 3)).bind _) _
  rw [h9.1.1.1, ka_bs, ka_bind]
  refine gOk.mono (rr_nd h9 hI wo_pay hn) fun G12 g12 => ?_
  obtain ⟨f12, h12⟩ := g12
  rw [h12.1.1.1, ka_bs, ka_bind2]
  refine gOk.mono (rr_nb h12 hI (lo := 0) (hi := 99) (by decide) hn) fun q hq => ?_
  obtain ⟨v14, G15⟩ := q
  obtain ⟨f15, e14, h15⟩ := hq
  have e14 : v14 = afV tb L s_pay 0 99 (or2 tb L r) := e14
  subst e14
  have h15 : RR τ G15 x t tb L (or3 tb L r) ω := h15
  have f15 : CF x t G12 G15 := f15
  have fA : CF x t G G15 := f3.tr (f6.tr (f9.tr (f12.tr f15)))
  show gOk ((gr G15 8 0 (x + 3)).bind _) _
  rw [h15.1.1.1, ka_bs]
  cases hr : or3 tb L r with
  | inr f =>
    rw [hr] at h15
    rw [c_rt0 h15.2.1, ka_bs, if_pos rfl]
    exact ⟨_, rfl, RO.no fA h15⟩
  | inl b =>
    rw [hr] at h15
    rw [c_rt1 h15.2.1, ka_bs, if_neg ka_n10, h15.1.1.2, ka_bs, ka_bind]
    refine gOk.mono (s_addOrder h15.1.2.1 h15.2.2 hI h8) fun G25 g25 => ?_
    exact ⟨_, rfl, RO.wr fA h15 g25⟩
end
