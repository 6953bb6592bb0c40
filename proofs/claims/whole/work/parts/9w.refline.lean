/-! TEXTS: a line of yarn, of order in the reference; gale and damp -/
section
variable {τ : gτ} {n : Nat} {G G' G'' : gG} {m : Nat} {tb : Nat → Nat} {L a b f : Nat} {lo hi : Int32} {r r' : Nat ⊕ Nat} {w : List Int32} {ω ω' : gW}
def MJ (τ : gτ) (G : gG) (m : Nat) (tb : Nat → Nat) (L : Nat) : Nat ⊕ Nat → Prop
  | .inl a => MB τ G m tb L ∧ ∃ p, p ≤ L ∧ gi G 11 10 m = nI p ∧ bl tb L p = a
  | .inr f => MB τ G m tb L ∧ f ≤ L ∧ gi G 11 12 m = nI f
def MK (m : Nat) (G G' : gG) : Prop := Fr (fun b => b = m ∨ b = m + 1) G G' ∧ (∀ c k, gr G' c k m = gr G c k m) ∧ (∀ c k, ¬ (c = 11 ∧ (k = 10 ∨ k = 12)) → gi G' c k m = gi G c k m) ∧ ∀ j, 467 ≤ j → ge G' (m + 1) j = ge G (m + 1) j
theorem MK.rf : MK m G G := ⟨Fr.rf, fun _ _ => rfl, fun _ _ _ => rfl, fun _ _ => rfl⟩
theorem MK.tr (h : MK m G G') (h' : MK m G' G'') : MK m G G'' := ⟨h.1.tr h'.1, fun c k => (h'.2.1 c k).trans (h.2.1 c k), fun c k hn => (h'.2.2.1 c k hn).trans (h.2.2.1 c k hn), fun j hj => (h'.2.2.2 j hj).trans (h.2.2.2 j hj)⟩
theorem MK.tm (h : TM m G G') : MK m G G' := ⟨h.fr.mono fun _ hb => Or.inl hb, fun c k => h.1 c k m, fun c k hn => h.2.2.2.2 c k m (fun e => hn ⟨e.1, e.2.2⟩), fun j _ => by rw [h.2.1]⟩
theorem MK.fm (h : MK m G G') (hM : FM τ G m) : FM τ G' m := by
  obtain ⟨⟨a1, a2, a3, a4, a5, a6, a7, a8, a9, a10⟩, hb⟩ := hM
  refine ⟨⟨?_, ?_, ?_, ?_, ?_, ?_, ?_, ?_, ?_, ?_⟩, hb⟩ <;> rw [h.2.1] <;> assumption
theorem MK.ww {k : Nat} {v : Int32} (hk : k < 467 := by omega) : MK m G (gse G (m + 1) k v) := ⟨Fr.e (A := fun b => b = m ∨ b = m + 1) (Or.inr rfl), fun _ _ => rfl, fun _ _ _ => rfl, fun j hj => by rw [ka_ee, if_neg (by omega)]⟩
theorem MB.mk (h : MB τ G m tb L) (hd : MK m G G') : MB τ G' m tb L := by
  obtain ⟨⟨a1, a2⟩, ⟨b1, b2⟩, c⟩ := h
  refine ⟨⟨by rw [hd.2.1]; exact a1, a2⟩, ⟨b1, ?_⟩, fun j hj => by rw [(hd.1 (m + 6) (by omega)).2.2.1]; exact c j hj⟩
  rw [hd.2.2.1 _ _ (by omega)]
  exact b2
def MR (τ : gτ) (G : gG) (m : Nat) (tb : Nat → Nat) (L : Nat) (r : Nat ⊕ Nat) (ω : gW) : Prop := MJ τ G m tb L r ∧ FM τ G m ∧ ge G (m + 1) = ω
theorem MR.tm (h : MR τ G m tb L r ω) (hd : TM m G G') (hJ : MJ τ G' m tb L r') : MR τ G' m tb L r' ω := ⟨hJ, (MK.tm hd).fm h.2.1, by rw [hd.2.1]; exact h.2.2⟩
theorem MR.wr {k : Nat} {v : Int32} (h : MR τ G m tb L r ω) (hk : k < 467 := by omega) : MR τ (gse G (m + 1) k v) m tb L r (wSt ω k v) := by
  refine ⟨?_, (MK.ww hk).fm h.2.1, ?_⟩
  · have hj := h.1
    cases r with
    | inl a => exact ⟨hj.1.mk (MK.ww hk), hj.2⟩
    | inr f => exact ⟨hj.1.mk (MK.ww hk), hj.2⟩
  · rw [ge_wSt, h.2.2]
/-- a line has been read by the reference -/
def MO (τ : gτ) (m : Nat) (tb : Nat → Nat) (L : Nat) (G : gG) (r : Nat ⊕ Nat) (ω : gW) (q : Int32 × gG) : Prop := MK m G q.2 ∧ ((q.1 = 1 ∧ ∃ b, r = .inl b ∧ MR τ q.2 m tb L (.inl b) ω) ∨ (q.1 = 0 ∧ ∃ f, r = .inr f ∧ MJ τ q.2 m tb L (.inr f) ∧ FM τ q.2 m))
theorem m_nb (h : MJ τ G m tb L (.inl a)) (hlo : (-1 : Int32) < lo) (hn : 500 < n) : gOk (f_X11_number τ n m lo hi G) (fun q => TM m G q.2 ∧ q.1 = nbV tb L lo hi (.inl a) ∧ MJ τ q.2 m tb L (nbS tb L lo hi (.inl a)) ∧ gi q.2 11 12 m = nI a) := by
  obtain ⟨hB, p, hp, h10, hbp⟩ := h
  have hbl := bl_le (tb := tb) hp
  refine gOk.mono (m_number hB hn hlo h10 hp) fun q hq => ?_
  obtain ⟨d, e1, e2, e3⟩ := hq
  rw [hbp] at e1 e2 e3 hbl
  have hdg := dg_le (tb := tb) hbl.2
  refine ⟨d, e1, ?_, e3⟩
  rw [nbS_i]
  by_cases h1 : numT tb L a < lo
  · rw [if_pos h1]
    exact ⟨hB.tm d, hbl.2, e3⟩
  · rw [if_neg h1]
    by_cases h2 : numT tb L a ≤ hi
    · rw [if_pos h2]
      exact ⟨hB.tm d, _, hdg.2, e2, rfl⟩
    · rw [if_neg h2]
      exact ⟨hB.tm d, hbl.2, e3⟩
theorem m_word (h : MJ τ G m tb L (.inl a)) (hn : 500 < n) : gOk (f_X11_letters τ n m G) (fun G' => TM m G G' ∧ MJ τ G' m tb L (.inr a) ∧ ∀ w, wO w → f_X11_isWord τ n m w G' = some (if wd tb L w a then 1 else 0) ∧ (wd tb L w a → MJ τ G' m tb L (.inl (bl tb L (a + w.length))))) := by
  obtain ⟨hB, p, hp, h10, hbp⟩ := h
  have hbl := bl_le (tb := tb) hp
  refine gOk.mono (m_letters hB hn h10 hp) fun G1 g1 => ?_
  obtain ⟨d, e1, e2⟩ := g1
  rw [hbp] at e1 e2 hbl
  have hlt := lt_le (tb := tb) hbl.2
  refine ⟨d, ⟨hB.tm d, hbl.2, e2⟩, fun w hw => ⟨m_isWord (hB.tm d) hn hw e1 e2 hbl.2, fun h => ⟨hB.tm d, _, hlt.2, e1, ?_⟩⟩⟩
  rw [(wd_iff.mp h).1]
theorem m_af (h : MJ τ G m tb L (.inl a)) (hw : wO w) (hlo : (-1 : Int32) < lo) (hn : 500 < n) : gOk (f_X11_after τ n m w lo hi G) (fun q => TM m G q.2 ∧ q.1 = afV tb L w lo hi (.inl a) ∧ MJ τ q.2 m tb L (afS tb L w lo hi (.inl a))) := by
  unfold f_X11_after
  rw [ka_bind]
  refine gOk.mono (m_word h hn) fun G1 g1 => ?_
  obtain ⟨d1, j1, g2⟩ := g1
  obtain ⟨e1, e2⟩ := g2 w hw
  rw [e1, ka_bs]
  unfold afV afS
  rw [ndW_i]
  by_cases hwd : wd tb L w a
  · rw [if_pos hwd, if_neg ka_n10, if_pos hwd, ka_bind2]
    refine gOk.mono (m_nb (e2 hwd) hlo hn) fun q hq => ?_
    exact ⟨_, rfl, d1.tr hq.1, hq.2.1, hq.2.2.1⟩
  · rw [if_neg hwd, if_pos rfl, if_neg hwd]
    exact ⟨_, rfl, d1, rfl, j1⟩
theorem mr_nb (h : MR τ G m tb L (.inl a) ω) (hlo : (-1 : Int32) < lo) (hn : 500 < n) : gOk (f_X11_number τ n m lo hi G) (fun q => MK m G q.2 ∧ q.1 = nbV tb L lo hi (.inl a) ∧ MR τ q.2 m tb L (nbS tb L lo hi (.inl a)) ω ∧ gi q.2 11 12 m = nI a) := by
  refine gOk.mono (m_nb h.1 hlo hn) fun q hq => ?_
  exact ⟨MK.tm hq.1, hq.2.1, h.tm hq.1 hq.2.2.1, hq.2.2.2⟩
theorem mr_af (h : MR τ G m tb L (.inl a) ω) (hw : wO w) (hlo : (-1 : Int32) < lo) (hn : 500 < n) : gOk (f_X11_after τ n m w lo hi G) (fun q => MK m G q.2 ∧ q.1 = afV tb L w lo hi (.inl a) ∧ MR τ q.2 m tb L (afS tb L w lo hi (.inl a)) ω) := by
  refine gOk.mono (m_af h.1 hw hlo hn) fun q hq => ?_
  exact ⟨MK.tm hq.1, hq.2.1, h.tm hq.1 hq.2.2⟩
theorem MR.no (h : MR τ G m tb L (.inr f) ω) : MJ τ G m tb L (.inr f) ∧ FM τ G m := ⟨h.1, h.2.1⟩
theorem m_readYarn (h : MR τ G m tb L (.inl a) ω) (hI : WI ω) (h10 : cY ω < 10) (hn : 500 < n) : gOk (f_X11_readYarn τ n m G) (MO τ m tb L G (yr4 tb L (.inl a)) (yrW tb L ω (.inl a))) := by
  have k76 : ∀ {p q r : Int32} {G : gG}, k_X11_readYarn_76 τ n m (nI (cY ω)) p q r (-1) G = some (0, G) := fun {p q r G} => by
    unfold k_X11_readYarn_76
    rw [if_neg (by decide)]
  have k57 : ∀ {p q : Int32} {G : gG}, k_X11_readYarn_57 τ n m (nI (cY ω)) p q (-1) G = some (0, G) := fun {p q G} => by
    unfold k_X11_readYarn_57
    rw [if_neg (by decide), k76]
  have k39 : ∀ {p : Int32} {G : gG}, k_X11_readYarn_39 τ n m (nI (cY ω)) p (-1) G = some (0, G) := fun {p G} => by
    unfold k_X11_readYarn_39
    rw [if_neg (by decide), k57]
  unfold f_X11_readYarn
  rw [h.2.1.cn.1, ka_bs, h.2.2, hI.y0, if_neg (show ¬ nI (cY ω) = (10 : Int32) from fun e => by have := (nI_eq (b := 10) (by omega) (by decide)).mp e; omega), ka_bind2]
  refine gOk.mono (mr_nb h (lo := 1) (hi := 30) (by decide) hn) fun q hq => ?_
  obtain ⟨v2, G3⟩ := q
  obtain ⟨f3, e2, h3, -⟩ := hq
  have e2 : v2 = nbV tb L 1 30 (.inl a) := e2
  have f3 : MK m G G3 := f3
  have h3 : MR τ G3 m tb L (yr1 tb L (.inl a)) ω := h3
  show gOk (if 0 ≤ v2 then _ else _) _
  cases hr1 : yr1 tb L (.inl a) with
  | inr f =>
    rw [hr1] at h3
    rw [show v2 = -1 from e2.trans (nb_no hr1), if_neg (by decide)]
    refine ⟨_, k39, f3, Or.inr ⟨rfl, f, ?_, h3.no⟩⟩
    unfold yr4 yr3 yr2
    rw [hr1]
    rfl
  | inl b1 =>
  rw [hr1] at h3
  rw [if_pos (by rw [e2]; exact nb_ge (by decide) hr1), ka_bind2]
  refine gOk.mono (mr_af h3 wo_long (lo := 0) (hi := 200) (by decide) hn) fun q hq => ?_
  obtain ⟨v5, G6⟩ := q
  obtain ⟨f6, e5, h6⟩ := hq
  have e5 : v5 = afV tb L s_long 0 200 (yr1 tb L (.inl a)) := by rw [hr1]; exact e5
  have f6 : MK m G3 G6 := f6
  have h6 : MR τ G6 m tb L (yr2 tb L (.inl a)) ω := by unfold yr2; rw [hr1]; exact h6
  show gOk (k_X11_readYarn_39 τ n m (nI (cY ω)) v2 v5 G6) _
  cases hr2 : yr2 tb L (.inl a) with
  | inr f =>
    rw [hr2] at h6
    rw [show v5 = -1 from e5.trans (nb_no hr2)]
    refine ⟨_, k39, f3.tr f6, Or.inr ⟨rfl, f, ?_, h6.no⟩⟩
    unfold yr4 yr3
    rw [hr2]
    rfl
  | inl b2 =>
  rw [hr2] at h6
  unfold k_X11_readYarn_39
  rw [if_pos (by rw [e5]; exact nb_ge (by decide) hr2), ka_bind2]
  refine gOk.mono (mr_af h6 wo_rot (lo := 0) (hi := 9) (by decide) hn) fun q hq => ?_
  obtain ⟨v8, G9⟩ := q
  obtain ⟨f9, e8, h9⟩ := hq
  have e8 : v8 = afV tb L s_rot 0 9 (yr2 tb L (.inl a)) := by rw [hr2]; exact e8
  have f9 : MK m G6 G9 := f9
  have h9 : MR τ G9 m tb L (yr3 tb L (.inl a)) ω := by unfold yr3; rw [hr2]; exact h9
  show gOk (k_X11_readYarn_57 τ n m (nI (cY ω)) v2 v5 v8 G9) _
  cases hr3 : yr3 tb L (.inl a) with
  | inr f =>
    rw [hr3] at h9
    rw [show v8 = -1 from e8.trans (nb_no hr3)]
    refine ⟨_, k57, (f3.tr f6).tr f9, Or.inr ⟨rfl, f, ?_, h9.no⟩⟩
    unfold yr4
    rw [hr3]
    rfl
  | inl b3 =>
  rw [hr3] at h9
  unfold k_X11_readYarn_57
  rw [if_pos (by rw [e8]; exact nb_ge (by decide) hr3), ka_bind2]
  refine gOk.mono (mr_af h9 wo_reign (lo := 0) (hi := 5) (by decide) hn) fun q hq => ?_
  obtain ⟨v11, G12⟩ := q
  obtain ⟨f12, e11, h12⟩ := hq
  have e11 : v11 = afV tb L s_reign 0 5 (yr3 tb L (.inl a)) := by rw [hr3]; exact e11
  have f12 : MK m G9 G12 := f12
  have h12 : MR τ G12 m tb L (yr4 tb L (.inl a)) ω := by unfold yr4; rw [hr3]; exact h12
  have fA := ((f3.tr f6).tr f9).tr f12
  show gOk (k_X11_readYarn_76 τ n m (nI (cY ω)) v2 v5 v8 v11 G12) _
  cases hr4 : yr4 tb L (.inl a) with
  | inr f =>
    rw [hr4] at h12
    rw [show v11 = -1 from e11.trans (nb_no hr4)]
    exact ⟨_, k76, fA, Or.inr ⟨rfl, f, rfl, h12.no⟩⟩
  | inl b4 =>
  rw [hr4] at h12
  have hy0 : f_X11_yarnAt (nI (cY ω)) 0 = some (nI (13 + 4 * cY ω)) := yat_e _ 0
  have hy1 : f_X11_yarnAt (nI (cY ω)) 1 = some (nI (13 + 4 * cY ω + 1)) := yat_e _ 1
  have hy2 : f_X11_yarnAt (nI (cY ω)) 2 = some (nI (13 + 4 * cY ω + 2)) := yat_e _ 2
  have hy3 : f_X11_yarnAt (nI (cY ω)) 3 = some (nI (13 + 4 * cY ω + 3)) := yat_e _ 3
  unfold k_X11_readYarn_76
  have g1 := h12.wr (k := 13 + 4 * cY ω) (v := v2)
  have g2 := g1.wr (k := 13 + 4 * cY ω + 1) (v := v5)
  have g3 := g2.wr (k := 13 + 4 * cY ω + 2) (v := v8)
  have g4 := g3.wr (k := 13 + 4 * cY ω + 3) (v := v11)
  have e0 : (ge (gse (gse (gse (gse G12 (m + 1) (13 + 4 * cY ω) v2) (m + 1) (13 + 4 * cY ω + 1) v5) (m + 1) (13 + 4 * cY ω + 2) v8) (m + 1) (13 + 4 * cY ω + 3) v11) (m + 1) (Int32.toNatClampNeg 0) + 1) = nI (cY ω + 1) := by
    rw [g4.2.2, show Int32.toNatClampNeg 0 = 0 from rfl, wSt_ne (by omega), wSt_ne (by omega), wSt_ne (by omega), wSt_ne (by omega), hI.y0, nI_1]
  rw [if_pos (by rw [e11]; exact nb_ge (by decide) hr4), m_g h12.2.1, hy0, ka_bs, m_w h12.2.1 (13 + 4 * cY ω) rfl (by omega), m_g g1.2.1, hy1, ka_bs, m_w g1.2.1 (13 + 4 * cY ω + 1) rfl (by omega), m_g g2.2.1, hy2, ka_bs, m_w g2.2.1 (13 + 4 * cY ω + 2) rfl (by omega), m_g g3.2.1, hy3, ka_bs, m_w g3.2.1 (13 + 4 * cY ω + 3) rfl (by omega), m_g g4.2.1, m_w2 g4.2.1 (x := 0) 0 rfl (by decide), e0]
  have g5 := g4.wr (k := 0) (v := nI (cY ω + 1))
  refine ⟨_, rfl, fA.tr (((((MK.ww).tr MK.ww).tr MK.ww).tr MK.ww).tr MK.ww), Or.inl ⟨rfl, b4, rfl, ?_⟩⟩
  rw [e2, e5, e8, e11] at g5
  rw [e2, e5, e8, e11]
  exact g5
theorem m_readOrder (h : MR τ G m tb L (.inl a) ω) (hI : WI ω) (h8 : cO ω < 8) (hn : 500 < n) : gOk (f_X11_readOrder τ n m G) (MO τ m tb L G (or3 tb L (.inl a)) (orW tb L ω (.inl a))) := by
  have k55 : ∀ {p q r : Int32} {G : gG}, k_X11_readOrder_55 τ n m p q (-1) G = some (0, G) := fun {p q r G} => by
    unfold k_X11_readOrder_55
    rw [if_neg (by decide)]
  have k37 : ∀ {p : Int32} {G : gG}, k_X11_readOrder_37 τ n m p (-1) G = some (0, G) := fun {p G} => by
    unfold k_X11_readOrder_37
    rw [if_neg (by decide), k55 (r := 0)]
  unfold f_X11_readOrder
  rw [h.2.1.cn.2.2, ka_bs, h.2.2, hI.o0, if_neg (show ¬ nI (cO ω) = (8 : Int32) from fun e => by have := (nI_eq (b := 8) (by omega) (by decide)).mp e; omega), ka_bind2]
  refine gOk.mono (mr_nb h (lo := 1) (hi := 400) (by decide) hn) fun q hq => ?_
  obtain ⟨v2, G3⟩ := q
  obtain ⟨f3, e2, h3, -⟩ := hq
  have e2 : v2 = nbV tb L 1 400 (.inl a) := e2
  have f3 : MK m G G3 := f3
  have h3 : MR τ G3 m tb L (or1 tb L (.inl a)) ω := h3
  show gOk (if 0 ≤ v2 then _ else _) _
  cases hr1 : or1 tb L (.inl a) with
  | inr f =>
    rw [hr1] at h3
    rw [show v2 = -1 from e2.trans (nb_no hr1), if_neg (by decide)]
    refine ⟨_, k37, f3, Or.inr ⟨rfl, f, ?_, h3.no⟩⟩
    unfold or3 or2
    rw [hr1]
    rfl
  | inl b1 =>
  rw [hr1] at h3
  rw [if_pos (by rw [e2]; exact nb_ge (by decide) hr1), ka_bind2]
  refine gOk.mono (mr_af h3 wo_long (lo := 1) (hi := 60) (by decide) hn) fun q hq => ?_
  obtain ⟨v5, G6⟩ := q
  obtain ⟨f6, e5, h6⟩ := hq
  have e5 : v5 = afV tb L s_long 1 60 (or1 tb L (.inl a)) := by rw [hr1]; exact e5
  have f6 : MK m G3 G6 := f6
  have h6 : MR τ G6 m tb L (or2 tb L (.inl a)) ω := by unfold or2; rw [hr1]; exact h6
  show gOk (k_X11_readOrder_37 τ n m v2 v5 G6) _
  cases hr2 : or2 tb L (.inl a) with
  | inr f =>
    rw [hr2] at h6
    rw [show v5 = -1 from e5.trans (nb_no hr2)]
    refine ⟨_, k37, f3.tr f6, Or.inr ⟨rfl, f, ?_, h6.no⟩⟩
    unfold or3
    rw [hr2]
    rfl
  | inl b2 =>
  rw [hr2] at h6
  unfold k_X11_readOrder_37
  rw [if_pos (by rw [e5]; exact nb_ge (by decide) hr2), ka_bind2]
  refine gOk.mono (mr_af h6 wo_pay (lo := 0) (hi := 99) (by decide) hn) fun q hq => ?_
  obtain ⟨v8, G9⟩ := q
  obtain ⟨f9, e8, h9⟩ := hq
  have e8 : v8 = afV tb L s_pay 0 99 (or2 tb L (.inl a)) := by rw [hr2]; exact e8
  have f9 : MK m G6 G9 := f9
  have h9 : MR τ G9 m tb L (or3 tb L (.inl a)) ω := by unfold or3; rw [hr2]; exact h9
  have fA := (f3.tr f6).tr f9
  show gOk (k_X11_readOrder_55 τ n m v2 v5 v8 G9) _
  cases hr3 : or3 tb L (.inl a) with
  | inr f =>
    rw [hr3] at h9
    rw [show v8 = -1 from e8.trans (nb_no hr3)]
    exact ⟨_, k55 (r := 0), fA, Or.inr ⟨rfl, f, rfl, h9.no⟩⟩
  | inl b3 =>
  rw [hr3] at h9
  unfold k_X11_readOrder_55
  have g1 := h9.wr (k := 143 + 3 * cO ω) (v := v2)
  have g2 := g1.wr (k := 143 + 3 * cO ω + 1) (v := v5)
  have g3 := g2.wr (k := 143 + 3 * cO ω + 2) (v := v8)
  have e0 : (ge (gse (gse (gse G9 (m + 1) (143 + 3 * cO ω) v2) (m + 1) (143 + 3 * cO ω + 1) v5) (m + 1) (143 + 3 * cO ω + 2) v8) (m + 1) (Int32.toNatClampNeg 2) + 1) = nI (cO ω + 1) := by
    rw [g3.2.2, show Int32.toNatClampNeg 2 = 2 from rfl, wSt_ne (by omega), wSt_ne (by omega), wSt_ne (by omega), hI.o0, nI_1]
  have i0 : (143 : Int32) + (3 : Int32) * nI (cO ω) = nI (143 + 3 * cO ω) := by
    rw [show (143 : Int32) = nI 143 from rfl, show (3 : Int32) = nI 3 from rfl, pk_mul, nI_add]
  rw [if_pos (by rw [e8]; exact nb_ge (by decide) hr3), h9.2.1.cn.2.2, ka_bs, h9.2.2, hI.o0, i0, ka_letE, m_g h9.2.1, m_w h9.2.1 (x := nI (143 + 3 * cO ω) + 0) (143 + 3 * cO ω) (ka_ix (b := 0) rfl) (by omega), m_g g1.2.1, m_w g1.2.1 (x := nI (143 + 3 * cO ω) + 1) (143 + 3 * cO ω + 1) (ka_ix (b := 1) rfl) (by omega), m_g g2.2.1, m_w g2.2.1 (x := nI (143 + 3 * cO ω) + 2) (143 + 3 * cO ω + 2) (ka_ix (b := 2) rfl) (by omega), m_g g3.2.1, m_w2 g3.2.1 (x := 2) 2 rfl (by decide), e0]
  have g5 := g3.wr (k := 2) (v := nI (cO ω + 1))
  refine ⟨_, rfl, fA.tr ((((MK.ww).tr MK.ww).tr MK.ww).tr MK.ww), Or.inl ⟨rfl, b3, rfl, ?_⟩⟩
  rw [e2, e5, e8] at g5
  rw [e2, e5, e8]
  exact g5
/-- gale, damp -/
theorem m_readNumber (h : MR τ G m tb L (.inl a) ω) {k : Nat} {kk : Int32} (hk : kk = nI k) (hk2 : k < 467) (hn : 500 < n) : gOk (f_X11_readNumber τ n m kk G) (MO τ m tb L G (nbS tb L 0 100 (.inl a)) (wSt ω k (nbV tb L 0 100 (.inl a)))) := by
  subst hk
  unfold f_X11_readNumber
  rw [ka_bind2]
  refine gOk.mono (mr_nb h (lo := 0) (hi := 100) (by decide) hn) fun q hq => ?_
  obtain ⟨v1, G2⟩ := q
  obtain ⟨f2, e1, h2, -⟩ := hq
  have e1 : v1 = nbV tb L 0 100 (.inl a) := e1
  have f2 : MK m G G2 := f2
  have h2 : MR τ G2 m tb L (nbS tb L 0 100 (.inl a)) ω := h2
  show gOk ((gr G2 11 1 m).bind fun a3 => if 0 ≤ v1 then _ else _) _
  rw [m_g h2.2.1]
  cases hr : nbS tb L 0 100 (.inl a) with
  | inr f =>
    rw [hr] at h2
    rw [show v1 = -1 from e1.trans (nb_no hr), if_neg (by decide), m_g h2.2.1, ka_chkT (show gIn (nI k) (gn τ (m + 1)) by rw [h2.2.1.2.1]; exact ka_in (by omega) (by decide))]
    unfold k_X11_readNumber_27
    rw [m_w h2.2.1 k rfl (by omega), if_pos (show (-1 : Int32) < 0 by decide)]
    exact ⟨_, rfl, f2.tr MK.ww, Or.inr ⟨rfl, f, rfl, h2.wr.no⟩⟩
  | inl b =>
    rw [hr] at h2
    have h0 : (0 : Int32) ≤ v1 := by rw [e1]; exact nb_ge (by decide) hr
    rw [if_pos h0]
    unfold k_X11_readNumber_27
    rw [m_w h2.2.1 k rfl (by omega), if_neg (fun e => nle_of_lt e h0)]
    refine ⟨_, rfl, f2.tr MK.ww, Or.inl ⟨rfl, b, rfl, ?_⟩⟩
    rw [← e1]
    exact h2.wr
end
