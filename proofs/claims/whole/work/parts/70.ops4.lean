/-! CALLS: skips, loose, fault, count, weakest -/
section
variable {τ : gτ} {n : Nat} {G : gG} {x m s t l l' o : Nat} {ω ω' : gW} {im : Option gW} {me : List gW} {ta : List Nat} {fa : Int32}
/-- a question that answers, beside the state as it is -/
theorem join_0 {α : Type} {fm : gG → Option (α × gG)} {ans : α} (hm : m = x + 512) (hC : CV τ G x s t l l' ω im me ta fa) (hM : MV τ G m ω im me ta fa) (hI : IV ω im me ta)
    (h2 : gOk (fm G) (fun p => p.1 = ans ∧ QM m G p.2)) : gOk (fm G) (fun p => ans = p.1 ∧ ST τ x m p.2) := by
  refine gOk.mono h2 fun p hp => ⟨hp.1.symm, ?_⟩
  exact ST.mk0 hm hI hC Fr.rf (hM.q hp.2).2 (hM.q hp.2).1 (hp.2.1.mono fun b hb => by omega)
theorem op_skips (hm : m = x + 512) (hn : 500 < n) (hC : CV τ G x s t l l' ω im me ta fa) (hM : MV τ G m ω im me ta fa) (hI : IV ω im me ta) : ∃ v, f_X10_skips τ n x G = some v ∧ gOk (f_X11_skips τ n m G) (fun p => v = p.1 ∧ ST τ x m p.2) :=
  ⟨_, c_skips hC hI.1 (by omega), join_0 hm hC hM hI (m_skips hM.1 hM.2.1 hI.1 (by omega))⟩
theorem op_loose (hm : m = x + 512) (hn : 500 < n) (hC : CV τ G x s t l l' ω im me ta fa) (hM : MV τ G m ω im me ta fa) (hI : IV ω im me ta) : ∃ v, f_X10_loose τ n x G = some v ∧ gOk (f_X11_loose τ n m G) (fun p => v = p.1 ∧ ST τ x m p.2) :=
  ⟨_, c_loose hC hI.1 (by omega), join_0 hm hC hM hI (m_loose hM.1 hM.2.1 hI.1 (by omega))⟩
theorem op_fault (hm : m = x + 512) (hC : CV τ G x s t l l' ω im me ta fa) (hM : MV τ G m ω im me ta fa) (hI : IV ω im me ta) : ∃ v, f_X10_fault x G = some v ∧ gOk (f_X11_fault m G) (fun p => v = p.1 ∧ ST τ x m p.2) := by
  refine ⟨fa, ?_, join_0 hm hC hM hI ?_⟩
  · unfold f_X10_fault
    rw [hC.rf.1, ka_bs, hC.2.2.2.2.2.2]
  · unfold f_X11_fault
    exact ⟨_, rfl, hM.2.2.2.2.2, QM.th⟩
def coS (ω : gW) (k : Nat) : Nat → Int32
  | 0 => ω 0
  | 1 => ω 1
  | 2 => ω 2
  | 3 => ω 3
  | 4 => if ω 4 = 1 then ω 467 else -1
  | 5 => ω 5
  | 6 => ω 6
  | 7 => ω 7
  | 8 => acc (fun i b => b + rv ω i 9) 0 (cR ω)
  | 9 => ω 8
  | 10 => ω 9
  | 11 => ω 10
  | 12 => brS ω
  | 13 => ω 11
  | _ => nI k
theorem c_count (hC : CV τ G x s t l l' ω im me ta fa) (hI : WI ω) (hn : 500 < n) {j : Nat} (hj : j < 15) : f_X10_count τ n x (nI j) G = some (coS ω me.length j) := by
  obtain ⟨v0, v1, v2, v3, v4, v5, v6, v7, v8, v9, v10⟩ := hC.vs.cn
  have hs' := hC.rf.2.2.2.2.2.2.2.2.2.2.1
  have hl' := hC.rf.2.2.2.2.2.2.2.2.2.2.2.2.1
  unfold f_X10_count
  match j, hj with
  | 0, _ => rw [if_pos (by decide), hs', ka_bs, v0]; rfl
  | 1, _ => rw [if_neg (by decide), if_pos (by decide), hs', ka_bs, v1]; rfl
  | 2, _ => rw [if_neg (by decide), if_neg (by decide), if_pos (by decide), hs', ka_bs, v2]; rfl
  | 3, _ => rw [if_neg (by decide), if_neg (by decide), if_neg (by decide), if_pos (by decide), hs', ka_bs, v3]; rfl
  | 4, _ =>
    rw [if_neg (by decide), if_neg (by decide), if_neg (by decide), if_neg (by decide), if_pos (by decide), hl', ka_bs, hC.lv.1]
    show _ = some (if ω 4 = 1 then ω 467 else -1)
    by_cases h : ω 4 = 1
    · rw [if_neg (by rw [h]; decide), ka_bs, (hC.lv.2.2 h).1, if_pos h]
    · rw [if_pos ((bt01 hI.2.1.2.1).resolve_right h), if_neg h]
  | 5, _ => rw [if_neg (by decide), if_neg (by decide), if_neg (by decide), if_neg (by decide), if_neg (by decide), if_pos (by decide), hs', ka_bs, v6]; rfl
  | 6, _ => rw [if_neg (by decide), if_neg (by decide), if_neg (by decide), if_neg (by decide), if_neg (by decide), if_neg (by decide), if_pos (by decide), hs', ka_bs, v4]; rfl
  | 7, _ => rw [if_neg (by decide), if_neg (by decide), if_neg (by decide), if_neg (by decide), if_neg (by decide), if_neg (by decide), if_neg (by decide), if_pos (by decide), hs', ka_bs, v5]; rfl
  | 8, _ => rw [if_neg (by decide), if_neg (by decide), if_neg (by decide), if_neg (by decide), if_neg (by decide), if_neg (by decide), if_neg (by decide), if_neg (by decide), if_pos (by decide), hs', ka_bs, s_hangingLoads hC.fs.1 hC.vs hI (by omega)]; rfl
  | 9, _ => rw [if_neg (by decide), if_neg (by decide), if_neg (by decide), if_neg (by decide), if_neg (by decide), if_neg (by decide), if_neg (by decide), if_neg (by decide), if_neg (by decide), if_pos (by decide), hs', ka_bs, v9]; rfl
  | 10, _ => rw [if_neg (by decide), if_neg (by decide), if_neg (by decide), if_neg (by decide), if_neg (by decide), if_neg (by decide), if_neg (by decide), if_neg (by decide), if_neg (by decide), if_neg (by decide), if_pos (by decide), hs', ka_bs, v10]; rfl
  | 11, _ => rw [if_neg (by decide), if_neg (by decide), if_neg (by decide), if_neg (by decide), if_neg (by decide), if_neg (by decide), if_neg (by decide), if_neg (by decide), if_neg (by decide), if_neg (by decide), if_neg (by decide), if_pos (by decide), hs', ka_bs, v8]; rfl
  | 12, _ => rw [if_neg (by decide), if_neg (by decide), if_neg (by decide), if_neg (by decide), if_neg (by decide), if_neg (by decide), if_neg (by decide), if_neg (by decide), if_neg (by decide), if_neg (by decide), if_neg (by decide), if_neg (by decide), if_pos (by decide), hs', ka_bs, s_brokenRopes hC.fs.1 hC.vs hI (by omega)]; rfl
  | 13, _ => rw [if_neg (by decide), if_neg (by decide), if_neg (by decide), if_neg (by decide), if_neg (by decide), if_neg (by decide), if_neg (by decide), if_neg (by decide), if_neg (by decide), if_neg (by decide), if_neg (by decide), if_neg (by decide), if_neg (by decide), if_pos (by decide), hs', ka_bs, hC.fs.1.rf.2.2.2.1, ka_bs, hC.vs.2.2.2.2.1]; rfl
  | 14, _ =>
    obtain ⟨nx, -, h, -⟩ := hC.2.2.2.2.1
    rw [if_neg (by decide), if_neg (by decide), if_neg (by decide), if_neg (by decide), if_neg (by decide), if_neg (by decide), if_neg (by decide), if_neg (by decide), if_neg (by decide), if_neg (by decide), if_neg (by decide), if_neg (by decide), if_neg (by decide), if_neg (by decide), if_pos (by decide), hC.rf.2.2.2.1, ka_bs, h]; rfl
theorem m_count (hM : MV τ G m ω im me ta fa) (hI : WI ω) (hn : 500 < n) {j : Nat} (hj : j < 15) : gOk (f_X11_count τ n m (nI j) G) (fun p => p.1 = coS ω me.length j ∧ QM m G p.2) := by
  have hM1 : FM τ (gsi G 11 0 m 0) m := QM.th.fm hM.1
  have hω1 : ge (gsi G 11 0 m 0) (m + 1) = ω := hM.2.1
  unfold f_X11_count
  rw [ka_letE]
  match j, hj with
  | 4, _ =>
    rw [if_pos (by decide), hM1.rf.1, ka_bs, hM1.w (x := 4) 4 rfl (by decide), hω1]
    show gOk (if ω 4 = 1 then _ else _) (fun p : Int32 × gG => p.1 = (if ω 4 = 1 then ω 467 else -1) ∧ QM m G p.2)
    by_cases h : ω 4 = 1
    · rw [if_pos h, if_pos h, ka_bs, hM1.w (x := 467) 467 rfl (by decide), hω1]
      exact ⟨_, rfl, rfl, QM.th⟩
    · rw [if_neg h, if_neg h]
      exact ⟨_, rfl, rfl, QM.th⟩
  | 5, _ => rw [if_neg (by decide), if_pos (by decide), m_in0, ka_bs, if_neg (by decide), hM1.rf.1, ka_bs, hM1.w 5 rfl (by decide), hω1]; exact ⟨_, rfl, rfl, QM.th⟩
  | 6, _ => rw [if_neg (by decide), if_neg (by decide), if_pos (by decide), m_in0, ka_bs, if_neg (by decide), hM1.rf.1, ka_bs, hM1.w 6 rfl (by decide), hω1]; exact ⟨_, rfl, rfl, QM.th⟩
  | 7, _ => rw [if_neg (by decide), if_neg (by decide), if_neg (by decide), if_pos (by decide), m_in0, ka_bs, if_neg (by decide), hM1.rf.1, ka_bs, hM1.w 7 rfl (by decide), hω1]; exact ⟨_, rfl, rfl, QM.th⟩
  | 8, _ =>
    rw [if_neg (by decide), if_neg (by decide), if_neg (by decide), if_neg (by decide), if_pos (by decide), m_allLoads hM1 (by rw [hω1]; exact hI) (by omega), ka_bs, hω1]
    exact ⟨_, rfl, rfl, QM.th⟩
  | 9, _ => rw [if_neg (by decide), if_neg (by decide), if_neg (by decide), if_neg (by decide), if_neg (by decide), if_pos (by decide), hM1.rf.1, ka_bs, hM1.w (x := 8) 8 rfl (by decide), hω1]; exact ⟨_, rfl, rfl, QM.th⟩
  | 10, _ => rw [if_neg (by decide), if_neg (by decide), if_neg (by decide), if_neg (by decide), if_neg (by decide), if_neg (by decide), if_pos (by decide), hM1.rf.1, ka_bs, hM1.w (x := 9) 9 rfl (by decide), hω1]; exact ⟨_, rfl, rfl, QM.th⟩
  | 11, _ => rw [if_neg (by decide), if_neg (by decide), if_neg (by decide), if_neg (by decide), if_neg (by decide), if_neg (by decide), if_neg (by decide), if_pos (by decide), hM1.rf.1, ka_bs, hM1.w (x := 10) 10 rfl (by decide), hω1]; exact ⟨_, rfl, rfl, QM.th⟩
  | 12, _ =>
    rw [if_neg (by decide), if_neg (by decide), if_neg (by decide), if_neg (by decide), if_neg (by decide), if_neg (by decide), if_neg (by decide), if_neg (by decide), if_pos (by decide), m_brokenOnes hM1 hω1 hI (by omega), ka_bs]
    exact ⟨_, rfl, rfl, QM.th⟩
  | 13, _ => rw [if_neg (by decide), if_neg (by decide), if_neg (by decide), if_neg (by decide), if_neg (by decide), if_neg (by decide), if_neg (by decide), if_neg (by decide), if_neg (by decide), if_pos (by decide), hM1.rf.1, ka_bs, hM1.w (x := 11) 11 rfl (by decide), hω1]; exact ⟨_, rfl, rfl, QM.th⟩
  | 14, _ =>
    rw [if_neg (by decide), if_neg (by decide), if_neg (by decide), if_neg (by decide), if_neg (by decide), if_neg (by decide), if_neg (by decide), if_neg (by decide), if_neg (by decide), if_neg (by decide), if_pos (by decide)]
    exact ⟨_, rfl, by rw [ka_ii, if_neg (fun h => absurd h.2.1 (by decide))]; exact hM.2.2.2.1.1, QM.th⟩
  | 0, _ => rw [if_neg (by decide), if_neg (by decide), if_neg (by decide), if_neg (by decide), if_neg (by decide), if_neg (by decide), if_neg (by decide), if_neg (by decide), if_neg (by decide), if_neg (by decide), if_neg (by decide), m_in0, ka_bs, if_neg (by decide), hM1.rf.1, ka_bs, hM1.w 0 rfl (by decide), hω1]; exact ⟨_, rfl, rfl, QM.th⟩
  | 1, _ => rw [if_neg (by decide), if_neg (by decide), if_neg (by decide), if_neg (by decide), if_neg (by decide), if_neg (by decide), if_neg (by decide), if_neg (by decide), if_neg (by decide), if_neg (by decide), if_neg (by decide), m_in0, ka_bs, if_neg (by decide), hM1.rf.1, ka_bs, hM1.w 1 rfl (by decide), hω1]; exact ⟨_, rfl, rfl, QM.th⟩
  | 2, _ => rw [if_neg (by decide), if_neg (by decide), if_neg (by decide), if_neg (by decide), if_neg (by decide), if_neg (by decide), if_neg (by decide), if_neg (by decide), if_neg (by decide), if_neg (by decide), if_neg (by decide), m_in0, ka_bs, if_neg (by decide), hM1.rf.1, ka_bs, hM1.w 2 rfl (by decide), hω1]; exact ⟨_, rfl, rfl, QM.th⟩
  | 3, _ => rw [if_neg (by decide), if_neg (by decide), if_neg (by decide), if_neg (by decide), if_neg (by decide), if_neg (by decide), if_neg (by decide), if_neg (by decide), if_neg (by decide), if_neg (by decide), if_neg (by decide), m_in0, ka_bs, if_neg (by decide), hM1.rf.1, ka_bs, hM1.w 3 rfl (by decide), hω1]; exact ⟨_, rfl, rfl, QM.th⟩
theorem op_count (hm : m = x + 512) (hn : 500 < n) (hC : CV τ G x s t l l' ω im me ta fa) (hM : MV τ G m ω im me ta fa) (hI : IV ω im me ta) (w : Int32) : ∃ v, f_X10_count τ n x w G = some v ∧ gOk (f_X11_count τ n m w G) (fun p => v = p.1 ∧ ST τ x m p.2) := by
  rcases arg_ix w (N := 15) (by decide) with ⟨j, hj, rfl⟩ | ⟨hw, hw2⟩
  · exact ⟨_, c_count hC hI.1 hn hj, join_0 hm hC hM hI (m_count hM hI.1 hn hj)⟩
  · have e : ∀ j : Nat, j < 15 → ∀ v : Int32, v = nI j → ¬ w = v := fun j hj v hv h => hw2 j hj (h.trans hv)
    refine ⟨-1, ?_, join_0 hm hC hM hI ?_⟩
    · unfold f_X10_count
      rw [if_neg (e 0 (by decide) 0 rfl), if_neg (e 1 (by decide) 1 rfl), if_neg (e 2 (by decide) 2 rfl), if_neg (e 3 (by decide) 3 rfl), if_neg (e 4 (by decide) 4 rfl), if_neg (e 5 (by decide) 5 rfl), if_neg (e 6 (by decide) 6 rfl), if_neg (e 7 (by decide) 7 rfl), if_neg (e 8 (by decide) 8 rfl), if_neg (e 9 (by decide) 9 rfl), if_neg (e 10 (by decide) 10 rfl), if_neg (e 11 (by decide) 11 rfl), if_neg (e 12 (by decide) 12 rfl), if_neg (e 13 (by decide) 13 rfl), if_neg (e 14 (by decide) 14 rfl)]
    · unfold f_X11_count
      rw [ka_letE, if_neg (e 4 (by decide) 4 rfl), if_neg (e 5 (by decide) 5 rfl), if_neg (e 6 (by decide) 6 rfl), if_neg (e 7 (by decide) 7 rfl), if_neg (e 8 (by decide) 8 rfl), if_neg (e 9 (by decide) 9 rfl), if_neg (e 10 (by decide) 10 rfl), if_neg (e 11 (by decide) 11 rfl), if_neg (e 12 (by decide) 12 rfl), if_neg (e 13 (by decide) 13 rfl), if_neg (e 14 (by decide) 14 rfl), m_in0, ka_bs, if_pos (show w < 0 ∨ 7 < w from hw.elim Or.inl (fun h => Or.inr (Int32.lt_of_lt_of_le (by decide : (7 : Int32) < nI 15) h))), if_pos rfl]
      exact ⟨_, rfl, rfl, QM.th⟩
/-! WEAKEST -/
def wkF (ω : gW) (i : Nat) (s : Option Nat) : Option Nat := if rv ω i 8 = 0 then (match s with
  | none => some i
  | some f => if beS ω f - rv ω f 9 ≤ beS ω i - rv ω i 9 then some f else some i) else s
def wkR : Option Nat → Int32
  | none => -1
  | some f => nI f
def wkS (ω : gW) : Option Nat := acc (wkF ω) none (cR ω)
theorem c_weakest (hC : CV τ G x s t l l' ω im me ta fa) (hI : IV ω im me ta) (hn : 500 < n) : gOk (f_X10_weakest τ n x G) (fun q => q.1 = wkR (wkS ω) ∧ QC τ x t G q.2) := by
  have hr := hI.1.r1
  have hsl := hC.sl
  unfold f_X10_weakest
  rw [ka_bind]
  unfold l_X10_weakest_6
  refine gOk.mono (ka_loop (cR ω) (fun i q => (q.1 = wkR (acc (wkF ω) none i) ∧ (∀ f, acc (wkF ω) none i = some f → f < i ∧ q.2.1 = beS ω f - rv ω f 9)) ∧ q.2.2.1 = nI i ∧ QC τ x t G q.2.2.2) (K := fun r => r.1 = wkR (wkS ω) ∧ QC τ x t G r.2) (by omega) ⟨⟨rfl, fun f h => by cases h⟩, rfl, QC.rf⟩ (fun i q hi hp => ?_)) fun r hr => ⟨_, rfl, hr⟩
  obtain ⟨p1, p2, p3, G1⟩ := q
  obtain ⟨⟨h1, h2⟩, rfl, h3⟩ := hp
  have h1 : p1 = wkR (acc (wkF ω) none i) := h1
  have h2 : ∀ f, acc (wkF ω) none i = some f → f < i ∧ p2 = beS ω f - rv ω f 9 := h2
  have h3 : QC τ x t G G1 := h3
  have hC1 := h3.cv hC hI
  show gOk (b_X10_weakest_6 τ n x p1 p2 (nI i) G1) _
  unfold b_X10_weakest_6
  rw [hC1.rf.2.2.2.2.2.2.2.2.2.2.1, ka_bs, hC1.vs.cn.2.1, hI.1.r0]
  by_cases hlt : i < cR ω
  · have hi8 : i < 8 := by omega
    have hv := hC1.vs.r hlt
    rw [if_neg (nI_ge hlt (by omega)), ka_bs, hC1.fs.1.rf.2.1, ka_bs, hC1.fs.1.r hi8, hv.f.2.2.2.2.2.2.2.2.2]
    by_cases hb : rv ω i 8 = 0
    · rw [if_pos hb, ka_bs, hC1.rf.2.2.2.2.2.2.2.2.2.2.2.2.1, ka_bs, ka_bind2]
      refine gOk.mono (s_bearing hC1.fs.1 hC1.vs hI.1 hC1.fl.1 hC1.lv hI.2.1 hv (hI.1.r hlt) (by omega) (by omega) hn) fun p hp => ?_
      obtain ⟨w, G2⟩ := p
      obtain ⟨hw, hf⟩ := hp
      have hw : w = beS ω i := hw
      subst hw
      have h4 := h3.tr (QC.scr hC1 hf)
      have e7 : gi G2 5 7 (s + 16 + i) = rv ω i 9 := by rw [(hf (s + 16 + i) (by show ¬ (_ ∨ _); omega)).1]; exact hv.f.2.2.2.2.2.2.2.1
      show gOk (gLet (beS ω i - gi G2 5 7 (s + 16 + i)) _) _
      rw [e7, ka_letE]
      unfold k_X10_weakest_68
      cases ha : acc (wkF ω) none i with
      | none =>
        rw [ha] at h1
        have e : acc (wkF ω) none (i + 1) = some i := by
          rw [acc_s, ha]; unfold wkF; rw [if_pos hb]
        rw [if_pos (show p1 = -1 from h1), ka_letE, nI_1]
        refine ⟨_, rfl, hlt, ⟨by rw [e]; rfl, fun f hf => ?_⟩, rfl, h4⟩
        rw [e] at hf
        cases hf
        exact ⟨by omega, rfl⟩
      | some f =>
        rw [ha] at h1
        obtain ⟨hf1, hf2⟩ := h2 f ha
        rw [if_neg (show ¬ p1 = -1 by
          rw [h1]
          show ¬ nI f = -1
          intro h
          have := congrArg Int32.toInt h
          rw [nI_toInt (by omega)] at this
          have h5 : (-1 : Int32).toInt = -1 := by decide
          omega)]
        by_cases hle : p2 ≤ beS ω i - rv ω i 9
        · have e : acc (wkF ω) none (i + 1) = some f := by
            rw [acc_s, ha]; unfold wkF; rw [if_pos hb]
            show (if _ then _ else _) = _
            rw [if_pos (by rw [← hf2]; exact hle)]
          rw [if_pos hle, ka_letE, nI_1]
          refine ⟨_, rfl, hlt, ⟨by rw [e]; exact h1, fun f' hf' => ?_⟩, rfl, h4⟩
          rw [e] at hf'
          cases hf'
          exact ⟨by omega, hf2⟩
        · have e : acc (wkF ω) none (i + 1) = some i := by
            rw [acc_s, ha]; unfold wkF; rw [if_pos hb]
            show (if _ then _ else _) = _
            rw [if_neg (by rw [← hf2]; exact hle)]
          rw [if_neg hle, ka_letE, nI_1]
          refine ⟨_, rfl, hlt, ⟨by rw [e]; rfl, fun f' hf' => ?_⟩, rfl, h4⟩
          rw [e] at hf'
          cases hf'
          exact ⟨by omega, rfl⟩
    · rw [if_neg hb, ka_letE, nI_1]
      have e : acc (wkF ω) none (i + 1) = acc (wkF ω) none i := by
        rw [acc_s]; unfold wkF; rw [if_neg hb]
      refine ⟨_, rfl, hlt, ⟨by rw [e]; exact h1, fun f hf => ?_⟩, rfl, h3⟩
      rw [e] at hf
      exact ⟨by have := (h2 f hf).1; omega, (h2 f hf).2⟩
  · have hiN : i = cR ω := by omega
    subst hiN
    rw [if_pos (nI_le (Nat.le_refl _) (by omega))]
    exact ⟨_, rfl, h1, h3⟩
theorem m_weakest (hM : FM τ G m) (hω : ge G (m + 1) = ω) (hI : WI ω) (hLI : LI ω) (hn : 500 < n) : gOk (f_X11_weakest τ n m G) (fun p => p.1 = wkR (wkS ω) ∧ QM m G p.2) := by
  have hr := hI.r1
  unfold f_X11_weakest
  rw [ka_letE, ka_bind]
  unfold l_X11_weakest_9
  refine gOk.mono (ka_loop (cR ω) (fun i q => (q.1 = wkR (acc (wkF ω) none i) ∧ (∀ f, acc (wkF ω) none i = some f → f < i)) ∧ q.2.1 = nI i ∧ QM m G q.2.2 ∧ ge q.2.2 (m + 1) = ω) (K := fun r => r.1 = wkR (wkS ω) ∧ QM m G r.2) (by omega) ⟨⟨rfl, fun f h => by cases h⟩, rfl, QM.th, hω⟩ (fun i q hi hp => ?_)) fun r hr => ⟨_, rfl, hr⟩
  obtain ⟨p1, p3, G1⟩ := q
  obtain ⟨⟨h1, h2⟩, rfl, h3, hω1⟩ := hp
  have h1 : p1 = wkR (acc (wkF ω) none i) := h1
  have h3 : QM m G G1 := h3
  have hω1 : ge G1 (m + 1) = ω := hω1
  have hM1 := h3.fm hM
  show gOk (b_X11_weakest_9 τ n m p1 (nI i) G1) _
  unfold b_X11_weakest_9
  rw [hM1.cn.2.1, ka_bs, hω1, hI.r0]
  by_cases hlt : i < cR ω
  · have hi9 : i < 9 := by omega
    rw [if_neg (nI_ge hlt (by omega)), m_isWhole hM1 hi9, hω1, ka_bs]
    unfold k_X11_weakest_58
    by_cases hb : rv ω i 8 = 0
    · rw [if_pos hb, if_neg ka_n10]
      cases ha : acc (wkF ω) none i with
      | none =>
        rw [ha] at h1
        have e : acc (wkF ω) none (i + 1) = some i := by
          rw [acc_s, ha]; unfold wkF; rw [if_pos hb]
        rw [if_pos (by rw [h1]; decide), ka_letE, nI_1]
        refine ⟨_, rfl, hlt, ⟨by rw [e]; rfl, fun f hf => ?_⟩, rfl, h3, hω1⟩
        rw [e] at hf
        cases hf
        omega
      | some f =>
        rw [ha] at h1
        have hf1 := h2 f ha
        have h1 : p1 = nI f := h1
        subst h1
        have hf9 : f < 9 := by omega
        rw [if_neg (nI_pos (by omega)), ka_bind2]
        refine gOk.mono (m_bearsOf hM1 hω1 hi9 hI.y1 (hI.r hlt) hLI hn) fun p hp => ?_
        obtain ⟨w, G2⟩ := p
        obtain ⟨hw, hf2⟩ := hp
        have hw : w = beS ω i := hw
        subst hw
        have hf2 : Fr (fun b => b = m + 8) G1 G2 := hf2
        have hM2 : FM τ G2 m := hf2.fm hM1 (by omega)
        have hω2 : ge G2 (m + 1) = ω := (hf2 (m + 1) (by omega)).2.2.1.trans hω1
        show gOk ((f_X11_of τ m (nI i) 9 G2).bind _) _
        rw [hM2.of (w := 9) i 9 rfl rfl (by omega), ka_bs, ka_bind2]
        refine gOk.mono (m_bearsOf hM2 hω2 hf9 hI.y1 (hI.r (by omega)) hLI hn) fun p hp => ?_
        obtain ⟨w, G3⟩ := p
        obtain ⟨hw, hf3⟩ := hp
        have hw : w = beS ω f := hw
        subst hw
        have hf3 : Fr (fun b => b = m + 8) G2 G3 := hf3
        have hM3 : FM τ G3 m := hf3.fm hM2 (by omega)
        have hω3 : ge G3 (m + 1) = ω := (hf3 (m + 1) (by omega)).2.2.1.trans hω2
        have h5 : QM m G G3 := h3.tr (QM.v (hf2.tr hf3))
        show gOk ((f_X11_of τ m (nI f) 9 G3).bind _) _
        rw [hM3.of (w := 9) f 9 rfl rfl (by omega), ka_bs, hω2, hω3]
        show gOk (if beS ω f - rv ω f 9 ≤ beS ω i - rv ω i 9 then _ else _) _
        by_cases hle : beS ω f - rv ω f 9 ≤ beS ω i - rv ω i 9
        · have e : acc (wkF ω) none (i + 1) = some f := by
            rw [acc_s, ha]; unfold wkF; rw [if_pos hb]
            show (if _ then _ else _) = _
            rw [if_pos hle]
          rw [if_pos hle, ka_letE, nI_1]
          refine ⟨_, rfl, hlt, ⟨by rw [e]; rfl, fun f' hf' => ?_⟩, rfl, h5, hω3⟩
          rw [e] at hf'
          cases hf'
          omega
        · have e : acc (wkF ω) none (i + 1) = some i := by
            rw [acc_s, ha]; unfold wkF; rw [if_pos hb]
            show (if _ then _ else _) = _
            rw [if_neg hle]
          rw [if_neg hle, ka_letE, nI_1]
          refine ⟨_, rfl, hlt, ⟨by rw [e]; rfl, fun f' hf' => ?_⟩, rfl, h5, hω3⟩
          rw [e] at hf'
          cases hf'
          omega
    · rw [if_neg hb, if_pos rfl, ka_letE, nI_1]
      have e : acc (wkF ω) none (i + 1) = acc (wkF ω) none i := by
        rw [acc_s]; unfold wkF; rw [if_neg hb]
      refine ⟨_, rfl, hlt, ⟨by rw [e]; exact h1, fun f hf => ?_⟩, rfl, h3, hω1⟩
      rw [e] at hf
      have := h2 f hf
      omega
  · have hiN : i = cR ω := by omega
    subst hiN
    rw [if_pos (nI_le (Nat.le_refl _) (by omega))]
    exact ⟨_, rfl, h1, h3⟩
theorem op_weakest (hm : m = x + 512) (hn : 500 < n) (hC : CV τ G x s t l l' ω im me ta fa) (hM : MV τ G m ω im me ta fa) (hI : IV ω im me ta) : gOk (f_X10_weakest τ n x G) (fun q => gOk (f_X11_weakest τ n m q.2) (fun p => q.1 = p.1 ∧ ST τ x m p.2)) :=
  join_p (fm := f_X11_weakest τ n m) hm hC hM hI (c_weakest hC hI hn) (fun G1 hM1 => m_weakest hM1.1 hM1.2.1 hI.1 hI.2.1 hn)
end
