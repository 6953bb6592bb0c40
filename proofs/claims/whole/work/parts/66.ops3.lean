/-! CALLS: rope, bears -/
section
variable {τ : gτ} {n : Nat} {G : gG} {x m s t l l' o : Nat} {ω : gW} {im : Option gW} {me : List gW} {ta : List Nat} {fa : Int32}
theorem c_rope (hC : CV τ G x s t l l' ω im me ta fa) (hI : IV ω im me ta) (hn : 500 < n) {k j : Nat} (hk : k < cR ω) (hj : j < 14) : gOk (f_X10_rope τ n x (nI k) (nI j) G) (fun q => q.1 = .inr (if j < 10 then rv ω k j else if j = 10 then beS ω k else if j = 11 then weS ω k else if j = 12 then priceS ω k else twS ω k) ∧ QC τ x t G q.2) := by
  have hr := hI.1.r1
  have hsl := hC.sl
  have hK := hI.1.r hk
  have hv := hC.vs.r hk
  obtain ⟨r0, r1, r2, r3, r4, r5, r6, r7, r8, r9⟩ := hv.f
  have h6 := bt01 hK.2.2.1.2.2.2.1
  have h8 := bt01 hK.2.2.1.2.2.2.2.1
  have hs' := hC.rf.2.2.2.2.2.2.2.2.2.2.1
  have hl' := hC.rf.2.2.2.2.2.2.2.2.2.2.2.2.1
  unfold f_X10_rope
  rw [ka_bxr (c_ropeOf hC hI.1 hk), hC.fs.1.kr (by omega)]
  match j, hj with
  | 0, _ => rw [if_pos (by decide), r0]; exact ⟨_, rfl, rfl, QC.rf⟩
  | 1, _ => rw [if_neg (by decide), if_pos (by decide), r1]; exact ⟨_, rfl, rfl, QC.rf⟩
  | 2, _ => rw [if_neg (by decide), if_neg (by decide), if_pos (by decide), r2]; exact ⟨_, rfl, rfl, QC.rf⟩
  | 3, _ => rw [if_neg (by decide), if_neg (by decide), if_neg (by decide), if_pos (by decide), r3]; exact ⟨_, rfl, rfl, QC.rf⟩
  | 4, _ => rw [if_neg (by decide), if_neg (by decide), if_neg (by decide), if_neg (by decide), if_pos (by decide), r4]; exact ⟨_, rfl, rfl, QC.rf⟩
  | 5, _ => rw [if_neg (by decide), if_neg (by decide), if_neg (by decide), if_neg (by decide), if_neg (by decide), if_pos (by decide), r5]; exact ⟨_, rfl, rfl, QC.rf⟩
  | 6, _ =>
    rw [if_neg (by decide), if_neg (by decide), if_neg (by decide), if_neg (by decide), if_neg (by decide), if_neg (by decide), if_pos (by decide), r8]
    rcases h6 with h | h
    · rw [if_pos h]; exact ⟨_, rfl, congrArg Sum.inr h.symm, QC.rf⟩
    · rw [if_neg (by rw [h]; decide)]; exact ⟨_, rfl, congrArg Sum.inr h.symm, QC.rf⟩
  | 7, _ => rw [if_neg (by decide), if_neg (by decide), if_neg (by decide), if_neg (by decide), if_neg (by decide), if_neg (by decide), if_neg (by decide), if_pos (by decide), r6]; exact ⟨_, rfl, rfl, QC.rf⟩
  | 8, _ =>
    rw [if_neg (by decide), if_neg (by decide), if_neg (by decide), if_neg (by decide), if_neg (by decide), if_neg (by decide), if_neg (by decide), if_neg (by decide), if_pos (by decide), r9]
    rcases h8 with h | h
    · rw [if_pos h]; exact ⟨_, rfl, congrArg Sum.inr h.symm, QC.rf⟩
    · rw [if_neg (by rw [h]; decide)]; exact ⟨_, rfl, congrArg Sum.inr h.symm, QC.rf⟩
  | 9, _ => rw [if_neg (by decide), if_neg (by decide), if_neg (by decide), if_neg (by decide), if_neg (by decide), if_neg (by decide), if_neg (by decide), if_neg (by decide), if_neg (by decide), if_pos (by decide), r7]; exact ⟨_, rfl, rfl, QC.rf⟩
  | 10, _ =>
    rw [if_neg (by decide), if_neg (by decide), if_neg (by decide), if_neg (by decide), if_neg (by decide), if_neg (by decide), if_neg (by decide), if_neg (by decide), if_neg (by decide), if_neg (by decide), if_pos (by decide), hs', ka_bs, hl', ka_bs, ka_bind2]
    exact gOk.mono (s_bearing hC.fs.1 hC.vs hI.1 hC.fl.1 hC.lv hI.2.1 hv hK (by omega) (by omega) hn) fun p hp => ⟨_, rfl, congrArg Sum.inr hp.1, QC.scr hC hp.2⟩
  | 11, _ =>
    rw [if_neg (by decide), if_neg (by decide), if_neg (by decide), if_neg (by decide), if_neg (by decide), if_neg (by decide), if_neg (by decide), if_neg (by decide), if_neg (by decide), if_neg (by decide), if_neg (by decide), if_pos (by decide), hs', ka_bs, hl', ka_bs, ka_bind2]
    exact gOk.mono (s_wearing hC.fs.1 hC.vs hI.1 hC.fl.1 hC.lv hI.2.1 hv hK (by omega) (by omega) hn) fun p hp => ⟨_, rfl, congrArg Sum.inr hp.1, QC.scr hC hp.2⟩
  | 12, _ =>
    rw [if_neg (by decide), if_neg (by decide), if_neg (by decide), if_neg (by decide), if_neg (by decide), if_neg (by decide), if_neg (by decide), if_neg (by decide), if_neg (by decide), if_neg (by decide), if_neg (by decide), if_neg (by decide), if_pos (by decide), hs', ka_bs, s_priceOf hC.fs.1 hC.vs hI.1 hv hK, ka_bs]
    exact ⟨_, rfl, rfl, QC.rf⟩
  | 13, _ =>
    rw [if_neg (by decide), if_neg (by decide), if_neg (by decide), if_neg (by decide), if_neg (by decide), if_neg (by decide), if_neg (by decide), if_neg (by decide), if_neg (by decide), if_neg (by decide), if_neg (by decide), if_neg (by decide), if_neg (by decide), if_pos (by decide), hs', ka_bs, s_twinsOf hC.fs.1 hC.vs hI.1 (by omega) hk, ka_bs]
    exact ⟨_, rfl, rfl, QC.rf⟩
theorem m_rope (hM : FM τ G m) (hω : ge G (m + 1) = ω) (hI : IV ω im me ta) (hn : 500 < n) {k j : Nat} (hk : k < cR ω) (hj : j < 14) : gOk (f_X11_rope τ n m (nI k) (nI j) G) (fun p => (gi p.2 11 0 m = 0 ∧ p.1 = (if j < 10 then rv ω k j else if j = 10 then beS ω k else if j = 11 then weS ω k else if j = 12 then priceS ω k else twS ω k)) ∧ QM m G p.2) := by
  have hr := hI.1.r1
  have hK := hI.1.r hk
  have hM1 : FM τ (gsi G 11 0 m 0) m := QM.th.fm hM
  have hω1 : ge (gsi G 11 0 m 0) (m + 1) = ω := hω
  have hk9 : k < 9 := by omega
  unfold f_X11_rope
  rw [ka_letE, (m_no hM1 hω1 hI.1 _).2.1, ka_bs, if_neg (no_k hk (by omega)), ka_b2 m_thIf0, if_pos rfl, m_in0, ka_bs, if_neg (fun h => no_k hj (by decide) ((out_in (a := 13) (N := 13) (by decide) rfl).mp h)), if_neg ka_n10]
  unfold k_X11_rope_34
  rw [ka_b2 m_thIf0, if_pos rfl]
  have th0 : ∀ {G1 : gG}, Fr (fun b => b = m + 8) (gsi G 11 0 m 0) G1 → gi G1 11 0 m = 0 := fun h => by rw [(h m (by omega)).1]; exact th_set
  by_cases h10 : j < 10
  · have n10 : ¬ nI j = 10 := fun h => absurd ((nI_eq (b := 10) (by omega) (by decide)).mp h) (by omega)
    have n11 : ¬ nI j = 11 := fun h => absurd ((nI_eq (b := 11) (by omega) (by decide)).mp h) (by omega)
    have n12 : ¬ nI j = 12 := fun h => absurd ((nI_eq (b := 12) (by omega) (by decide)).mp h) (by omega)
    have n13 : ¬ nI j = 13 := fun h => absurd ((nI_eq (b := 13) (by omega) (by decide)).mp h) (by omega)
    rw [if_neg n10, if_neg n11, if_neg n12, if_neg n13, hM1.of k j rfl rfl (by omega), ka_bs, hω1, if_pos h10]
    exact ⟨_, rfl, ⟨th_set, rfl⟩, QM.th⟩
  · rw [if_neg h10]
    rcases (show j = 10 ∨ j = 11 ∨ j = 12 ∨ j = 13 by omega) with rfl | rfl | rfl | rfl
    · rw [if_pos (by decide), ka_bind2]
      exact gOk.mono (m_bearsOf hM1 hω1 hk9 hI.1.y1 hK hI.2.1 hn) fun p hp => ⟨_, rfl, ⟨th0 hp.2, hp.1⟩, QM.th.tr (QM.v hp.2)⟩
    · rw [if_neg (by decide), if_pos (by decide), ka_bind2]
      exact gOk.mono (m_wearsBy hM1 hω1 hk9 hI.1.y1 hK hI.2.1 hn) fun p hp => ⟨_, rfl, ⟨th0 hp.2, hp.1⟩, QM.th.tr (QM.v hp.2)⟩
    · rw [if_neg (by decide), if_neg (by decide), if_pos (by decide), m_priceOf hM1 hω1 hI.1 hk, ka_bs]
      exact ⟨_, rfl, ⟨th_set, rfl⟩, QM.th⟩
    · rw [if_neg (by decide), if_neg (by decide), if_neg (by decide), if_pos (by decide), m_sameAs hM1 hω1 hI.1 (by omega) hk, ka_bs]
      exact ⟨_, rfl, ⟨th_set, rfl⟩, QM.th⟩
theorem op_rope (hm : m = x + 512) (ho : o = m + 11) (hτ : gn τ o = 1) (hn : 500 < n) (hC : CV τ G x s t l l' ω im me ta fa) (hM : MV τ G m ω im me ta fa) (hI : IV ω im me ta) (y w : Int32) : gOk (f_L_rope τ n x y w o G) (fun q => gOk (f_X11_rope τ n m y w q.2) (fun p => q.1 = gi p.2 11 0 m ∧ (q.1 = 0 → gl p.2 o 0 = p.1.toInt64) ∧ ST τ x m p.2)) := by
  have hy := hI.1.r1
  unfold f_L_rope
  rcases arg_ix y (N := cR ω) (by omega) with ⟨k, hk, rfl⟩ | ⟨hno, -⟩
  · rcases arg_ix w (N := 14) (by decide) with ⟨j, hj, rfl⟩ | ⟨hw, hw2⟩
    · exact join_q hm ho hτ (by decide) hC hM hI (c_rope hC hI hn hk hj) (fun G1 hM1 => m_rope hM1.1 hM1.2.1 hI hn hk hj)
    · refine join_q (ans := .inl x_NSE) hm ho hτ (by decide) hC hM hI ⟨(.inl x_NSE, G), ?_, rfl, QC.rf⟩ (fun G1 hM1 => ?_)
      · unfold f_X10_rope
        rw [ka_bxr (c_ropeOf hC hI.1 hk), hC.fs.1.kr (by omega), if_neg (show ¬ w = 0 from hw2 0 (by decide)), if_neg (show ¬ w = 1 from hw2 1 (by decide)), if_neg (show ¬ w = 2 from hw2 2 (by decide)), if_neg (show ¬ w = 3 from hw2 3 (by decide)), if_neg (show ¬ w = 4 from hw2 4 (by decide)), if_neg (show ¬ w = 5 from hw2 5 (by decide)), if_neg (show ¬ w = 6 from hw2 6 (by decide)), if_neg (show ¬ w = 7 from hw2 7 (by decide)), if_neg (show ¬ w = 8 from hw2 8 (by decide)), if_neg (show ¬ w = 9 from hw2 9 (by decide)), if_neg (show ¬ w = 10 from hw2 10 (by decide)), if_neg (show ¬ w = 11 from hw2 11 (by decide)), if_neg (show ¬ w = 12 from hw2 12 (by decide)), if_neg (show ¬ w = 13 from hw2 13 (by decide))]
      · have hM2 : FM τ (gsi G1 11 0 m 0) m := QM.th.fm hM1.1
        have hω2 : ge (gsi G1 11 0 m 0) (m + 1) = ω := hM1.2.1
        unfold f_X11_rope k_X11_rope_34
        rw [ka_letE, (m_no hM2 hω2 hI.1 _).2.1, ka_bs, if_neg (no_k hk (by omega)), ka_b2 m_thIf0, if_pos rfl, m_in0, ka_bs, if_pos ((out_in (a := 13) (N := 13) (by decide) rfl).mpr hw), if_pos rfl, ka_b2 m_thIf1, if_neg ka_n10]
        refine ⟨_, rfl, ?_, QM.th.tr QM.th⟩
        show gCode [x_IOE, x_NSE] x_NSE 1 = some _
        rw [th_set]
        rfl
  · refine join_q (ans := .inl x_IOE) hm ho hτ (by decide) hC hM hI ⟨_, (by unfold f_X10_rope; exact ka_bxl (c_ropeNo hC hI.1 hno)), rfl, QC.rf⟩ (fun G1 hM1 => ?_)
    have hM2 : FM τ (gsi G1 11 0 m 0) m := QM.th.fm hM1.1
    have hω2 : ge (gsi G1 11 0 m 0) (m + 1) = ω := hM1.2.1
    unfold f_X11_rope
    rw [ka_letE, (m_no hM2 hω2 hI.1 _).2.1, ka_bs, if_pos hno, ka_b2 m_thIf1, if_neg ka_n10]
    refine ⟨_, rfl, ?_, QM.th.tr QM.th⟩
    show gCode [x_IOE, x_NSE] x_IOE 1 = some _
    rw [th_set]
    rfl
theorem c_withinO {v lo hi : Int32} (h : ¬ (v < lo ∨ hi < v)) : f_X10_needWithin v lo hi G = some (.inr (), G) := by
  unfold f_X10_needWithin
  rw [if_neg (fun e => h (Or.inl e)), if_pos (Int32.not_lt.mp fun e => h (Or.inr e))]
theorem c_withinN {v lo hi : Int32} (h : v < lo ∨ hi < v) : f_X10_needWithin v lo hi G = some (.inl x_IAE, G) := by
  unfold f_X10_needWithin
  by_cases h1 : v < lo
  · rw [if_pos h1]
  · rw [if_neg h1, if_neg (Int32.not_le.mpr (h.resolve_left h1))]
theorem bt_of {v : Int32} {lo hi : Nat} (hhi : hi < 2 ^ 31) (hlo : lo < 2 ^ 31) (h : ¬ (v < nI lo ∨ nI hi < v)) : bt v lo hi := by
  have h1 : ¬ v.toInt < lo := fun e => h (Or.inl (Int32.lt_iff_toInt_lt.mpr (by rw [nI_toInt hlo]; exact e)))
  have h2 : ¬ (hi : Int) < v.toInt := fun e => h (Or.inr (Int32.lt_iff_toInt_lt.mpr (by rw [nI_toInt hhi]; exact e)))
  refine ⟨v.toInt.toNat, by omega, by omega, Int32.toInt_inj.mp ?_⟩
  rw [nI_toInt (by omega)]
  omega
theorem c_need3 (hC : CV τ G x s t l l' ω im me ta fa) (hI : WI ω) {a b c : Nat} (ha : a < cY ω) (hb : b < cY ω) (hc : c < cY ω) : f_X10_needThree τ x (nI a) (nI b) (nI c) G = some (if a = b ∨ a = c ∨ b = c then .inl x_IAE else .inr (), G) := by
  have hy := hI.y1
  unfold f_X10_needThree
  rw [ka_bxr (c_yarnOf hC hI ha), hC.fs.1.ky (by omega), ka_bxr (c_yarnOf hC hI hb), hC.fs.1.ky (by omega), ka_bxr (c_yarnOf hC hI hc), hC.fs.1.ky (by omega)]
  have e : ∀ {p q : Nat}, p < cY ω → q < cY ω → (nI p = nI q ↔ p = q) := fun h1 h2 => nI_eq (by omega) (by omega)
  by_cases h1 : a = b
  · rw [if_pos ((e ha hb).mpr h1), if_pos (Or.inl h1)]
  · rw [if_neg (fun h => h1 ((e ha hb).mp h))]
    by_cases h2 : a = c
    · rw [if_pos ((e ha hc).mpr h2), if_pos (Or.inr (Or.inl h2))]
    · rw [if_neg (fun h => h2 ((e ha hc).mp h))]
      by_cases h3 : b = c
      · rw [if_pos ((e hb hc).mpr h3), if_pos (Or.inr (Or.inr h3))]
      · rw [if_neg (fun h => h3 ((e hb hc).mp h)), if_neg (fun h => by rcases h with h | h | h <;> contradiction)]
theorem c_need3N (hC : CV τ G x s t l l' ω im me ta fa) (hI : WI ω) {p q r : Int32} (h : (p < 0 ∨ nI (cY ω) ≤ p) ∨ (q < 0 ∨ nI (cY ω) ≤ q) ∨ (r < 0 ∨ nI (cY ω) ≤ r)) : f_X10_needThree τ x p q r G = some (.inl x_IOE, G) := by
  have hy := hI.y1
  unfold f_X10_needThree
  rcases arg_ix p (N := cY ω) (by omega) with ⟨a, ha, rfl⟩ | ⟨hp, -⟩
  · rw [ka_bxr (c_yarnOf hC hI ha), hC.fs.1.ky (by omega)]
    rcases arg_ix q (N := cY ω) (by omega) with ⟨b, hb, rfl⟩ | ⟨hq, -⟩
    · rw [ka_bxr (c_yarnOf hC hI hb), hC.fs.1.ky (by omega)]
      rcases h with h | h | h
      · exact absurd h (no_k ha (by omega))
      · exact absurd h (no_k hb (by omega))
      · exact ka_bxl (c_yarnNo hC hI h)
    · exact ka_bxl (c_yarnNo hC hI hq)
  · exact ka_bxl (c_yarnNo hC hI hp)
theorem m_two {a b c : Nat} (ha : a < 100) (hb : b < 100) (hc : c < 100) : f_X11_areTwo (nI a) (nI b) (nI c) = some (if a = b ∨ a = c ∨ b = c then 1 else 0) := by
  unfold f_X11_areTwo
  have e : ∀ {p q : Nat}, p < 100 → q < 100 → (nI p = nI q ↔ p = q) := fun h1 h2 => nI_eq (by omega) (by omega)
  by_cases h1 : a = b
  · rw [if_pos ((e ha hb).mpr h1), if_pos (Or.inl h1)]
  · rw [if_neg (fun h => h1 ((e ha hb).mp h))]
    by_cases h3 : b = c
    · rw [if_pos ((e hb hc).mpr h3), if_pos (Or.inr (Or.inr h3))]
    · rw [if_neg (fun h => h3 ((e hb hc).mp h))]
      by_cases h2 : a = c
      · rw [if_pos ((e ha hc).mpr h2), if_pos (Or.inr (Or.inl h2))]
      · rw [if_neg (fun h => h2 ((e ha hc).mp h)), if_neg (fun h => by rcases h with h | h | h <;> contradiction)]
theorem op_bears (hm : m = x + 512) (ho : o = m + 11) (hτ : gn τ o = 1) (hn : 500 < n) (hC : CV τ G x s t l l' ω im me ta fa) (hM : MV τ G m ω im me ta fa) (hI : IV ω im me ta) (p q r v : Int32) : gOk (f_L_bears τ n x p q r v o G) (fun u => gOk (f_X11_bears τ n m p q r v u.2) (fun p => u.1 = gi p.2 11 0 m ∧ (u.1 = 0 → gl p.2 o 0 = p.1.toInt64) ∧ ST τ x m p.2)) := by
  have hy := hI.1.y1
  unfold f_L_bears
  by_cases hno : (p < 0 ∨ nI (cY ω) ≤ p) ∨ (q < 0 ∨ nI (cY ω) ≤ q) ∨ (r < 0 ∨ nI (cY ω) ≤ r)
  · refine join_q (ans := .inl x_IOE) hm ho hτ (by decide) hC hM hI ⟨_, (by unfold f_X10_bears; exact ka_bxl (c_need3N hC hI.1 hno)), rfl, QC.rf⟩ (fun G1 hM1 => ?_)
    have hM2 : FM τ (gsi G1 11 0 m 0) m := QM.th.fm hM1.1
    have hω2 : ge (gsi G1 11 0 m 0) (m + 1) = ω := hM1.2.1
    have k35 : gOk (k_X11_bears_35 τ n m p q r v m 1 (gsi G1 11 0 m 0)) (fun p => Th [x_IOE, x_IAE] (.inl x_IOE) p.1 (gi p.2 11 0 m) ∧ QM m G1 p.2) := by
      unfold k_X11_bears_35
      rw [ka_b2 m_thIf1, if_neg ka_n10]
      refine ⟨_, rfl, ?_, QM.th.tr QM.th⟩
      show gCode [x_IOE, x_IAE] x_IOE 1 = some _
      rw [th_set]
      rfl
    unfold f_X11_bears k_X11_bears_30
    rw [ka_letE, (m_no hM2 hω2 hI.1 _).1, ka_bs]
    by_cases h1 : p < 0 ∨ nI (cY ω) ≤ p
    · rw [if_pos h1, if_neg ka_n10]; exact k35
    · rw [if_neg h1, if_pos rfl, (m_no hM2 hω2 hI.1 _).1, ka_bs]
      by_cases h2 : q < 0 ∨ nI (cY ω) ≤ q
      · rw [if_pos h2, if_neg ka_n10]; exact k35
      · rw [if_neg h2, if_pos rfl, (m_no hM2 hω2 hI.1 _).1, ka_bs, if_pos ((hno.resolve_left h1).resolve_left h2), if_neg ka_n10]; exact k35
  · obtain ⟨a, ha, rfl⟩ := (arg_ix p (N := cY ω) (by omega)).resolve_right (fun h => hno (Or.inl h.1))
    obtain ⟨b, hb, rfl⟩ := (arg_ix q (N := cY ω) (by omega)).resolve_right (fun h => hno (Or.inr (Or.inl h.1)))
    obtain ⟨c, hc, rfl⟩ := (arg_ix r (N := cY ω) (by omega)).resolve_right (fun h => hno (Or.inr (Or.inr h.1)))
    have pre : ∀ {G1 : gG}, MV τ G1 m ω im me ta fa → f_X11_bears τ n m (nI a) (nI b) (nI c) v G1 = k_X11_bears_35 τ n m (nI a) (nI b) (nI c) v m 0 (gsi G1 11 0 m 0) := fun {G1} hM1 => by
      have hM2 : FM τ (gsi G1 11 0 m 0) m := QM.th.fm hM1.1
      have hω2 : ge (gsi G1 11 0 m 0) (m + 1) = ω := hM1.2.1
      unfold f_X11_bears
      rw [ka_letE, (m_no hM2 hω2 hI.1 _).1, ka_bs, if_neg (no_k ha (by omega)), if_pos rfl, (m_no hM2 hω2 hI.1 _).1, ka_bs, if_neg (no_k hb (by omega)), if_pos rfl, (m_no hM2 hω2 hI.1 _).1, ka_bs, if_neg (no_k hc (by omega)), if_pos rfl]
    by_cases hbad : (a = b ∨ a = c ∨ b = c) ∨ (v < 1 ∨ 400 < v)
    · refine join_q (ans := .inl x_IAE) hm ho hτ (by decide) hC hM hI ⟨(.inl x_IAE, G), ?_, rfl, QC.rf⟩ (fun G1 hM1 => ?_)
      · unfold f_X10_bears
        by_cases h2 : a = b ∨ a = c ∨ b = c
        · exact ka_bxl (by rw [c_need3 hC hI.1 ha hb hc, if_pos h2])
        · rw [ka_bxr (by rw [c_need3 hC hI.1 ha hb hc, if_neg h2])]
          exact ka_bxl (c_withinN (hbad.resolve_left h2))
      · rw [pre hM1]
        have k69 : gOk (k_X11_bears_69 τ n m (nI a) (nI b) (nI c) v m 1 (gsi G1 11 0 m 0)) (fun p => Th [x_IOE, x_IAE] (.inl x_IAE) p.1 (gi p.2 11 0 m) ∧ QM m G1 p.2) := by
          unfold k_X11_bears_69
          rw [ka_b2 m_thIf1, if_neg ka_n10]
          refine ⟨_, rfl, ?_, QM.th.tr QM.th⟩
          show gCode [x_IOE, x_IAE] x_IAE 1 = some _
          rw [th_set]
          rfl
        unfold k_X11_bears_35 k_X11_bears_64
        rw [ka_b2 m_thIf0, if_pos rfl, m_two (by omega) (by omega) (by omega), ka_bs]
        by_cases h2 : a = b ∨ a = c ∨ b = c
        · rw [if_pos h2, if_neg ka_n10]; exact k69
        · rw [if_neg h2, if_pos rfl, m_in0, ka_bs, if_pos (hbad.resolve_left h2), if_pos rfl]; exact k69
    · have h2 : ¬ (a = b ∨ a = c ∨ b = c) := fun h => hbad (Or.inl h)
      have hv : ¬ (v < 1 ∨ 400 < v) := fun h => hbad (Or.inr h)
      have hab : a ≠ b := fun h => h2 (Or.inl h)
      have hac : a ≠ c := fun h => h2 (Or.inr (Or.inl h))
      have hbc : b ≠ c := fun h => h2 (Or.inr (Or.inr h))
      have hbt : bt v 1 400 := bt_of (lo := 1) (hi := 400) (by decide) (by decide) hv
      refine join_q (ans := .inr (beS (tr ω 8 (nI a) (nI b) (nI c) v) 8)) hm ho hτ (by decide) hC hM hI ?_ (fun G1 hM1 => ?_)
      · unfold f_X10_bears
        rw [ka_bxr (by rw [c_need3 hC hI.1 ha hb hc, if_neg h2]), ka_bxr (c_withinO hv), ka_bind2]
        exact gOk.mono (c_trialBearing hC hI hn ha hb hc hab hac hbc hbt) fun p hp => ⟨_, rfl, congrArg Sum.inr hp.1, hp.2⟩
      · rw [pre hM1]
        have hM2 : FM τ (gsi G1 11 0 m 0) m := QM.th.fm hM1.1
        have hω2 : ge (gsi G1 11 0 m 0) (m + 1) = ω := hM1.2.1
        unfold k_X11_bears_35 k_X11_bears_69
        rw [ka_b2 m_thIf0, if_pos rfl, m_two (by omega) (by omega) (by omega), ka_bs, if_neg h2, if_pos rfl, m_in0, ka_bs, if_neg hv, if_neg ka_n10, ka_b2 m_thIf0, if_pos rfl, ka_bind2]
        exact gOk.mono (m_bearsBy hM2 hω2 hI.1 hI.2.1 hn ha hb hc hab hac hbc hbt) fun p hp => ⟨_, rfl, ⟨hp.2.2.trans th_set, hp.1⟩, QM.th.tr hp.2.1⟩
end
