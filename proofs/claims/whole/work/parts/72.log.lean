/-! CALLS: log, led -/
section
variable {τ : gτ} {n : Nat} {G : gG} {x m s t l l' o : Nat} {ω ω' : gW} {im : Option gW} {me : List gW} {ta : List Nat} {fa : Int32}
def lg (ω : gW) (q w : Nat) : Int32 := ω (167 + 5 * q + w)
theorem WI.l0 (hI : WI ω) : ω 11 = nI (cL ω) ∧ cL ω ≤ 60 := hI.2.1.2.2.2.2.2
theorem s_cell (hF : FS τ G s) (hV : VS G s ω) (hI : WI ω) {q w : Nat} (hq : q < cL ω) (hw : w < 5) {y : Int32} (hy : y = nI w) : f_X0_cell τ (s + 4) (nI q) y G = some (lg ω q w) := by
  subst hy
  have hl := hI.l0
  obtain ⟨e1, nx, h1, h2, h3⟩ := hV.2.2.2.2
  unfold f_X0_cell
  rw [if_neg (nI_pos (by omega)), e1, hl.1, if_pos (nI_lt hq (by omega)), h2]
  have e : nI nx + 60 - 1 - nI q = nI (nx + 59 - q) := by
    rw [show (60 : Int32) = nI 60 from rfl, show (1 : Int32) = nI 1 from rfl, nI_add, pk_sub (by omega), pk_sub (by omega)]
    congr 1
  rw [e, show (60 : Int32) = nI 60 from rfl, pk_rem (by omega) (by decide) (by decide), ka_letE, hF.rf.2.2.2.2, ka_bs, show (5 : Int32) = nI 5 from rfl, pk_mul, nI_add]
  have hm : (nx + 59 - q) % 60 < 60 := Nat.mod_lt _ (by decide)
  rw [ka_chkT (by rw [hF.ln.2.2.2]; exact ka_in (by omega) (by decide)), nI_clamp (by omega), h3 q w hq hw]
  rfl
theorem s_cellNo (hV : VS G s ω) (hI : WI ω) {p y : Int32} (hp : p < 0 ∨ nI (cL ω) ≤ p) : f_X0_cell τ (s + 4) p y G = some (-1) := by
  unfold f_X0_cell
  by_cases h : p < 0
  · rw [if_pos h]
  · rw [if_neg h, hV.2.2.2.2.1, hI.l0.1, if_neg (Int32.not_lt.mpr (hp.resolve_left h))]
theorem m_ofLog (hM : FM τ G m) (hω : ge G (m + 1) = ω) {q w : Nat} (hq : q < 60) (hw : w < 5) {y : Int32} (hy : y = nI w) : f_X11_ofLog τ m (nI q) y G = some (lg ω q w) := by
  subst hy
  have e : (167 : Int32) + 5 * nI q + nI w = nI (167 + 5 * q + w) := by rw [show (5 : Int32) = nI 5 from rfl, pk_mul, show (167 : Int32) = nI 167 from rfl, nI_add, nI_add]
  unfold f_X11_ofLog
  rw [hM.rf.1, ka_bs, e, hM.w (167 + 5 * q + w) rfl (by omega), hω, nI_clamp (by omega)]
  rfl
theorem op_log (hm : m = x + 512) (ho : o = m + 11) (hτ : gn τ o = 1) (hC : CV τ G x s t l l' ω im me ta fa) (hM : MV τ G m ω im me ta fa) (hI : IV ω im me ta) (p w : Int32) : gOk (f_L_log τ n x p w o G) (fun u => gOk (f_X11_log τ m p w u.2) (fun p => u.1 = gi p.2 11 0 m ∧ (u.1 = 0 → gl p.2 o 0 = p.1.toInt64) ∧ ST τ x m p.2)) := by
  have hl := hI.1.l0
  have hs' := hC.rf.2.2.2.2.2.2.2.2.2.2.1
  unfold f_L_log
  rcases arg_ix w (N := 5) (by decide) with ⟨j, hj, rfl⟩ | ⟨hw, hw2⟩
  · have cls : ∀ v, f_X0_cell τ (s + 4) p (nI j) G = some v → f_X10_log τ x p (nI j) G = some (.inr v, G) := fun v hv => by
      unfold f_X10_log
      rw [if_neg (nI_pos (by omega)), if_pos (show nI j < 5 from nI_lt (b := 5) hj (by decide)), hs', ka_bs, hC.fs.1.rf.2.2.2.1, ka_bs, hv, ka_bs]
    have ref : ∀ {G1 : gG}, MV τ G1 m ω im me ta fa → f_X11_log τ m p (nI j) G1 = ((f_X11_in p 0 (nI (cL ω) - 1)).bind fun v6 => if v6 = 0 then some (-1, gsi G1 11 0 m 0) else (f_X11_ofLog τ m p (nI j) (gsi G1 11 0 m 0)).bind fun v7 => some (v7, gsi G1 11 0 m 0)) := fun {G1} hM1 => by
      have hM2 : FM τ (gsi G1 11 0 m 0) m := QM.th.fm hM1.1
      have hω2 : ge (gsi G1 11 0 m 0) (m + 1) = ω := hM1.2.1
      unfold f_X11_log k_X11_log_20
      rw [ka_letE, m_in0, ka_bs, if_neg (fun h => no_k hj (by decide) ((out_in (a := 4) (N := 4) (by decide) rfl).mp h)), if_neg ka_n10, ka_b2 m_thIf0, if_pos rfl, hM2.rf.1, ka_bs, hM2.w (x := 11) 11 rfl (by decide), hω2]
      show ((f_X11_in p 0 (ω 11 - 1)).bind _) = _
      rw [hl.1]
    rcases arg_ix p (N := cL ω) (by omega) with ⟨q, hq, rfl⟩ | ⟨hp, -⟩
    · refine join_q (ans := .inr (lg ω q j)) hm ho hτ (by decide) hC hM hI ⟨_, cls _ (s_cell hC.fs.1 hC.vs hI.1 hq hj rfl), rfl, QC.rf⟩ (fun G1 hM1 => ?_)
      have hM2 : FM τ (gsi G1 11 0 m 0) m := QM.th.fm hM1.1
      have hω2 : ge (gsi G1 11 0 m 0) (m + 1) = ω := hM1.2.1
      rw [ref hM1, m_in0, ka_bs, if_neg (fun h => no_k hq (by omega) ((no_in (by omega)).mp h)), if_neg ka_n10, m_ofLog hM2 hω2 (by omega) hj rfl, ka_bs]
      exact ⟨_, rfl, ⟨th_set, rfl⟩, QM.th⟩
    · refine join_q (ans := .inr (-1)) hm ho hτ (by decide) hC hM hI ⟨_, cls _ (s_cellNo hC.vs hI.1 hp), rfl, QC.rf⟩ (fun G1 hM1 => ?_)
      rw [ref hM1, m_in0, ka_bs, if_pos ((no_in (by omega)).mpr hp), if_pos rfl]
      exact ⟨_, rfl, ⟨th_set, rfl⟩, QM.th⟩
  · refine join_q (ans := .inl x_NSE) hm ho hτ (by decide) hC hM hI ⟨(.inl x_NSE, G), ?_, rfl, QC.rf⟩ (fun G1 hM1 => ?_)
    · unfold f_X10_log
      by_cases h : w < 0
      · rw [if_pos h]
      · rw [if_neg h, if_neg (show ¬ w < 5 from Int32.not_lt.mpr (hw.resolve_left h))]
    · unfold f_X11_log k_X11_log_20
      rw [ka_letE, m_in0, ka_bs, if_pos ((out_in (a := 4) (N := 4) (by decide) rfl).mpr hw), if_pos rfl, ka_b2 m_thIf1, if_neg ka_n10]
      refine ⟨_, rfl, ?_, QM.th.tr QM.th⟩
      show gCode [x_NSE] x_NSE 1 = some _
      rw [th_set]
      rfl
def inS (ω : gW) (q : Nat) (y : Int32) : Prop := lg ω q 1 = y ∨ lg ω q 2 = y ∨ lg ω q 3 = y
def ldS (ω : gW) (y b : Int32) : Int32 := acc (fun q a => if lg ω q 1 = y ∨ lg ω q 2 = y ∨ lg ω q 3 = y then a + (if b = 0 then 1 else lg ω q 4) else a) 0 (cL ω)
theorem s_isIn (hF : FS τ G s) (hV : VS G s ω) (hI : WI ω) {q : Nat} (hq : q < cL ω) {y : Int32} : f_X0_isIn τ (s + 4) y (nI q) G = some (if lg ω q 1 = y ∨ lg ω q 2 = y ∨ lg ω q 3 = y then 1 else 0) := by
  unfold f_X0_isIn
  rw [s_cell hF hV hI hq (w := 1) (y := 1) (by decide) rfl, ka_bs]
  by_cases h1 : lg ω q 1 = y
  · rw [if_pos h1, if_pos (Or.inl h1)]
  · rw [if_neg h1, s_cell hF hV hI hq (w := 2) (y := 2) (by decide) rfl, ka_bs]
    by_cases h2 : lg ω q 2 = y
    · rw [if_pos h2, if_pos (Or.inr (Or.inl h2))]
    · rw [if_neg h2, s_cell hF hV hI hq (w := 3) (y := 3) (by decide) rfl, ka_bs]
      by_cases h3 : lg ω q 3 = y
      · rw [if_pos h3, if_pos (Or.inr (Or.inr h3))]
      · rw [if_neg h3, if_neg (fun h => by rcases h with h | h | h <;> contradiction)]
theorem m_isIn (hM : FM τ G m) (hω : ge G (m + 1) = ω) {q : Nat} (hq : q < 60) {y : Int32} : f_X11_isIn τ m (nI q) y G = some (if lg ω q 1 = y ∨ lg ω q 2 = y ∨ lg ω q 3 = y then 1 else 0) := by
  unfold f_X11_isIn
  rw [m_ofLog hM hω hq (w := 1) (y := 1) (by decide) rfl, ka_bs]
  by_cases h1 : lg ω q 1 = y
  · rw [if_pos h1, if_pos (Or.inl h1)]
  · rw [if_neg h1, m_ofLog hM hω hq (w := 2) (y := 2) (by decide) rfl, ka_bs]
    by_cases h2 : lg ω q 2 = y
    · rw [if_pos h2, if_pos (Or.inr (Or.inl h2))]
    · rw [if_neg h2, m_ofLog hM hω hq (w := 3) (y := 3) (by decide) rfl, ka_bs]
      by_cases h3 : lg ω q 3 = y
      · rw [if_pos h3, if_pos (Or.inr (Or.inr h3))]
      · rw [if_neg h3, if_neg (fun h => by rcases h with h | h | h <;> contradiction)]
theorem s_rowsOf (hF : FS τ G s) (hV : VS G s ω) (hI : WI ω) (hn : 500 < n) {y : Int32} : f_X0_rowsOf τ n (s + 4) y G = some (ldS ω y 0) := by
  have hl := hI.l0
  have e : l_X0_rowsOf_4 τ n (s + 4) y 0 0 G = some (ldS ω y 0) := by
    unfold l_X0_rowsOf_4
    refine ka_up (cL ω) (fun j => (acc (fun q a => if lg ω q 1 = y ∨ lg ω q 2 = y ∨ lg ω q 3 = y then a + (if (0 : Int32) = 0 then 1 else lg ω q 4) else a) 0 j, nI j)) (by omega) rfl (fun i hi => ?_) ?_
    · show b_X0_rowsOf_4 τ n (s + 4) y _ (nI i) G = _
      unfold b_X0_rowsOf_4 k_X0_rowsOf_27
      rw [hV.2.2.2.2.1, hl.1, if_neg (nI_ge hi (by omega)), s_isIn hF hV hI hi, ka_bs, acc_s]
      by_cases h : lg ω i 1 = y ∨ lg ω i 2 = y ∨ lg ω i 3 = y
      · rw [if_pos h, if_neg ka_n10, if_pos h, if_pos rfl, ka_letE, ka_letE, nI_1]
      · rw [if_neg h, if_pos rfl, if_neg h, ka_letE, ka_letE, nI_1, i3_a0]
    · show b_X0_rowsOf_4 τ n (s + 4) y _ (nI (cL ω)) G = _
      unfold b_X0_rowsOf_4
      rw [hV.2.2.2.2.1, hl.1, if_pos (nI_le (Nat.le_refl _) (by omega))]
      rfl
  unfold f_X0_rowsOf
  rw [e]
  rfl
theorem s_loadsOf (hF : FS τ G s) (hV : VS G s ω) (hI : WI ω) (hn : 500 < n) {y : Int32} {b : Int32} (hb : ¬ b = 0) : f_X0_loadsOf τ n (s + 4) y G = some (ldS ω y b) := by
  have hl := hI.l0
  have e : l_X0_loadsOf_4 τ n (s + 4) y 0 0 G = some (ldS ω y b) := by
    unfold l_X0_loadsOf_4
    refine ka_up (cL ω) (fun j => (acc (fun q a => if lg ω q 1 = y ∨ lg ω q 2 = y ∨ lg ω q 3 = y then a + (if b = 0 then 1 else lg ω q 4) else a) 0 j, nI j)) (by omega) rfl (fun i hi => ?_) ?_
    · show b_X0_loadsOf_4 τ n (s + 4) y _ (nI i) G = _
      unfold b_X0_loadsOf_4 k_X0_loadsOf_32
      rw [hV.2.2.2.2.1, hl.1, if_neg (nI_ge hi (by omega)), s_isIn hF hV hI hi, ka_bs, acc_s]
      by_cases h : lg ω i 1 = y ∨ lg ω i 2 = y ∨ lg ω i 3 = y
      · rw [if_pos h, if_neg ka_n10, if_pos h, if_neg hb, s_cell hF hV hI hi (w := 4) (y := 4) (by decide) rfl, ka_bs, ka_letE, ka_letE, nI_1]
      · rw [if_neg h, if_pos rfl, if_neg h, ka_letE, ka_letE, nI_1, i3_a0]
    · show b_X0_loadsOf_4 τ n (s + 4) y _ (nI (cL ω)) G = _
      unfold b_X0_loadsOf_4
      rw [hV.2.2.2.2.1, hl.1, if_pos (nI_le (Nat.le_refl _) (by omega))]
      rfl
  unfold f_X0_loadsOf
  rw [e]
  rfl
theorem m_ledL (hM : FM τ G m) (hω : ge G (m + 1) = ω) (hI : WI ω) (hn : 500 < n) {y b : Int32} : l_X11_led_25 τ n m y b 0 0 G = some (ldS ω y b) := by
  have hl := hI.l0
  have w11 : ge G (m + 1) (11 : Int32).toNatClampNeg = nI (cL ω) := by rw [hω]; exact hl.1
  unfold l_X11_led_25
  refine ka_up (cL ω) (fun j => (acc (fun q a => if lg ω q 1 = y ∨ lg ω q 2 = y ∨ lg ω q 3 = y then a + (if b = 0 then 1 else lg ω q 4) else a) 0 j, nI j)) (by omega) rfl (fun i hi => ?_) ?_
  · show b_X11_led_25 τ n m y b _ (nI i) G = _
    unfold b_X11_led_25 k_X11_led_67
    rw [hM.rf.1, ka_bs, hM.w (x := 11) 11 rfl (by decide), w11, if_neg (nI_ge hi (by omega)), m_isIn hM hω (by omega), ka_bs, acc_s]
    by_cases h : lg ω i 1 = y ∨ lg ω i 2 = y ∨ lg ω i 3 = y
    · rw [if_pos h, if_neg ka_n10, if_pos h]
      by_cases hb : b = 0
      · rw [if_pos hb, if_pos hb, ka_letE, ka_letE, nI_1]
      · rw [if_neg hb, if_neg hb, m_ofLog hM hω (by omega) (w := 4) (y := 4) (by decide) rfl, ka_bs, ka_letE, ka_letE, nI_1]
    · rw [if_neg h, if_pos rfl, if_neg h, ka_letE, ka_letE, nI_1, i3_a0]
  · show b_X11_led_25 τ n m y b _ (nI (cL ω)) G = _
    unfold b_X11_led_25
    rw [hM.rf.1, ka_bs, hM.w (x := 11) 11 rfl (by decide), w11, if_pos (nI_le (Nat.le_refl _) (by omega))]
    rfl
theorem op_led (hm : m = x + 512) (ho : o = m + 11) (hτ : gn τ o = 1) (hn : 500 < n) (hC : CV τ G x s t l l' ω im me ta fa) (hM : MV τ G m ω im me ta fa) (hI : IV ω im me ta) (y b : Int32) : gOk (f_L_led τ n x y b o G) (fun u => gOk (f_X11_led τ n m y b u.2) (fun p => u.1 = gi p.2 11 0 m ∧ (u.1 = 0 → gl p.2 o 0 = p.1.toInt64) ∧ ST τ x m p.2)) := by
  have hy := hI.1.y1
  have hs' := hC.rf.2.2.2.2.2.2.2.2.2.2.1
  unfold f_L_led
  rcases arg_ix y (N := cY ω) (by omega) with ⟨k, hk, rfl⟩ | ⟨hno, -⟩
  · refine join_q (ans := .inr (ldS ω (nI k) b)) hm ho hτ (by decide) hC hM hI ⟨(.inr (ldS ω (nI k) b), G), ?_, rfl, QC.rf⟩ (fun G1 hM1 => ?_)
    · unfold f_X10_led
      rw [ka_bxr (c_yarnOf hC hI.1 hk), hC.fs.1.ky (by omega)]
      by_cases hb : b = 0
      · rw [if_pos hb, hs', ka_bs, hC.fs.1.rf.2.2.2.1, ka_bs, s_rowsOf hC.fs.1 hC.vs hI.1 hn, ka_bs, hb]
      · rw [if_neg hb, hs', ka_bs, hC.fs.1.rf.2.2.2.1, ka_bs, s_loadsOf hC.fs.1 hC.vs hI.1 hn hb, ka_bs]
    · have hM2 : FM τ (gsi G1 11 0 m 0) m := QM.th.fm hM1.1
      have hω2 : ge (gsi G1 11 0 m 0) (m + 1) = ω := hM1.2.1
      unfold f_X11_led
      rw [ka_letE, (m_no hM2 hω2 hI.1 _).1, ka_bs, if_neg (no_k hk (by omega)), ka_b2 m_thIf0, if_pos rfl, m_ledL hM2 hω2 hI.1 hn, ka_bs]
      exact ⟨_, rfl, ⟨th_set, rfl⟩, QM.th⟩
  · refine join_q (ans := .inl x_IOE) hm ho hτ (by decide) hC hM hI ⟨_, (by unfold f_X10_led; exact ka_bxl (c_yarnNo hC hI.1 hno)), rfl, QC.rf⟩ (fun G1 hM1 => ?_)
    have hM2 : FM τ (gsi G1 11 0 m 0) m := QM.th.fm hM1.1
    have hω2 : ge (gsi G1 11 0 m 0) (m + 1) = ω := hM1.2.1
    unfold f_X11_led
    rw [ka_letE, (m_no hM2 hω2 hI.1 _).1, ka_bs, if_pos hno, ka_b2 m_thIf1, if_neg ka_n10]
    refine ⟨_, rfl, ?_, QM.th.tr QM.th⟩
    show gCode [x_IOE] x_IOE 1 = some _
    rw [th_set]
    rfl
end
