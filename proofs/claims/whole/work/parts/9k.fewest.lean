/-! CALLS: fewest, buys -/
section
variable {ω : gW}
def sM : Option Nat → Int32
  | none => -1
  | some b => nI b
def hlS (ω : gW) : Int32 := acc (fun i b => b + rv ω i 9) 0 (cR ω)
def whS (ω : gW) : Int32 := acc (fun i b => if rv ω i 8 = 0 then b ||| b1 i else b) 0 (cR ω)
def feP (ω : gW) (S : Nat) : Bool := decide ((nI S &&& brS ω) = 0 ∧ ¬ baS ω (cR ω) (nI S) < hlS ω)
def feK (S : Nat) : Int := -(bcS (nI S)).toInt
def feS (ω : gW) : Int32 := sM (upS (feP ω) feK (2 ^ cR ω))
theorem nI_nm1 {b : Nat} (h : b < 2 ^ 31) : ¬ nI b = (-1 : Int32) := fun e => by
  have := congrArg Int32.toInt e
  rw [nI_toInt h] at this
  exact absurd this (by rw [show (-1 : Int32).toInt = -1 from rfl]; omega)
theorem fe_0 {c : Nat} {s : Option Nat} (h : ¬ ((nI c &&& brS ω) = 0 ∧ ¬ baS ω (cR ω) (nI c) < hlS ω)) : upF (feP ω) feK c s = s ∧ dnF (feP ω) feK c s = s := by
  have hP : feP ω c = false := decide_eq_false h
  unfold upF dnF
  rw [hP]
  exact ⟨if_neg (by decide), if_neg (by decide)⟩
theorem fe_n {c : Nat} (h1 : (nI c &&& brS ω) = 0) (h2 : ¬ baS ω (cR ω) (nI c) < hlS ω) : upF (feP ω) feK c none = some c ∧ dnF (feP ω) feK c none = some c := by
  have hP : feP ω c = true := decide_eq_true ⟨h1, h2⟩
  constructor
  · unfold upF
    rw [if_pos hP]
  · unfold dnF
    rw [if_pos hP]
theorem fe_s {c b : Nat} (h1 : (nI c &&& brS ω) = 0) (h2 : ¬ baS ω (cR ω) (nI c) < hlS ω) : upF (feP ω) feK c (some b) = (if bcS (nI b) ≤ bcS (nI c) then some b else some c) ∧ dnF (feP ω) feK c (some b) = (if bcS (nI b) < bcS (nI c) then some b else some c) := by
  have hP : feP ω c = true := decide_eq_true ⟨h1, h2⟩
  unfold upF dnF
  rw [if_pos hP, if_pos hP]
  constructor
  · show (if feK b < feK c then some c else some b) = _
    unfold feK
    by_cases h : bcS (nI b) ≤ bcS (nI c)
    · rw [if_pos h, if_neg (by rw [Int32.le_iff_toInt_le] at h; omega)]
    · rw [if_neg h, if_pos (by rw [Int32.le_iff_toInt_le] at h; omega)]
  · show (if feK b ≤ feK c then some c else some b) = _
    unfold feK
    by_cases h : bcS (nI b) < bcS (nI c)
    · rw [if_pos h, if_neg (by rw [Int32.lt_iff_toInt_lt] at h; omega)]
    · rw [if_neg h, if_pos (by rw [Int32.lt_iff_toInt_lt] at h; omega)]
theorem z_iff {x : Int32} : x = 0 ↔ ∀ i, i < 32 → bb x i = false := by
  constructor
  · intro h i _
    rw [h]; exact b_0 i
  · intro h
    exact b_ext fun i hi => by rw [h i hi, b_0]
theorem wh_iff (hI : WI ω) {S : Nat} (hS : S < 2 ^ cR ω) : (nI S &&& (whS ω ^^^ (-1))) = 0 ↔ (nI S &&& brS ω) = 0 := by
  have hr := hI.r1
  have e : ∀ i, i < 32 → (bb (nI S &&& (whS ω ^^^ (-1))) i = bb (nI S &&& brS ω) i) := fun i hi => by
    unfold whS
    rw [b_and, b_and, b_not _ hi, acc_bb hi (by omega), brS_e, acc_bb hi (by omega), bb_nI hi]
    by_cases hc : i < cR ω
    · rw [decide_eq_true hc]
      by_cases h8 : rv ω i 8 = 0
      · simp [h8]
      · simp [h8]
    · rw [Nat.testBit_lt_two_pow (Nat.lt_of_lt_of_le hS (Nat.pow_le_pow_right (by decide) (by omega)))]
      simp
  rw [z_iff, z_iff]
  exact ⟨fun h i hi => by rw [← e i hi]; exact h i hi, fun h i hi => by rw [e i hi]; exact h i hi⟩
theorem whS_k (hI : WI ω) : ∃ w, w < 2 ^ cR ω ∧ whS ω = nI w := by
  have hr := hI.r1
  obtain ⟨w, hw, e⟩ := set8 (x := whS ω) (fun j h8 hj => by unfold whS; rw [acc_bb hj (by omega), decide_eq_false (by omega), Bool.false_and])
  refine ⟨w, ?_, e⟩
  refine Nat.lt_pow_two_of_testBit w fun i hi => ?_
  rcases Nat.lt_or_ge i 32 with h32 | h32
  · rw [← bb_nI h32, ← e]
    unfold whS
    rw [acc_bb h32 (by omega), decide_eq_false (by omega), Bool.false_and]
  · exact Nat.testBit_lt_two_pow (Nat.lt_of_lt_of_le hw (Nat.le_trans (by decide : 256 ≤ 2 ^ 32) (Nat.pow_le_pow_right (by decide) h32)))
theorem fe_hi (hI : WI ω) {w S : Nat} (hw : whS ω = nI w) (hwl : w < 2 ^ cR ω) (hS : S < 2 ^ cR ω) (h : w < S) : feP ω S = false := by
  have hr := hI.r1
  refine decide_eq_false fun e => ?_
  have h1 := (wh_iff hI hS).mpr e.1
  rw [hw] at h1
  have h2 : S &&& w = S := by
    refine Nat.eq_of_testBit_eq fun i => ?_
    rw [Nat.testBit_and]
    rcases Nat.lt_or_ge i 32 with h32 | h32
    · have h3 := z_iff.mp h1 i h32
      rw [b_and, b_not _ h32, bb_nI h32, bb_nI h32] at h3
      revert h3
      cases S.testBit i <;> cases w.testBit i <;> simp
    · rw [Nat.testBit_lt_two_pow (Nat.lt_of_lt_of_le hS (Nat.le_trans (Nat.pow_le_pow_right (by decide) (by omega : cR ω ≤ 32)) (Nat.pow_le_pow_right (by decide) h32))), Bool.false_and]
  have h3 : S &&& w ≤ w := Nat.and_le_right
  omega
theorem dn_none {P : Nat → Bool} {key : Nat → Int} {N c : Nat} (h : ∀ i, i < c → P (N - 1 - i) = false) : dnS P key N c = none :=
  acc_id fun i s hi => by unfold dnF; rw [h i hi, if_neg (by decide)]
def buF (ω : gW) (v : Int32) (S : Nat) (b : Int32) : Int32 := if baS ω (cR ω) (nI S) ≤ baS ω (cR ω) b then b else if v < ppS ω (nI S) then b else nI S
def buS (ω : gW) (v : Int32) (c : Nat) : Int32 := acc (fun i b => buF ω v (i + 1) b) 0 c
theorem buS_k {v : Int32} : ∀ {c : Nat}, ∃ k, k ≤ c ∧ buS ω v c = nI k
  | 0 => ⟨0, Nat.le_refl _, rfl⟩
  | c + 1 => by
    obtain ⟨k, h1, h2⟩ := buS_k (v := v) (c := c)
    show ∃ k, k ≤ c + 1 ∧ buF ω v (c + 1) (buS ω v c) = nI k
    unfold buF
    split
    · exact ⟨k, by omega, h2⟩
    · split
      · exact ⟨k, by omega, h2⟩
      · exact ⟨c + 1, Nat.le_refl _, rfl⟩
end
section
variable {τ : gτ} {n : Nat} {G G' : gG} {x m s t l l' o : Nat} {ω : gW} {im : Option gW} {me : List gW} {ta : List Nat} {fa : Int32}
theorem c_fewest (hC : CV τ G x s t l l' ω im me ta fa) (hI : IV ω im me ta) (hn : 500 < n) : gOk (f_X10_fewest τ n x G) (fun q => q.1 = feS ω ∧ QC τ x t G q.2) := by
  have hr := hI.1.r1
  have h2 := two8 hr
  unfold f_X10_fewest
  rw [hC.rf.2.2.2.2.2.2.2.2.2.2.1, ka_bs, s_hangingLoads hC.fs.1 hC.vs hI.1 (by omega), ka_bs, ka_bs, s_brokenRopes hC.fs.1 hC.vs hI.1 (by omega), ka_bs, ka_bind2]
  refine gOk.mono (c_sumB hC hI hn) fun p hp => ?_
  obtain ⟨p1, q2, tb⟩ := hp
  have hC2 := q2.cv hC hI
  rw [ka_bind, p1]
  unfold l_X10_fewest_27
  refine gOk.mono (ka_loop (2 ^ cR ω) (fun c q => q.1 = sM (upS (feP ω) feK c) ∧ q.2 = nI c) (K := fun r => r = feS ω) (by omega) ⟨rfl, rfl⟩ (fun c q hc hq => ?_)) (fun r hr => by rw [ka_letE]; exact ⟨_, rfl, hr, q2⟩)
  obtain ⟨x4, x5⟩ := q
  obtain ⟨b1', b2⟩ := hq
  have e1 : x4 = sM (upS (feP ω) feK c) := b1'
  have e2 : x5 = nI c := b2
  clear b1' b2
  subst e2
  show gOk (b_X10_fewest_27 τ n x (hlS ω) (brS ω) (nI (2 ^ cR ω)) x4 (nI c) p.2) _
  unfold b_X10_fewest_27 k_X10_fewest_55
  by_cases hlt : c < 2 ^ cR ω
  · have hk0 : upF (feP ω) feK c (upS (feP ω) feK c) = upS (feP ω) feK c → gOk (k_X10_fewest_56 τ n x (hlS ω) (brS ω) (nI (2 ^ cR ω)) x4 (nI c) 0 p.2) (gKK (fun s' => c < 2 ^ cR ω ∧ (s'.1 = sM (upS (feP ω) feK (c + 1)) ∧ s'.2 = nI (c + 1))) (fun r => r = feS ω)) := fun hu => by
      unfold k_X10_fewest_56
      rw [if_pos rfl, ka_letE, nI_1]
      refine ⟨_, rfl, hlt, ?_, rfl⟩
      show x4 = sM (upF (feP ω) feK c (upS (feP ω) feK c))
      rw [hu]; exact e1
    have hk1 : upF (feP ω) feK c (upS (feP ω) feK c) = some c → gOk (k_X10_fewest_82 τ n x (hlS ω) (brS ω) (nI (2 ^ cR ω)) (nI c) p.2) (gKK (fun s' => c < 2 ^ cR ω ∧ (s'.1 = sM (upS (feP ω) feK (c + 1)) ∧ s'.2 = nI (c + 1))) (fun r => r = feS ω)) := fun hu => by
      unfold k_X10_fewest_82
      rw [ka_letE, nI_1]
      refine ⟨_, rfl, hlt, ?_, rfl⟩
      show nI c = sM (upF (feP ω) feK c (upS (feP ω) feK c))
      rw [hu]; rfl
    rw [if_neg (nI_ge hlt (by omega))]
    by_cases h1 : (nI c &&& brS ω) = 0
    · rw [if_pos h1, hC2.sum.1, ka_bs, ka_chkT (show gIn (nI c) (gn τ (x + 432)) by rw [hC2.sum.2.2.2.2.1]; exact ka_in (by omega) (by decide)), nI_clamp (by omega), tb c hlt]
      by_cases h3 : baS ω (cR ω) (nI c) < hlS ω
      · rw [if_pos h3]
        exact hk0 (fe_0 (fun h => h.2 h3)).1
      · rw [if_neg h3]
        unfold k_X10_fewest_56
        rw [if_neg ka_n10]
        cases hs : upS (feP ω) feK c with
        | none =>
          rw [hs] at hk1 e1
          rw [if_pos (show x4 = -1 from e1)]
          exact hk1 (fe_n h1 h3).1
        | some b =>
          have hbN := (up_P hs).2
          rw [hs] at hk0 hk1 e1
          have e1 : x4 = nI b := e1
          have hu := (fe_s h1 h3 (b := b)).1
          rw [e1, if_neg (nI_nm1 (by omega)), bcS_e, ka_bs, bcS_e, ka_bs]
          by_cases h4 : bcS (nI b) ≤ bcS (nI c)
          · rw [if_pos h4] at hu
            rw [if_pos h4, ka_letE, nI_1]
            refine ⟨_, rfl, hlt, ?_, rfl⟩
            show nI b = sM (upF (feP ω) feK c (upS (feP ω) feK c))
            rw [hs, hu]; rfl
          · rw [if_neg h4] at hu
            rw [if_neg h4]
            exact hk1 hu
    · rw [if_neg h1]
      exact hk0 (fe_0 (fun h => h1 h.1)).1
  · have hcN : c = 2 ^ cR ω := by omega
    rw [if_pos (nI_le (by omega) (by omega))]
    refine ⟨_, rfl, ?_⟩
    show x4 = feS ω
    rw [e1, hcN]
    rfl
theorem m_fewest (hM : FM τ G m) (hω : ge G (m + 1) = ω) (hI : WI ω) (hLI : LI ω) (hn : 500 < n) : gOk (f_X11_fewest τ n m G) (fun p => p.1 = feS ω ∧ QM m G p.2) := by
  have hr := hI.r1
  have h2 := two8 hr
  have hM0 : FM τ (gsi G 11 0 m 0) m := QM.th.fm hM
  have w0 : ge (gsi G 11 0 m 0) (m + 1) = ω := hω
  obtain ⟨w, hw, ew⟩ := whS_k hI
  have ew' : acc (fun i b => if rv ω i 8 = 0 then b ||| b1 i else b) 0 (cR ω) = nI w := ew
  unfold f_X11_fewest
  rw [ka_letE, m_wholeOnes hM0 w0 hI (by omega), ka_bs, ew', ka_bind]
  unfold l_X11_fewest_14
  refine gOk.mono (ka_loop (w + 1) (fun c q => q.1 = sM (dnS (feP ω) feK (2 ^ cR ω) (2 ^ cR ω - 1 - w + c)) ∧ q.2.1 = nI (w + 1 - c) + (-1) ∧ Fr (fun b => b = m + 8) (gsi G 11 0 m 0) q.2.2) (K := fun r => r.1 = feS ω ∧ Fr (fun b => b = m + 8) (gsi G 11 0 m 0) r.2) (by omega) ⟨?_, ?_, Fr.rf⟩ (fun c q hc hq => ?_)) (fun r hr => by rw [ka_letE, ka_letE]; exact ⟨_, rfl, hr.1, QM.th.tr (QM.v hr.2)⟩)
  · show (-1 : Int32) = sM (dnS (feP ω) feK (2 ^ cR ω) (2 ^ cR ω - 1 - w))
    rw [dn_none (fun i hi => fe_hi hI ew hw (by omega) (by omega))]
    rfl
  · show nI w = nI (w + 1 - 0) + (-1)
    rw [show w + 1 - 0 = w + 1 by omega, pk_m1]
  obtain ⟨x2, x3, G1⟩ := q
  obtain ⟨b1', b2, b3⟩ := hq
  have e1 : x2 = sM (dnS (feP ω) feK (2 ^ cR ω) (2 ^ cR ω - 1 - w + c)) := b1'
  have e2 : x3 = nI (w + 1 - c) + (-1) := b2
  have f1 : Fr (fun b => b = m + 8) (gsi G 11 0 m 0) G1 := b3
  clear b1' b2 b3
  have hM1 : FM τ G1 m := f1.fm hM0 (by omega)
  have w1 : ge G1 (m + 1) = ω := (f1 (m + 1) (by omega)).2.2.1.trans w0
  show gOk (b_X11_fewest_14 τ n m (nI w) x2 x3 G1) _
  unfold b_X11_fewest_14
  by_cases hlt : c < w + 1
  · have e2 : x3 = nI (w - c) := by rw [e2, show w + 1 - c = (w - c) + 1 by omega, pk_m1]
    subst e2
    generalize hS : w - c = S
    have hSN : S < 2 ^ cR ω := by omega
    have hS1 : nI S + (-1 : Int32) = nI (w + 1 - (c + 1)) + (-1) := by rw [show w + 1 - (c + 1) = S by omega]
    have hnx : dnS (feP ω) feK (2 ^ cR ω) (2 ^ cR ω - 1 - w + (c + 1)) = dnF (feP ω) feK S (dnS (feP ω) feK (2 ^ cR ω) (2 ^ cR ω - 1 - w + c)) := by
      show dnF (feP ω) feK (2 ^ cR ω - 1 - (2 ^ cR ω - 1 - w + c)) _ = _
      rw [show 2 ^ cR ω - 1 - (2 ^ cR ω - 1 - w + c) = S by omega]
      rfl
    generalize hs : dnS (feP ω) feK (2 ^ cR ω) (2 ^ cR ω - 1 - w + c) = sO at *
    have hk0 : ∀ {G2 : gG}, Fr (fun b => b = m + 8) G1 G2 → dnF (feP ω) feK S sO = sO → gOk (gLet (nI S + (-1)) fun v9 => some ((.inl (x2, v9, G2) : (Int32 × Int32 × gG) ⊕ (Int32 × gG)))) (gKK (fun s' => c < w + 1 ∧ (s'.1 = sM (dnS (feP ω) feK (2 ^ cR ω) (2 ^ cR ω - 1 - w + (c + 1))) ∧ s'.2.1 = nI (w + 1 - (c + 1)) + (-1) ∧ Fr (fun b => b = m + 8) (gsi G 11 0 m 0) s'.2.2)) (fun r => r.1 = feS ω ∧ Fr (fun b => b = m + 8) (gsi G 11 0 m 0) r.2)) := fun {G2} f2 hu => by
      rw [ka_letE]
      refine ⟨_, rfl, hlt, ?_, hS1, f1.tr f2⟩
      show x2 = _
      rw [hnx, hu]; exact e1
    have hk1 : ∀ {G2 : gG}, Fr (fun b => b = m + 8) G1 G2 → dnF (feP ω) feK S sO = some S → gOk (k_X11_fewest_56 τ n m (nI w) (nI S) G2) (gKK (fun s' => c < w + 1 ∧ (s'.1 = sM (dnS (feP ω) feK (2 ^ cR ω) (2 ^ cR ω - 1 - w + (c + 1))) ∧ s'.2.1 = nI (w + 1 - (c + 1)) + (-1) ∧ Fr (fun b => b = m + 8) (gsi G 11 0 m 0) s'.2.2)) (fun r => r.1 = feS ω ∧ Fr (fun b => b = m + 8) (gsi G 11 0 m 0) r.2)) := fun {G2} f2 hu => by
      unfold k_X11_fewest_56
      rw [ka_letE]
      refine ⟨_, rfl, hlt, ?_, hS1, f1.tr f2⟩
      show nI S = _
      rw [hnx, hu]; rfl
    rw [if_neg (nI_pos (by omega))]
    by_cases h1 : (nI S &&& brS ω) = 0
    · have h1' : (nI S &&& (nI w ^^^ (-1))) = 0 := by rw [← ew]; exact (wh_iff hI hSN).mpr h1
      rw [if_pos h1', ka_bind2]
      refine gOk.mono (m_bearsAll hM1 w1 hI hLI hn) fun p hp => ?_
      obtain ⟨p1, p2⟩ := hp
      have hM2 : FM τ p.2 m := p2.fm hM1 (by omega)
      have w2 : ge p.2 (m + 1) = ω := (p2 (m + 1) (by omega)).2.2.1.trans w1
      rw [m_allLoads hM2 (by rw [w2]; exact hI) (by omega), ka_bs, w2, p1, show acc (fun i b => b + rv ω i 9) 0 (cR ω) = hlS ω from rfl]
      by_cases h3 : baS ω (cR ω) (nI S) < hlS ω
      · rw [if_neg (fun h => le_nlt.mp h h3)]
        exact hk0 p2 (fe_0 (fun h => h.2 h3)).2
      · rw [if_pos (le_nlt.mpr h3)]
        cases sO with
        | none =>
          rw [if_pos (show x2 < 0 by rw [show x2 = -1 from e1]; decide)]
          exact hk1 p2 (fe_n h1 h3).2
        | some b =>
          have hbN : b < 2 ^ cR ω := by
            have := dn_BI (P := feP ω) (key := feK) (N := 2 ^ cR ω) (2 ^ cR ω - 1 - w + c) (by omega)
            rw [hs] at this
            exact this.1.2.1
          have e1' : x2 = nI b := e1
          have hu := (fe_s h1 h3 (b := b)).2
          rw [e1', if_neg (nI_pos (by omega)), bcS_e, ka_bs, bcS_e, ka_bs]
          rw [e1'] at hk0
          by_cases h4 : bcS (nI b) < bcS (nI S)
          · rw [if_pos h4] at hu
            rw [if_pos h4]
            exact hk0 p2 hu
          · rw [if_neg h4] at hu
            rw [if_neg h4]
            exact hk1 p2 hu
    · rw [if_neg (show ¬ (nI S &&& (nI w ^^^ (-1))) = 0 by rw [← ew]; exact fun h => h1 ((wh_iff hI hSN).mp h))]
      exact hk0 Fr.rf (fe_0 (fun h => h1 h.1)).2
  · have hcN : c = w + 1 := by omega
    rw [e2, show w + 1 - c = 0 by omega, if_pos (by decide)]
    refine ⟨_, rfl, ?_, f1⟩
    show x2 = feS ω
    unfold feS
    rw [e1, up_dn, show 2 ^ cR ω - 1 - w + c = 2 ^ cR ω by omega]
theorem op_fewest (hm : m = x + 512) (hn : 500 < n) (hC : CV τ G x s t l l' ω im me ta fa) (hM : MV τ G m ω im me ta fa) (hI : IV ω im me ta) : gOk (f_X10_fewest τ n x G) (fun q => gOk (f_X11_fewest τ n m q.2) (fun p => q.1 = p.1 ∧ ST τ x m p.2)) :=
  join_p (fm := f_X11_fewest τ n m) (ans := feS ω) hm hC hM hI (c_fewest hC hI hn) (fun G1 hM1 => m_fewest hM1.1 hM1.2.1 hI.1 hI.2.1 hn)
theorem c_buys (hC : CV τ G x s t l l' ω im me ta fa) (hI : IV ω im me ta) (hn : 500 < n) {v : Int32} (hv : ¬ (v < 0 ∨ 9999 < v)) : gOk (f_X10_buys τ n x v G) (fun q => q.1 = .inr (buS ω v (2 ^ cR ω - 1)) ∧ QC τ x t G q.2) := by
  have hr := hI.1.r1
  have h2 := two8 hr
  unfold f_X10_buys
  rw [ka_bxr (c_withinO hv), ka_bind2]
  refine gOk.mono (c_sumB hC hI hn) fun p hp => ?_
  obtain ⟨p1, q2, tb⟩ := hp
  have hC2 := q2.cv hC hI
  rw [ka_bind, p1]
  unfold l_X10_buys_18
  refine gOk.mono (ka_loop (2 ^ cR ω - 1) (fun c q => q.1 = buS ω v c ∧ q.2 = nI (c + 1)) (K := fun r => r = buS ω v (2 ^ cR ω - 1)) (by omega) ⟨rfl, rfl⟩ (fun c q hc hq => ?_)) (fun r hr => by rw [ka_letE]; exact ⟨_, rfl, congrArg Sum.inr hr, q2⟩)
  obtain ⟨x3, x4⟩ := q
  obtain ⟨b1', b2⟩ := hq
  have e1 : x3 = buS ω v c := b1'
  have e2 : x4 = nI (c + 1) := b2
  clear b1' b2
  subst e2
  show gOk (b_X10_buys_18 τ n x v (nI (2 ^ cR ω)) x3 (nI (c + 1)) p.2) _
  unfold b_X10_buys_18
  by_cases hlt : c < 2 ^ cR ω - 1
  · obtain ⟨k, hk, ek⟩ := buS_k (ω := ω) (v := v) (c := c)
    have hnx : buS ω v (c + 1) = buF ω v (c + 1) (buS ω v c) := rfl
    unfold buF at hnx
    rw [if_neg (nI_ge (show c + 1 < 2 ^ cR ω by omega) (by omega)), hC2.sum.1, ka_bs, ka_chkT (show gIn (nI (c + 1)) (gn τ (x + 432)) by rw [hC2.sum.2.2.2.2.1]; exact ka_in (by omega) (by decide)), ka_bs, e1, ek, ka_chkT (show gIn (nI k) (gn τ (x + 432)) by rw [hC2.sum.2.2.2.2.1]; exact ka_in (by omega) (by decide)), nI_clamp (by omega), nI_clamp (by omega), tb (c + 1) (by omega), tb k (by omega)]
    rw [ek] at hnx
    by_cases h1 : baS ω (cR ω) (nI (c + 1)) ≤ baS ω (cR ω) (nI k)
    · rw [if_pos h1] at hnx
      rw [if_pos h1, ka_letE, nI_1]
      exact ⟨_, rfl, hlt, hnx.symm, rfl⟩
    · rw [if_neg h1] at hnx
      rw [if_neg h1, hC2.rf.2.2.2.2.2.2.2.2.2.2.1, ka_bs, s_pricesOf hC2.fs.1 hC2.vs hI.1 (by omega), ka_bs]
      by_cases h3 : v < ppS ω (nI (c + 1))
      · rw [if_pos h3] at hnx
        rw [if_pos h3, ka_letE, nI_1]
        exact ⟨_, rfl, hlt, hnx.symm, rfl⟩
      · rw [if_neg h3] at hnx
        rw [if_neg h3, ka_letE, nI_1]
        exact ⟨_, rfl, hlt, hnx.symm, rfl⟩
  · have hcN : c = 2 ^ cR ω - 1 := by omega
    rw [if_pos (nI_le (by omega) (by omega))]
    refine ⟨_, rfl, ?_⟩
    show x3 = _
    rw [e1, hcN]
theorem m_buys (hM : FM τ G m) (hω : ge G (m + 1) = ω) (hI : WI ω) (hLI : LI ω) (hn : 500 < n) {v : Int32} (hv : ¬ (v < 0 ∨ 9999 < v)) : gOk (f_X11_buys τ n m v G) (fun p => Th [x_IAE] (.inr (buS ω v (2 ^ cR ω - 1))) p.1 (gi p.2 11 0 m) ∧ QM m G p.2) := by
  have hr := hI.r1
  have h2 := two8 hr
  have hM0 : FM τ (gsi G 11 0 m 0) m := QM.th.fm hM
  have w0 : ge (gsi G 11 0 m 0) (m + 1) = ω := hω
  unfold f_X11_buys
  rw [ka_letE, m_in0, ka_bs, if_neg hv, if_neg ka_n10]
  unfold k_X11_buys_22
  rw [ka_b2 m_thIf0, if_pos rfl, ka_bind]
  unfold l_X11_buys_35
  refine gOk.mono (ka_loop (2 ^ cR ω - 1) (fun c q => q.1 = buS ω v c ∧ q.2.1 = nI (c + 1) ∧ Fr (fun b => b = m + 8) (gsi G 11 0 m 0) q.2.2) (K := fun r => r.1 = buS ω v (2 ^ cR ω - 1) ∧ Fr (fun b => b = m + 8) (gsi G 11 0 m 0) r.2) (by omega) ⟨rfl, rfl, Fr.rf⟩ (fun c q hc hq => ?_)) (fun r hr => by
    rw [ka_letE, ka_letE]
    exact ⟨_, rfl, ⟨by rw [(hr.2 m (by omega)).1]; exact th_set, hr.1⟩, QM.th.tr (QM.v hr.2)⟩)
  obtain ⟨x2, x3, G1⟩ := q
  obtain ⟨b1', b2, b3⟩ := hq
  have e1 : x2 = buS ω v c := b1'
  have e2 : x3 = nI (c + 1) := b2
  have f1 : Fr (fun b => b = m + 8) (gsi G 11 0 m 0) G1 := b3
  clear b1' b2 b3
  subst e2
  have hM1 : FM τ G1 m := f1.fm hM0 (by omega)
  have w1 : ge G1 (m + 1) = ω := (f1 (m + 1) (by omega)).2.2.1.trans w0
  show gOk (b_X11_buys_35 τ n m v x2 (nI (c + 1)) G1) _
  unfold b_X11_buys_35
  rw [hM1.cn.2.1, ka_bs, w1, hI.r0, shl_N hr]
  by_cases hlt : c < 2 ^ cR ω - 1
  · have hnx : buS ω v (c + 1) = buF ω v (c + 1) (buS ω v c) := rfl
    unfold buF at hnx
    rw [if_neg (nI_ge (show c + 1 < 2 ^ cR ω by omega) (by omega)), ka_bind2]
    refine gOk.mono (m_bearsAll hM1 w1 hI hLI hn) fun p hp => ?_
    obtain ⟨p1, p2⟩ := hp
    have hM2 : FM τ p.2 m := p2.fm hM1 (by omega)
    have w2 : ge p.2 (m + 1) = ω := (p2 (m + 1) (by omega)).2.2.1.trans w1
    rw [ka_bind2]
    refine gOk.mono (m_bearsAll hM2 w2 hI hLI hn) fun p' hp' => ?_
    obtain ⟨p1', p2'⟩ := hp'
    have hM3 : FM τ p'.2 m := p2'.fm hM2 (by omega)
    have w3 : ge p'.2 (m + 1) = ω := (p2' (m + 1) (by omega)).2.2.1.trans w2
    rw [p1, p1', e1]
    unfold k_X11_buys_71
    by_cases h1 : baS ω (cR ω) (nI (c + 1)) ≤ baS ω (cR ω) (buS ω v c)
    · rw [if_pos h1] at hnx
      rw [if_pos h1, ka_letE, nI_1]
      exact ⟨_, rfl, hlt, hnx.symm, rfl, (f1.tr p2).tr p2'⟩
    · rw [if_neg h1] at hnx
      rw [if_neg h1, m_priceOfAll hM3 w3 hI (by omega), ka_bs]
      by_cases h3 : v < ppS ω (nI (c + 1))
      · rw [if_pos h3] at hnx
        rw [if_pos h3, ka_letE, nI_1]
        exact ⟨_, rfl, hlt, hnx.symm, rfl, (f1.tr p2).tr p2'⟩
      · rw [if_neg h3] at hnx
        rw [if_neg h3, ka_letE, nI_1]
        exact ⟨_, rfl, hlt, hnx.symm, rfl, (f1.tr p2).tr p2'⟩
  · have hcN : c = 2 ^ cR ω - 1 := by omega
    rw [if_pos (nI_le (by omega) (by omega))]
    refine ⟨_, rfl, ?_, f1⟩
    show x2 = _
    rw [e1, hcN]
theorem op_buys (hm : m = x + 512) (ho : o = m + 11) (hτ : gn τ o = 1) (hn : 500 < n) (hC : CV τ G x s t l l' ω im me ta fa) (hM : MV τ G m ω im me ta fa) (hI : IV ω im me ta) (v : Int32) : gOk (f_L_buys τ n x v o G) (fun q => gOk (f_X11_buys τ n m v q.2) (fun p => q.1 = gi p.2 11 0 m ∧ (q.1 = 0 → gl p.2 o 0 = p.1.toInt64) ∧ ST τ x m p.2)) := by
  unfold f_L_buys
  by_cases hv : v < 0 ∨ 9999 < v
  · refine join_q (ans := .inl x_IAE) hm ho hτ (by decide) hC hM hI ⟨(.inl x_IAE, G), by unfold f_X10_buys; exact ka_bxl (c_withinN hv), rfl, QC.rf⟩ (fun G1 hM1 => ?_)
    unfold f_X11_buys
    rw [ka_letE, m_in0, ka_bs, if_pos hv, if_pos rfl]
    unfold k_X11_buys_22
    rw [ka_b2 m_thIf1, if_neg ka_n10]
    refine ⟨_, rfl, ?_, QM.th.tr QM.th⟩
    show gCode [x_IAE] x_IAE 1 = some _
    rw [th_set]
    rfl
  · exact join_q (ans := .inr (buS ω v (2 ^ cR ω - 1))) hm ho hτ (by decide) hC hM hI (c_buys hC hI hn hv) (fun G1 hM1 => m_buys hM1.1 hM1.2.1 hI.1 hI.2.1 hn hv)
end
