/-! CALLS: cuts -/
section
variable {ω : gW}
def sN : Option Nat → Int32
  | none => 0
  | some b => nI b
def cuP (ω : gW) (k S : Nat) : Bool := decide ((nI S &&& (boS ω (beS ω k) ^^^ (-1))) = 0 ∧ ¬ rv ω k 3 < lonS ω (nI S) ∧ ¬ payS ω (nI S) ≤ 0)
def cuK (ω : gW) (S : Nat) : Int := (payS ω (nI S)).toInt
theorem payS_0 : payS ω 0 = 0 := acc_id fun i b _ => if_neg (by rw [b_0]; decide)
theorem cu_up0 {k c : Nat} {s : Option Nat} (h : ¬ ((nI c &&& (boS ω (beS ω k) ^^^ (-1))) = 0 ∧ ¬ rv ω k 3 < lonS ω (nI c))) : upF (cuP ω k) (cuK ω) c s = s ∧ dnF (cuP ω k) (cuK ω) c s = s := by
  have hP : cuP ω k c = false := decide_eq_false fun e => h ⟨e.1, e.2.1⟩
  unfold upF dnF
  rw [hP]
  exact ⟨if_neg (by decide), if_neg (by decide)⟩
theorem cu_neg {k c : Nat} {s : Option Nat} (h : payS ω (nI c) ≤ 0) : upF (cuP ω k) (cuK ω) c s = s ∧ dnF (cuP ω k) (cuK ω) c s = s := by
  have hP : cuP ω k c = false := decide_eq_false fun e => e.2.2 h
  unfold upF dnF
  rw [hP]
  exact ⟨if_neg (by decide), if_neg (by decide)⟩
theorem cu_up {k c : Nat} {s : Option Nat} (h1 : (nI c &&& (boS ω (beS ω k) ^^^ (-1))) = 0) (h2 : ¬ rv ω k 3 < lonS ω (nI c)) (hs : ∀ b, s = some b → cuP ω k b = true) : upF (cuP ω k) (cuK ω) c s = if payS ω (nI c) ≤ payS ω (sN s) then s else some c := by
  by_cases h0 : payS ω (nI c) ≤ 0
  · rw [(cu_neg h0).1]
    cases s with
    | none => rw [if_pos (by show payS ω (nI c) ≤ payS ω 0; rw [payS_0]; exact h0)]
    | some b =>
      have hb : ¬ payS ω (nI b) ≤ 0 := (of_decide_eq_true (hs b rfl)).2.2
      rw [if_pos (by
        show payS ω (nI c) ≤ payS ω (nI b)
        rw [Int32.le_iff_toInt_le] at h0 hb ⊢
        omega)]
  · have hP : cuP ω k c = true := decide_eq_true ⟨h1, h2, h0⟩
    unfold upF
    rw [if_pos hP]
    cases s with
    | none => rw [if_neg (by show ¬ payS ω (nI c) ≤ payS ω 0; rw [payS_0]; exact h0)]
    | some b =>
      show (if cuK ω b < cuK ω c then some c else some b) = if payS ω (nI c) ≤ payS ω (nI b) then some b else some c
      unfold cuK
      by_cases h : payS ω (nI c) ≤ payS ω (nI b)
      · rw [if_pos h, if_neg (by rw [Int32.le_iff_toInt_le] at h; omega)]
      · rw [if_neg h, if_pos (by rw [Int32.le_iff_toInt_le] at h; omega)]
theorem cu_dn {k c : Nat} {s : Option Nat} (h1 : (nI c &&& (boS ω (beS ω k) ^^^ (-1))) = 0) (h2 : ¬ rv ω k 3 < lonS ω (nI c)) : dnF (cuP ω k) (cuK ω) c s = if payS ω (nI c) < payS ω (sN s) then s else if payS ω (nI c) ≤ 0 then s else some c := by
  by_cases h0 : payS ω (nI c) ≤ 0
  · rw [(cu_neg h0).2, if_pos h0]
    by_cases h : payS ω (nI c) < payS ω (sN s)
    · rw [if_pos h]
    · rw [if_neg h]
  · have hP : cuP ω k c = true := decide_eq_true ⟨h1, h2, h0⟩
    rw [if_neg h0]
    unfold dnF
    rw [if_pos hP]
    cases s with
    | none => rw [if_neg (by show ¬ payS ω (nI c) < payS ω 0; rw [payS_0]; rw [Int32.le_iff_toInt_le] at h0; rw [Int32.lt_iff_toInt_lt]; omega)]
    | some b =>
      show (if cuK ω b ≤ cuK ω c then some c else some b) = if payS ω (nI c) < payS ω (nI b) then some b else some c
      unfold cuK
      by_cases h : payS ω (nI c) < payS ω (nI b)
      · rw [if_pos h, if_neg (by rw [Int32.lt_iff_toInt_lt] at h; omega)]
      · rw [if_neg h, if_pos (by rw [Int32.lt_iff_toInt_lt] at h; omega)]
theorem up_P {P : Nat → Bool} {key : Nat → Int} {N b : Nat} (h : upS P key N = some b) : P b = true ∧ b < N := by
  have := up_BI (P := P) (key := key) N
  rw [h] at this
  exact ⟨this.1.2.2, this.1.2.1⟩
def cuS (ω : gW) (k : Nat) : Int32 := sN (upS (cuP ω k) (cuK ω) (2 ^ cO ω))
end
section
variable {τ : gτ} {n : Nat} {G G' : gG} {x m s t l l' o : Nat} {ω : gW} {im : Option gW} {me : List gW} {ta : List Nat} {fa : Int32}
theorem c_cuts (hC : CV τ G x s t l l' ω im me ta fa) (hI : IV ω im me ta) (hn : 500 < n) {k : Nat} {b : Int32} (hk : k < cR ω) : gOk (f_X10_cuts τ n x (nI k) b G) (fun q => q.1 = .inr (if b = 0 then cuS ω k else payS ω (cuS ω k)) ∧ QC τ x t G q.2) := by
  have hr := hI.1.r1
  have ho := hI.1.o1
  have hsl := hC.sl
  have h2 := two8 ho
  unfold f_X10_cuts
  rw [ka_bxr (c_ropeOf hC hI.1 hk), hC.fs.1.kr (by omega), hC.rf.2.2.2.2.2.2.2.2.2.2.1, ka_bs, ka_bs, hC.rf.2.2.2.2.2.2.2.2.2.2.2.2.1, ka_bs, ka_bind2]
  refine gOk.mono (s_bearing hC.fs.1 hC.vs hI.1 hC.fl.1 hC.lv hI.2.1 (hC.vs.r hk) (hI.1.r hk) (by omega) (by omega) hn) fun p hp => ?_
  obtain ⟨p1, p2⟩ := hp
  have q2 := QC.scr hC p2
  have hC2 := q2.cv hC hI
  rw [p1, s_ordersBorne hC2.fs.1 hC2.vs hI.1 (by omega), ka_bs, ka_bind]
  unfold l_X10_cuts_36
  refine gOk.mono (ka_loop (2 ^ cO ω) (fun c q => q.1 = sN (upS (cuP ω k) (cuK ω) c) ∧ q.2.1 = payS ω q.1 ∧ q.2.2 = nI c) (K := fun r => r.1 = cuS ω k ∧ r.2 = payS ω (cuS ω k)) (by omega) ⟨rfl, payS_0.symm, rfl⟩ (fun c q hc hq => ?_)) (fun r hr => ?_)
  · obtain ⟨x5, x6, x7⟩ := q
    obtain ⟨b1', b2, b3⟩ := hq
    have e1 : x5 = sN (upS (cuP ω k) (cuK ω) c) := b1'
    have e2 : x6 = payS ω x5 := b2
    have e3 : x7 = nI c := b3
    clear b1' b2 b3
    subst e3
    show gOk (b_X10_cuts_36 τ n x b (s + 16 + k) (boS ω (beS ω k)) x5 x6 (nI c) p.2) _
    unfold b_X10_cuts_36 k_X10_cuts_80
    rw [hC2.rf.2.2.2.2.2.2.2.2.2.2.1, ka_bs, hC2.vs.cn.2.2.1, hI.1.o0, shl_N ho]
    by_cases hlt : c < 2 ^ cO ω
    · have hk0 : upF (cuP ω k) (cuK ω) c (upS (cuP ω k) (cuK ω) c) = upS (cuP ω k) (cuK ω) c → gOk (k_X10_cuts_81 τ n x b (s + 16 + k) (boS ω (beS ω k)) x5 x6 (nI c) 0 p.2) (gKK (fun s' => c < 2 ^ cO ω ∧ (s'.1 = sN (upS (cuP ω k) (cuK ω) (c + 1)) ∧ s'.2.1 = payS ω s'.1 ∧ s'.2.2 = nI (c + 1))) (fun r => r.1 = cuS ω k ∧ r.2 = payS ω (cuS ω k))) := fun hu => by
        unfold k_X10_cuts_81
        rw [if_pos rfl, ka_letE, nI_1]
        refine ⟨_, rfl, hlt, ?_, e2, rfl⟩
        show x5 = sN (upF (cuP ω k) (cuK ω) c (upS (cuP ω k) (cuK ω) c))
        rw [hu]; exact e1
      rw [if_neg (nI_ge hlt (by omega))]
      by_cases h1 : (nI c &&& (boS ω (beS ω k) ^^^ (-1))) = 0
      · rw [if_pos h1, ka_bs, s_fathomsOf hC2.fs.1 hC2.vs hI.1 (by omega), ka_bs, (hC2.vs.r hk).f.2.2.2.1]
        by_cases h3 : rv ω k 3 < lonS ω (nI c)
        · rw [if_pos h3]
          exact hk0 (cu_up0 (fun h => h.2 h3)).1
        · have hu := cu_up h1 h3 (s := upS (cuP ω k) (cuK ω) c) (fun b hb => (up_P hb).1)
          rw [if_neg h3]
          unfold k_X10_cuts_81
          rw [if_neg ka_n10, hC2.rf.2.2.2.2.2.2.2.2.2.2.1, ka_bs, s_payOf hC2.fs.1 hC2.vs hI.1 (by omega), ka_bs, e2, e1]
          by_cases h4 : payS ω (nI c) ≤ payS ω (sN (upS (cuP ω k) (cuK ω) c))
          · rw [if_pos h4] at hu
            rw [if_pos h4, ka_letE, nI_1]
            refine ⟨_, rfl, hlt, ?_, rfl, rfl⟩
            show sN (upS (cuP ω k) (cuK ω) c) = sN (upF (cuP ω k) (cuK ω) c (upS (cuP ω k) (cuK ω) c))
            rw [hu]
          · rw [if_neg h4] at hu
            rw [if_neg h4, ka_bs, s_payOf hC2.fs.1 hC2.vs hI.1 (by omega), ka_bs, ka_letE, nI_1]
            refine ⟨_, rfl, hlt, ?_, rfl, rfl⟩
            show nI c = sN (upF (cuP ω k) (cuK ω) c (upS (cuP ω k) (cuK ω) c))
            rw [hu]
            rfl
      · rw [if_neg h1]
        exact hk0 (cu_up0 (fun h => h1 h.1)).1
    · have hcN : c = 2 ^ cO ω := by omega
      rw [if_pos (nI_le (by omega) (by omega))]
      have e1' : x5 = cuS ω k := by rw [e1, hcN]; rfl
      exact ⟨_, rfl, e1', e2.trans (congrArg (payS ω) e1')⟩
  · obtain ⟨r1, r2⟩ := hr
    rw [ka_letE, ka_letE, r1, r2]
    unfold k_X10_cuts_123
    by_cases hb : b = 0
    · rw [if_pos hb, if_pos hb]; exact ⟨_, rfl, rfl, q2⟩
    · rw [if_neg hb, if_neg hb]; exact ⟨_, rfl, rfl, q2⟩
theorem m_all (hM : FM τ G m) (hω : ge G (m + 1) = ω) (hI : WI ω) : f_X11_allOrders τ m G = some (nI (2 ^ cO ω - 1)) := by
  have ho := hI.o1
  have h2 := two8 ho
  unfold f_X11_allOrders
  rw [hM.cn.2.2, ka_bs, hω, hI.o0, shl_N ho, show (1 : Int32) = nI 1 from rfl, nI_sub h2.1]
theorem boS_0 (hI : WI ω) : boS ω 0 = 0 := acc_id fun i b hi => by
  obtain ⟨a, a1, a2, ha⟩ := (hI.o hi).1
  rw [if_pos]
  rw [ha]
  exact nI_lt (a := 0) a1 (by omega)
theorem m_cutsL1 (hM : FM τ G m) (hω : ge G (m + 1) = ω) (hI : WI ω) (hLI : LI ω) (hn : 500 < n) {k : Nat} {b : Int32} (hk : k < cR ω) : gOk (l_X11_cuts_25 τ n m (nI k) b 0 0 G) (fun r => r.1 = boS ω (beS ω k) ∧ Fr (fun b => b = m + 8) G r.2) := by
  have hr := hI.r1
  have ho := hI.o1
  have h80 : ¬ rv ω k 8 = 0 → boS ω (beS ω k) = 0 := fun h => by
    rw [show beS ω k = 0 from if_neg h, boS_0 hI]
  unfold l_X11_cuts_25
  refine ka_loop (cO ω) (fun c q => q.1 = acc (fun i b => if beS ω k < ov ω i 0 then b else b ||| b1 i) 0 c ∧ q.2.1 = nI c ∧ Fr (fun b => b = m + 8) G q.2.2 ∧ (¬ rv ω k 8 = 0 → c = 0)) (by omega) ⟨rfl, rfl, Fr.rf, fun _ => rfl⟩ (fun c q hc hq => ?_)
  obtain ⟨x3, x4, G1⟩ := q
  obtain ⟨b1', b2, b3, b4⟩ := hq
  have e1 : x3 = acc (fun i b => if beS ω k < ov ω i 0 then b else b ||| b1 i) 0 c := b1'
  have e2 : x4 = nI c := b2
  have f1 : Fr (fun b => b = m + 8) G G1 := b3
  clear b1' b2 b3
  subst e2
  have hM1 : FM τ G1 m := f1.fm hM (by omega)
  have w1 : ge G1 (m + 1) = ω := (f1 (m + 1) (by omega)).2.2.1.trans hω
  show gOk (b_X11_cuts_25 τ n m (nI k) b x3 (nI c) G1) _
  unfold b_X11_cuts_25
  rw [hM1.cn.2.2, ka_bs, w1, hI.o0]
  by_cases hlt : c < cO ω
  · rw [if_neg (nI_ge hlt (by omega)), m_isWhole hM1 (by omega), ka_bs, w1]
    by_cases h8 : rv ω k 8 = 0
    · rw [if_pos h8, if_neg ka_n10, hM1.ofOrder (w := 0) c 0 rfl rfl (by omega), ka_bs, w1, ka_bind2]
      refine gOk.mono (m_bearsOf hM1 w1 (i := k) (by omega) hI.y1 (hI.r hk) hLI hn) fun p hp => ?_
      obtain ⟨p1, p2⟩ := hp
      rw [p1]
      unfold k_X11_cuts_66
      by_cases h : beS ω k < ov ω c 0
      · rw [if_pos h, ka_letE, ka_letE, nI_1, i3_o0]
        refine ⟨_, rfl, hlt, ?_, rfl, f1.tr p2, fun h => absurd h8 h⟩
        show x3 = _
        rw [acc_s, if_pos h, e1]
      · rw [if_neg h, ka_letE, ka_letE, nI_1]
        refine ⟨_, rfl, hlt, ?_, rfl, f1.tr p2, fun h => absurd h8 h⟩
        show x3 ||| b1 c = _
        rw [acc_s, if_neg h, e1]
    · rw [if_neg h8, if_pos rfl]
      refine ⟨_, rfl, ?_, f1⟩
      show x3 = _
      rw [h80 h8, e1, b4 h8]
      rfl
  · have hcN : c = cO ω := by omega
    rw [if_pos (nI_le (by omega) (by omega))]
    refine ⟨_, rfl, ?_, f1⟩
    show x3 = _
    rw [e1, hcN]
    rfl
theorem m_cuts (hM : FM τ G m) (hω : ge G (m + 1) = ω) (hI : WI ω) (hLI : LI ω) (hn : 500 < n) {k : Nat} {b : Int32} (hk : k < cR ω) : gOk (f_X11_cuts τ n m (nI k) b G) (fun p => Th [x_IOE] (.inr (if b = 0 then cuS ω k else payS ω (cuS ω k))) p.1 (gi p.2 11 0 m) ∧ QM m G p.2) := by
  have hr := hI.r1
  have ho := hI.o1
  have h2 := two8 ho
  have hM0 : FM τ (gsi G 11 0 m 0) m := QM.th.fm hM
  have w0 : ge (gsi G 11 0 m 0) (m + 1) = ω := hω
  unfold f_X11_cuts
  rw [ka_letE, (m_no hM0 w0 hI _).2.1, ka_bs, if_neg (no_k hk (by omega)), ka_b2 m_thIf0, if_pos rfl, ka_bind]
  refine gOk.mono (m_cutsL1 hM0 w0 hI hLI hn hk) fun r hr => ?_
  obtain ⟨x3, G1⟩ := r
  obtain ⟨r1, f1⟩ := hr
  have r1 : x3 = boS ω (beS ω k) := r1
  have f1 : Fr (fun b => b = m + 8) (gsi G 11 0 m 0) G1 := f1
  subst r1
  have hM1 : FM τ G1 m := f1.fm hM0 (by omega)
  have w1 : ge G1 (m + 1) = ω := (f1 (m + 1) (by omega)).2.2.1.trans w0
  rw [ka_letE, ka_letE]
  unfold k_X11_cuts_74
  rw [m_all hM1 w1 hI, ka_bs, ka_bind]
  have hq : QM m G G1 := QM.th.tr (QM.v f1)
  have ht : gi G1 11 0 m = 0 := by rw [(f1 m (by omega)).1]; exact th_set
  have hP0 : cuP ω k 0 = false := decide_eq_false fun h => h.2.2 (by rw [show nI 0 = 0 from rfl, payS_0]; decide)
  unfold l_X11_cuts_83
  refine gOk.mono (ka_loop (2 ^ cO ω - 1) (fun c q => q.1 = sN (dnS (cuP ω k) (cuK ω) (2 ^ cO ω) c) ∧ q.2 = nI (2 ^ cO ω - 1 - c)) (K := fun r => r = cuS ω k) (by omega) ⟨rfl, rfl⟩ (fun c q hc hq' => ?_)) (fun r hr => ?_)
  · obtain ⟨x4, x5⟩ := q
    obtain ⟨b1', b2⟩ := hq'
    have e1 : x4 = sN (dnS (cuP ω k) (cuK ω) (2 ^ cO ω) c) := b1'
    have e2 : x5 = nI (2 ^ cO ω - 1 - c) := b2
    clear b1' b2
    subst e2
    show gOk (b_X11_cuts_83 τ n m (nI k) b (boS ω (beS ω k)) x4 (nI (2 ^ cO ω - 1 - c)) G1) _
    unfold b_X11_cuts_83 k_X11_cuts_140
    by_cases hlt : c < 2 ^ cO ω - 1
    · generalize hS : 2 ^ cO ω - 1 - c = S
      have hS1 : nI S + (-1 : Int32) = nI (2 ^ cO ω - 1 - (c + 1)) := by
        rw [show S = (2 ^ cO ω - 1 - (c + 1)) + 1 by omega, pk_m1]
      have hnx : dnS (cuP ω k) (cuK ω) (2 ^ cO ω) (c + 1) = dnF (cuP ω k) (cuK ω) S (dnS (cuP ω k) (cuK ω) (2 ^ cO ω) c) := by rw [← hS]; rfl
      have hk0 : dnF (cuP ω k) (cuK ω) S (dnS (cuP ω k) (cuK ω) (2 ^ cO ω) c) = dnS (cuP ω k) (cuK ω) (2 ^ cO ω) c → gOk (k_X11_cuts_141 τ n m (nI k) b (boS ω (beS ω k)) x4 (nI S) 0 G1) (gKK (fun s' => c < 2 ^ cO ω - 1 ∧ (s'.1 = sN (dnS (cuP ω k) (cuK ω) (2 ^ cO ω) (c + 1)) ∧ s'.2 = nI (2 ^ cO ω - 1 - (c + 1)))) (fun r => r = cuS ω k)) := fun hu => by
        unfold k_X11_cuts_141
        rw [if_pos rfl, ka_letE]
        refine ⟨_, rfl, hlt, ?_, hS1⟩
        show x4 = _
        rw [hnx, hu]; exact e1
      rw [if_neg (nI_nle (show 0 < S by omega) (by omega))]
      by_cases h1 : (nI S &&& (boS ω (beS ω k) ^^^ (-1))) = 0
      · rw [if_pos h1, m_longOf hM1 w1 hI (by omega), ka_bs, hM1.of (w := 3) k 3 rfl rfl (by omega), ka_bs, w1]
        by_cases h3 : rv ω k 3 < lonS ω (nI S)
        · rw [if_pos h3]
          exact hk0 (cu_up0 (fun h => h.2 h3)).2
        · have hu := cu_dn h1 h3 (s := dnS (cuP ω k) (cuK ω) (2 ^ cO ω) c)
          rw [if_neg h3, m_payOf hM1 w1 hI (by omega), ka_bs, m_payOf hM1 w1 hI (by omega), ka_bs, e1]
          rw [e1] at hk0
          by_cases h4 : payS ω (nI S) < payS ω (sN (dnS (cuP ω k) (cuK ω) (2 ^ cO ω) c))
          · rw [if_pos h4] at hu
            rw [if_pos h4]
            exact hk0 hu
          · rw [if_neg h4] at hu
            rw [if_neg h4, ka_bs]
            by_cases h5 : payS ω (nI S) ≤ 0
            · rw [if_pos h5] at hu
              rw [if_pos h5]
              exact hk0 hu
            · rw [if_neg h5] at hu
              rw [if_neg h5]
              unfold k_X11_cuts_141
              rw [if_neg ka_n10, ka_letE]
              refine ⟨_, rfl, hlt, ?_, hS1⟩
              show nI S = _
              rw [hnx, hu]
              rfl
      · rw [if_neg h1]
        exact hk0 (cu_up0 (fun h => h1 h.1)).2
    · have hcN : c = 2 ^ cO ω - 1 := by omega
      rw [if_pos (show nI (2 ^ cO ω - 1 - c) ≤ 0 by rw [show 2 ^ cO ω - 1 - c = 0 by omega]; decide)]
      refine ⟨_, rfl, ?_⟩
      show x4 = cuS ω k
      unfold cuS
      rw [e1, up_dn]
      obtain ⟨M, hM'⟩ : ∃ M, 2 ^ cO ω = M + 1 := ⟨2 ^ cO ω - 1, by omega⟩
      rw [hcN, hM', Nat.add_sub_cancel, dn_0 hP0]
  · have hr : r = cuS ω k := hr
    rw [ka_letE, hr]
    unfold k_X11_cuts_163
    by_cases hb : b = 0
    · rw [if_pos hb, if_pos hb]; exact ⟨_, rfl, ⟨ht, rfl⟩, hq⟩
    · rw [if_neg hb, if_neg hb, m_payOf hM1 w1 hI (by omega), ka_bs]; exact ⟨_, rfl, ⟨ht, rfl⟩, hq⟩
theorem op_cuts (hm : m = x + 512) (ho : o = m + 11) (hτ : gn τ o = 1) (hn : 500 < n) (hC : CV τ G x s t l l' ω im me ta fa) (hM : MV τ G m ω im me ta fa) (hI : IV ω im me ta) (y b : Int32) : gOk (f_L_cuts τ n x y b o G) (fun q => gOk (f_X11_cuts τ n m y b q.2) (fun p => q.1 = gi p.2 11 0 m ∧ (q.1 = 0 → gl p.2 o 0 = p.1.toInt64) ∧ ST τ x m p.2)) := by
  have hr := hI.1.r1
  unfold f_L_cuts
  rcases arg_ix y (N := cR ω) (by omega) with ⟨k, hk, rfl⟩ | ⟨hno, -⟩
  · exact join_q (ans := .inr (if b = 0 then cuS ω k else payS ω (cuS ω k))) hm ho hτ (by decide) hC hM hI (c_cuts hC hI hn hk) (fun G1 hM1 => m_cuts hM1.1 hM1.2.1 hI.1 hI.2.1 hn hk)
  · refine join_q (ans := .inl x_IOE) hm ho hτ (by decide) hC hM hI ⟨_, (by unfold f_X10_cuts; exact ka_bxl (c_ropeNo hC hI.1 hno)), rfl, QC.rf⟩ (fun G1 hM1 => ?_)
    have hM2 : FM τ (gsi G1 11 0 m 0) m := QM.th.fm hM1.1
    have hω2 : ge (gsi G1 11 0 m 0) (m + 1) = ω := hM1.2.1
    unfold f_X11_cuts
    rw [ka_letE, (m_no hM2 hω2 hI.1 _).2.1, ka_bs, if_pos hno, ka_b2 m_thIf1, if_neg ka_n10]
    refine ⟨_, rfl, ?_, QM.th.tr QM.th⟩
    show gCode [x_IOE] x_IOE 1 = some _
    rw [th_set]
    rfl
end
