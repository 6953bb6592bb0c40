/-! CALLS: walks -/
section
def pqS (S : Nat) : Nat → Nat
  | 0 => S
  | c + 1 => if pqS S c = 0 then 0 else (pqS S c - 1) &&& S
theorem pqS_le {S : Nat} : ∀ {c : Nat}, pqS S c ≤ S - c
  | 0 => Nat.le_refl _
  | c + 1 => by
    have ih := pqS_le (S := S) (c := c)
    show (if pqS S c = 0 then 0 else (pqS S c - 1) &&& S) ≤ S - (c + 1)
    by_cases h : pqS S c = 0
    · rw [if_pos h]; exact Nat.zero_le _
    · rw [if_neg h]
      have : (pqS S c - 1) &&& S ≤ pqS S c - 1 := Nat.and_le_left
      omega
theorem pqS_sub {S : Nat} : ∀ {c : Nat}, pqS S c &&& S = pqS S c
  | 0 => Nat.and_self S
  | c + 1 => by
    show (if pqS S c = 0 then 0 else (pqS S c - 1) &&& S) &&& S = (if pqS S c = 0 then 0 else (pqS S c - 1) &&& S)
    by_cases h : pqS S c = 0
    · rw [if_pos h]; exact Nat.zero_and S
    · rw [if_neg h, Nat.and_assoc, Nat.and_self]
variable {ω : gW}
def vqS (ω : gW) (T : Nat → Int32) (S : Nat) : Nat → Int32
  | 0 => T S
  | c + 1 => if pqS S c = 0 then vqS ω T S c else gmin (vqS ω T S c) (gmax (lonS ω (nI (pqS S c))) (T (S ^^^ pqS S c)))
theorem vqS_st {T : Nat → Int32} {S c : Nat} (h : pqS S c = 0) : ∀ d, vqS ω T S (c + d) = vqS ω T S c ∧ pqS S (c + d) = 0
  | 0 => ⟨rfl, h⟩
  | d + 1 => by
    obtain ⟨i1, i2⟩ := vqS_st h d
    constructor
    · show (if pqS S (c + d) = 0 then vqS ω T S (c + d) else _) = _
      rw [if_pos i2, i1]
    · show (if pqS S (c + d) = 0 then 0 else _) = 0
      rw [if_pos i2]
def hrS (ω : gW) (T : Nat → Int32) (S : Nat) : Int32 := vqS ω T S 256
theorem hrS_e {T : Nat → Int32} {S c : Nat} (hc : c ≤ 256) (h : pqS S c = 0) : vqS ω T S c = hrS ω T S := by
  have := (vqS_st (ω := ω) (T := T) h (256 - c)).1
  rw [show c + (256 - c) = 256 by omega] at this
  exact this.symm
def upT (ω : gW) (S : Nat) (T : Nat → Int32) : Nat → Int32 := fun j => if j = S then hrS ω T S else T j
def rowT (ω : gW) (N c : Nat) (T : Nat → Int32) : Nat → Int32 := acc (fun i T => upT ω (N - 1 - i) T) T c
def menT (ω : gW) (N c : Nat) : Nat → Int32 := acc (fun _ T => rowT ω N (N - 1) T) (fun S => lonS ω (nI S)) c
theorem i_diff {S p : Nat} (h : p &&& S = p) : nI S &&& (nI p ^^^ (-1)) = nI (S ^^^ p) := by
  refine b_ext fun i hi => ?_
  have hb := congrArg (fun z => z.testBit i) h
  simp only [Nat.testBit_and] at hb
  rw [b_and, b_not _ hi, bb_nI hi, bb_nI hi, bb_nI hi, Nat.testBit_xor]
  revert hb
  cases S.testBit i <;> cases p.testBit i <;> simp
theorem xor_lt {a b N : Nat} (ha : a < 2 ^ N) (hb : b < 2 ^ N) : a ^^^ b < 2 ^ N := Nat.xor_lt_two_pow ha hb
def waS (ω : gW) (M : Nat) : Int32 := menT ω (2 ^ cO ω) (M - 1) (2 ^ cO ω - 1)
end
section
variable {τ : gτ} {n : Nat} {G G' : gG} {x m s t l l' o : Nat} {ω : gW} {im : Option gW} {me : List gW} {ta : List Nat} {fa : Int32}
theorem c_hours (hC : CV τ G x s t l l' ω im me ta fa) (hn : 500 < n) {T : Nat → Int32} {S N : Nat} (hN : N ≤ 8) (hS : S < 2 ^ N) (hT : ∀ j, j < 2 ^ N → ge G (x + 431) j = T j) (hL : ∀ j, j < 2 ^ N → ge G (x + 432) j = lonS ω (nI j)) : f_X10_hoursWithOneMore τ n x (nI S) G = some (hrS ω T S) := by
  have h2 := two8 hN
  obtain ⟨s1, s2, s3, s4, s5, s6⟩ := hC.sum
  have eL : l_X10_hoursWithOneMore_12 τ n x (nI S) (T S) (nI S) 0 G = some (hrS ω T S) := by
    unfold l_X10_hoursWithOneMore_12
    have := ka_loop (body := fun (q : Int32 × Int32 × Int32) => b_X10_hoursWithOneMore_12 τ n x (nI S) q.1 q.2.1 q.2.2 G) (n := n) 256 (fun c q => q.1 = vqS ω T S c ∧ q.2.1 = nI (pqS S c) ∧ q.2.2 = nI c) (K := fun r => r = hrS ω T S) (by omega) (s0 := (T S, nI S, 0)) ⟨rfl, rfl, rfl⟩ (fun c q hc hq => ?_)
    · obtain ⟨r, h1, h2'⟩ := this
      rw [h1, h2']
    · obtain ⟨x2, x3, x4⟩ := q
      obtain ⟨e1, e2, e3⟩ := hq
      have e1 : x2 = vqS ω T S c := e1
      have e2 : x3 = nI (pqS S c) := e2
      have e3 : x4 = nI c := e3
      subst e1; subst e2; subst e3
      show gOk (b_X10_hoursWithOneMore_12 τ n x (nI S) (vqS ω T S c) (nI (pqS S c)) (nI c) G) _
      unfold b_X10_hoursWithOneMore_12
      have hpl := pqS_le (S := S) (c := c)
      by_cases h256 : c < 256
      · rw [if_neg (show ¬ (256 : Int32) ≤ nI c from nI_ge (b := 256) h256 (by decide))]
        rcases Nat.eq_zero_or_pos (pqS S c) with h0 | h0
        · rw [h0, if_pos (by decide)]
          exact ⟨_, rfl, hrS_e hc h0⟩
        · have hp2 : pqS S c < 2 ^ N := by omega
          have hx2 := xor_lt hS hp2
          rw [if_neg (nI_nle h0 (by omega)), s1, ka_bs, ka_chkT (show gIn (nI (pqS S c)) (gn τ (x + 432)) by rw [s5]; exact ka_in (by omega) (by decide)), s2, ka_bs, nI_xor, ka_chkT (show gIn (nI (S ^^^ pqS S c)) (gn τ (x + 431)) by rw [s4]; exact ka_in (by omega) (by decide)), nI_clamp (by omega), nI_clamp (by omega), hT _ hx2, hL _ hp2, ka_letE, ka_letE, ka_letE, nI_1, show nI (pqS S c) - (1 : Int32) = nI (pqS S c - 1) from nI_sub (b := 1) h0, nI_and]
          refine ⟨_, rfl, h256, ?_, ?_, rfl⟩
          · show _ = (if pqS S c = 0 then vqS ω T S c else gmin (vqS ω T S c) (gmax (lonS ω (nI (pqS S c))) (T (S ^^^ pqS S c))))
            rw [if_neg (by omega)]
          · show _ = nI (if pqS S c = 0 then 0 else (pqS S c - 1) &&& S)
            rw [if_neg (by omega)]
      · rw [if_pos (show (256 : Int32) ≤ nI c from nI_le (a := 256) (by omega) (by omega))]
        exact ⟨_, rfl, hrS_e hc (by omega)⟩
  unfold f_X10_hoursWithOneMore
  rw [s2, ka_bs, ka_chkT (show gIn (nI S) (gn τ (x + 431)) by rw [s4]; exact ka_in (by omega) (by decide)), nI_clamp (by omega), hT S hS, ka_letE, eL, ka_bs, ka_letE]
theorem c_walks (hC : CV τ G x s t l l' ω im me ta fa) (hI : IV ω im me ta) (hn : 500 < n) {M : Nat} (h1 : ¬ (nI M < 1 ∨ 5 < nI M)) (hM1 : 1 ≤ M) (hM5 : M ≤ 5) : gOk (f_X10_walks τ n x (nI M) G) (fun q => q.1 = .inr (waS ω M) ∧ QC τ x t G q.2) := by
  have ho := hI.1.o1
  have h2 := two8 ho
  unfold f_X10_walks
  rw [ka_bxr (c_withinO h1), hC.rf.2.2.2.2.2.2.2.2.2.2.1, ka_bs, hC.vs.cn.2.2.1, hI.1.o0, shl_N ho, ka_letE, ka_bind]
  unfold l_X10_walks_18
  refine gOk.mono (ka_loop (2 ^ cO ω) (fun c q => q.1 = nI c ∧ QC τ x t G q.2 ∧ ∀ j, j < c → ge q.2 (x + 431) j = lonS ω (nI j) ∧ ge q.2 (x + 432) j = lonS ω (nI j)) (K := fun G' => QC τ x t G G' ∧ ∀ j, j < 2 ^ cO ω → ge G' (x + 431) j = lonS ω (nI j) ∧ ge G' (x + 432) j = lonS ω (nI j)) (by omega) ⟨rfl, QC.rf, fun j hj => by omega⟩ (fun c q hc hq => ?_)) (fun G3 h3 => ?_)
  · obtain ⟨x3, G1⟩ := q
    obtain ⟨b1', b2, b3⟩ := hq
    have e1 : x3 = nI c := b1'
    have q1 : QC τ x t G G1 := b2
    have t1 : ∀ j, j < c → ge G1 (x + 431) j = lonS ω (nI j) ∧ ge G1 (x + 432) j = lonS ω (nI j) := b3
    clear b1' b2 b3
    subst e1
    have hC1 := q1.cv hC hI
    obtain ⟨s1, s2, s3, s4, s5, s6⟩ := hC1.sum
    show gOk (b_X10_walks_18 τ n x (nI M) (nI (2 ^ cO ω)) (nI c) G1) _
    unfold b_X10_walks_18
    by_cases hlt : c < 2 ^ cO ω
    · have f2 : Fr (fun b => b = x + 432) G1 (gse G1 (x + 432) c (lonS ω (nI c))) := Fr.e rfl
      have q2 := q1.tr (QC.row (by omega) (by omega) hC1 f2)
      have hC2 := q2.cv hC hI
      have f3 : Fr (fun b => b = x + 431) (gse G1 (x + 432) c (lonS ω (nI c))) (gse (gse G1 (x + 432) c (lonS ω (nI c))) (x + 431) c (lonS ω (nI c))) := Fr.e rfl
      have q3 := q2.tr (QC.row (by omega) (by omega) hC2 f3)
      rw [if_neg (nI_ge hlt (by omega)), s1, ka_bs, hC1.rf.2.2.2.2.2.2.2.2.2.2.1, ka_bs, s_fathomsOf hC1.fs.1 hC1.vs hI.1 (by omega), ka_bs, ka_chkT (show gIn (nI c) (gn τ (x + 432)) by rw [s5]; exact ka_in (by omega) (by decide))]
      simp only [nI_clamp (show c < 2 ^ 31 by omega)]
      rw [ka_letE, hC2.sum.2.1, ka_bs, hC2.sum.1, ka_bs, ka_chkT (show gIn (nI c) (gn τ (x + 432)) by rw [s5]; exact ka_in (by omega) (by decide)), ka_chkT (show gIn (nI c) (gn τ (x + 431)) by rw [s4]; exact ka_in (by omega) (by decide)), show ge (gse G1 (x + 432) c (lonS ω (nI c))) (x + 432) c = lonS ω (nI c) by rw [ka_ee, if_pos ⟨rfl, rfl⟩], ka_letE, ka_letE, nI_1]
      refine ⟨_, rfl, hlt, rfl, q3, fun j hj => ?_⟩
      show ge (gse (gse G1 (x + 432) c _) (x + 431) c _) (x + 431) j = _ ∧ ge (gse (gse G1 (x + 432) c _) (x + 431) c _) (x + 432) j = _
      rw [ka_ee, ka_ee, ka_ee, ka_ee]
      by_cases hjc : j = c
      · subst hjc
        rw [if_pos ⟨rfl, rfl⟩, if_neg (fun h => by omega), if_pos ⟨rfl, rfl⟩]
        exact ⟨rfl, rfl⟩
      · rw [if_neg (fun h => hjc h.2), if_neg (fun h => hjc h.2), if_neg (fun h => hjc h.2), if_neg (fun h => hjc h.2)]
        exact t1 j (by omega)
    · have hcN : c = 2 ^ cO ω := by omega
      rw [if_pos (nI_le (by omega) (by omega))]
      exact ⟨_, rfl, q1, by rw [← hcN]; exact t1⟩
  · obtain ⟨q3, t3⟩ := h3
    rw [ka_letE]
    unfold k_X10_walks_55
    rw [ka_bind]
    unfold l_X10_walks_57
    refine gOk.mono (ka_loop (M - 1) (fun c q => q.1 = nI (2 + c) ∧ QC τ x t G q.2 ∧ ∀ j, j < 2 ^ cO ω → ge q.2 (x + 431) j = menT ω (2 ^ cO ω) c j ∧ ge q.2 (x + 432) j = lonS ω (nI j)) (K := fun G' => QC τ x t G G' ∧ ∀ j, j < 2 ^ cO ω → ge G' (x + 431) j = menT ω (2 ^ cO ω) (M - 1) j) (by omega) ⟨rfl, q3, t3⟩ (fun c q hc hq => ?_)) (fun G4 h4 => ?_)
    · obtain ⟨x3, G4⟩ := q
      obtain ⟨b1', b2, b3⟩ := hq
      have e1 : x3 = nI (2 + c) := b1'
      have q4 : QC τ x t G G4 := b2
      have t4 : ∀ j, j < 2 ^ cO ω → ge G4 (x + 431) j = menT ω (2 ^ cO ω) c j ∧ ge G4 (x + 432) j = lonS ω (nI j) := b3
      clear b1' b2 b3
      subst e1
      show gOk (b_X10_walks_57 τ n x (nI M) (nI (2 ^ cO ω)) (nI (2 + c)) G4) _
      unfold b_X10_walks_57
      by_cases hlt : c < M - 1
      · rw [if_neg (nI_nlt (show 2 + c ≤ M by omega) (by omega)), show nI (2 ^ cO ω) - (1 : Int32) = nI (2 ^ cO ω - 1) from nI_sub (b := 1) h2.1, ka_letE, ka_bind]
        unfold l_X10_walks_67
        refine gOk.mono (ka_loop (2 ^ cO ω - 1) (fun d q => q.1 = nI (2 ^ cO ω - 1 - d) ∧ QC τ x t G q.2 ∧ ∀ j, j < 2 ^ cO ω → ge q.2 (x + 431) j = rowT ω (2 ^ cO ω) d (menT ω (2 ^ cO ω) c) j ∧ ge q.2 (x + 432) j = lonS ω (nI j)) (K := fun G' => QC τ x t G G' ∧ ∀ j, j < 2 ^ cO ω → ge G' (x + 431) j = rowT ω (2 ^ cO ω) (2 ^ cO ω - 1) (menT ω (2 ^ cO ω) c) j ∧ ge G' (x + 432) j = lonS ω (nI j)) (by omega) ⟨rfl, q4, t4⟩ (fun d q hd hq => ?_)) (fun G5 h5 => by
          rw [ka_letE, ka_letE, nI_1]
          exact ⟨_, rfl, hlt, rfl, h5.1, h5.2⟩)
        obtain ⟨x4, G5⟩ := q
        obtain ⟨b1', b2, b3⟩ := hq
        have e1 : x4 = nI (2 ^ cO ω - 1 - d) := b1'
        have q5 : QC τ x t G G5 := b2
        have t5 : ∀ j, j < 2 ^ cO ω → ge G5 (x + 431) j = rowT ω (2 ^ cO ω) d (menT ω (2 ^ cO ω) c) j ∧ ge G5 (x + 432) j = lonS ω (nI j) := b3
        clear b1' b2 b3
        subst e1
        have hC5 := q5.cv hC hI
        obtain ⟨s1, s2, s3, s4, s5, s6⟩ := hC5.sum
        show gOk (b_X10_walks_67 τ n x (nI M) (nI (2 ^ cO ω)) (nI (2 + c)) (nI (2 ^ cO ω - 1 - d)) G5) _
        unfold b_X10_walks_67
        by_cases hltd : d < 2 ^ cO ω - 1
        · generalize hS : 2 ^ cO ω - 1 - d = S
          have hS1 : nI S + (-1 : Int32) = nI (2 ^ cO ω - 1 - (d + 1)) := by
            rw [show S = (2 ^ cO ω - 1 - (d + 1)) + 1 by omega, pk_m1]
          have hnx : rowT ω (2 ^ cO ω) (d + 1) (menT ω (2 ^ cO ω) c) = upT ω S (rowT ω (2 ^ cO ω) d (menT ω (2 ^ cO ω) c)) := by rw [← hS]; rfl
          generalize hTT : rowT ω (2 ^ cO ω) d (menT ω (2 ^ cO ω) c) = TT at t5 hnx
          have f6 : Fr (fun b => b = x + 431) G5 (gse G5 (x + 431) S (hrS ω TT S)) := Fr.e rfl
          have q6 := q5.tr (QC.row (by omega) (by omega) hC5 f6)
          rw [if_neg (nI_nle (show 0 < S by omega) (by omega)), s2, ka_bs, c_hours hC5 hn ho (S := S) (T := TT) (by omega) (fun j hj => (t5 j hj).1) (fun j hj => (t5 j hj).2), ka_bs, ka_chkT (show gIn (nI S) (gn τ (x + 431)) by rw [s4]; exact ka_in (by omega) (by decide)), nI_clamp (by omega), ka_letE, ka_letE]
          refine ⟨_, rfl, hltd, hS1, q6, fun j hj => ?_⟩
          show ge (gse G5 (x + 431) S _) (x + 431) j = _ ∧ ge (gse G5 (x + 431) S _) (x + 432) j = _
          rw [hnx, ka_ee, ka_ee]
          unfold upT
          rw [if_neg (show ¬ (x + 432 = x + 431 ∧ j = S) by omega)]
          refine ⟨?_, (t5 j hj).2⟩
          by_cases hjS : j = S
          · rw [if_pos ⟨rfl, hjS⟩, if_pos hjS]
          · rw [if_neg (fun h => hjS h.2), if_neg hjS]
            exact (t5 j hj).1
        · have hdN : d = 2 ^ cO ω - 1 := by omega
          rw [if_pos (show nI (2 ^ cO ω - 1 - d) ≤ 0 by rw [show 2 ^ cO ω - 1 - d = 0 by omega]; decide)]
          exact ⟨_, rfl, q5, by rw [← hdN]; exact t5⟩
      · have hcN : c = M - 1 := by omega
        rw [if_pos (nI_lt (show M < 2 + c by omega) (by omega))]
        exact ⟨_, rfl, q4, fun j hj => by rw [← hcN]; exact (t4 j hj).1⟩
    · obtain ⟨q4, t4⟩ := h4
      have hC4 := q4.cv hC hI
      obtain ⟨s1, s2, s3, s4, s5, s6⟩ := hC4.sum
      rw [ka_letE]
      unfold k_X10_walks_97
      rw [s2, ka_bs, show nI (2 ^ cO ω) - (1 : Int32) = nI (2 ^ cO ω - 1) from nI_sub (b := 1) h2.1, ka_chkT (show gIn (nI (2 ^ cO ω - 1)) (gn τ (x + 431)) by rw [s4]; exact ka_in (by omega) (by decide)), nI_clamp (by omega), t4 _ (by omega)]
      exact ⟨_, rfl, rfl, q4⟩
theorem m_tb (hM : FM τ G m) {S : Nat} (hS : S < 256) {ρ : Type} {e : Option ρ} : gchk (gIn (nI S) (gn τ (m + 9))) e = e :=
  ka_chkT (by rw [hM.2.2.2.2.2.2.2.2.2.1]; exact ka_in hS (by decide))
theorem m_tg (hM : FM τ G m) {ρ : Type} {f : Nat → Option ρ} : (gr G 11 18 m).bind f = f (m + 9) := by rw [hM.rf.2.2.2.2.2.2.2.2.1, ka_bs]
theorem QM.tb (hM : FM τ G m) (hf : Fr (fun b => b = m + 9) G G') : QM m G G' ∧ gi G' 11 0 m = gi G 11 0 m ∧ ge G' (m + 1) = ge G (m + 1) :=
  ⟨⟨hf.mono fun b hb => by omega, fun c k _ => (hf m (by omega)).1 c k, (hf m (by omega)).2.1, by rw [(hf (m + 1) (by omega)).2.2.1]; exact WE.rf⟩, (hf m (by omega)).1 11 0, (hf (m + 1) (by omega)).2.2.1⟩
theorem m_walkP (hM : FM τ G m) (hω : ge G (m + 1) = ω) (hI : WI ω) (hn : 500 < n) {T : Nat → Int32} {S : Nat} {u v : Int32} (hS : S < 2 ^ cO ω) (hT : ∀ j, j < 2 ^ cO ω → ge G (m + 9) j = T j) : l_X11_walks_83 τ n m u v (nI S) (T S) (nI S) G = some (hrS ω T S) := by
  have ho := hI.o1
  have h2 := two8 ho
  unfold l_X11_walks_83
  have := ka_loop (body := fun (q : Int32 × Int32) => b_X11_walks_83 τ n m u v (nI S) q.1 q.2 G) (n := n) 256 (fun c q => q.1 = vqS ω T S c ∧ q.2 = nI (pqS S c)) (K := fun r => r = hrS ω T S) (by omega) (s0 := (T S, nI S)) ⟨rfl, rfl⟩ (fun c q hc hq => ?_)
  · obtain ⟨r, h1, h2'⟩ := this
    rw [h1, h2']
  · obtain ⟨x2, x3⟩ := q
    obtain ⟨e1, e2⟩ := hq
    have e1 : x2 = vqS ω T S c := e1
    have e2 : x3 = nI (pqS S c) := e2
    subst e1; subst e2
    show gOk (b_X11_walks_83 τ n m u v (nI S) (vqS ω T S c) (nI (pqS S c)) G) _
    unfold b_X11_walks_83
    have hpl := pqS_le (S := S) (c := c)
    rcases Nat.eq_zero_or_pos (pqS S c) with h0 | h0
    · rw [h0, if_pos (by decide)]
      exact ⟨_, rfl, hrS_e hc h0⟩
    · have hp2 : pqS S c < 2 ^ cO ω := by omega
      have hx2 := xor_lt hS hp2
      rw [if_neg (nI_nle h0 (by omega)), m_longOf hM hω hI (by omega), ka_bs, m_tg hM, i_diff pqS_sub, m_tb hM (by omega), nI_clamp (by omega), hT _ hx2, ka_letE, ka_letE, show nI (pqS S c) - (1 : Int32) = nI (pqS S c - 1) from nI_sub (b := 1) h0, nI_and]
      refine ⟨_, rfl, by omega, ?_, ?_⟩
      · show _ = (if pqS S c = 0 then vqS ω T S c else gmin (vqS ω T S c) (gmax (lonS ω (nI (pqS S c))) (T (S ^^^ pqS S c))))
        rw [if_neg (by omega)]
      · show _ = nI (if pqS S c = 0 then 0 else (pqS S c - 1) &&& S)
        rw [if_neg (by omega)]
theorem m_walks (hM : FM τ G m) (hω : ge G (m + 1) = ω) (hI : WI ω) (hn : 500 < n) {M : Nat} (h1 : ¬ (nI M < 1 ∨ 5 < nI M)) (hM1 : 1 ≤ M) (hM5 : M ≤ 5) : gOk (f_X11_walks τ n m (nI M) G) (fun p => Th [x_IAE] (.inr (waS ω M)) p.1 (gi p.2 11 0 m) ∧ QM m G p.2) := by
  have ho := hI.o1
  have h2 := two8 ho
  have hM0 : FM τ (gsi G 11 0 m 0) m := QM.th.fm hM
  have w0 : ge (gsi G 11 0 m 0) (m + 1) = ω := hω
  unfold f_X11_walks
  rw [ka_letE, m_in0, ka_bs, if_neg h1, if_neg ka_n10]
  unfold k_X11_walks_20
  rw [ka_b2 m_thIf0, if_pos rfl, ka_bind]
  unfold l_X11_walks_31
  refine gOk.mono (ka_loop (2 ^ cO ω) (fun c q => q.1 = nI c ∧ Fr (fun b => b = m + 9) (gsi G 11 0 m 0) q.2 ∧ ∀ j, j < c → ge q.2 (m + 9) j = lonS ω (nI j)) (K := fun G' => Fr (fun b => b = m + 9) (gsi G 11 0 m 0) G' ∧ ∀ j, j < 2 ^ cO ω → ge G' (m + 9) j = lonS ω (nI j)) (by omega) ⟨rfl, Fr.rf, fun j hj => by omega⟩ (fun c q hc hq => ?_)) (fun G3 h3 => ?_)
  · obtain ⟨x2, G1⟩ := q
    obtain ⟨b1', b2, b3⟩ := hq
    have e1 : x2 = nI c := b1'
    have f1 : Fr (fun b => b = m + 9) (gsi G 11 0 m 0) G1 := b2
    have t1 : ∀ j, j < c → ge G1 (m + 9) j = lonS ω (nI j) := b3
    clear b1' b2 b3
    subst e1
    have hM1' : FM τ G1 m := f1.fm hM0 (by omega)
    have w1 : ge G1 (m + 1) = ω := (f1 (m + 1) (by omega)).2.2.1.trans w0
    show gOk (b_X11_walks_31 τ n m (nI M) (nI c) G1) _
    unfold b_X11_walks_31
    rw [m_all hM1' w1 hI, ka_bs]
    by_cases hlt : c < 2 ^ cO ω
    · rw [if_neg (nI_nlt (show c ≤ 2 ^ cO ω - 1 by omega) (by omega)), m_tg hM1', m_longOf hM1' w1 hI (by omega), ka_bs, m_tb hM1' (by omega), nI_clamp (by omega), ka_letE, ka_letE, nI_1]
      refine ⟨_, rfl, hlt, rfl, f1.tr (Fr.e rfl), fun j hj => ?_⟩
      show ge (gse G1 (m + 9) c _) (m + 9) j = _
      rw [ka_ee]
      by_cases hjc : j = c
      · rw [if_pos ⟨rfl, hjc⟩, hjc]
      · rw [if_neg (fun h => hjc h.2)]
        exact t1 j (by omega)
    · have hcN : c = 2 ^ cO ω := by omega
      rw [if_pos (nI_lt (show 2 ^ cO ω - 1 < c by omega) (by omega))]
      exact ⟨_, rfl, f1, by rw [← hcN]; exact t1⟩
  · obtain ⟨f3, t3⟩ := h3
    rw [ka_letE]
    unfold k_X11_walks_56
    rw [ka_bind]
    unfold l_X11_walks_58
    refine gOk.mono (ka_loop (M - 1) (fun c q => q.1 = nI (1 + c) ∧ Fr (fun b => b = m + 9) (gsi G 11 0 m 0) q.2 ∧ ∀ j, j < 2 ^ cO ω → ge q.2 (m + 9) j = menT ω (2 ^ cO ω) c j) (K := fun G' => Fr (fun b => b = m + 9) (gsi G 11 0 m 0) G' ∧ ∀ j, j < 2 ^ cO ω → ge G' (m + 9) j = menT ω (2 ^ cO ω) (M - 1) j) (by omega) ⟨rfl, f3, t3⟩ (fun c q hc hq => ?_)) (fun G4 h4 => ?_)
    · obtain ⟨x2, G4⟩ := q
      obtain ⟨b1', b2, b3⟩ := hq
      have e1 : x2 = nI (1 + c) := b1'
      have f4 : Fr (fun b => b = m + 9) (gsi G 11 0 m 0) G4 := b2
      have t4 : ∀ j, j < 2 ^ cO ω → ge G4 (m + 9) j = menT ω (2 ^ cO ω) c j := b3
      clear b1' b2 b3
      subst e1
      have hM4 : FM τ G4 m := f4.fm hM0 (by omega)
      have w4 : ge G4 (m + 1) = ω := (f4 (m + 1) (by omega)).2.2.1.trans w0
      show gOk (b_X11_walks_58 τ n m (nI M) (nI (1 + c)) G4) _
      unfold b_X11_walks_58
      by_cases hlt : c < M - 1
      · rw [if_neg (nI_ge (show 1 + c < M by omega) (by omega)), m_all hM4 w4 hI, ka_bs, ka_bind]
        unfold l_X11_walks_68
        refine gOk.mono (ka_loop (2 ^ cO ω - 1) (fun d q => q.1 = nI (2 ^ cO ω - 1 - d) ∧ Fr (fun b => b = m + 9) (gsi G 11 0 m 0) q.2 ∧ ∀ j, j < 2 ^ cO ω → ge q.2 (m + 9) j = rowT ω (2 ^ cO ω) d (menT ω (2 ^ cO ω) c) j) (K := fun G' => Fr (fun b => b = m + 9) (gsi G 11 0 m 0) G' ∧ ∀ j, j < 2 ^ cO ω → ge G' (m + 9) j = rowT ω (2 ^ cO ω) (2 ^ cO ω - 1) (menT ω (2 ^ cO ω) c) j) (by omega) ⟨rfl, f4, t4⟩ (fun d q hd hq => ?_)) (fun G5 h5 => by
          rw [ka_letE, ka_letE, nI_1]
          exact ⟨_, rfl, hlt, rfl, h5.1, h5.2⟩)
        obtain ⟨x3, G5⟩ := q
        obtain ⟨b1', b2, b3⟩ := hq
        have e1 : x3 = nI (2 ^ cO ω - 1 - d) := b1'
        have f5 : Fr (fun b => b = m + 9) (gsi G 11 0 m 0) G5 := b2
        have t5 : ∀ j, j < 2 ^ cO ω → ge G5 (m + 9) j = rowT ω (2 ^ cO ω) d (menT ω (2 ^ cO ω) c) j := b3
        clear b1' b2 b3
        subst e1
        have hM5' : FM τ G5 m := f5.fm hM0 (by omega)
        have w5 : ge G5 (m + 1) = ω := (f5 (m + 1) (by omega)).2.2.1.trans w0
        show gOk (b_X11_walks_68 τ n m (nI M) (nI (1 + c)) (nI (2 ^ cO ω - 1 - d)) G5) _
        unfold b_X11_walks_68
        by_cases hltd : d < 2 ^ cO ω - 1
        · generalize hS : 2 ^ cO ω - 1 - d = S
          have hS1 : nI S + (-1 : Int32) = nI (2 ^ cO ω - 1 - (d + 1)) := by
            rw [show S = (2 ^ cO ω - 1 - (d + 1)) + 1 by omega, pk_m1]
          have hnx : rowT ω (2 ^ cO ω) (d + 1) (menT ω (2 ^ cO ω) c) = upT ω S (rowT ω (2 ^ cO ω) d (menT ω (2 ^ cO ω) c)) := by rw [← hS]; rfl
          generalize hTT : rowT ω (2 ^ cO ω) d (menT ω (2 ^ cO ω) c) = TT at t5 hnx
          rw [if_neg (nI_nle (show 0 < S by omega) (by omega)), m_tg hM5', m_tb hM5' (by omega), nI_clamp (by omega), t5 S (by omega), ka_letE, m_walkP hM5' w5 hI hn (T := TT) (by omega) t5, ka_bs, ka_letE]
          unfold k_X11_walks_126
          rw [m_tg hM5', m_tb hM5' (by omega), nI_clamp (by omega), ka_letE, ka_letE]
          refine ⟨_, rfl, hltd, hS1, f5.tr (Fr.e rfl), fun j hj => ?_⟩
          show ge (gse G5 (m + 9) S _) (m + 9) j = _
          rw [hnx, ka_ee]
          unfold upT
          by_cases hjS : j = S
          · rw [if_pos ⟨rfl, hjS⟩, if_pos hjS]
          · rw [if_neg (fun h => hjS h.2), if_neg hjS]
            exact t5 j hj
        · have hdN : d = 2 ^ cO ω - 1 := by omega
          rw [if_pos (show nI (2 ^ cO ω - 1 - d) ≤ 0 by rw [show 2 ^ cO ω - 1 - d = 0 by omega]; decide)]
          exact ⟨_, rfl, f5, by rw [← hdN]; exact t5⟩
      · have hcN : c = M - 1 := by omega
        rw [if_pos (nI_le (show M ≤ 1 + c by omega) (by omega))]
        exact ⟨_, rfl, f4, fun j hj => by rw [← hcN]; exact t4 j hj⟩
    · obtain ⟨f4, t4⟩ := h4
      have hM4 : FM τ G4 m := f4.fm hM0 (by omega)
      have w4 : ge G4 (m + 1) = ω := (f4 (m + 1) (by omega)).2.2.1.trans w0
      rw [ka_letE]
      unfold k_X11_walks_146
      rw [m_tg hM4, m_all hM4 w4 hI, ka_bs, m_tb hM4 (by omega), nI_clamp (by omega), t4 _ (by omega)]
      obtain ⟨z1, z2, -⟩ := QM.tb hM0 f4
      exact ⟨_, rfl, ⟨z2.trans th_set, rfl⟩, QM.th.tr z1⟩
theorem op_walks (hm : m = x + 512) (ho : o = m + 11) (hτ : gn τ o = 1) (hn : 500 < n) (hC : CV τ G x s t l l' ω im me ta fa) (hM : MV τ G m ω im me ta fa) (hI : IV ω im me ta) (v : Int32) : gOk (f_L_walks τ n x v o G) (fun q => gOk (f_X11_walks τ n m v q.2) (fun p => q.1 = gi p.2 11 0 m ∧ (q.1 = 0 → gl p.2 o 0 = p.1.toInt64) ∧ ST τ x m p.2)) := by
  unfold f_L_walks
  by_cases hv : v < 1 ∨ 5 < v
  · refine join_q (ans := .inl x_IAE) hm ho hτ (by decide) hC hM hI ⟨(.inl x_IAE, G), by unfold f_X10_walks; exact ka_bxl (c_withinN hv), rfl, QC.rf⟩ (fun G1 hM1 => ?_)
    unfold f_X11_walks
    rw [ka_letE, m_in0, ka_bs, if_pos hv, if_pos rfl]
    unfold k_X11_walks_20
    rw [ka_b2 m_thIf1, if_neg ka_n10]
    refine ⟨_, rfl, ?_, QM.th.tr QM.th⟩
    show gCode [x_IAE] x_IAE 1 = some _
    rw [th_set]
    rfl
  · obtain ⟨M, hM1, hM5, rfl⟩ := bt_of (lo := 1) (hi := 5) (by decide) (by decide) hv
    exact join_q (ans := .inr (waS ω M)) hm ho hτ (by decide) hC hM hI (c_walks hC hI hn hv hM1 hM5) (fun G1 hMM => m_walks hMM.1 hMM.2.1 hI.1 hn hv hM1 hM5)
end
