/-! SETS as bits: the best of them, upwards and downwards -/
section
theorem bb_nI {a i : Nat} (hi : i < 32) : bb (nI a) i = a.testBit i := by
  show (BitVec.ofNat 32 a).getLsbD i = _
  rw [BitVec.getLsbD_ofNat]
  simp [hi]
theorem nI_and (a b : Nat) : nI a &&& nI b = nI (a &&& b) := b_ext fun i hi => by rw [b_and, bb_nI hi, bb_nI hi, bb_nI hi, Nat.testBit_and]
theorem nI_or (a b : Nat) : nI a ||| nI b = nI (a ||| b) := b_ext fun i hi => by rw [b_or, bb_nI hi, bb_nI hi, bb_nI hi, Nat.testBit_or]
theorem nI_xor (a b : Nat) : nI a ^^^ nI b = nI (a ^^^ b) := b_ext fun i hi => by rw [b_xor, bb_nI hi, bb_nI hi, bb_nI hi, Nat.testBit_xor]
theorem shl_N {N : Nat} (h : N ≤ 8) : (1 : Int32) <<< (nI N &&& 31) = nI (2 ^ N) := by
  have h2 : 2 ^ N ≤ 2 ^ 8 := Nat.pow_le_pow_right (by decide) h
  have := pk_shlN (n := 1) (nI N &&& 31) N (s_l N (by omega)) (by omega)
  rw [Nat.one_mul] at this
  exact this
theorem two8 {N : Nat} (h : N ≤ 8) : 1 ≤ 2 ^ N ∧ 2 ^ N ≤ 256 := ⟨Nat.one_le_two_pow, Nat.pow_le_pow_right (n := 2) (by decide) h⟩
def upF (P : Nat → Bool) (key : Nat → Int) (k : Nat) (s : Option Nat) : Option Nat := if P k = true then (match s with
  | none => some k
  | some b => if key b < key k then some k else some b) else s
def dnF (P : Nat → Bool) (key : Nat → Int) (k : Nat) (s : Option Nat) : Option Nat := if P k = true then (match s with
  | none => some k
  | some b => if key b ≤ key k then some k else some b) else s
def upS (P : Nat → Bool) (key : Nat → Int) (N : Nat) : Option Nat := acc (upF P key) none N
def dnS (P : Nat → Bool) (key : Nat → Int) (N c : Nat) : Option Nat := acc (fun i s => dnF P key (N - 1 - i) s) none c
def BI (P : Nat → Bool) (key : Nat → Int) (lo hi : Nat) : Option Nat → Prop
  | none => ∀ k, lo ≤ k → k < hi → P k = false
  | some b => (lo ≤ b ∧ b < hi ∧ P b = true) ∧ ∀ k, lo ≤ k → k < hi → P k = true → key k ≤ key b ∧ (key k = key b → b ≤ k)
theorem up_BI {P : Nat → Bool} {key : Nat → Int} : ∀ N, BI P key 0 N (upS P key N)
  | 0 => fun k _ hk => by omega
  | N + 1 => by
    have ih := up_BI (P := P) (key := key) N
    show BI P key 0 (N + 1) (upF P key N (upS P key N))
    unfold upF
    cases hP : P N with
    | false =>
      rw [if_neg (by decide)]
      cases hs : upS P key N with
      | none =>
        rw [hs] at ih
        intro k h0 hk
        by_cases h : k = N
        · rw [h]; exact hP
        · exact ih k h0 (by omega)
      | some b =>
        rw [hs] at ih
        obtain ⟨⟨i1, i2, i3⟩, i4⟩ := ih
        refine ⟨⟨i1, by omega, i3⟩, fun k h0 hk hp => ?_⟩
        by_cases h : k = N
        · rw [h, hP] at hp; cases hp
        · exact i4 k h0 (by omega) hp
    | true =>
      rw [if_pos rfl]
      cases hs : upS P key N with
      | none =>
        rw [hs] at ih
        refine ⟨⟨Nat.zero_le _, by omega, hP⟩, fun k h0 hk hp => ?_⟩
        by_cases h : k = N
        · rw [h]; exact ⟨Int.le_refl _, fun _ => Nat.le_refl _⟩
        · rw [ih k h0 (by omega)] at hp; cases hp
      | some b =>
        rw [hs] at ih
        obtain ⟨⟨i1, i2, i3⟩, i4⟩ := ih
        by_cases hk : key b < key N
        · show BI P key 0 (N + 1) (if key b < key N then some N else some b)
          rw [if_pos hk]
          refine ⟨⟨Nat.zero_le _, by omega, hP⟩, fun k h0 hkN hp => ?_⟩
          by_cases h : k = N
          · rw [h]; exact ⟨Int.le_refl _, fun _ => Nat.le_refl _⟩
          · have := (i4 k h0 (by omega) hp).1
            exact ⟨by omega, fun e => by omega⟩
        · show BI P key 0 (N + 1) (if key b < key N then some N else some b)
          rw [if_neg hk]
          refine ⟨⟨i1, by omega, i3⟩, fun k h0 hkN hp => ?_⟩
          by_cases h : k = N
          · rw [h]; exact ⟨by omega, fun _ => by omega⟩
          · exact i4 k h0 (by omega) hp
theorem dn_BI {P : Nat → Bool} {key : Nat → Int} {N : Nat} : ∀ c, c ≤ N → BI P key (N - c) N (dnS P key N c)
  | 0, _ => fun k h0 hk => by omega
  | c + 1, hc => by
    have ih := dn_BI (P := P) (key := key) (N := N) c (by omega)
    show BI P key (N - (c + 1)) N (dnF P key (N - 1 - c) (dnS P key N c))
    have ek : N - 1 - c = N - (c + 1) := by omega
    rw [ek]
    have hlo : N - c = N - (c + 1) + 1 := by omega
    rw [hlo] at ih
    generalize hL : N - (c + 1) = L at ih
    have hLN : L < N := by omega
    unfold dnF
    cases hP : P L with
    | false =>
      rw [if_neg (by decide)]
      cases hs : dnS P key N c with
      | none =>
        rw [hs] at ih
        intro k h0 hk
        by_cases h : k = L
        · rw [h]; exact hP
        · exact ih k (by omega) hk
      | some b =>
        rw [hs] at ih
        obtain ⟨⟨i1, i2, i3⟩, i4⟩ := ih
        refine ⟨⟨by omega, i2, i3⟩, fun k h0 hk hp => ?_⟩
        by_cases h : k = L
        · rw [h, hP] at hp; cases hp
        · exact i4 k (by omega) hk hp
    | true =>
      rw [if_pos rfl]
      cases hs : dnS P key N c with
      | none =>
        rw [hs] at ih
        refine ⟨⟨Nat.le_refl _, hLN, hP⟩, fun k h0 hk hp => ?_⟩
        by_cases h : k = L
        · rw [h]; exact ⟨Int.le_refl _, fun _ => Nat.le_refl _⟩
        · rw [ih k (by omega) hk] at hp; cases hp
      | some b =>
        rw [hs] at ih
        obtain ⟨⟨i1, i2, i3⟩, i4⟩ := ih
        by_cases hk : key b ≤ key L
        · show BI P key L N (if key b ≤ key L then some L else some b)
          rw [if_pos hk]
          refine ⟨⟨Nat.le_refl _, hLN, hP⟩, fun k h0 hkN hp => ?_⟩
          by_cases h : k = L
          · rw [h]; exact ⟨Int.le_refl _, fun _ => Nat.le_refl _⟩
          · have := (i4 k (by omega) hkN hp).1
            exact ⟨by omega, fun e => by omega⟩
        · show BI P key L N (if key b ≤ key L then some L else some b)
          rw [if_neg hk]
          refine ⟨⟨by omega, i2, i3⟩, fun k h0 hkN hp => ?_⟩
          by_cases h : k = L
          · rw [h]; exact ⟨by omega, fun _ => by omega⟩
          · exact i4 k (by omega) hkN hp
theorem BI_un {P : Nat → Bool} {key : Nat → Int} {lo hi : Nat} {s s' : Option Nat} (h : BI P key lo hi s) (h' : BI P key lo hi s') : s = s' := by
  cases s with
  | none =>
    cases s' with
    | none => rfl
    | some b =>
      obtain ⟨⟨i1, i2, i3⟩, -⟩ := h'
      rw [h b i1 i2] at i3
      cases i3
  | some a =>
    obtain ⟨⟨j1, j2, j3⟩, j4⟩ := h
    cases s' with
    | none =>
      rw [h' a j1 j2] at j3
      cases j3
    | some b =>
      obtain ⟨⟨i1, i2, i3⟩, i4⟩ := h'
      have e1 := j4 b i1 i2 i3
      have e2 := i4 a j1 j2 j3
      have : a = b := by
        have hk : key a = key b := by omega
        have q1 := e1.2 hk.symm
        have q2 := e2.2 hk
        omega
      rw [this]
theorem up_dn {P : Nat → Bool} {key : Nat → Int} (N : Nat) : upS P key N = dnS P key N N := by
  have h := dn_BI (P := P) (key := key) (N := N) N (Nat.le_refl _)
  rw [Nat.sub_self] at h
  exact BI_un (up_BI N) h
/-- the last one is none of them -/
theorem dn_0 {P : Nat → Bool} {key : Nat → Int} {N : Nat} (h0 : P 0 = false) : dnS P key (N + 1) (N + 1) = dnS P key (N + 1) N := by
  show dnF P key (N + 1 - 1 - N) (dnS P key (N + 1) N) = _
  unfold dnF
  rw [show N + 1 - 1 - N = 0 by omega, h0, if_neg (by decide)]
variable {ω : gW}
def baS (ω : gW) (c : Nat) (set : Int32) : Int32 := acc (fun i b => if bb set i = true then b + beS ω i else b) 0 c
theorem baS_hi {i S : Nat} (hi : i ≤ 8) (hS : S < 2 ^ i) : baS ω (i + 1) (nI (2 ^ i + S)) = baS ω i (nI S) + beS ω i := by
  unfold baS
  rw [acc_s, bb_nI (by omega), Nat.testBit_two_pow_add_eq, Nat.testBit_lt_two_pow hS, if_pos (by rfl)]
  rw [show acc (fun j b => if bb (nI (2 ^ i + S)) j = true then b + beS ω j else b) 0 i = acc (fun j b => if bb (nI S) j = true then b + beS ω j else b) 0 i from acc_congr fun j b hj => by rw [bb_nI (by omega), bb_nI (by omega), Nat.testBit_two_pow_add_gt hj]]
theorem baS_lo {i S : Nat} (hi : i ≤ 8) (hS : S < 2 ^ i) : baS ω (i + 1) (nI S) = baS ω i (nI S) := by
  unfold baS
  rw [acc_s, bb_nI (by omega), Nat.testBit_lt_two_pow hS, if_neg (by decide)]
end
section
variable {τ : gτ} {n : Nat} {G G' : gG} {x m s t l l' o : Nat} {ω : gW} {im : Option gW} {me : List gW} {ta : List Nat} {fa : Int32}
theorem m_bearsAll (hM : FM τ G m) (hω : ge G (m + 1) = ω) (hI : WI ω) (hLI : LI ω) (hn : 500 < n) {set : Int32} : gOk (f_X11_bearsAll τ n m set G) (fun p => p.1 = baS ω (cR ω) set ∧ Fr (fun b => b = m + 8) G p.2) := by
  have hr := hI.r1
  unfold f_X11_bearsAll
  rw [ka_bind]
  unfold l_X11_bearsAll_4
  refine gOk.mono (ka_loop (cR ω) (fun c q => q.1 = baS ω c set ∧ q.2.1 = nI c ∧ Fr (fun b => b = m + 8) G q.2.2) (K := fun r => r.1 = baS ω (cR ω) set ∧ Fr (fun b => b = m + 8) G r.2) (by omega) ⟨rfl, rfl, Fr.rf⟩ (fun c q hc hq => ?_)) (fun r hr => by rw [ka_letE, ka_letE]; exact ⟨_, rfl, hr⟩)
  obtain ⟨x2, x3, G1⟩ := q
  obtain ⟨b1', b2, b3⟩ := hq
  have e1 : x2 = baS ω c set := b1'
  have e2 : x3 = nI c := b2
  have f1 : Fr (fun b => b = m + 8) G G1 := b3
  clear b1' b2 b3
  subst e2
  have hM1 : FM τ G1 m := f1.fm hM (by omega)
  have w1 : ge G1 (m + 1) = ω := (f1 (m + 1) (by omega)).2.2.1.trans hω
  show gOk (b_X11_bearsAll_4 τ n m set x2 (nI c) G1) _
  unfold b_X11_bearsAll_4
  rw [hM1.cn.2.1, ka_bs, w1, hI.r0]
  by_cases hlt : c < cR ω
  · rw [if_neg (nI_ge hlt (by omega)), m_has (by omega), ka_bs]
    unfold k_X11_bearsAll_30
    by_cases hb : bb set c = true
    · rw [if_pos hb, if_neg ka_n10, ka_bind2]
      refine gOk.mono (m_bearsOf hM1 w1 (i := c) (by omega) hI.y1 (hI.r hlt) hLI hn) fun p hp => ?_
      obtain ⟨p1, p2⟩ := hp
      rw [ka_letE, ka_letE, nI_1, p1]
      refine ⟨_, rfl, hlt, ?_, rfl, f1.tr p2⟩
      show x2 + beS ω c = acc _ 0 (c + 1)
      rw [acc_s, if_pos hb, e1]
      rfl
    · rw [if_neg hb, if_pos rfl, ka_letE, ka_letE, nI_1, i3_a0]
      refine ⟨_, rfl, hlt, ?_, rfl, f1⟩
      show x2 = acc _ 0 (c + 1)
      rw [acc_s, if_neg hb, e1]
      rfl
  · have hcN : c = cR ω := by omega
    rw [if_pos (nI_le (by omega) (by omega))]
    refine ⟨_, rfl, ?_, f1⟩
    show x2 = _
    rw [e1, hcN]
theorem CV.sum (h : CV τ G x s t l l' ω im me ta fa) : gr G 10 8 x = some (x + 432) ∧ gr G 10 7 x = some (x + 431) ∧ gr G 10 9 x = some (x + 433) ∧ gn τ (x + 431) = 256 ∧ gn τ (x + 432) = 256 ∧ gn τ (x + 433) = 10 :=
  ⟨h.rf.2.2.2.2.2.2.2.2.1, h.rf.2.2.2.2.2.2.2.1, h.rf.2.2.2.2.2.2.2.2.2.1, h.1.2.2.1.2.2.1, h.1.2.2.1.2.2.2.1, h.1.2.2.1.2.2.2.2⟩
theorem QC.row {b : Nat} (hb : x + 428 ≤ b) (hb2 : b ≤ x + 433) (hC : CV τ G x s t l l' ω im me ta fa) (hf : Fr (fun c => c = b) G G') : QC τ x t G G' := by
  have hsl := hC.sl
  exact ⟨hf.mono fun c hc => by unfold scC; omega, fun h => hf.fs h fun c h1 h2 => by omega⟩
theorem c_sumB (hC : CV τ G x s t l l' ω im me ta fa) (hI : IV ω im me ta) (hn : 500 < n) : gOk (f_X10_sumBearings τ n x G) (fun p => p.1 = nI (2 ^ cR ω) ∧ QC τ x t G p.2 ∧ ∀ S, S < 2 ^ cR ω → ge p.2 (x + 432) S = baS ω (cR ω) (nI S)) := by
  have hr := hI.1.r1
  have hsl := hC.sl
  obtain ⟨s1, s2, s3, s4, s5, s6⟩ := hC.sum
  unfold f_X10_sumBearings
  rw [s1, ka_bs, ka_chkT (by rw [s5]; exact ka_in (i := 0) (by decide) (by decide)), ka_letE, ka_bind]
  have f0 : Fr (fun c => c = x + 432) G (gse G (x + 432) (Int32.toNatClampNeg 0) 0) := Fr.e rfl
  have q0 : QC τ x t G (gse G (x + 432) (Int32.toNatClampNeg 0) 0) := QC.row (by omega) (by omega) hC f0
  unfold l_X10_sumBearings_11
  refine gOk.mono (ka_loop (cR ω) (fun c q => q.1 = nI (2 ^ c) ∧ q.2.1 = nI c ∧ QC τ x t G q.2.2 ∧ ∀ S, S < 2 ^ c → ge q.2.2 (x + 432) S = baS ω c (nI S)) (K := fun r => r.1 = nI (2 ^ cR ω) ∧ QC τ x t G r.2 ∧ ∀ S, S < 2 ^ cR ω → ge r.2 (x + 432) S = baS ω (cR ω) (nI S)) (by omega) ⟨rfl, rfl, q0, fun S hS => ?_⟩ (fun c q hc hq => ?_)) (fun r hr => by rw [ka_letE, ka_letE]; exact ⟨_, rfl, hr⟩)
  · have hS0 : S = 0 := by
      have : 2 ^ 0 = 1 := rfl
      omega
    subst hS0
    show ge (gse G (x + 432) (Int32.toNatClampNeg 0) 0) (x + 432) 0 = 0
    rw [ka_ee, if_pos ⟨rfl, rfl⟩]
  · obtain ⟨x1, x2, G1⟩ := q
    obtain ⟨b1', b2, b3, b4⟩ := hq
    have e1 : x1 = nI (2 ^ c) := b1'
    have e2 : x2 = nI c := b2
    have q1 : QC τ x t G G1 := b3
    have t1 : ∀ S, S < 2 ^ c → ge G1 (x + 432) S = baS ω c (nI S) := b4
    clear b1' b2 b3 b4
    subst e1; subst e2
    have hC1 := q1.cv hC hI
    show gOk (b_X10_sumBearings_11 τ n x (nI (2 ^ c)) (nI c) G1) _
    unfold b_X10_sumBearings_11
    rw [hC1.rf.2.2.2.2.2.2.2.2.2.2.1, ka_bs, hC1.vs.cn.2.1, hI.1.r0]
    by_cases hlt : c < cR ω
    · have h2c := two8 (N := c) (by omega)
      have h2s : 2 ^ (c + 1) = 2 ^ c + 2 ^ c := by rw [Nat.pow_succ]; omega
      have h2c1 := two8 (N := c + 1) (by omega)
      rw [if_neg (nI_ge hlt (by omega)), ka_bs, ka_bs, hC1.fs.1.rf.2.1, ka_bs, hC1.fs.1.r (i := c) (by omega), hC1.rf.2.2.2.2.2.2.2.2.2.2.2.2.1, ka_bs, ka_bind2]
      refine gOk.mono (s_bearing hC1.fs.1 hC1.vs hI.1 hC1.fl.1 hC1.lv hI.2.1 (hC1.vs.r hlt) (hI.1.r hlt) (by omega) (by omega) hn) fun p hp => ?_
      obtain ⟨p1, p2⟩ := hp
      have q2 := q1.tr (QC.scr hC1 p2)
      have hC2 := q2.cv hC hI
      have t2 : ∀ S, S < 2 ^ c → ge p.2 (x + 432) S = baS ω c (nI S) := fun S hS => by rw [(p2 (x + 432) (by omega)).2.2.1]; exact t1 S hS
      rw [ka_bind, p1]
      unfold l_X10_sumBearings_46
      refine gOk.mono (ka_loop (2 ^ c) (fun d q => q.1 = nI d ∧ QC τ x t G q.2 ∧ ∀ S, S < 2 ^ c + d → ge q.2 (x + 432) S = baS ω (c + 1) (nI S)) (K := fun G' => QC τ x t G G' ∧ ∀ S, S < 2 ^ (c + 1) → ge G' (x + 432) S = baS ω (c + 1) (nI S)) (by omega) ⟨rfl, q2, fun S hS => by rw [t2 S (by omega), baS_lo (by omega) (by omega)]⟩ (fun d q hd hq => ?_)) (fun G3 h3 => ?_)
      · obtain ⟨x4, G3⟩ := q
        obtain ⟨c1', c2, c3⟩ := hq
        have e4 : x4 = nI d := c1'
        have q3 : QC τ x t G G3 := c2
        have t3 : ∀ S, S < 2 ^ c + d → ge G3 (x + 432) S = baS ω (c + 1) (nI S) := c3
        clear c1' c2 c3
        subst e4
        have hC3 := q3.cv hC hI
        show gOk (b_X10_sumBearings_46 τ n x (nI (2 ^ c)) (nI c) (beS ω c) (nI d) G3) _
        unfold b_X10_sumBearings_46
        by_cases hltd : d < 2 ^ c
        · rw [if_neg (nI_ge hltd (by omega)), hC3.sum.1, ka_bs, ka_bs, ka_chkT (show gIn (nI d) (gn τ (x + 432)) by rw [s5]; exact ka_in (by omega) (by decide)), nI_add, ka_chkT (show gIn (nI (2 ^ c + d)) (gn τ (x + 432)) by rw [s5]; exact ka_in (by omega) (by decide)), nI_clamp (show d < 2 ^ 31 by omega), nI_clamp (show 2 ^ c + d < 2 ^ 31 by omega), t3 d (by omega), ka_letE, ka_letE, nI_1]
          have f4 : Fr (fun b => b = x + 432) G3 (gse G3 (x + 432) (2 ^ c + d) (baS ω (c + 1) (nI d) + beS ω c)) := Fr.e rfl
          refine ⟨_, rfl, hltd, rfl, q3.tr (QC.row (by omega) (by omega) hC3 f4), fun S hS => ?_⟩
          show ge (gse G3 (x + 432) (2 ^ c + d) _) (x + 432) S = _
          rw [ka_ee]
          by_cases hSd : S = 2 ^ c + d
          · rw [if_pos ⟨rfl, hSd⟩, hSd, baS_lo (by omega) hltd, baS_hi (by omega) hltd]
          · rw [if_neg (fun h => hSd h.2)]
            exact t3 S (by omega)
        · rw [if_pos (nI_le (by omega) (by omega))]
          exact ⟨_, rfl, q3, fun S hS => t3 S (by omega)⟩
      · obtain ⟨q3, t3⟩ := h3
        rw [ka_letE]
        unfold k_X10_sumBearings_76
        rw [ka_letE, ka_letE, nI_1, show nI (2 ^ c) * (2 : Int32) = nI (2 ^ (c + 1)) by rw [Nat.pow_succ]; exact pk_mul (2 ^ c) 2]
        exact ⟨_, rfl, hlt, rfl, rfl, q3, t3⟩
    · have hcN : c = cR ω := by omega
      rw [if_pos (nI_le (by omega) (by omega))]
      refine ⟨_, rfl, ?_, q1, ?_⟩
      · show nI (2 ^ c) = _
        rw [hcN]
      · rw [← hcN]; exact t1
end
