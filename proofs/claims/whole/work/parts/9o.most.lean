/-! CALLS: most -/
section
variable {ω : gW}
def nxT (M : Int32) (O : Nat) (T : Nat → Prop) : Nat → Prop := fun S => T S ∨ ∃ o, o < O ∧ S.testBit o = true ∧ bb M o = true ∧ T (S ^^^ 2 ^ o)
def maT (ω : gW) (c : Nat) : Nat → Prop := acc (fun r T => nxT (mtS ω r) (cO ω) T) (fun S => S = 0) c
def TR (a N : Nat) (G : gG) (T : Nat → Prop) : Prop := ∀ S, S < N → (ge G a S = 1 ∧ T S) ∨ (ge G a S = 0 ∧ ¬ T S)
theorem TR.iff {a N : Nat} {G : gG} {T T' : Nat → Prop} (h : TR a N G T) (he : ∀ S, S < N → (T S ↔ T' S)) : TR a N G T' := fun S hS => by
  rcases h S hS with ⟨h1, h2⟩ | ⟨h1, h2⟩
  · exact Or.inl ⟨h1, (he S hS).mp h2⟩
  · exact Or.inr ⟨h1, fun h => h2 ((he S hS).mpr h)⟩
theorem TR.one {a N : Nat} {G : gG} {T : Nat → Prop} (h : TR a N G T) {S : Nat} (hS : S < N) : ge G a S = 1 ↔ T S := by
  rcases h S hS with ⟨h1, h2⟩ | ⟨h1, h2⟩
  · exact ⟨fun _ => h2, fun _ => h1⟩
  · exact ⟨fun e => by rw [h1] at e; exact absurd e ka_n01, fun e => absurd e h2⟩
theorem TR.put {a N k : Nat} {G : gG} {T : Nat → Prop} (h : TR a N G T) : TR a N (gse G a k 1) (fun S => T S ∨ S = k) := fun S hS => by
  rw [ka_ee]
  by_cases hk : S = k
  · rw [if_pos ⟨rfl, hk⟩]
    exact Or.inl ⟨rfl, Or.inr hk⟩
  · rw [if_neg (fun e => hk e.2)]
    rcases h S hS with ⟨h1, h2⟩ | ⟨h1, h2⟩
    · exact Or.inl ⟨h1, Or.inl h2⟩
    · exact Or.inr ⟨h1, fun e => e.elim h2 hk⟩
theorem tb2 (o i : Nat) : (2 ^ o).testBit i = decide (o = i) := Nat.testBit_two_pow
theorem bit_less {S o : Nat} (h : S.testBit o = true) : S ^^^ 2 ^ o < S ∧ 2 ^ o &&& S = 2 ^ o := by
  have h2 : 2 ^ o &&& S = 2 ^ o := by
    refine Nat.eq_of_testBit_eq fun i => ?_
    rw [Nat.testBit_and, tb2]
    by_cases hi : o = i
    · subst hi; rw [h, decide_eq_true rfl]; rfl
    · rw [decide_eq_false hi]; rfl
  refine ⟨?_, h2⟩
  have h3 : 2 ^ o ≤ S := Nat.ge_two_pow_of_testBit h
  have h4 : (S ^^^ 2 ^ o) ||| 2 ^ o = S := by
    refine Nat.eq_of_testBit_eq fun i => ?_
    rw [Nat.testBit_or, Nat.testBit_xor, tb2]
    by_cases hi : o = i
    · subst hi; rw [h, decide_eq_true rfl]; rfl
    · rw [decide_eq_false hi]; simp
  have h5 : S ^^^ 2 ^ o ≤ S := by
    have : S ^^^ 2 ^ o ≤ (S ^^^ 2 ^ o) ||| 2 ^ o := Nat.left_le_or
    rw [h4] at this
    exact this
  refine Nat.lt_of_le_of_ne h5 fun e => ?_
  have := congrArg (fun z => z.testBit o) e
  simp only [Nat.testBit_xor, tb2, h, decide_eq_true rfl] at this
  exact absurd this (by decide)
theorem or_bit {D S o : Nat} (hD : D.testBit o = false) : S = D ||| 2 ^ o ↔ S.testBit o = true ∧ S ^^^ 2 ^ o = D := by
  constructor
  · rintro rfl
    refine ⟨by rw [Nat.testBit_or, tb2, decide_eq_true rfl, Bool.or_true], ?_⟩
    refine Nat.eq_of_testBit_eq fun i => ?_
    rw [Nat.testBit_xor, Nat.testBit_or, tb2]
    by_cases hi : o = i
    · subst hi; rw [hD, decide_eq_true rfl]; rfl
    · rw [decide_eq_false hi]; simp
  · rintro ⟨h1, rfl⟩
    refine Nat.eq_of_testBit_eq fun i => ?_
    rw [Nat.testBit_or, Nat.testBit_xor, tb2]
    by_cases hi : o = i
    · subst hi; rw [h1, decide_eq_true rfl]; rfl
    · rw [decide_eq_false hi]; simp
theorem or_lt {D o O : Nat} (hD : D < 2 ^ O) (ho : o < O) : D ||| 2 ^ o < 2 ^ O := Nat.or_lt_two_pow hD (Nat.pow_lt_pow_right (by decide) ho)
noncomputable def moP (T : Nat → Prop) (S : Nat) : Bool := @decide (T S ∧ 0 < S) (Classical.propDecidable _)
theorem moP_t {T : Nat → Prop} {S : Nat} (h : T S) (h0 : 0 < S) : moP T S = true := @decide_eq_true _ (Classical.propDecidable _) ⟨h, h0⟩
theorem moP_f {T : Nat → Prop} {S : Nat} (h : ¬ (T S ∧ 0 < S)) : moP T S = false := @decide_eq_false _ (Classical.propDecidable _) h
def moK (S : Nat) : Int := (bcS (nI S)).toInt
theorem bcF : ∀ k : Fin 256, 0 < k.1 → (0 : Int32) < bcS (nI k.1) := by decide +kernel
theorem bc_pos {k : Nat} (hk : k < 256) (h0 : 0 < k) : (0 : Int32) < bcS (nI k) := bcF ⟨k, hk⟩ h0
theorem bc_0 : bcS (nI 0) = 0 := by decide +kernel
theorem payS_bt (hI : WI ω) (set : Int32) : bt (payS ω set) 0 792 := by
  have ho := hI.o1
  have h : ∃ k, k ≤ 99 * cO ω ∧ payS ω set = nI k := by
    unfold payS
    refine acc_inv (fun i b => ∃ k, k ≤ 99 * i ∧ b = nI k) ⟨0, Nat.zero_le _, rfl⟩ fun i b hi hp => ?_
    obtain ⟨k, h1, h2⟩ := hp
    obtain ⟨a, -, a2, ha⟩ := (hI.o hi).2.2
    by_cases hb : bb set i = true
    · rw [if_pos hb, h2, ha, nI_add]
      exact ⟨k + a, by omega, rfl⟩
    · rw [if_neg hb]
      exact ⟨k, by omega, h2⟩
  obtain ⟨k, h1, h2⟩ := h
  exact ⟨k, Nat.zero_le _, by omega, h2⟩
theorem payS_i (hI : WI ω) (set : Int32) : 0 ≤ (payS ω set).toInt := by
  obtain ⟨a, -, a2, ha⟩ := payS_bt hI set
  rw [ha, nI_toInt (by omega)]
  omega
theorem mo_no {T : Nat → Prop} {key : Nat → Int} {c : Nat} {s : Option Nat} (h : ¬ (T c ∧ 0 < c)) : upF (moP T) key c s = s ∧ dnF (moP T) key c s = s := by
  constructor
  · unfold upF
    rw [moP_f h, if_neg (by decide)]
  · unfold dnF
    rw [moP_f h, if_neg (by decide)]
theorem mo_bc {T : Nat → Prop} {c : Nat} {s : Option Nat} (h : T c) (h0 : 0 < c) (h256 : c < 256) : sN (upF (moP T) moK c s) = (if bcS (nI c) ≤ bcS (sN s) then sN s else nI c) ∧ sN (dnF (moP T) moK c s) = (if bcS (nI c) < bcS (sN s) then sN s else nI c) := by
  have hp := bc_pos h256 h0
  constructor
  · unfold upF
    rw [moP_t h h0, if_pos rfl]
    cases s with
    | none =>
      rw [if_neg (by show ¬ bcS (nI c) ≤ bcS (nI 0); rw [bc_0]; exact nle_of_lt hp)]
      rfl
    | some b =>
      show sN (if moK b < moK c then some c else some b) = if bcS (nI c) ≤ bcS (nI b) then nI b else nI c
      unfold moK
      by_cases hle : bcS (nI c) ≤ bcS (nI b)
      · rw [if_pos hle, if_neg (by rw [Int32.le_iff_toInt_le] at hle; omega)]
        rfl
      · rw [if_neg hle, if_pos (by rw [Int32.le_iff_toInt_le] at hle; omega)]
        rfl
  · unfold dnF
    rw [moP_t h h0, if_pos rfl]
    cases s with
    | none =>
      rw [if_neg (by show ¬ bcS (nI c) < bcS (nI 0); rw [bc_0]; rw [Int32.lt_iff_toInt_lt] at hp ⊢; omega)]
      rfl
    | some b =>
      show sN (if moK b ≤ moK c then some c else some b) = if bcS (nI c) < bcS (nI b) then nI b else nI c
      unfold moK
      by_cases hle : bcS (nI c) < bcS (nI b)
      · rw [if_pos hle, if_neg (by rw [Int32.lt_iff_toInt_lt] at hle; omega)]
        rfl
      · rw [if_neg hle, if_pos (by rw [Int32.lt_iff_toInt_lt] at hle; omega)]
        rfl
theorem mo_pay (hI : WI ω) {T : Nat → Prop} {c : Nat} {s : Option Nat} (h : T c) (h0 : 0 < c) : gmax (payS ω (sN s)) (payS ω (nI c)) = payS ω (sN (upF (moP T) (cuK ω) c s)) ∧ gmax (payS ω (sN s)) (payS ω (nI c)) = payS ω (sN (dnF (moP T) (cuK ω) c s)) := by
  have hc := payS_i hI (nI c)
  have gm : ∀ x y : Int32, x.toInt ≤ y.toInt → gmax x y = y := fun x y h => Int32.toInt_inj.mp (by rw [gmax_i]; omega)
  have gm2 : ∀ x y : Int32, y.toInt ≤ x.toInt → gmax x y = x := fun x y h => Int32.toInt_inj.mp (by rw [gmax_i]; omega)
  have z : (payS ω (0 : Int32)).toInt = 0 := by rw [payS_0]; rfl
  constructor
  · unfold upF
    rw [moP_t h h0, if_pos rfl]
    cases s with
    | none => exact gm _ _ (by show (payS ω 0).toInt ≤ _; omega)
    | some b =>
      show gmax (payS ω (nI b)) (payS ω (nI c)) = payS ω (sN (if cuK ω b < cuK ω c then some c else some b))
      unfold cuK
      by_cases hle : (payS ω (nI b)).toInt < (payS ω (nI c)).toInt
      · rw [if_pos hle]; exact gm _ _ (by omega)
      · rw [if_neg hle]; exact gm2 _ _ (by omega)
  · unfold dnF
    rw [moP_t h h0, if_pos rfl]
    cases s with
    | none => exact gm _ _ (by show (payS ω 0).toInt ≤ _; omega)
    | some b =>
      show gmax (payS ω (nI b)) (payS ω (nI c)) = payS ω (sN (if cuK ω b ≤ cuK ω c then some c else some b))
      unfold cuK
      by_cases hle : (payS ω (nI b)).toInt ≤ (payS ω (nI c)).toInt
      · rw [if_pos hle]; exact gm _ _ hle
      · rw [if_neg hle]; exact gm2 _ _ (by omega)
noncomputable def moS (ω : gW) (b : Int32) : Int32 := if b = 0 then sN (upS (moP (maT ω (cR ω))) moK (2 ^ cO ω)) else payS ω (sN (upS (moP (maT ω (cR ω))) (cuK ω) (2 ^ cO ω)))
end
section
variable {τ : gτ} {n : Nat} {G G' : gG} {x m s t l l' o : Nat} {ω : gW} {im : Option gW} {me : List gW} {ta : List Nat} {fa : Int32}
theorem c_metBy2 (hC : CV τ G x s t l l' ω im me ta fa) (hI : IV ω im me ta) (hn : 500 < n) {k : Nat} (hk : k < cR ω) : gOk (f_X10_ordersMetBy τ n x (s + 16 + k) G) (fun p => p.1 = mtS ω k ∧ Fr (scr l) G p.2) := by
  have hr := hI.1.r1
  have ho := hI.1.o1
  have hsl := hC.sl
  unfold f_X10_ordersMetBy
  rw [s_isFree (hC.vs.r hk), ka_bs]
  by_cases hf : rv ω k 8 = 0 ∧ rv ω k 9 = 0
  · rw [if_pos hf, if_neg ka_n10, hC.rf.2.2.2.2.2.2.2.2.2.2.1, ka_bs, hC.rf.2.2.2.2.2.2.2.2.2.2.2.2.1, ka_bs, ka_bind2]
    refine gOk.mono (s_bearing hC.fs.1 hC.vs hI.1 hC.fl.1 hC.lv hI.2.1 (hC.vs.r hk) (hI.1.r hk) (by omega) (by omega) hn) fun p hp => ?_
    obtain ⟨p1, p2⟩ := hp
    have q2 := QC.scr hC p2
    have hC2 := q2.cv hC hI
    rw [ka_bind, p1]
    unfold l_X10_ordersMetBy_27
    refine gOk.mono (ka_loop (cO ω) (fun c q => q.1 = acc (fun q b => if cmS ω q k then b ||| b1 q else b) 0 c ∧ q.2 = nI c) (K := fun r => r = mtS ω k) (by omega) ⟨rfl, rfl⟩ (fun c q hc hq => ?_)) (fun r hr => by rw [ka_letE]; exact ⟨_, rfl, hr, p2⟩)
    obtain ⟨x3, x4⟩ := q
    obtain ⟨b1', b2⟩ := hq
    have e1 : x3 = acc (fun q b => if cmS ω q k then b ||| b1 q else b) 0 c := b1'
    have e2 : x4 = nI c := b2
    clear b1' b2
    subst e2
    show gOk (b_X10_ordersMetBy_27 τ n x (s + 16 + k) (beS ω k) x3 (nI c) p.2) _
    unfold b_X10_ordersMetBy_27
    rw [hC2.rf.2.2.2.2.2.2.2.2.2.2.1, ka_bs, hC2.vs.cn.2.2.1, hI.1.o0]
    by_cases hlt : c < cO ω
    · rw [if_neg (nI_ge hlt (by omega)), ka_bs, hC2.fs.1.rf.2.2.1, ka_bs, hC2.fs.1.o (i := c) (by omega), (hC2.vs.r hk).f.2.2.2.1, s_isFilledBy (hC2.vs.ov hlt), ka_bs]
      by_cases h0 : beS ω k < ov ω c 0
      · rw [if_pos h0, if_pos rfl, ka_letE, nI_1]
        refine ⟨_, rfl, hlt, ?_, rfl⟩
        show x3 = _
        rw [acc_s, if_neg (fun h => h.2.2 h0), e1]
      · by_cases h3 : rv ω k 3 < ov ω c 1
        · rw [if_neg h0, if_pos h3, if_pos rfl, ka_letE, nI_1]
          refine ⟨_, rfl, hlt, ?_, rfl⟩
          show x3 = _
          rw [acc_s, if_neg (fun h => h.2.1 h3), e1]
        · rw [if_neg h0, if_neg h3, if_neg ka_n10, ka_letE, ka_letE, nI_1]
          refine ⟨_, rfl, hlt, ?_, rfl⟩
          show x3 ||| b1 c = _
          rw [acc_s, if_pos ⟨hf, h3, h0⟩, e1]
    · have hcN : c = cO ω := by omega
      rw [if_pos (nI_le (by omega) (by omega))]
      refine ⟨_, rfl, ?_⟩
      show x3 = _
      rw [e1, hcN]
      rfl
  · rw [if_neg hf, if_pos rfl]
    refine ⟨_, rfl, ?_, Fr.rf⟩
    exact (acc_id fun i b _ => if_neg fun h => hf h.1).symm
theorem c_mark1 (hC : CV τ G x s t l l' ω im me ta fa) (hI : IV ω im me ta) (hn : 500 < n) {T : Nat → Prop} {D : Nat} {M : Int32} (hD : D < 2 ^ cO ω) (hT : TR (x + 431) (2 ^ cO ω) G T) : gOk (f_X10_markWithOneMore τ n x (nI D) (M &&& (nI D ^^^ (-1))) G) (fun G' => TR (x + 431) (2 ^ cO ω) G' (fun S => T S ∨ ∃ o, o < cO ω ∧ bb M o = true ∧ D.testBit o = false ∧ S = D ||| 2 ^ o) ∧ QC τ x t G G') := by
  have ho := hI.1.o1
  have h2 := two8 ho
  unfold f_X10_markWithOneMore
  rw [ka_bind]
  unfold l_X10_markWithOneMore_2
  refine gOk.mono (ka_loop (cO ω) (fun c q => q.1 = nI c ∧ QC τ x t G q.2 ∧ TR (x + 431) (2 ^ cO ω) q.2 (fun S => T S ∨ ∃ o, o < c ∧ bb M o = true ∧ D.testBit o = false ∧ S = D ||| 2 ^ o)) (K := fun G' => TR (x + 431) (2 ^ cO ω) G' (fun S => T S ∨ ∃ o, o < cO ω ∧ bb M o = true ∧ D.testBit o = false ∧ S = D ||| 2 ^ o) ∧ QC τ x t G G') (by omega) ⟨rfl, QC.rf, hT.iff fun S _ => ⟨Or.inl, fun h => h.elim id (fun ⟨o, h, _⟩ => by omega)⟩⟩ (fun c q hc hq => ?_)) (fun G1 h1 => by rw [ka_letE]; exact ⟨_, rfl, h1⟩)
  obtain ⟨x3, G1⟩ := q
  obtain ⟨b1', b2, b3⟩ := hq
  have e1 : x3 = nI c := b1'
  have q1 : QC τ x t G G1 := b2
  have t1 : TR (x + 431) (2 ^ cO ω) G1 (fun S => T S ∨ ∃ o, o < c ∧ bb M o = true ∧ D.testBit o = false ∧ S = D ||| 2 ^ o) := b3
  clear b1' b2 b3
  subst e1
  have hC1 := q1.cv hC hI
  obtain ⟨s1, s2, s3, s4, s5, s6⟩ := hC1.sum
  show gOk (b_X10_markWithOneMore_2 τ n x (nI D) (M &&& (nI D ^^^ (-1))) (nI c) G1) _
  unfold b_X10_markWithOneMore_2
  rw [hC1.rf.2.2.2.2.2.2.2.2.2.2.1, ka_bs, hC1.vs.cn.2.2.1, hI.1.o0]
  by_cases hlt : c < cO ω
  · have hbit : ((M &&& (nI D ^^^ (-1))) >>> (nI c &&& 31)) &&& 1 = 1 ↔ bb M c = true ∧ D.testBit c = false := by
      rw [hs_bb _ (by omega), b_and, b_not _ (by omega), bb_nI (by omega)]
      cases bb M c <;> cases D.testBit c <;> simp
    rw [if_neg (nI_ge hlt (by omega))]
    by_cases hb : bb M c = true ∧ D.testBit c = false
    · have hlt2 := or_lt hD hlt
      rw [if_pos (hbit.mpr hb), s2, ka_bs, show nI D ||| ((1 : Int32) <<< (nI c &&& 31)) = nI (D ||| 2 ^ c) by rw [shl_N (by omega), nI_or], ka_chkT (show gIn (nI (D ||| 2 ^ c)) (gn τ (x + 431)) by rw [s4]; exact ka_in (by omega) (by decide)), nI_clamp (by omega), ka_letE, ka_letE, nI_1]
      have f2 : Fr (fun b => b = x + 431) G1 (gse G1 (x + 431) (D ||| 2 ^ c) 1) := Fr.e rfl
      refine ⟨_, rfl, hlt, rfl, q1.tr (QC.row (by omega) (by omega) hC1 f2), (t1.put (k := D ||| 2 ^ c)).iff fun S _ => ⟨fun h => ?_, fun h => ?_⟩⟩
      · rcases h with (h | ⟨o, h1, h2, h3, h4⟩) | h
        · exact Or.inl h
        · exact Or.inr ⟨o, by omega, h2, h3, h4⟩
        · exact Or.inr ⟨c, by omega, hb.1, hb.2, h⟩
      · rcases h with h | ⟨o, h1, h2, h3, h4⟩
        · exact Or.inl (Or.inl h)
        · by_cases hoc : o = c
          · rw [hoc] at h4; exact Or.inr h4
          · exact Or.inl (Or.inr ⟨o, by omega, h2, h3, h4⟩)
    · rw [if_neg (fun h => hb (hbit.mp h)), ka_letE, nI_1]
      refine ⟨_, rfl, hlt, rfl, q1, t1.iff fun S _ => ⟨fun h => ?_, fun h => ?_⟩⟩
      · rcases h with h | ⟨o, h1, h2, h3, h4⟩
        · exact Or.inl h
        · exact Or.inr ⟨o, by omega, h2, h3, h4⟩
      · rcases h with h | ⟨o, h1, h2, h3, h4⟩
        · exact Or.inl h
        · by_cases hoc : o = c
          · rw [hoc] at h2 h3; exact absurd ⟨h2, h3⟩ hb
          · exact Or.inr ⟨o, by omega, h2, h3, h4⟩
  · have hcN : c = cO ω := by omega
    rw [if_pos (nI_le (by omega) (by omega))]
    exact ⟨_, rfl, by rw [hcN] at t1; exact t1, q1⟩
def maC (M : Int32) (O c : Nat) (T : Nat → Prop) : Nat → Prop := fun S => T S ∨ ∃ o, o < O ∧ S.testBit o = true ∧ bb M o = true ∧ c ≤ S ^^^ 2 ^ o ∧ T (S ^^^ 2 ^ o)
theorem c_mark60 (hC : CV τ G x s t l l' ω im me ta fa) (hI : IV ω im me ta) (hn : 500 < n) {T : Nat → Prop} {M u v : Int32} (hT : TR (x + 431) (2 ^ cO ω) G T) : gOk (l_X10_markMeetable_60 τ n x u v M (nI (2 ^ cO ω - 1)) G) (fun G' => TR (x + 431) (2 ^ cO ω) G' (nxT M (cO ω) T) ∧ QC τ x t G G') := by
  have ho := hI.1.o1
  have h2 := two8 ho
  unfold l_X10_markMeetable_60
  by_cases hM0 : M = 0
  · refine ka_loop 0 (fun c q => q.2 = G) (by omega) rfl (fun c q hc hq => ?_)
    obtain ⟨x4, G1⟩ := q
    have e1 : G1 = G := hq
    subst e1
    have hres : TR (x + 431) (2 ^ cO ω) G1 (nxT M (cO ω) T) := hT.iff fun S _ => ⟨Or.inl, fun h => h.elim id (fun ⟨o, _, _, h, _⟩ => by rw [hM0, b_0] at h; cases h)⟩
    show gOk (b_X10_markMeetable_60 τ n x u v M x4 G1) _
    unfold b_X10_markMeetable_60
    by_cases h0 : x4 < 0
    · rw [if_pos h0]; exact ⟨_, rfl, hres, QC.rf⟩
    · rw [if_neg h0, if_pos hM0]; exact ⟨_, rfl, hres, QC.rf⟩
  · refine ka_loop (2 ^ cO ω) (fun c q => q.1 = nI (2 ^ cO ω - c) + (-1) ∧ QC τ x t G q.2 ∧ TR (x + 431) (2 ^ cO ω) q.2 (maC M (cO ω) (2 ^ cO ω - c) T)) (by omega) ⟨?_, QC.rf, hT.iff fun S hS => ⟨Or.inl, fun h => h.elim id (fun ⟨o, h1, h2', _, h3, _⟩ => by
        have := (bit_less h2').1
        omega)⟩⟩ (fun c q hc hq => ?_)
    · show nI (2 ^ cO ω - 1) = nI (2 ^ cO ω - 0) + (-1)
      rw [show 2 ^ cO ω - 0 = (2 ^ cO ω - 1) + 1 by omega, pk_m1]
    obtain ⟨x4, G1⟩ := q
    obtain ⟨b1', b2, b3⟩ := hq
    have e1 : x4 = nI (2 ^ cO ω - c) + (-1) := b1'
    have q1 : QC τ x t G G1 := b2
    have t1 : TR (x + 431) (2 ^ cO ω) G1 (maC M (cO ω) (2 ^ cO ω - c) T) := b3
    clear b1' b2 b3
    have hC1 := q1.cv hC hI
    obtain ⟨s1, s2, s3, s4, s5, s6⟩ := hC1.sum
    show gOk (b_X10_markMeetable_60 τ n x u v M x4 G1) _
    unfold b_X10_markMeetable_60
    by_cases hlt : c < 2 ^ cO ω
    · have e1' : x4 = nI (2 ^ cO ω - (c + 1)) := by rw [e1, show 2 ^ cO ω - c = (2 ^ cO ω - (c + 1)) + 1 by omega, pk_m1]
      generalize hDD : 2 ^ cO ω - (c + 1) = D at e1'
      have hcD : 2 ^ cO ω - c = D + 1 := by omega
      rw [hcD] at t1
      have hD : D < 2 ^ cO ω := by omega
      subst e1'
      have hold : maC M (cO ω) (D + 1) T D ↔ T D := ⟨fun h => h.elim id (fun ⟨o, _, h2', _, h3, _⟩ => by have := (bit_less h2').1; omega), Or.inl⟩
      have hstep : ∀ S, maC M (cO ω) D T S ↔ (maC M (cO ω) (D + 1) T S ∨ (T D ∧ ∃ o, o < cO ω ∧ bb M o = true ∧ D.testBit o = false ∧ S = D ||| 2 ^ o)) := fun S => by
        constructor
        · rintro (h | ⟨o, h1, h2', h3, h4, h5⟩)
          · exact Or.inl (Or.inl h)
          · by_cases hE : S ^^^ 2 ^ o = D
            · have hDb : D.testBit o = false := by rw [← hE, Nat.testBit_xor, tb2, h2', decide_eq_true rfl]; rfl
              rw [hE] at h5
              exact Or.inr ⟨h5, o, h1, h3, hDb, (or_bit hDb).mpr ⟨h2', hE⟩⟩
            · exact Or.inl (Or.inr ⟨o, h1, h2', h3, by omega, h5⟩)
        · rintro ((h | ⟨o, h1, h2', h3, h4, h5⟩) | ⟨hTD, o, h1, h3, hDb, hS⟩)
          · exact Or.inl h
          · exact Or.inr ⟨o, h1, h2', h3, by omega, h5⟩
          · obtain ⟨g1, g2⟩ := (or_bit hDb).mp hS
            exact Or.inr ⟨o, h1, g1, h3, by omega, by rw [g2]; exact hTD⟩
      rw [if_neg (nI_pos (by omega)), if_neg hM0, s2, ka_bs, ka_chkT (show gIn (nI D) (gn τ (x + 431)) by rw [s4]; exact ka_in (by omega) (by decide)), nI_clamp (by omega)]
      by_cases hone : ge G1 (x + 431) D = 1
      · have hTD : T D := hold.mp ((t1.one hD).mp hone)
        rw [if_pos hone, ka_bind]
        refine gOk.mono (c_mark1 hC1 hI hn hD t1 (M := M)) fun G2 h2' => ?_
        obtain ⟨t2, q2⟩ := h2'
        rw [ka_letE]
        refine ⟨_, rfl, hlt, rfl, q1.tr q2, ?_⟩
        show TR (x + 431) (2 ^ cO ω) G2 (maC M (cO ω) D T)
        exact t2.iff fun S _ => ((hstep S).trans ⟨fun h => h.elim Or.inl (fun h => Or.inr h.2), fun h => h.elim Or.inl (fun h => Or.inr ⟨hTD, h⟩)⟩).symm
      · have hTD : ¬ T D := fun h => hone ((t1.one hD).mpr (hold.mpr h))
        rw [if_neg hone, ka_letE]
        refine ⟨_, rfl, hlt, rfl, q1, ?_⟩
        show TR (x + 431) (2 ^ cO ω) G1 (maC M (cO ω) D T)
        exact t1.iff fun S _ => ((hstep S).trans ⟨fun h => h.elim id (fun h => absurd h.1 hTD), Or.inl⟩).symm
    · have hcN : c = 2 ^ cO ω := by omega
      rw [e1, show 2 ^ cO ω - c = 0 by omega, if_pos (by decide)]
      rw [show 2 ^ cO ω - c = 0 by omega] at t1
      exact ⟨_, rfl, t1.iff fun S _ => ⟨fun h => h.elim Or.inl (fun ⟨o, h1, h2', h3, _, h5⟩ => Or.inr ⟨o, h1, h2', h3, h5⟩), fun h => h.elim Or.inl (fun ⟨o, h1, h2', h3, h5⟩ => Or.inr ⟨o, h1, h2', h3, Nat.zero_le _, h5⟩)⟩, q1⟩
theorem c_mark (hC : CV τ G x s t l l' ω im me ta fa) (hI : IV ω im me ta) (hn : 500 < n) : gOk (f_X10_markMeetable τ n x (nI (2 ^ cO ω)) G) (fun G' => TR (x + 431) (2 ^ cO ω) G' (maT ω (cR ω)) ∧ QC τ x t G G') := by
  have ho := hI.1.o1
  have hr := hI.1.r1
  have h2 := two8 ho
  unfold f_X10_markMeetable
  rw [ka_bind]
  unfold l_X10_markMeetable_2
  refine gOk.mono (ka_loop (2 ^ cO ω) (fun c q => q.1 = nI c ∧ QC τ x t G q.2 ∧ TR (x + 431) c q.2 (fun S => S = 0)) (K := fun G' => QC τ x t G G' ∧ TR (x + 431) (2 ^ cO ω) G' (fun S => S = 0)) (by omega) ⟨rfl, QC.rf, fun S hS => by omega⟩ (fun c q hc hq => ?_)) (fun G1 h1 => ?_)
  · obtain ⟨x2, G1⟩ := q
    obtain ⟨b1', b2, b3⟩ := hq
    have e1 : x2 = nI c := b1'
    have q1 : QC τ x t G G1 := b2
    have t1 : TR (x + 431) c G1 (fun S => S = 0) := b3
    clear b1' b2 b3
    subst e1
    have hC1 := q1.cv hC hI
    obtain ⟨s1, s2, s3, s4, s5, s6⟩ := hC1.sum
    show gOk (b_X10_markMeetable_2 τ n x (nI (2 ^ cO ω)) (nI c) G1) _
    unfold b_X10_markMeetable_2 k_X10_markMeetable_21
    by_cases hlt : c < 2 ^ cO ω
    · have fin : ∀ v : Int32, (v = if c = 0 then 1 else 0) → gOk (gchk (gIn (nI c) (gn τ (x + 431))) (gLet (gse G1 (x + 431) (Int32.toNatClampNeg (nI c)) v) fun G2 => gLet (nI c + 1) fun v3 => some ((.inl (v3, G2) : (Int32 × gG) ⊕ gG)))) (gKK (fun s' => c < 2 ^ cO ω ∧ (s'.1 = nI (c + 1) ∧ QC τ x t G s'.2 ∧ TR (x + 431) (c + 1) s'.2 (fun S => S = 0))) (fun G' => QC τ x t G G' ∧ TR (x + 431) (2 ^ cO ω) G' (fun S => S = 0))) := fun v hv => by
        rw [ka_chkT (show gIn (nI c) (gn τ (x + 431)) by rw [s4]; exact ka_in (by omega) (by decide)), nI_clamp (by omega), ka_letE, ka_letE, nI_1]
        have f2 : Fr (fun b => b = x + 431) G1 (gse G1 (x + 431) c v) := Fr.e rfl
        refine ⟨_, rfl, hlt, rfl, q1.tr (QC.row (by omega) (by omega) hC1 f2), fun S hS => ?_⟩
        show (ge (gse G1 (x + 431) c v) (x + 431) S = 1 ∧ S = 0) ∨ (ge (gse G1 (x + 431) c v) (x + 431) S = 0 ∧ ¬ S = 0)
        rw [ka_ee]
        by_cases hSc : S = c
        · rw [if_pos ⟨rfl, hSc⟩, hv]
          by_cases hc0 : c = 0
          · rw [if_pos hc0]; exact Or.inl ⟨rfl, by omega⟩
          · rw [if_neg hc0]; exact Or.inr ⟨rfl, by omega⟩
        · rw [if_neg (fun h => hSc h.2)]
          exact t1 S (by omega)
      rw [if_neg (nI_ge hlt (by omega)), s2, ka_bs]
      by_cases hc0 : c = 0
      · rw [if_pos (show nI c = 0 by rw [hc0]; rfl)]
        exact fin 1 (by rw [if_pos hc0])
      · rw [if_neg (nI_ne0 (by omega) (by omega))]
        exact fin 0 (by rw [if_neg hc0])
    · have hcN : c = 2 ^ cO ω := by omega
      rw [if_pos (nI_le (by omega) (by omega))]
      exact ⟨_, rfl, q1, by rw [← hcN]; exact t1⟩
  · obtain ⟨q1, t1⟩ := h1
    rw [ka_letE]
    unfold k_X10_markMeetable_28
    rw [ka_bind]
    unfold l_X10_markMeetable_30
    refine gOk.mono (ka_loop (cR ω) (fun c q => q.1 = nI c ∧ QC τ x t G q.2 ∧ TR (x + 431) (2 ^ cO ω) q.2 (maT ω c)) (K := fun G' => TR (x + 431) (2 ^ cO ω) G' (maT ω (cR ω)) ∧ QC τ x t G G') (by omega) ⟨rfl, q1, t1⟩ (fun c q hc hq => ?_)) (fun G2 h2' => by rw [ka_letE]; exact ⟨_, rfl, h2'⟩)
    obtain ⟨x2, G2⟩ := q
    obtain ⟨b1', b2, b3⟩ := hq
    have e1 : x2 = nI c := b1'
    have q2 : QC τ x t G G2 := b2
    have t2 : TR (x + 431) (2 ^ cO ω) G2 (maT ω c) := b3
    clear b1' b2 b3
    subst e1
    have hC2 := q2.cv hC hI
    show gOk (b_X10_markMeetable_30 τ n x (nI (2 ^ cO ω)) (nI c) G2) _
    unfold b_X10_markMeetable_30
    rw [hC2.rf.2.2.2.2.2.2.2.2.2.2.1, ka_bs, hC2.vs.cn.2.1, hI.1.r0]
    by_cases hlt : c < cR ω
    · rw [if_neg (nI_ge hlt (by omega)), ka_bs, hC2.fs.1.rf.2.1, ka_bs, hC2.fs.1.r (i := c) (by omega), ka_bind2]
      refine gOk.mono (c_metBy2 hC2 hI hn hlt) fun p hp => ?_
      · obtain ⟨p1, p2⟩ := hp
        have hsl := hC2.sl
        have q3 := q2.tr (QC.scr hC2 p2)
        have hC3 := q3.cv hC hI
        have t3 : TR (x + 431) (2 ^ cO ω) p.2 (maT ω c) := fun S hS => by rw [(p2 (x + 431) (by omega)).2.2.1]; exact t2 S hS
        rw [show nI (2 ^ cO ω) - (1 : Int32) = nI (2 ^ cO ω - 1) from nI_sub (b := 1) h2.1, ka_letE, p1, ka_bind]
        refine gOk.mono (c_mark60 hC3 hI hn (M := mtS ω c) t3) fun G4 h4 => ?_
        rw [ka_letE, ka_letE, nI_1]
        exact ⟨_, rfl, hlt, rfl, q3.tr h4.2, h4.1⟩
    · have hcN : c = cR ω := by omega
      rw [if_pos (nI_le (by omega) (by omega))]
      exact ⟨_, rfl, by rw [← hcN]; exact t2, q2⟩
end
