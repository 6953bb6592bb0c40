/-! CALLS: most, the reference and both -/
section
variable {τ : gτ} {n : Nat} {G G' : gG} {x m s t l l' o : Nat} {ω : gW} {im : Option gW} {me : List gW} {ta : List Nat} {fa : Int32}
theorem gmax_x (z : Int32) : gmax z z = z := Int32.toInt_inj.mp (by rw [gmax_i]; omega)
theorem c_most (hC : CV τ G x s t l l' ω im me ta fa) (hI : IV ω im me ta) (hn : 500 < n) {b : Int32} : gOk (f_X10_most τ n x b G) (fun q => q.1 = moS ω b ∧ QC τ x t G q.2) := by
  have ho := hI.1.o1
  have h2 := two8 ho
  unfold f_X10_most
  rw [hC.rf.2.2.2.2.2.2.2.2.2.2.1, ka_bs, hC.vs.cn.2.2.1, hI.1.o0, shl_N ho, ka_letE, ka_bind]
  refine gOk.mono (c_mark hC hI hn) fun G3 h3 => ?_
  obtain ⟨t3, q3⟩ := h3
  have hC3 := q3.cv hC hI
  obtain ⟨s1, s2, s3, s4, s5, s6⟩ := hC3.sum
  generalize hT : maT ω (cR ω) = T at t3
  rw [ka_bind]
  unfold l_X10_most_23
  refine gOk.mono (ka_loop (2 ^ cO ω) (fun c q => q.1 = sN (upS (moP T) moK c) ∧ q.2.1 = payS ω (sN (upS (moP T) (cuK ω) c)) ∧ q.2.2 = nI c) (K := fun r => r.1 = sN (upS (moP T) moK (2 ^ cO ω)) ∧ r.2 = payS ω (sN (upS (moP T) (cuK ω) (2 ^ cO ω)))) (by omega) ⟨rfl, payS_0.symm, rfl⟩ (fun c q hc hq => ?_)) (fun r hr => ?_)
  · obtain ⟨x3, x4, x5⟩ := q
    obtain ⟨b1', b2, b3⟩ := hq
    have e1 : x3 = sN (upS (moP T) moK c) := b1'
    have e2 : x4 = payS ω (sN (upS (moP T) (cuK ω) c)) := b2
    have e3 : x5 = nI c := b3
    clear b1' b2 b3
    subst e3
    show gOk (b_X10_most_23 τ n x b (nI (2 ^ cO ω)) x3 x4 (nI c) G3) _
    unfold b_X10_most_23
    by_cases hlt : c < 2 ^ cO ω
    · have n1 : upS (moP T) moK (c + 1) = upF (moP T) moK c (upS (moP T) moK c) := rfl
      have n2 : upS (moP T) (cuK ω) (c + 1) = upF (moP T) (cuK ω) c (upS (moP T) (cuK ω) c) := rfl
      rw [if_neg (nI_ge hlt (by omega)), s2, ka_bs, ka_chkT (show gIn (nI c) (gn τ (x + 431)) by rw [s4]; exact ka_in (by omega) (by decide)), nI_clamp (by omega)]
      by_cases hone : ge G3 (x + 431) c = 1
      · have hTc := (t3.one hlt).mp hone
        rw [if_pos hone, hC3.rf.2.2.2.2.2.2.2.2.2.2.1, ka_bs, s_payOf hC3.fs.1 hC3.vs hI.1 (by omega), ka_bs, ka_letE, bcS_e, ka_bs, bcS_e, ka_bs, e1, e2]
        rcases Nat.eq_zero_or_pos c with hc0 | hc0
        · subst hc0
          rw [if_pos (show bcS (nI 0) ≤ bcS (sN (upS (moP T) moK 0)) from Int32.le_refl _), ka_letE, nI_1]
          refine ⟨_, rfl, hlt, ?_, ?_, rfl⟩
          · rw [n1, (mo_no (fun h => absurd h.2 (by decide))).1]
          · rw [n2, (mo_no (fun h => absurd h.2 (by decide))).1]
            exact gmax_x _
        · have hb := (mo_bc (s := upS (moP T) moK c) hTc hc0 (by omega)).1
          have hp := (mo_pay hI.1 (s := upS (moP T) (cuK ω) c) hTc hc0).1
          rw [hp]
          by_cases hle : bcS (nI c) ≤ bcS (sN (upS (moP T) moK c))
          · rw [if_pos hle] at hb
            rw [if_pos hle, ka_letE, nI_1]
            exact ⟨_, rfl, hlt, by rw [n1, hb], by rw [n2], rfl⟩
          · rw [if_neg hle] at hb
            rw [if_neg hle, ka_letE, nI_1]
            exact ⟨_, rfl, hlt, by rw [n1, hb], by rw [n2], rfl⟩
      · have hTc : ¬ T c := fun h => hone ((t3.one hlt).mpr h)
        rw [if_neg hone, ka_letE, nI_1]
        refine ⟨_, rfl, hlt, ?_, ?_, rfl⟩
        · rw [n1, (mo_no (fun h => hTc h.1)).1]; exact e1
        · rw [n2, (mo_no (fun h => hTc h.1)).1]; exact e2
    · have hcN : c = 2 ^ cO ω := by omega
      rw [if_pos (nI_le (by omega) (by omega))]
      rw [hcN] at e1 e2
      exact ⟨_, rfl, e1, e2⟩
  · obtain ⟨r1, r2⟩ := hr
    rw [ka_letE, ka_letE, r1, r2]
    unfold k_X10_most_77 moS
    rw [hT]
    by_cases hb : b = 0
    · rw [if_pos hb, if_pos hb]; exact ⟨_, rfl, rfl, q3⟩
    · rw [if_neg hb, if_neg hb]; exact ⟨_, rfl, rfl, q3⟩
theorem m_lay59 (hM : FM τ G m) (hω : ge G (m + 1) = ω) (hI : WI ω) (hn : 500 < n) {T TT : Nat → Prop} {D : Nat} {M u : Int32} (hD : D < 2 ^ cO ω) (hlo : ∀ S, S < D → (TT S ↔ T S)) (hT : TR (m + 9) (2 ^ cO ω) G TT) : gOk (l_X11_laysMet_59 τ n m u M (nI D) 0 G) (fun G' => TR (m + 9) (2 ^ cO ω) G' (fun S => TT S ∨ (S = D ∧ ∃ o, o < cO ω ∧ D.testBit o = true ∧ bb M o = true ∧ T (D ^^^ 2 ^ o))) ∧ Fr (fun b => b = m + 9) G G') := by
  have ho := hI.o1
  have h2 := two8 ho
  unfold l_X11_laysMet_59
  refine ka_loop (cO ω) (fun c q => q.1 = nI c ∧ Fr (fun b => b = m + 9) G q.2 ∧ TR (m + 9) (2 ^ cO ω) q.2 (fun S => TT S ∨ (S = D ∧ ∃ o, o < c ∧ D.testBit o = true ∧ bb M o = true ∧ T (D ^^^ 2 ^ o)))) (by omega) ⟨rfl, Fr.rf, hT.iff fun S _ => ⟨Or.inl, fun h => h.elim id (fun ⟨_, o, h, _⟩ => by omega)⟩⟩ (fun c q hc hq => ?_)
  obtain ⟨x4, G1⟩ := q
  obtain ⟨b1', b2, b3⟩ := hq
  have e1 : x4 = nI c := b1'
  have f1 : Fr (fun b => b = m + 9) G G1 := b2
  have t1 : TR (m + 9) (2 ^ cO ω) G1 (fun S => TT S ∨ (S = D ∧ ∃ o, o < c ∧ D.testBit o = true ∧ bb M o = true ∧ T (D ^^^ 2 ^ o))) := b3
  clear b1' b2 b3
  subst e1
  have hM1 : FM τ G1 m := f1.fm hM (by omega)
  have w1 : ge G1 (m + 1) = ω := (f1 (m + 1) (by omega)).2.2.1.trans hω
  show gOk (b_X11_laysMet_59 τ n m u M (nI D) (nI c) G1) _
  unfold b_X11_laysMet_59
  rw [hM1.cn.2.2, ka_bs, w1, hI.o0]
  by_cases hlt : c < cO ω
  · have hbit : bb (nI D &&& M) c = true ↔ D.testBit c = true ∧ bb M c = true := by
      rw [b_and, bb_nI (by omega), Bool.and_eq_true]
    have hsame : ¬ (D.testBit c = true ∧ bb M c = true ∧ T (D ^^^ 2 ^ c)) → TR (m + 9) (2 ^ cO ω) G1 (fun S => TT S ∨ (S = D ∧ ∃ o, o < c + 1 ∧ D.testBit o = true ∧ bb M o = true ∧ T (D ^^^ 2 ^ o))) := fun hno => t1.iff fun S _ => by
      constructor
      · rintro (h | ⟨h, o, h1, h2', h3, h4⟩)
        · exact Or.inl h
        · exact Or.inr ⟨h, o, by omega, h2', h3, h4⟩
      · rintro (h | ⟨h, o, h1, h2', h3, h4⟩)
        · exact Or.inl h
        · by_cases hoc : o = c
          · rw [hoc] at h2' h3 h4; exact absurd ⟨h2', h3, h4⟩ hno
          · exact Or.inr ⟨h, o, by omega, h2', h3, h4⟩
    rw [if_neg (nI_ge hlt (by omega)), m_has (by omega), ka_bs]
    by_cases hb : D.testBit c = true ∧ bb M c = true
    · obtain ⟨g1, g2⟩ := bit_less hb.1
      rw [if_pos (hbit.mpr hb), if_neg ka_n10, m_tg hM1, shl_N (show c ≤ 8 by omega), i_diff g2, m_tb hM1 (by omega), nI_clamp (by omega)]
      have hval : ge G1 (m + 9) (D ^^^ 2 ^ c) = 1 ↔ T (D ^^^ 2 ^ c) := by
        rw [t1.one (by omega)]
        constructor
        · rintro (h | ⟨h, -⟩)
          · exact (hlo _ g1).mp h
          · omega
        · exact fun h => Or.inl ((hlo _ g1).mpr h)
      by_cases hone : ge G1 (m + 9) (D ^^^ 2 ^ c) = 1
      · rw [if_pos hone, m_tg hM1, m_tb hM1 (by omega), nI_clamp (by omega), ka_letE, ka_letE, nI_1]
        refine ⟨_, rfl, hlt, rfl, f1.tr (Fr.e rfl), (t1.put (k := D)).iff fun S _ => ?_⟩
        constructor
        · rintro ((h | ⟨h, o, h1, h2', h3, h4⟩) | h)
          · exact Or.inl h
          · exact Or.inr ⟨h, o, by omega, h2', h3, h4⟩
          · exact Or.inr ⟨h, c, by omega, hb.1, hb.2, hval.mp hone⟩
        · rintro (h | ⟨h, -⟩)
          · exact Or.inl (Or.inl h)
          · exact Or.inr h
      · rw [if_neg hone, ka_letE, nI_1]
        exact ⟨_, rfl, hlt, rfl, f1, hsame fun h => hone (hval.mpr h.2.2)⟩
    · rw [if_neg (fun h => hb (hbit.mp h)), if_pos rfl, ka_letE, nI_1]
      exact ⟨_, rfl, hlt, rfl, f1, hsame fun h => hb ⟨h.1, h.2.1⟩⟩
  · have hcN : c = cO ω := by omega
    rw [if_pos (nI_le (by omega) (by omega))]
    exact ⟨_, rfl, by rw [hcN] at t1; exact t1, f1⟩
theorem m_lay52 (hM : FM τ G m) (hω : ge G (m + 1) = ω) (hI : WI ω) (hn : 500 < n) {T : Nat → Prop} {M u : Int32} (hT : TR (m + 9) (2 ^ cO ω) G T) : gOk (l_X11_laysMet_52 τ n m u M (nI (2 ^ cO ω - 1)) G) (fun G' => TR (m + 9) (2 ^ cO ω) G' (nxT M (cO ω) T) ∧ Fr (fun b => b = m + 9) G G') := by
  have ho := hI.o1
  have h2 := two8 ho
  unfold l_X11_laysMet_52
  refine ka_loop (2 ^ cO ω - 1) (fun c q => q.1 = nI (2 ^ cO ω - 1 - c) ∧ Fr (fun b => b = m + 9) G q.2 ∧ TR (m + 9) (2 ^ cO ω) q.2 (fun S => T S ∨ (2 ^ cO ω ≤ S + c ∧ ∃ o, o < cO ω ∧ S.testBit o = true ∧ bb M o = true ∧ T (S ^^^ 2 ^ o)))) (by omega) ⟨rfl, Fr.rf, hT.iff fun S hS => ⟨Or.inl, fun h => h.elim id (fun h => by omega)⟩⟩ (fun c q hc hq => ?_)
  obtain ⟨x3, G1⟩ := q
  obtain ⟨b1', b2, b3⟩ := hq
  have e1 : x3 = nI (2 ^ cO ω - 1 - c) := b1'
  have f1 : Fr (fun b => b = m + 9) G G1 := b2
  have t1 : TR (m + 9) (2 ^ cO ω) G1 (fun S => T S ∨ (2 ^ cO ω ≤ S + c ∧ ∃ o, o < cO ω ∧ S.testBit o = true ∧ bb M o = true ∧ T (S ^^^ 2 ^ o))) := b3
  clear b1' b2 b3
  subst e1
  have hM1 : FM τ G1 m := f1.fm hM (by omega)
  have w1 : ge G1 (m + 1) = ω := (f1 (m + 1) (by omega)).2.2.1.trans hω
  show gOk (b_X11_laysMet_52 τ n m u M (nI (2 ^ cO ω - 1 - c)) G1) _
  unfold b_X11_laysMet_52
  by_cases hlt : c < 2 ^ cO ω - 1
  · rw [if_neg (nI_nle (show 0 < 2 ^ cO ω - 1 - c by omega) (by omega)), ka_bind]
    refine gOk.mono (m_lay59 hM1 w1 hI hn (D := 2 ^ cO ω - 1 - c) (T := T) (by omega) (fun S hS => ⟨fun h => h.elim id (fun h => by omega), Or.inl⟩) t1) fun G2 h2' => ?_
    obtain ⟨t2, f2⟩ := h2'
    rw [ka_letE, ka_letE]
    refine ⟨_, rfl, hlt, ?_, f1.tr f2, t2.iff fun S hS => ?_⟩
    · show nI (2 ^ cO ω - 1 - c) + (-1) = nI (2 ^ cO ω - 1 - (c + 1))
      have e : 2 ^ cO ω - 1 - c = (2 ^ cO ω - 1 - (c + 1)) + 1 := by omega
      rw [e, pk_m1]
    · constructor
      · rintro ((h | ⟨h, h'⟩) | ⟨h, h'⟩)
        · exact Or.inl h
        · exact Or.inr ⟨by omega, h'⟩
        · refine Or.inr ⟨by omega, ?_⟩
          rw [h]
          exact h'
      · rintro (h | ⟨h, h'⟩)
        · exact Or.inl (Or.inl h)
        · by_cases hE : S = 2 ^ cO ω - 1 - c
          · refine Or.inr ⟨hE, ?_⟩
            rw [← hE]
            exact h'
          · exact Or.inl (Or.inr ⟨by omega, h'⟩)
  · have hcN : c = 2 ^ cO ω - 1 := by omega
    rw [if_pos (show nI (2 ^ cO ω - 1 - c) ≤ 0 by rw [show 2 ^ cO ω - 1 - c = 0 by omega]; decide)]
    refine ⟨_, rfl, t1.iff fun S hS => ?_, f1⟩
    constructor
    · rintro (h | ⟨-, h⟩)
      · exact Or.inl h
      · exact Or.inr h
    · rintro (h | ⟨o, h1, h2', h3⟩)
      · exact Or.inl h
      · refine Or.inr ⟨?_, o, h1, h2', h3⟩
        have : 1 ≤ S := by
          rcases Nat.eq_zero_or_pos S with h0 | h0
          · rw [h0, Nat.zero_testBit] at h2'; cases h2'
          · exact h0
        omega
theorem m_laysMet (hM : FM τ G m) (hω : ge G (m + 1) = ω) (hI : WI ω) (hLI : LI ω) (hn : 500 < n) : gOk (f_X11_laysMet τ n m G) (fun G' => TR (m + 9) (2 ^ cO ω) G' (maT ω (cR ω)) ∧ Fr (fun b => b = m + 9 ∨ b = m + 8) G G') := by
  have ho := hI.o1
  have hr := hI.r1
  have h2 := two8 ho
  unfold f_X11_laysMet
  rw [ka_bind]
  unfold l_X11_laysMet_2
  refine gOk.mono (ka_loop (2 ^ cO ω) (fun c q => q.1 = nI c ∧ Fr (fun b => b = m + 9) G q.2 ∧ TR (m + 9) c q.2 (fun S => S = 0)) (K := fun G' => Fr (fun b => b = m + 9) G G' ∧ TR (m + 9) (2 ^ cO ω) G' (fun S => S = 0)) (by omega) ⟨rfl, Fr.rf, fun S hS => by omega⟩ (fun c q hc hq => ?_)) (fun G1 h1 => ?_)
  · obtain ⟨x1, G1⟩ := q
    obtain ⟨b1', b2, b3⟩ := hq
    have e1 : x1 = nI c := b1'
    have f1 : Fr (fun b => b = m + 9) G G1 := b2
    have t1 : TR (m + 9) c G1 (fun S => S = 0) := b3
    clear b1' b2 b3
    subst e1
    have hM1 : FM τ G1 m := f1.fm hM (by omega)
    have w1 : ge G1 (m + 1) = ω := (f1 (m + 1) (by omega)).2.2.1.trans hω
    show gOk (b_X11_laysMet_2 τ n m (nI c) G1) _
    unfold b_X11_laysMet_2 k_X11_laysMet_24
    rw [m_all hM1 w1 hI, ka_bs]
    by_cases hlt : c < 2 ^ cO ω
    · have fin : ∀ v : Int32, (v = if c = 0 then 1 else 0) → gOk (gchk (gIn (nI c) (gn τ (m + 9))) (gLet (gse G1 (m + 9) (Int32.toNatClampNeg (nI c)) v) fun G3 => gLet (nI c + 1) fun v4 => some ((.inl (v4, G3) : (Int32 × gG) ⊕ gG)))) (gKK (fun s' => c < 2 ^ cO ω ∧ (s'.1 = nI (c + 1) ∧ Fr (fun b => b = m + 9) G s'.2 ∧ TR (m + 9) (c + 1) s'.2 (fun S => S = 0))) (fun G' => Fr (fun b => b = m + 9) G G' ∧ TR (m + 9) (2 ^ cO ω) G' (fun S => S = 0))) := fun v hv => by
        rw [m_tb hM1 (by omega), nI_clamp (by omega), ka_letE, ka_letE, nI_1]
        refine ⟨_, rfl, hlt, rfl, f1.tr (Fr.e rfl), fun S hS => ?_⟩
        show (ge (gse G1 (m + 9) c v) (m + 9) S = 1 ∧ S = 0) ∨ (ge (gse G1 (m + 9) c v) (m + 9) S = 0 ∧ ¬ S = 0)
        rw [ka_ee]
        by_cases hSc : S = c
        · rw [if_pos ⟨rfl, hSc⟩, hv]
          by_cases hc0 : c = 0
          · rw [if_pos hc0]; exact Or.inl ⟨rfl, by omega⟩
          · rw [if_neg hc0]; exact Or.inr ⟨rfl, by omega⟩
        · rw [if_neg (fun h => hSc h.2)]
          exact t1 S (by omega)
      rw [if_neg (nI_nlt (show c ≤ 2 ^ cO ω - 1 by omega) (by omega)), m_tg hM1]
      by_cases hc0 : c = 0
      · rw [if_pos (show nI c = 0 by rw [hc0]; rfl)]
        exact fin 1 (by rw [if_pos hc0])
      · rw [if_neg (nI_ne0 (by omega) (by omega))]
        exact fin 0 (by rw [if_neg hc0])
    · have hcN : c = 2 ^ cO ω := by omega
      rw [if_pos (nI_lt (show 2 ^ cO ω - 1 < c by omega) (by omega))]
      exact ⟨_, rfl, f1, by rw [← hcN]; exact t1⟩
  · obtain ⟨f1, t1⟩ := h1
    rw [ka_letE]
    unfold k_X11_laysMet_31
    rw [ka_bind]
    unfold l_X11_laysMet_33
    refine gOk.mono (ka_loop (cR ω) (fun c q => q.1 = nI c ∧ Fr (fun b => b = m + 9 ∨ b = m + 8) G q.2 ∧ TR (m + 9) (2 ^ cO ω) q.2 (maT ω c)) (K := fun G' => TR (m + 9) (2 ^ cO ω) G' (maT ω (cR ω)) ∧ Fr (fun b => b = m + 9 ∨ b = m + 8) G G') (by omega) ⟨rfl, f1.mono fun b hb => Or.inl hb, t1⟩ (fun c q hc hq => ?_)) (fun G2 h2' => by rw [ka_letE]; exact ⟨_, rfl, h2'⟩)
    obtain ⟨x1, G2⟩ := q
    obtain ⟨b1', b2, b3⟩ := hq
    have e1 : x1 = nI c := b1'
    have f2 : Fr (fun b => b = m + 9 ∨ b = m + 8) G G2 := b2
    have t2 : TR (m + 9) (2 ^ cO ω) G2 (maT ω c) := b3
    clear b1' b2 b3
    subst e1
    have hM2 : FM τ G2 m := f2.fm hM (by omega)
    have w2 : ge G2 (m + 1) = ω := (f2 (m + 1) (by omega)).2.2.1.trans hω
    show gOk (b_X11_laysMet_33 τ n m (nI c) G2) _
    unfold b_X11_laysMet_33
    rw [hM2.cn.2.1, ka_bs, w2, hI.r0]
    by_cases hlt : c < cR ω
    · rw [if_neg (nI_ge hlt (by omega)), ka_bind2]
      refine gOk.mono (m_metBy hM2 w2 hI hLI hn hlt) fun p hp => ?_
      obtain ⟨p1, p2⟩ := hp
      have hM3 : FM τ p.2 m := p2.fm hM2 (by omega)
      have w3 : ge p.2 (m + 1) = ω := (p2 (m + 1) (by omega)).2.2.1.trans w2
      have t3 : TR (m + 9) (2 ^ cO ω) p.2 (maT ω c) := fun S hS => by rw [(p2 (m + 9) (by omega)).2.2.1]; exact t2 S hS
      rw [m_all hM3 w3 hI, ka_bs, p1, ka_bind]
      refine gOk.mono (m_lay52 hM3 w3 hI hn (M := mtS ω c) t3) fun G4 h4 => ?_
      rw [ka_letE, ka_letE, nI_1]
      exact ⟨_, rfl, hlt, rfl, (f2.tr (p2.mono fun b hb => Or.inr hb)).tr (h4.2.mono fun b hb => Or.inl hb), h4.1⟩
    · have hcN : c = cR ω := by omega
      rw [if_pos (nI_le (by omega) (by omega))]
      exact ⟨_, rfl, by rw [← hcN]; exact t2, f2⟩
theorem m_most (hM : FM τ G m) (hω : ge G (m + 1) = ω) (hI : WI ω) (hLI : LI ω) (hn : 500 < n) {b : Int32} : gOk (f_X11_most τ n m b G) (fun p => p.1 = moS ω b ∧ QM m G p.2) := by
  have ho := hI.o1
  have h2 := two8 ho
  have hM0 : FM τ (gsi G 11 0 m 0) m := QM.th.fm hM
  have w0 : ge (gsi G 11 0 m 0) (m + 1) = ω := hω
  unfold f_X11_most
  rw [ka_letE, ka_bind]
  refine gOk.mono (m_laysMet hM0 w0 hI hLI hn) fun G3 h3 => ?_
  obtain ⟨t3, f3⟩ := h3
  have hM3 : FM τ G3 m := f3.fm hM0 (by omega)
  have w3 : ge G3 (m + 1) = ω := (f3 (m + 1) (by omega)).2.2.1.trans w0
  have q3 : QM m G G3 := QM.th.tr ⟨f3.mono fun b hb => by omega, fun c k _ => (f3 m (by omega)).1 c k, (f3 m (by omega)).2.1, by rw [w3, w0]; exact WE.rf⟩
  generalize hT : maT ω (cR ω) = T at t3
  rw [m_all hM3 w3 hI, ka_bs, ka_bind]
  unfold l_X11_most_19
  refine gOk.mono (ka_loop (2 ^ cO ω - 1) (fun c q => q.1 = sN (dnS (moP T) moK (2 ^ cO ω) c) ∧ q.2.1 = payS ω (sN (dnS (moP T) (cuK ω) (2 ^ cO ω) c)) ∧ q.2.2 = nI (2 ^ cO ω - 1 - c)) (K := fun r => r.1 = sN (upS (moP T) moK (2 ^ cO ω)) ∧ r.2 = payS ω (sN (upS (moP T) (cuK ω) (2 ^ cO ω)))) (by omega) ⟨rfl, payS_0.symm, rfl⟩ (fun c q hc hq => ?_)) (fun r hr => ?_)
  · obtain ⟨x2, x3, x4⟩ := q
    obtain ⟨b1', b2, b3⟩ := hq
    have e1 : x2 = sN (dnS (moP T) moK (2 ^ cO ω) c) := b1'
    have e2 : x3 = payS ω (sN (dnS (moP T) (cuK ω) (2 ^ cO ω) c)) := b2
    have e3 : x4 = nI (2 ^ cO ω - 1 - c) := b3
    clear b1' b2 b3
    show gOk (b_X11_most_19 τ n m b x2 x3 x4 G3) _
    unfold b_X11_most_19
    by_cases hlt : c < 2 ^ cO ω - 1
    · have hSd : ∃ S, S = 2 ^ cO ω - 1 - c := ⟨_, rfl⟩
      obtain ⟨S, hS⟩ := hSd
      rw [← hS] at e3
      have hS1 : nI S + (-1 : Int32) = nI (2 ^ cO ω - 1 - (c + 1)) := by
        rw [show S = (2 ^ cO ω - 1 - (c + 1)) + 1 by omega, pk_m1]
      have n1 : dnS (moP T) moK (2 ^ cO ω) (c + 1) = dnF (moP T) moK S (dnS (moP T) moK (2 ^ cO ω) c) := by rw [hS]; rfl
      have n2 : dnS (moP T) (cuK ω) (2 ^ cO ω) (c + 1) = dnF (moP T) (cuK ω) S (dnS (moP T) (cuK ω) (2 ^ cO ω) c) := by rw [hS]; rfl
      subst e3
      rw [if_neg (nI_nle (show 0 < S by omega) (by omega)), m_tg hM3, m_tb hM3 (by omega), nI_clamp (by omega)]
      rcases t3 S (by omega) with ⟨hv, hTS⟩ | ⟨hv, hTS⟩
      · have hb := (mo_bc (s := dnS (moP T) moK (2 ^ cO ω) c) hTS (by omega) (by omega)).2
        have hp := (mo_pay hI (s := dnS (moP T) (cuK ω) (2 ^ cO ω) c) hTS (by omega)).2
        rw [hv, if_neg ka_n10, bcS_e, ka_bs, bcS_e, ka_bs, e1]
        unfold k_X11_most_55
        by_cases hle : bcS (nI S) < bcS (sN (dnS (moP T) moK (2 ^ cO ω) c))
        · rw [if_pos hle] at hb
          rw [if_pos hle, m_payOf hM3 w3 hI (by omega), ka_bs, ka_letE, ka_letE, e2, hp]
          exact ⟨_, rfl, hlt, by rw [n1, hb], by rw [n2], hS1⟩
        · rw [if_neg hle] at hb
          rw [if_neg hle, m_payOf hM3 w3 hI (by omega), ka_bs, ka_letE, ka_letE, e2, hp]
          exact ⟨_, rfl, hlt, by rw [n1, hb], by rw [n2], hS1⟩
      · rw [hv, if_pos rfl, ka_letE]
        refine ⟨_, rfl, hlt, ?_, ?_, hS1⟩
        · rw [n1, (mo_no (fun h => hTS h.1)).2]; exact e1
        · rw [n2, (mo_no (fun h => hTS h.1)).2]; exact e2
    · have hcN : c = 2 ^ cO ω - 1 := by omega
      rw [e3, if_pos (show nI (2 ^ cO ω - 1 - c) ≤ 0 by rw [show 2 ^ cO ω - 1 - c = 0 by omega]; decide)]
      have hP0 : moP T 0 = false := moP_f fun h => absurd h.2 (by decide)
      obtain ⟨Q, hQ⟩ : ∃ Q, 2 ^ cO ω = Q + 1 := ⟨2 ^ cO ω - 1, by omega⟩
      refine ⟨_, rfl, ?_, ?_⟩
      · show x2 = _
        rw [e1, up_dn, hcN, hQ, Nat.add_sub_cancel, dn_0 hP0]
      · show x3 = _
        rw [e2, up_dn, hcN, hQ, Nat.add_sub_cancel, dn_0 hP0]
  · obtain ⟨r1, r2⟩ := hr
    rw [ka_letE, ka_letE, r1, r2]
    unfold k_X11_most_73 moS
    rw [hT]
    by_cases hb : b = 0
    · rw [if_pos hb, if_pos hb]; exact ⟨_, rfl, rfl, q3⟩
    · rw [if_neg hb, if_neg hb]; exact ⟨_, rfl, rfl, q3⟩
theorem op_most (hm : m = x + 512) (hn : 500 < n) (hC : CV τ G x s t l l' ω im me ta fa) (hM : MV τ G m ω im me ta fa) (hI : IV ω im me ta) (b : Int32) : gOk (f_X10_most τ n x b G) (fun q => gOk (f_X11_most τ n m b q.2) (fun p => q.1 = p.1 ∧ ST τ x m p.2)) :=
  join_p (fm := f_X11_most τ n m b) (ans := moS ω b) hm hC hM hI (c_most hC hI hn) (fun G1 hM1 => m_most hM1.1 hM1.2.1 hI.1 hI.2.1 hn)
end
