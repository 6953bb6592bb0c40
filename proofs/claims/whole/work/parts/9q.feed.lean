/-! CALLS: feed -/
section
def shN (c : Nat) : Nat := 24 - 8 * c
def byN (v : Int32) (c : Nat) : Nat := v.toBitVec.toNat / 2 ^ shN c % 2 ^ 8
theorem byN_lt {v : Int32} {c : Nat} : byN v c < 256 := Nat.mod_lt _ (by decide)
def by4 (v : Int32) : List Nat := [byN v 0, byN v 1, byN v 2, byN v 3]
def fv5 (a b c d e : Int32) : Nat → Int32
  | 0 => a
  | 1 => b
  | 2 => c
  | 3 => d
  | _ => e
def by20 (f : Nat → Int32) : List Nat := (List.range 20).map fun k => byN (f (k / 4)) (k % 4)
theorem by20_e (a b c d e : Int32) : by4 a ++ (by4 b ++ (by4 c ++ (by4 d ++ by4 e))) = by20 (fv5 a b c d e) := rfl
theorem by20_get {f : Nat → Int32} {k z : Nat} (h : (by20 f)[k]? = some z) : k < 20 ∧ z = byN (f (k / 4)) (k % 4) := by
  unfold by20 at h
  rw [List.getElem?_map] at h
  by_cases hk : k < 20
  · rw [List.getElem?_range hk] at h
    cases h
    exact ⟨hk, rfl⟩
  · rw [List.getElem?_eq_none (by rw [List.length_range]; omega)] at h
    cases h
def shI : Nat → Int32
  | 0 => 24
  | 1 => 16
  | 2 => 8
  | 3 => 0
  | _ => -8
theorem shF : ∀ c : Fin 4, shI c.1 + (-8) = shI (c.1 + 1) ∧ ¬ shI c.1 < 0 ∧ (((shI c.1).toUInt32 &&& Int32.toUInt32 31).toBitVec % 32).toNat = shN c.1 := by decide +kernel
theorem by_c (v : Int32) {c : Nat} (hc : c < 4) : ((v.toUInt32 >>> ((shI c).toUInt32 &&& Int32.toUInt32 31)).toInt32) &&& 255 = nI (byN v c) := by
  rw [pk_and _ (m := 255) 8 (by decide +kernel), pk_ushr v (shI c) (shN c) (shF ⟨c, hc⟩).2.2]
  rfl
theorem by_m (v : Int32) {c : Nat} (hc : c < 4) : (v >>> (nI (shN c) &&& 31)).toInt8 = (nI (byN v c)).toInt8 := by
  refine Int8.toBitVec_inj.mp ?_
  rw [Int32.toBitVec_toInt8, Int32.toBitVec_toInt8]
  refine BitVec.eq_of_getLsbD_eq fun i hi => ?_
  have es : ∀ y : BitVec 32, (y.signExtend 8).getLsbD i = y.getLsbD i := fun y => by rw [BitVec.getLsbD_signExtend, decide_eq_true hi, Bool.true_and, if_pos (by omega)]
  rw [es, es]
  have hs : shN c ≤ 24 := by unfold shN; omega
  have e1 : (v >>> (nI (shN c) &&& 31)).toBitVec.getLsbD i = v.toBitVec.getLsbD (shN c + i) := by
    have := b_sshr (shN c) (by omega) v (i := i) (by omega)
    rw [if_pos (by omega)] at this
    exact this
  have e2 : (nI (byN v c)).toBitVec.getLsbD i = v.toBitVec.getLsbD (shN c + i) := by
    have := bb_nI (a := byN v c) (i := i) (by omega)
    rw [show (nI (byN v c)).toBitVec.getLsbD i = bb (nI (byN v c)) i from rfl, this]
    unfold byN
    rw [Nat.testBit_mod_two_pow, Nat.testBit_div_two_pow, BitVec.testBit_toNat, decide_eq_true hi, Bool.true_and, Nat.add_comm]
  rw [e1, e2]
end
section
variable {τ : gτ} {n : Nat} {G G' : gG} {x m s t l l' o : Nat} {ω w : gW} {im : Option gW} {me : List gW} {ta ta' : List Nat} {fa fa' : Int32}
theorem app_get {L M : List Nat} {j z : Nat} (h : (L ++ M)[j]? = some z) : (j < L.length ∧ L[j]? = some z) ∨ (L.length ≤ j ∧ M[j - L.length]? = some z) := by
  rw [List.getElem?_append] at h
  by_cases hj : j < L.length
  · rw [if_pos hj] at h; exact Or.inl ⟨hj, h⟩
  · rw [if_neg hj] at h; exact Or.inr ⟨by omega, h⟩
theorem IV.tape {M : List Nat} (hI : IV ω im me ta) (hl : ta.length + M.length ≤ 400) (hM : ∀ b, b ∈ M → b < 256) : IV ω im me (ta ++ M) := by
  obtain ⟨a, b, c, d, e, f⟩ := hI
  refine ⟨a, b, c, d, by rw [List.length_append]; exact hl, fun z hz => ?_⟩
  rcases List.mem_append.mp hz with h | h
  · exact f z h
  · exact hM z h
theorem by4_get {v : Int32} {k z : Nat} (h : (by4 v)[k]? = some z) : k < 4 ∧ z = byN v k := by
  match k, h with
  | 0, h => cases h; exact ⟨by decide, rfl⟩
  | 1, h => cases h; exact ⟨by decide, rfl⟩
  | 2, h => cases h; exact ⟨by decide, rfl⟩
  | 3, h => cases h; exact ⟨by decide, rfl⟩
  | k + 4, h => cases h
theorem c_append (hC : CV τ G x s t l l' ω im me ta fa) (hI : IV ω im me ta) (hn : 20 < n) {v : Int32} (hl : ta.length + 4 ≤ 400) : gOk (f_X7_append τ n (x + 1) v G) (fun G' => CV τ G' x s t l l' ω im me (ta ++ by4 v) fa ∧ Fr (fun b => b = x + 1 ∨ b = x + 2) G G') := by
  have h71 := hC.2.2.2.2.2.1.1
  have h72 := hC.2.2.2.2.2.2
  have hb2 := hC.2.2.2.2.2.1.2
  have hgr : gr G 7 0 (x + 1) = some (x + 2) := hC.1.2.1.1
  have hgn : gn τ (x + 2) = 400 := hC.1.2.2.1.1
  unfold f_X7_append
  rw [ka_bind]
  unfold l_X7_append_3
  refine gOk.mono (ka_loop 4 (fun c q => q.1 = shI c ∧ gi q.2 7 1 (x + 1) = nI (ta.length + c) ∧ gi q.2 7 2 (x + 1) = fa ∧ (∀ j, ge q.2 (x + 2) j = if ta.length ≤ j ∧ j < ta.length + c then nI (byN v (j - ta.length)) else ge G (x + 2) j) ∧ Fr (fun b => b = x + 1 ∨ b = x + 2) G q.2 ∧ ∀ c k d, gr q.2 c k d = gr G c k d) (K := fun G' => gi G' 7 1 (x + 1) = nI (ta.length + 4) ∧ gi G' 7 2 (x + 1) = fa ∧ (∀ j, ge G' (x + 2) j = if ta.length ≤ j ∧ j < ta.length + 4 then nI (byN v (j - ta.length)) else ge G (x + 2) j) ∧ Fr (fun b => b = x + 1 ∨ b = x + 2) G G' ∧ ∀ c k d, gr G' c k d = gr G c k d) (by omega) ⟨rfl, h71, h72, fun j => by rw [if_neg (by omega)], Fr.rf, fun _ _ _ => rfl⟩ (fun c q hc hq => ?_)) (fun G1 h1 => ?_)
  · obtain ⟨x2, G1⟩ := q
    obtain ⟨b1', b2, b3, b4, b5, b6⟩ := hq
    have e1 : x2 = shI c := b1'
    have e2 : gi G1 7 1 (x + 1) = nI (ta.length + c) := b2
    have e3 : gi G1 7 2 (x + 1) = fa := b3
    have e4 : ∀ j, ge G1 (x + 2) j = if ta.length ≤ j ∧ j < ta.length + c then nI (byN v (j - ta.length)) else ge G (x + 2) j := b4
    have e5 : Fr (fun b => b = x + 1 ∨ b = x + 2) G G1 := b5
    have e6 : ∀ c k d, gr G1 c k d = gr G c k d := b6
    clear b1' b2 b3 b4 b5 b6
    subst e1
    show gOk (b_X7_append_3 τ n (x + 1) v (shI c) G1) _
    unfold b_X7_append_3
    by_cases hlt : c < 4
    · obtain ⟨k1, k2, -⟩ := shF ⟨c, hlt⟩
      have k1 : shI c + (-8) = shI (c + 1) := k1
      have k2 : ¬ shI c < 0 := k2
      rw [if_neg k2, e2, if_neg (show ¬ (400 : Int32) ≤ nI (ta.length + c) from nI_ge (b := 400) (by omega) (by decide)), e6, hgr, ka_bs, ka_chkT (show gIn (nI (ta.length + c)) (gn τ (x + 2)) by rw [hgn]; exact ka_in (by omega) (by decide)), nI_clamp (by omega), by_c v hlt, ka_letE, ka_ie, e2, nI_1, ka_letE, ka_letE, k1]
      refine ⟨_, rfl, hlt, rfl, ?_, ?_, fun j => ?_, (e5.tr (Fr.e (A := fun b => b = x + 1 ∨ b = x + 2) (Or.inr rfl))).tr (Fr.i (A := fun b => b = x + 1 ∨ b = x + 2) (Or.inl rfl)), e6⟩
      · show gi (gsi _ 7 1 (x + 1) _) 7 1 (x + 1) = _
        rw [ka_ii, if_pos ⟨rfl, rfl, rfl⟩]
        rfl
      · show gi (gsi _ 7 1 (x + 1) _) 7 2 (x + 1) = _
        rw [ka_ii, if_neg (fun h => absurd h.2.1 (by decide)), ka_ie]
        exact e3
      · show ge (gsi (gse G1 (x + 2) (ta.length + c) (nI (byN v c))) 7 1 (x + 1) _) (x + 2) j = _
        rw [ka_ei, ka_ee, e4 j]
        by_cases hj : j = ta.length + c
        · rw [if_pos ⟨rfl, hj⟩, if_pos (by omega), hj, Nat.add_sub_cancel_left]
        · rw [if_neg (fun h => hj h.2)]
          by_cases h2 : ta.length ≤ j ∧ j < ta.length + c
          · rw [if_pos h2, if_pos (by omega)]
          · rw [if_neg h2, if_neg (by omega)]
    · have hc4 : c = 4 := by omega
      subst hc4
      rw [if_pos (show shI 4 < 0 by decide)]
      exact ⟨_, rfl, e2, e3, e4, e5, e6⟩
  · obtain ⟨e2, e3, e4, e5, e6⟩ := h1
    rw [ka_letE]
    refine ⟨_, rfl, hC.tape hI e5 e6 ⟨by rw [List.length_append]; exact e2, fun j z hj => ?_⟩ e3, e5⟩
    rw [e4 j]
    rcases app_get hj with ⟨h1, h2⟩ | ⟨h1, h2⟩
    · rw [if_neg (by omega)]
      exact hb2 j z h2
    · obtain ⟨h3, h4⟩ := by4_get h2
      rw [if_pos (by omega), h4]
theorem by4_b {v : Int32} : ∀ b, b ∈ by4 v → b < 256 := fun b hb => by
  unfold by4 at hb
  simp only [List.mem_cons, List.not_mem_nil, or_false] at hb
  rcases hb with h | h | h | h <;> rw [h] <;> exact byN_lt
theorem c_feed (hC : CV τ G x s t l l' ω im me ta fa) (hI : IV ω im me ta) (hn : 20 < n) {a b c d e : Int32} (hl : ta.length + 20 ≤ 400) : gOk (f_X10_feed τ n x a b c d e G) (fun q => q.1 = nI (ta.length + 20) ∧ CV τ q.2 x s t l l' ω im me (ta ++ by20 (fv5 a b c d e)) fa ∧ Fr (fun b => b = x + 1 ∨ b = x + 2) G q.2) := by
  have l4 : ∀ v, (by4 v).length = 4 := fun _ => rfl
  unfold f_X10_feed
  rw [hC.rf.1, ka_bs, hC.2.2.2.2.2.1.1, show nI ta.length + (20 : Int32) = nI (ta.length + 20) from ka_ix rfl, if_pos (show nI (ta.length + 20) ≤ (400 : Int32) from nI_le (b := 400) hl (by decide)), ka_bs, ka_bind]
  refine gOk.mono (c_append hC hI hn (v := a) (by omega)) fun G1 h1 => ?_
  obtain ⟨hC1, f1⟩ := h1
  have hI1 := hI.tape (M := by4 a) (by rw [l4]; omega) by4_b
  rw [hC1.rf.1, ka_bs, ka_bind]
  refine gOk.mono (c_append hC1 hI1 hn (v := b) (by rw [List.length_append, l4]; omega)) fun G2 h2 => ?_
  obtain ⟨hC2, f2⟩ := h2
  have hI2 := hI1.tape (M := by4 b) (by rw [List.length_append, l4, l4]; omega) by4_b
  rw [hC2.rf.1, ka_bs, ka_bind]
  refine gOk.mono (c_append hC2 hI2 hn (v := c) (by rw [List.length_append, List.length_append, l4, l4]; omega)) fun G3 h3 => ?_
  obtain ⟨hC3, f3⟩ := h3
  have hI3 := hI2.tape (M := by4 c) (by rw [List.length_append, List.length_append, l4, l4, l4]; omega) by4_b
  rw [hC3.rf.1, ka_bs, ka_bind]
  refine gOk.mono (c_append hC3 hI3 hn (v := d) (by rw [List.length_append, List.length_append, List.length_append, l4, l4, l4]; omega)) fun G4 h4 => ?_
  obtain ⟨hC4, f4⟩ := h4
  have hI4 := hI3.tape (M := by4 d) (by rw [List.length_append, List.length_append, List.length_append, l4, l4, l4, l4]; omega) by4_b
  rw [hC4.rf.1, ka_bs, ka_bind]
  refine gOk.mono (c_append hC4 hI4 hn (v := e) (by rw [List.length_append, List.length_append, List.length_append, List.length_append, l4, l4, l4, l4]; omega)) fun G5 h5 => ?_
  obtain ⟨hC5, f5⟩ := h5
  have eL : (((ta ++ by4 a) ++ by4 b) ++ by4 c) ++ by4 d ++ by4 e = ta ++ by20 (fv5 a b c d e) := by
    rw [← by20_e, List.append_assoc, List.append_assoc, List.append_assoc, List.append_assoc]
  rw [eL] at hC5
  have e71 := hC5.2.2.2.2.2.1.1
  rw [hC5.rf.1, ka_bs, e71]
  refine ⟨_, rfl, ?_, hC5, (((f1.tr f2).tr f3).tr f4).tr f5⟩
  show nI (ta ++ by20 (fv5 a b c d e)).length = _
  rw [List.length_append]
  rfl
theorem m_feed (hM : MV τ G m ω im me ta fa) (hI : IV ω im me ta) (hn : 500 < n) {a b c d e : Int32} (hl : ta.length + 20 ≤ 400) : gOk (f_X11_feed τ n m a b c d e G) (fun p => p.1 = nI (ta.length + 20) ∧ MV τ p.2 m ω im me (ta ++ by20 (fv5 a b c d e)) fa ∧ Fr (fun b => m ≤ b ∧ b ≤ m + 10) G p.2) := by
  have hM2 := hM.th0 (v := 0)
  have fth : Fr (fun b => m ≤ b ∧ b ≤ m + 10) G (gsi G 11 0 m 0) := Fr.i ⟨Nat.le_refl _, by omega⟩
  unfold f_X11_feed
  rw [ka_letE]
  generalize gsi G 11 0 m 0 = G1 at hM2 fth
  obtain ⟨hF, hω, ⟨i1, i2⟩, ⟨m1, m2⟩, ⟨t1, t2⟩, t3⟩ := hM2
  have hgr : gr G1 11 15 m = some (m + 7) := hF.rf.2.2.2.2.2.2.1
  have hgn : gn τ (m + 7) = 5 := hF.2.2.2.2.2.2.2.1
  have hgr6 : gr G1 11 8 m = some (m + 6) := hF.rf.2.2.2.2.2.1
  have hgn6 : gn τ (m + 6) = 400 := hF.2.2.2.2.2.2.1
  have c5 : ∀ {j : Int32} {k : Nat}, j = nI k → k < 5 → ∀ {ρ : Type} {e : Option ρ}, gchk (gIn j (gn τ (m + 7))) e = e := fun {j k} hj hk {ρ e} => ka_chkT (by rw [hj, hgn]; exact ka_in hk (by decide))
  rw [t1, show nI ta.length + (20 : Int32) = nI (ta.length + 20) from ka_ix rfl, if_pos (show nI (ta.length + 20) ≤ (400 : Int32) from nI_le (b := 400) hl (by decide))]
  simp only [hgr, ka_re, ka_bs, c5 (j := 0) (k := 0) rfl (by decide), c5 (j := 1) (k := 1) rfl (by decide), c5 (j := 2) (k := 2) rfl (by decide), c5 (j := 3) (k := 3) rfl (by decide), c5 (j := 4) (k := 4) rfl (by decide), ka_letE]
  have hF5 : ∃ G5, G5 = gse (gse (gse (gse (gse G1 (m + 7) (Int32.toNatClampNeg 0) a) (m + 7) (Int32.toNatClampNeg 1) b) (m + 7) (Int32.toNatClampNeg 2) c) (m + 7) (Int32.toNatClampNeg 3) d) (m + 7) (Int32.toNatClampNeg 4) e := ⟨_, rfl⟩
  obtain ⟨G5, hG5⟩ := hF5
  rw [← hG5]
  have g5 : ∀ k, k < 5 → ge G5 (m + 7) k = fv5 a b c d e k := fun k hk => by
    rw [hG5, show Int32.toNatClampNeg 0 = 0 from rfl, show Int32.toNatClampNeg 1 = 1 from rfl, show Int32.toNatClampNeg 2 = 2 from rfl, show Int32.toNatClampNeg 3 = 3 from rfl, show Int32.toNatClampNeg 4 = 4 from rfl]
    match k, hk with
    | 0, _ => simp [ka_ee, fv5]
    | 1, _ => simp [ka_ee, fv5]
    | 2, _ => simp [ka_ee, fv5]
    | 3, _ => simp [ka_ee, fv5]
    | 4, _ => simp [ka_ee, fv5]
  have f5 : Fr (fun b => b = m + 7) G1 G5 := by
    rw [hG5]
    have fe : ∀ {G : gG} {i : Nat} {v : Int32}, Fr (fun b => b = m + 7) G (gse G (m + 7) i v) := fun {G i v} => Fr.e (A := fun b => b = m + 7) rfl
    exact (((fe.tr fe).tr fe).tr fe).tr fe
  rw [ka_bind]
  unfold l_X11_feed_60
  refine gOk.mono (ka_loop 20 (fun k q => q.1 = nI k ∧ (∀ j, ge q.2 (m + 6) j = if ta.length ≤ j ∧ j < ta.length + k then (nI (byN (fv5 a b c d e ((j - ta.length) / 4)) ((j - ta.length) % 4))).toInt8.toInt32 else ge G5 (m + 6) j) ∧ Fr (fun b => b = m + 6) G5 q.2) (K := fun G' => (∀ j, ge G' (m + 6) j = if ta.length ≤ j ∧ j < ta.length + 20 then (nI (byN (fv5 a b c d e ((j - ta.length) / 4)) ((j - ta.length) % 4))).toInt8.toInt32 else ge G5 (m + 6) j) ∧ Fr (fun b => b = m + 6) G5 G') (by omega) ⟨rfl, fun j => by rw [if_neg (by omega)], Fr.rf⟩ (fun k q hk hq => ?_)) (fun G6 h6 => ?_)
  · obtain ⟨x6, G6⟩ := q
    obtain ⟨b1', b2, b3⟩ := hq
    have e1 : x6 = nI k := b1'
    have e2 : ∀ j, ge G6 (m + 6) j = if ta.length ≤ j ∧ j < ta.length + k then (nI (byN (fv5 a b c d e ((j - ta.length) / 4)) ((j - ta.length) % 4))).toInt8.toInt32 else ge G5 (m + 6) j := b2
    have e3 : Fr (fun b => b = m + 6) G5 G6 := b3
    clear b1' b2 b3
    subst e1
    show gOk (b_X11_feed_60 τ n m (nI k) G6) _
    unfold b_X11_feed_60
    by_cases hlt : k < 20
    · have hm6 := (f5 m (by omega)).tr (e3 m (by omega))
      have r8 : gr G6 11 8 m = some (m + 6) := by rw [hm6.2.1]; exact hgr6
      have r15 : gr G6 11 15 m = some (m + 7) := by rw [hm6.2.1]; exact hgr
      have i9 : gi G6 11 9 m = nI ta.length := by rw [hm6.1]; exact t1
      have v7 : ge G6 (m + 7) (k / 4) = fv5 a b c d e (k / 4) := by rw [(e3 (m + 7) (by omega)).2.2.1]; exact g5 _ (by omega)
      have sh : (24 : Int32) - 8 * (nI k - nI k / 4 * 4) = nI (shN (k % 4)) := by
        rw [show nI k - nI k / (4 : Int32) * 4 = nI (k % 4) from pk_rem (d := 4) (by omega) (by decide) (by decide), show (8 : Int32) * nI (k % 4) = nI (8 * (k % 4)) from pk_mul 8 _]
        exact nI_sub (a := 24) (by omega)
      rw [if_neg (show ¬ (20 : Int32) ≤ nI k from nI_ge (b := 20) hlt (by decide)), r8, ka_bs, r15, ka_bs, sh, show nI k / (4 : Int32) = nI (k / 4) from pk_div (d := 4) (by omega) (by decide) (by decide), c5 rfl (show k / 4 < 5 by omega), i9, nI_add, ka_chkT (show gIn (nI (ta.length + k)) (gn τ (m + 6)) by rw [hgn6]; exact ka_in (by omega) (by decide)), vp_nar_byte, by_m _ (show k % 4 < 4 by omega), nI_clamp (show k / 4 < 2 ^ 31 by omega), nI_clamp (show ta.length + k < 2 ^ 31 by omega), v7, ka_letE, ka_letE, nI_1]
      refine ⟨_, rfl, hlt, rfl, fun j => ?_, e3.tr (Fr.e rfl)⟩
      show ge (gse G6 (m + 6) (ta.length + k) _) (m + 6) j = _
      rw [ka_ee, e2 j]
      by_cases hj : j = ta.length + k
      · rw [if_pos ⟨rfl, hj⟩, if_pos (by omega), hj, Nat.add_sub_cancel_left]
        simp
      · rw [if_neg (fun h => hj h.2)]
        by_cases h2 : ta.length ≤ j ∧ j < ta.length + k
        · rw [if_pos h2, if_pos (by omega)]
        · rw [if_neg h2, if_neg (by omega)]
    · have hk20 : k = 20 := by omega
      subst hk20
      rw [if_pos (show (20 : Int32) ≤ nI 20 from nI_le (Nat.le_refl 20) (by decide))]
      exact ⟨_, rfl, e2, e3⟩
  · obtain ⟨e6, f6⟩ := h6
    unfold k_X11_feed_106
    have hm6 := (f5 m (by omega)).tr (f6 m (by omega))
    rw [hm6.1, t1, show nI ta.length + (20 : Int32) = nI (ta.length + 20) from ka_ix rfl, ka_letE]
    have f7 : Fr (fun b => b = m) G6 (gsi G6 11 9 m (nI (ta.length + 20))) := Fr.i rfl
    have fA : Fr (fun b => b = m + 7 ∨ b = m + 6 ∨ b = m) G1 (gsi G6 11 9 m (nI (ta.length + 20))) := ((f5.mono fun b hb => Or.inl hb).tr (f6.mono fun b hb => Or.inr (Or.inl hb))).tr (f7.mono fun b hb => Or.inr (Or.inr hb))
    have dn : ∀ j, j ≠ 9 → gi (gsi G6 11 9 m (nI (ta.length + 20))) 11 j m = gi G1 11 j m := fun j hj => by rw [ka_ii, if_neg (fun h => hj h.2.1)]; exact hm6.1 11 j
    have d9 : gi (gsi G6 11 9 m (nI (ta.length + 20))) 11 9 m = nI (ta.length + 20) := by rw [ka_ii, if_pos ⟨rfl, rfl, rfl⟩]
    have hF6 : FM τ G6 m := (f6.fm (f5.fm hF (by omega)) (by omega))
    refine ⟨_, rfl, d9, ⟨hF6, ?_, ⟨(dn 6 (by decide)).trans i1, fun w hw j hj => ?_⟩, ⟨(dn 7 (by decide)).trans m1, fun j w hj i hi => ?_⟩, ⟨?_, fun j z hj => ?_⟩, (dn 14 (by decide)).trans t3⟩, fth.tr (fA.mono fun b hb => by omega)⟩
    · rw [(fA (m + 1) (by omega)).2.2.1]; exact hω
    · rw [(fA (m + 2) (by omega)).2.2.1]; exact i2 w hw j hj
    · rw [(fA (m + 5) (by omega)).2.2.1]; exact m2 j w hj i hi
    · rw [List.length_append]; exact d9
    · show ge G6 (m + 6) j = _
      rw [e6 j]
      rcases app_get hj with ⟨h1, h2⟩ | ⟨h1, h2⟩
      · rw [if_neg (by omega), (f5 (m + 6) (by omega)).2.2.1]
        exact t2 j z h2
      · obtain ⟨h3, h4⟩ := by20_get h2
        rw [if_pos (by omega), h4]
theorem by20_b {f : Nat → Int32} : ∀ b, b ∈ by20 f → b < 256 := fun b hb => by
  unfold by20 at hb
  obtain ⟨k, -, h⟩ := List.mem_map.mp hb
  rw [← h]
  exact byN_lt
theorem op_feed (hm : m = x + 512) (hn : 500 < n) (hC : CV τ G x s t l l' ω im me ta fa) (hM : MV τ G m ω im me ta fa) (hI : IV ω im me ta) (a b c d e : Int32) : gOk (f_X10_feed τ n x a b c d e G) (fun q => gOk (f_X11_feed τ n m a b c d e q.2) (fun p => q.1 = p.1 ∧ ST τ x m p.2)) := by
  have ht4 : ta.length ≤ 400 := hI.2.2.2.2.1
  by_cases hl : ta.length + 20 ≤ 400
  · have hIV : IV ω im me (ta ++ by20 (fv5 a b c d e)) := hI.tape hl by20_b
    refine gOk.mono (c_feed hC hI (by omega) hl) fun q hq => ?_
    obtain ⟨q1, q2, q3⟩ := hq
    have hM1 : MV τ q.2 m ω im me ta fa := hM.out q3 fun b c1 c2 h => by omega
    refine gOk.mono (m_feed hM1 hI hn hl) fun p hp => ?_
    obtain ⟨p1, p2, p3⟩ := hp
    exact ⟨q1.trans p1.symm, ST.mk0 hm hIV q2 Fr.rf WE.rf p2 p3⟩
  · have hno : ¬ nI (ta.length + 20) ≤ (400 : Int32) := nI_ge (a := 400) (by omega) (by omega)
    refine join_p (ans := -1) hm hC hM hI ⟨(-1, G), ?_, rfl, QC.rf⟩ (fun G1 hM1 => ⟨(-1, gsi G1 11 0 m 0), ?_, rfl, QM.th⟩)
    · unfold f_X10_feed
      rw [hC.rf.1, ka_bs, hC.2.2.2.2.2.1.1, show nI ta.length + (20 : Int32) = nI (ta.length + 20) from ka_ix rfl, if_neg hno]
    · have e9 : gi (gsi G1 11 0 m 0) 11 9 m = nI ta.length := hM1.th0.2.2.2.2.1.1
      unfold f_X11_feed
      rw [ka_letE, e9, show nI ta.length + (20 : Int32) = nI (ta.length + 20) from ka_ix rfl, if_neg hno]
end
