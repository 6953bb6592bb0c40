/-! CALLS: skips, loose, fault, yarn, order, count -/
section
variable {τ : gτ} {n : Nat} {G : gG} {x m s t l l' o : Nat} {ω : gW} {im : Option gW} {me : List gW} {ta : List Nat} {fa : Int32}
theorem CV.rf (h : CV τ G x s t l l' ω im me ta fa) : gr G 10 0 x = some (x + 1) ∧ gr G 10 1 x = some (x + 3) ∧ gr G 10 2 x = some (x + 4) ∧ gr G 10 3 x = some (x + 5) ∧ gr G 10 4 x = some (x + 391) ∧ gr G 10 5 x = some (x + 423) ∧ gr G 10 6 x = some (x + 430) ∧ gr G 10 7 x = some (x + 431) ∧ gr G 10 8 x = some (x + 432) ∧ gr G 10 9 x = some (x + 433) ∧ gr G 10 10 x = some s ∧ gr G 10 11 x = some t ∧ gr G 10 12 x = some l ∧ gr G 10 13 x = some l' := h.1.1
theorem CV.vs (h : CV τ G x s t l l' ω im me ta fa) : VS G s ω := h.2.1
theorem CV.lv (h : CV τ G x s t l l' ω im me ta fa) : LV G l ω := h.2.2.1
theorem s_isFree {a i : Nat} (hR : RV G a ω i) : f_X5_isFree a G = some (if rv ω i 8 = 0 ∧ rv ω i 9 = 0 then 1 else 0) := by
  unfold f_X5_isFree
  rw [hR.f.2.2.2.2.2.2.2.2.2, hR.f.2.2.2.2.2.2.2.1]
  by_cases h0 : rv ω i 8 = 0
  · rw [if_pos h0]
    by_cases h1 : rv ω i 9 = 0
    · rw [if_pos h1, if_pos ⟨h0, h1⟩]
    · rw [if_neg h1, if_neg (fun h => h1 h.2)]
  · rw [if_neg h0, if_neg (fun h => h0 h.1)]
def skS (ω : gW) : Int32 := acc (fun i b => if (rv ω i 8 = 0 ∧ rv ω i 9 = 0) ∧ ¬ (rv ω i 3 < 2 ∨ 5 < rv ω i 3) then b ||| b1 i else b) 0 (cR ω)
theorem c_skips (hC : CV τ G x s t l l' ω im me ta fa) (hI : WI ω) (hn : 20 < n) : f_X10_skips τ n x G = some (skS ω) := by
  have hr := hI.r1
  have hF := hC.fs.1
  have hV := hC.vs
  have e : l_X10_skips_4 τ n x 0 0 G = some (skS ω) := by
    unfold l_X10_skips_4
    refine ka_up (cR ω) (fun j => (acc (fun i b => if (rv ω i 8 = 0 ∧ rv ω i 9 = 0) ∧ ¬ (rv ω i 3 < 2 ∨ 5 < rv ω i 3) then b ||| b1 i else b) 0 j, nI j)) (by omega) rfl (fun i hi => ?_) ?_
    · have hi8 : i < 8 := by omega
      simp only [b_X10_skips_4, hC.rf, hV.cn, hI.r0, nI_n hi (by omega), if_false, hF.rf, ka_bs, hF.r hi8, s_isFree (hV.r hi), (hV.r hi).f, ka_letE, nI_1, acc_s, b1_e]
      by_cases h : rv ω i 8 = 0 ∧ rv ω i 9 = 0
      · rw [if_pos h, if_neg ka_n10]
        by_cases h1 : rv ω i 3 < 2
        · rw [if_pos h1, if_neg (fun e => e.2 (Or.inl h1))]
        · rw [if_neg h1]
          by_cases h2 : 5 < rv ω i 3
          · rw [if_pos h2, if_neg (fun e => e.2 (Or.inr h2))]
          · rw [if_neg h2, if_pos ⟨h, fun e => e.elim h1 h2⟩]
      · rw [if_neg h, if_pos rfl, if_neg (fun e => h e.1)]
    · simp only [b_X10_skips_4, hC.rf, hV.cn, hI.r0, ka_bs, nI_t (Nat.le_refl _) (show cR ω < 2 ^ 31 by omega), if_true]
      rfl
  unfold f_X10_skips
  rw [e]
  rfl
def loS (ω : gW) : Int32 := acc (fun i b => if rv ω i 8 = 0 ∧ rv ω i 6 = 0 then b ||| b1 i else b) 0 (cR ω)
theorem c_loose (hC : CV τ G x s t l l' ω im me ta fa) (hI : WI ω) (hn : 20 < n) : f_X10_loose τ n x G = some (loS ω) := by
  have hr := hI.r1
  have hF := hC.fs.1
  have hV := hC.vs
  have e : l_X10_loose_4 τ n x 0 0 G = some (loS ω) := by
    unfold l_X10_loose_4
    refine ka_up (cR ω) (fun j => (acc (fun i b => if rv ω i 8 = 0 ∧ rv ω i 6 = 0 then b ||| b1 i else b) 0 j, nI j)) (by omega) rfl (fun i hi => ?_) ?_
    · have hi8 : i < 8 := by omega
      simp only [b_X10_loose_4, hC.rf, hV.cn, hI.r0, nI_n hi (by omega), if_false, hF.rf, ka_bs, hF.r hi8, (hV.r hi).f, ka_letE, nI_1, acc_s, b1_e]
      by_cases h : rv ω i 8 = 0
      · by_cases h1 : rv ω i 6 = 0
        · rw [if_pos h, if_pos h1, if_pos ⟨h, h1⟩]
        · rw [if_pos h, if_neg h1, if_neg (fun e => h1 e.2)]
      · rw [if_neg h, if_neg (fun e => h e.1)]
    · simp only [b_X10_loose_4, hC.rf, hV.cn, hI.r0, ka_bs, nI_t (Nat.le_refl _) (show cR ω < 2 ^ 31 by omega), if_true]
      rfl
  unfold f_X10_loose
  rw [e]
  rfl
theorem m_skips (hM : FM τ G m) (hω : ge G (m + 1) = ω) (hI : WI ω) (hn : 20 < n) : gOk (f_X11_skips τ n m G) (fun p => p.1 = skS ω ∧ QM m G p.2) := by
  have hr := hI.r1
  have hM1 : FM τ (gsi G 11 0 m 0) m := QM.th.fm hM
  have hω1 : ge (gsi G 11 0 m 0) (m + 1) = ω := hω
  have e : l_X11_skips_9 τ n m 0 0 (gsi G 11 0 m 0) = some (skS ω) := by
    unfold l_X11_skips_9
    refine ka_up (cR ω) (fun j => (acc (fun i b => if (rv ω i 8 = 0 ∧ rv ω i 9 = 0) ∧ ¬ (rv ω i 3 < 2 ∨ 5 < rv ω i 3) then b ||| b1 i else b) 0 j, nI j)) (by omega) rfl (fun i hi => ?_) ?_
    · have hi9 : i < 9 := by omega
      simp only [b_X11_skips_9, k_X11_skips_56, k_X11_skips_57, hM1.cn, hω1, hI.r0, nI_n hi (by omega), if_false, ka_bs, m_isWhole hM1 hi9, hM1.ofs hi9, m_in0, ka_letE, nI_1, acc_s, b1_e, i3_o0]
      by_cases h : rv ω i 8 = 0
      · rw [if_pos h, if_neg ka_n10]
        by_cases h1 : rv ω i 9 = 0
        · rw [if_pos h1]
          by_cases h2 : rv ω i 3 < 2 ∨ 5 < rv ω i 3
          · rw [if_pos h2, if_pos rfl, if_neg (fun e => e.2 h2)]
          · rw [if_neg h2, if_neg ka_n10, if_pos ⟨⟨h, h1⟩, h2⟩]
        · rw [if_neg h1, if_neg (fun e => h1 e.1.2)]
      · rw [if_neg h, if_pos rfl, if_neg (fun e => h e.1.1)]
    · simp only [b_X11_skips_9, hM1.cn, hω1, hI.r0, ka_bs, nI_t (Nat.le_refl _) (show cR ω < 2 ^ 31 by omega), if_true]
      rfl
  unfold f_X11_skips
  rw [ka_letE, e, ka_bs]
  exact ⟨_, rfl, rfl, QM.th⟩
theorem m_loose (hM : FM τ G m) (hω : ge G (m + 1) = ω) (hI : WI ω) (hn : 20 < n) : gOk (f_X11_loose τ n m G) (fun p => p.1 = loS ω ∧ QM m G p.2) := by
  have hr := hI.r1
  have hM1 : FM τ (gsi G 11 0 m 0) m := QM.th.fm hM
  have hω1 : ge (gsi G 11 0 m 0) (m + 1) = ω := hω
  have e : l_X11_loose_9 τ n m 0 0 (gsi G 11 0 m 0) = some (loS ω) := by
    unfold l_X11_loose_9
    refine ka_up (cR ω) (fun j => (acc (fun i b => if rv ω i 8 = 0 ∧ rv ω i 6 = 0 then b ||| b1 i else b) 0 j, nI j)) (by omega) rfl (fun i hi => ?_) ?_
    · have hi9 : i < 9 := by omega
      simp only [b_X11_loose_9, k_X11_loose_42, k_X11_loose_43, hM1.cn, hω1, hI.r0, nI_n hi (by omega), if_false, ka_bs, m_isWhole hM1 hi9, hM1.ofs hi9, ka_letE, nI_1, acc_s, b1_e, i3_o0]
      by_cases h : rv ω i 8 = 0
      · rw [if_pos h, if_neg ka_n10]
        by_cases h1 : rv ω i 6 = 0
        · rw [if_pos h1, if_pos ⟨h, h1⟩]
        · rw [if_neg h1, if_neg (fun e => h1 e.2)]
      · rw [if_neg h, if_pos rfl, if_neg (fun e => h e.1)]
    · simp only [b_X11_loose_9, hM1.cn, hω1, hI.r0, ka_bs, nI_t (Nat.le_refl _) (show cR ω < 2 ^ 31 by omega), if_true]
      rfl
  unfold f_X11_loose
  rw [ka_letE, e, ka_bs]
  exact ⟨_, rfl, rfl, QM.th⟩
/-- an argument that is, or isn't, one of so many -/
theorem arg_ix (y : Int32) {N : Nat} (hN : N < 2 ^ 31) : (∃ k, k < N ∧ y = nI k) ∨ ((y < 0 ∨ nI N ≤ y) ∧ ∀ k, k < N → y ≠ nI k) := by
  rcases pk_ix y hN with h | h | ⟨j, hj, rfl⟩
  · refine Or.inr ⟨Or.inl h, fun k hk e => ?_⟩
    rw [e] at h
    exact nI_pos (by omega) h
  · refine Or.inr ⟨Or.inr h, fun k hk e => ?_⟩
    rw [e] at h
    exact nI_ge hk hN h
  · exact Or.inl ⟨j, hj, rfl⟩
theorem c_yarnOf (hC : CV τ G x s t l l' ω im me ta fa) (hI : WI ω) {k : Nat} (hk : k < cY ω) : f_X10_yarnOf τ x (nI k) G = some (.inr (s + 6 + k), G) := by
  have hy := hI.y1
  have k10 : k < 10 := by omega
  unfold f_X10_yarnOf
  rw [if_neg (nI_pos (by omega)), hC.rf.2.2.2.2.2.2.2.2.2.2.1, ka_bs, hC.vs.cn.1, hI.y0, if_pos (nI_lt hk (by omega)), ka_bs, hC.fs.1.rf.1, ka_bs, hC.fs.1.y k10]
theorem c_yarnNo (hC : CV τ G x s t l l' ω im me ta fa) (hI : WI ω) {y : Int32} (hy : y < 0 ∨ nI (cY ω) ≤ y) : f_X10_yarnOf τ x y G = some (.inl x_IOE, G) := by
  unfold f_X10_yarnOf
  by_cases h : y < 0
  · rw [if_pos h]
  · rw [if_neg h, hC.rf.2.2.2.2.2.2.2.2.2.2.1, ka_bs, hC.vs.cn.1, hI.y0, if_neg (Int32.not_lt.mpr (hy.resolve_left h))]
theorem c_ropeOf (hC : CV τ G x s t l l' ω im me ta fa) (hI : WI ω) {k : Nat} (hk : k < cR ω) : f_X10_ropeOf τ x (nI k) G = some (.inr (s + 16 + k), G) := by
  have hy := hI.r1
  have k10 : k < 8 := by omega
  unfold f_X10_ropeOf
  rw [if_neg (nI_pos (by omega)), hC.rf.2.2.2.2.2.2.2.2.2.2.1, ka_bs, hC.vs.cn.2.1, hI.r0, if_pos (nI_lt hk (by omega)), ka_bs, hC.fs.1.rf.2.1, ka_bs, hC.fs.1.r k10]
theorem c_ropeNo (hC : CV τ G x s t l l' ω im me ta fa) (hI : WI ω) {y : Int32} (hy : y < 0 ∨ nI (cR ω) ≤ y) : f_X10_ropeOf τ x y G = some (.inl x_IOE, G) := by
  unfold f_X10_ropeOf
  by_cases h : y < 0
  · rw [if_pos h]
  · rw [if_neg h, hC.rf.2.2.2.2.2.2.2.2.2.2.1, ka_bs, hC.vs.cn.2.1, hI.r0, if_neg (Int32.not_lt.mpr (hy.resolve_left h))]
theorem c_orderOf (hC : CV τ G x s t l l' ω im me ta fa) (hI : WI ω) {k : Nat} (hk : k < cO ω) : f_X10_orderOf τ x (nI k) G = some (.inr (s + 24 + k), G) := by
  have hy := hI.o1
  have k10 : k < 8 := by omega
  unfold f_X10_orderOf
  rw [if_neg (nI_pos (by omega)), hC.rf.2.2.2.2.2.2.2.2.2.2.1, ka_bs, hC.vs.cn.2.2.1, hI.o0, if_pos (nI_lt hk (by omega)), ka_bs, hC.fs.1.rf.2.2.1, ka_bs, hC.fs.1.o k10]
theorem c_orderNo (hC : CV τ G x s t l l' ω im me ta fa) (hI : WI ω) {y : Int32} (hy : y < 0 ∨ nI (cO ω) ≤ y) : f_X10_orderOf τ x y G = some (.inl x_IOE, G) := by
  unfold f_X10_orderOf
  by_cases h : y < 0
  · rw [if_pos h]
  · rw [if_neg h, hC.rf.2.2.2.2.2.2.2.2.2.2.1, ka_bs, hC.vs.cn.2.2.1, hI.o0, if_neg (Int32.not_lt.mpr (hy.resolve_left h))]
theorem no_in {y : Int32} {N : Nat} (hN : N < 2 ^ 30) : (y < 0 ∨ nI N - 1 < y) ↔ (y < 0 ∨ nI N ≤ y) := by
  have e : (nI N - 1).toInt = (N : Int) - 1 := pk_sub_toInt (b := 1) (by omega) (by decide)
  have e2 := nI_toInt (n := N) (by omega)
  rw [Int32.lt_iff_toInt_lt (x := nI N - 1), Int32.le_iff_toInt_le, e, e2]
  constructor
  · rintro (h | h)
    · exact Or.inl h
    · exact Or.inr (by omega)
  · rintro (h | h)
    · exact Or.inl h
    · exact Or.inr (by omega)
theorem m_no (hM : FM τ G m) (hω : ge G (m + 1) = ω) (hI : WI ω) (y : Int32) :
    f_X11_noYarn τ m y G = some (if y < 0 ∨ nI (cY ω) ≤ y then 1 else 0) ∧ f_X11_noRope τ m y G = some (if y < 0 ∨ nI (cR ω) ≤ y then 1 else 0) ∧ f_X11_noOrder τ m y G = some (if y < 0 ∨ nI (cO ω) ≤ y then 1 else 0) := by
  have h1 := hI.y1
  have h2 := hI.r1
  have h3 := hI.o1
  refine ⟨?_, ?_, ?_⟩
  · unfold f_X11_noYarn
    rw [hM.cn.1, ka_bs, hω, hI.y0, m_in0, ka_bs]
    by_cases h : y < 0 ∨ nI (cY ω) ≤ y
    · rw [if_pos ((no_in (by omega)).mpr h), if_pos rfl, if_pos h]
    · rw [if_neg (fun e => h ((no_in (by omega)).mp e)), if_neg ka_n10, if_neg h]
  · unfold f_X11_noRope
    rw [hM.cn.2.1, ka_bs, hω, hI.r0, m_in0, ka_bs]
    by_cases h : y < 0 ∨ nI (cR ω) ≤ y
    · rw [if_pos ((no_in (by omega)).mpr h), if_pos rfl, if_pos h]
    · rw [if_neg (fun e => h ((no_in (by omega)).mp e)), if_neg ka_n10, if_neg h]
  · unfold f_X11_noOrder
    rw [hM.cn.2.2, ka_bs, hω, hI.o0, m_in0, ka_bs]
    by_cases h : y < 0 ∨ nI (cO ω) ≤ y
    · rw [if_pos ((no_in (by omega)).mpr h), if_pos rfl, if_pos h]
    · rw [if_neg (fun e => h ((no_in (by omega)).mp e)), if_neg ka_n10, if_neg h]
theorem no_k {k N : Nat} (hk : k < N) (hN : N < 2 ^ 31) : ¬ (nI k < 0 ∨ nI N ≤ nI k) := fun h => h.elim (nI_pos (by omega)) (nI_ge hk hN)
theorem m_thIf0 {c : Int32} : f_X11_throwsIf m 0 c G = some (0, G) := by
  unfold f_X11_throwsIf
  rw [if_pos rfl, ka_chkT (Or.inl rfl)]
theorem m_thIf1 {c : Int32} : f_X11_throwsIf m 1 c G = some (1, gsi G 11 0 m c) := by
  unfold f_X11_throwsIf
  rw [if_neg ka_n10, ka_letE, ka_chkT (Or.inr rfl)]
end
