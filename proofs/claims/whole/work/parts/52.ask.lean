/-! QUESTIONS that write nothing: the class's, the reference's, both told of ω -/
theorem WI.y0 {ω : gW} (h : WI ω) : ω 0 = nI (cY ω) := h.1.1.1
theorem WI.y1 {ω : gW} (h : WI ω) : cY ω ≤ 10 := h.1.1.2
theorem WI.r0 {ω : gW} (h : WI ω) : ω 1 = nI (cR ω) := h.1.2.1.1
theorem WI.r1 {ω : gW} (h : WI ω) : cR ω ≤ 8 := h.1.2.1.2
theorem WI.o0 {ω : gW} (h : WI ω) : ω 2 = nI (cO ω) := h.1.2.2.1
theorem WI.o1 {ω : gW} (h : WI ω) : cO ω ≤ 8 := h.1.2.2.2
theorem WI.y {ω : gW} (h : WI ω) {i : Nat} (hi : i < cY ω) : YOK ω i := h.2.2.1 i hi
theorem WI.r {ω : gW} (h : WI ω) {i : Nat} (hi : i < cR ω) : ROK ω i := h.2.2.2.1 i hi
theorem WI.o {ω : gW} (h : WI ω) {i : Nat} (hi : i < cO ω) : OOK ω i := h.2.2.2.2 i hi
theorem nI_n {a b : Nat} (h : a < b) (hb : b < 2 ^ 31) : (nI b ≤ nI a) = False := eq_false (nI_ge h hb)
theorem nI_t {a b : Nat} (h : b ≤ a) (hb : a < 2 ^ 31) : (nI b ≤ nI a) = True := eq_true (nI_le h hb)
def b1 (i : Nat) : Int32 := (1 : Int32) <<< (nI i &&& 31)
theorem b1_e {i : Nat} : (1 : Int32) <<< (nI i &&& 31) = b1 i := rfl
/-- a set holds i -/
def hs (set : Int32) (i : Nat) : Prop := (set >>> (nI i &&& 31)) &&& 1 = 1
section
variable {τ : gτ} {n : Nat} {G : gG} {s m : Nat} {ω : gW}
theorem s_shortest (hF : FS τ G s) (hV : VS G s ω) (hI : WI ω) {a b c : Nat} (ha : a < cY ω) (hb : b < cY ω) (hc : c < cY ω) : f_X6_shortest τ s (nI a) (nI b) (nI c) G = some (gmin (gmin (yv ω a 1) (yv ω b 1)) (yv ω c 1)) := by
  have hy := hI.y1
  have ha0 : a < 10 := by omega
  have hb0 : b < 10 := by omega
  have hc0 : c < 10 := by omega
  unfold f_X6_shortest
  simp only [hF.yarnAt ha0, hF.yarnAt hb0, hF.yarnAt hc0, ka_bs, hF.ky ha0, hF.ky hb0, hF.ky hc0, ka_letE, hV.y ha, hV.y hb, hV.y hc]
theorem s_strengthOf (hF : FS τ G s) (hV : VS G s ω) (hI : WI ω) {a b c : Nat} (ha : a < cY ω) (hb : b < cY ω) (hc : c < cY ω) : f_X6_strengthOf τ s (nI a) (nI b) (nI c) G = some (yv ω a 0 + yv ω b 0 + yv ω c 0) := by
  have hy := hI.y1
  have ha0 : a < 10 := by omega
  have hb0 : b < 10 := by omega
  have hc0 : c < 10 := by omega
  unfold f_X6_strengthOf
  simp only [hF.yarnAt ha0, hF.yarnAt hb0, hF.yarnAt hc0, ka_bs, hF.ky ha0, hF.ky hb0, hF.ky hc0, hV.y ha, hV.y hb, hV.y hc]
theorem s_rotOf (hF : FS τ G s) (hV : VS G s ω) (hI : WI ω) {a b c : Nat} (ha : a < cY ω) (hb : b < cY ω) (hc : c < cY ω) : f_X6_rotOf τ s (nI a) (nI b) (nI c) G = some (yv ω a 2 + yv ω b 2 + yv ω c 2) := by
  have hy := hI.y1
  have ha0 : a < 10 := by omega
  have hb0 : b < 10 := by omega
  have hc0 : c < 10 := by omega
  unfold f_X6_rotOf
  simp only [hF.yarnAt ha0, hF.yarnAt hb0, hF.yarnAt hc0, ka_bs, hF.ky ha0, hF.ky hb0, hF.ky hc0, hV.y ha, hV.y hb, hV.y hc]
def usesS (ω : gW) (y : Int32) : Int32 := acc (fun i b => if y = rv ω i 0 ∨ y = rv ω i 1 ∨ y = rv ω i 2 then b ||| b1 i else b) 0 (cR ω)
theorem s_usesOf (hF : FS τ G s) (hV : VS G s ω) (hI : WI ω) (hn : 20 < n) {y : Int32} : f_X6_usesOf τ n s y G = some (usesS ω y) := by
  have hr := hI.r1
  have e : l_X6_usesOf_4 τ n s y 0 0 G = some (usesS ω y) := by
    unfold l_X6_usesOf_4
    refine ka_up (cR ω) (fun i => (acc (fun i b => if y = rv ω i 0 ∨ y = rv ω i 1 ∨ y = rv ω i 2 then b ||| b1 i else b) 0 i, nI i)) (by omega) rfl (fun i hi => ?_) ?_
    · have hi8 : i < 8 := by omega
      simp only [b_X6_usesOf_4, hV.cn, hI.r0, nI_n hi (by omega), if_false, hF.rf, ka_bs, hF.r hi8, f_X5_isOf, (hV.r hi).f, ka_letE, nI_1, acc_s, b1_e]
      by_cases h0 : y = rv ω i 0
      · simp only [h0, true_or, if_true, ka_bs, ka_n10, if_false]
      · by_cases h1 : y = rv ω i 1
        · simp only [h1, true_or, or_true, if_true, ka_bs, ka_n10, if_false, ite_self]
        · by_cases h2 : y = rv ω i 2
          · simp only [h2, or_true, if_true, ka_bs, ka_n10, if_false, ite_self]
          · simp only [h0, h1, h2, or_self, if_true, ka_bs, if_false]
    · simp only [b_X6_usesOf_4, hV.cn, hI.r0, nI_t (Nat.le_refl _) (show cR ω < 2 ^ 31 by omega), if_true]
      rfl
  unfold f_X6_usesOf
  rw [e]
  rfl
theorem s_brokenRopes (hF : FS τ G s) (hV : VS G s ω) (hI : WI ω) (hn : 20 < n) : f_X6_brokenRopes τ n s G = some (acc (fun i b => if rv ω i 8 = 0 then b else b ||| b1 i) 0 (cR ω)) := by
  have hr := hI.r1
  have e : l_X6_brokenRopes_4 τ n s 0 0 G = some (acc (fun i b => if rv ω i 8 = 0 then b else b ||| b1 i) 0 (cR ω)) := by
    unfold l_X6_brokenRopes_4
    refine ka_up (cR ω) (fun i => (acc (fun i b => if rv ω i 8 = 0 then b else b ||| b1 i) 0 i, nI i)) (by omega) rfl (fun i hi => ?_) ?_
    · have hi8 : i < 8 := by omega
      simp only [b_X6_brokenRopes_4, hV.cn, hI.r0, nI_n hi (by omega), if_false, hF.rf, ka_bs, hF.r hi8, (hV.r hi).f, ka_letE, nI_1, acc_s, b1_e]
      by_cases h0 : rv ω i 8 = 0
      · simp only [h0, if_true]
      · simp only [h0, if_false]
    · simp only [b_X6_brokenRopes_4, hV.cn, hI.r0, nI_t (Nat.le_refl _) (show cR ω < 2 ^ 31 by omega), if_true]
  unfold f_X6_brokenRopes
  rw [e]
  rfl
theorem s_hangingLoads (hF : FS τ G s) (hV : VS G s ω) (hI : WI ω) (hn : 20 < n) : f_X6_hangingLoads τ n s G = some (acc (fun i b => b + rv ω i 9) 0 (cR ω)) := by
  have hr := hI.r1
  have e : l_X6_hangingLoads_4 τ n s 0 0 G = some (acc (fun i b => b + rv ω i 9) 0 (cR ω)) := by
    unfold l_X6_hangingLoads_4
    refine ka_up (cR ω) (fun i => (acc (fun i b => b + rv ω i 9) 0 i, nI i)) (by omega) rfl (fun i hi => ?_) ?_
    · have hi8 : i < 8 := by omega
      simp only [b_X6_hangingLoads_4, hV.cn, hI.r0, nI_n hi (by omega), if_false, hF.rf, ka_bs, hF.r hi8, (hV.r hi).f, ka_letE, nI_1, acc_s]
    · simp only [b_X6_hangingLoads_4, hV.cn, hI.r0, nI_t (Nat.le_refl _) (show cR ω < 2 ^ 31 by omega), if_true]
  unfold f_X6_hangingLoads
  rw [e]
  rfl
def prY (ω : gW) (y : Nat) : Int32 := gmax (yv ω y 0 * 3 - yv ω y 2 * 2) 0 + yv ω y 3
def priceS (ω : gW) (i : Nat) : Int32 := if rv ω i 8 = 0 then (prY ω (ry ω i 0) + prY ω (ry ω i 1) + prY ω (ry ω i 2)) * rv ω i 3 / 10 else 0
theorem ROK.y {i : Nat} (h : ROK ω i) : (rv ω i 0 = nI (ry ω i 0) ∧ rv ω i 1 = nI (ry ω i 1) ∧ rv ω i 2 = nI (ry ω i 2)) ∧ ry ω i 0 < cY ω ∧ ry ω i 1 < cY ω ∧ ry ω i 2 < cY ω := ⟨⟨h.1.1.1, h.1.2.1.1, h.1.2.2.1⟩, h.1.1.2, h.1.2.1.2, h.1.2.2.2⟩
theorem s_priceOf (hF : FS τ G s) (hV : VS G s ω) (hI : WI ω) {a i : Nat} (hR : RV G a ω i) (hK : ROK ω i) : f_X6_priceOf τ s a G = some (priceS ω i) := by
  have hy := hI.y1
  obtain ⟨⟨e0, e1, e2⟩, l0, l1, l2⟩ := hK.y
  have m0 : ry ω i 0 < 10 := by omega
  have m1 : ry ω i 1 < 10 := by omega
  have m2 : ry ω i 2 < 10 := by omega
  unfold f_X6_priceOf priceS
  simp only [hR.f, e0, e1, e2, hF.yarnAt m0, hF.yarnAt m1, hF.yarnAt m2, ka_bs, hF.ky m0, hF.ky m1, hF.ky m2, f_X9_price, ka_letE, hV.y l0, hV.y l1, hV.y l2, prY]
  by_cases h : rv ω i 8 = 0
  · simp only [h, if_true]
  · simp only [h, if_false]
/-! the reference's -/
theorem m_isWhole (hM : FM τ G m) {i : Nat} (hi : i < 9) : f_X11_isWhole τ m (nI i) G = some (if rv (ge G (m + 1)) i 8 = 0 then 1 else 0) := by
  unfold f_X11_isWhole
  simp only [hM.ofs hi, ka_bs]
  by_cases h : rv (ge G (m + 1)) i 8 = 0
  · simp only [h, if_true]
  · simp only [h, if_false]
theorem m_allLoads (hM : FM τ G m) (hI : WI (ge G (m + 1))) (hn : 20 < n) : f_X11_allLoads τ n m G = some (acc (fun i b => b + rv (ge G (m + 1)) i 9) 0 (cR (ge G (m + 1)))) := by
  generalize hω : ge G (m + 1) = ω at hI ⊢
  have hr := hI.r1
  have e : l_X11_allLoads_4 τ n m 0 0 G = some (acc (fun i b => b + rv ω i 9) 0 (cR ω)) := by
    unfold l_X11_allLoads_4
    refine ka_up (cR ω) (fun i => (acc (fun i b => b + rv ω i 9) 0 i, nI i)) (by omega) rfl (fun i hi => ?_) ?_
    · have hi9 : i < 9 := by omega
      simp only [b_X11_allLoads_4, hM.cn, hM.ofs hi9, hω, hI.r0, nI_n hi (by omega), if_false, ka_bs, ka_letE, nI_1, acc_s]
    · simp only [b_X11_allLoads_4, hM.cn, hω, hI.r0, ka_bs, nI_t (Nat.le_refl _) (show cR ω < 2 ^ 31 by omega), if_true]
  unfold f_X11_allLoads
  rw [e]
  rfl
end
