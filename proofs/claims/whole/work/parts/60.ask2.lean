/-! MORE QUESTIONS that write nothing -/
theorem i3_o0 (x : Int32) : x ||| 0 = x := b_ext fun i hi => by rw [b_or, b_0, Bool.or_false]
theorem i3_a0 (x : Int32) : x + 0 = x := Int32.add_zero x
def ofS (ω : gW) (i : Nat) (y : Int32) : Prop := y = rv ω i 0 ∨ y = rv ω i 1 ∨ y = rv ω i 2
section
variable {τ : gτ} {n : Nat} {G : gG} {s m : Nat} {ω : gW}
theorem s_isOf {a i : Nat} {y : Int32} (hR : RV G a ω i) : f_X5_isOf a y G = some (if y = rv ω i 0 ∨ y = rv ω i 1 ∨ y = rv ω i 2 then 1 else 0) := by
  unfold f_X5_isOf
  rw [hR.f.1, hR.f.2.1, hR.f.2.2.1]
  by_cases h0 : y = rv ω i 0
  · rw [if_pos h0, if_pos (Or.inl h0)]
  · rw [if_neg h0]
    by_cases h1 : y = rv ω i 1
    · rw [if_pos h1, if_pos (Or.inr (Or.inl h1))]
    · rw [if_neg h1]
      by_cases h2 : y = rv ω i 2
      · rw [if_pos h2, if_pos (Or.inr (Or.inr h2))]
      · rw [if_neg h2, if_neg (fun h => by rcases h with h | h | h <;> contradiction)]
def twS (ω : gW) (r : Nat) : Int32 := acc (fun i b => if ((rv ω r 0 = rv ω i 0 ∨ rv ω r 0 = rv ω i 1 ∨ rv ω r 0 = rv ω i 2) ∧ (rv ω r 1 = rv ω i 0 ∨ rv ω r 1 = rv ω i 1 ∨ rv ω r 1 = rv ω i 2) ∧ (rv ω r 2 = rv ω i 0 ∨ rv ω r 2 = rv ω i 1 ∨ rv ω r 2 = rv ω i 2)) ∧ ¬ i = r then b ||| b1 i else b) 0 (cR ω)
theorem s_twinsOf (hF : FS τ G s) (hV : VS G s ω) (hI : WI ω) (hn : 20 < n) {r : Nat} (hr : r < cR ω) : f_X6_twinsOf τ n s (nI r) G = some (twS ω r) := by
  have hr8 := hI.r1
  have r8 : r < 8 := by omega
  have k76 : ∀ (x2 : Int32) (i : Nat) (s0 : Int32), i < 8 → k_X6_twinsOf_76 τ n s (nI r) x2 (nI i) s0 G = some (.inl (if ¬ s0 = 0 ∧ ¬ i = r then x2 ||| b1 i else x2, nI (i + 1))) := by
    intro x2 i s0 hi
    unfold k_X6_twinsOf_76
    simp only [ka_letE, nI_1, b1_e]
    by_cases h0 : s0 = 0
    · simp only [h0, not_true, false_and, if_true, if_false]
    · by_cases hir : i = r
      · subst hir
        simp only [h0, not_true, and_false, if_true, if_false]
      · rw [if_neg h0, if_neg (fun h => hir ((nI_eq (by omega) (by omega)).mp h)), if_pos ⟨h0, hir⟩]
  have e : l_X6_twinsOf_4 τ n s (nI r) 0 0 G = some (twS ω r) := by
    unfold l_X6_twinsOf_4
    refine ka_up (cR ω) (fun j => (acc (fun i b => if ((rv ω r 0 = rv ω i 0 ∨ rv ω r 0 = rv ω i 1 ∨ rv ω r 0 = rv ω i 2) ∧ (rv ω r 1 = rv ω i 0 ∨ rv ω r 1 = rv ω i 1 ∨ rv ω r 1 = rv ω i 2) ∧ (rv ω r 2 = rv ω i 0 ∨ rv ω r 2 = rv ω i 1 ∨ rv ω r 2 = rv ω i 2)) ∧ ¬ i = r then b ||| b1 i else b) 0 j, nI j)) (by omega) rfl (fun i hi => ?_) ?_
    · have hi8 : i < 8 := by omega
      show b_X6_twinsOf_4 τ n s (nI r) _ (nI i) G = _
      unfold b_X6_twinsOf_4 k_X6_twinsOf_75
      rw [hV.cn.2.1, hI.r0, if_neg (nI_ge hi (by omega)), hF.rf.2.1, ka_bs, hF.r hi8, ka_bs, hF.r r8, (hV.r hr).f.1, s_isOf (hV.r hi), ka_bs, acc_s]
      by_cases h0 : rv ω r 0 = rv ω i 0 ∨ rv ω r 0 = rv ω i 1 ∨ rv ω r 0 = rv ω i 2
      · rw [if_pos h0, if_neg ka_n10, ka_bs, hF.r r8, (hV.r hr).f.2.1, s_isOf (hV.r hi), ka_bs]
        by_cases h1 : rv ω r 1 = rv ω i 0 ∨ rv ω r 1 = rv ω i 1 ∨ rv ω r 1 = rv ω i 2
        · rw [if_pos h1, if_neg ka_n10, ka_bs, hF.r r8, (hV.r hr).f.2.2.1, s_isOf (hV.r hi), ka_bs]
          by_cases h2 : rv ω r 2 = rv ω i 0 ∨ rv ω r 2 = rv ω i 1 ∨ rv ω r 2 = rv ω i 2
          · rw [if_pos h2, if_neg ka_n10, k76 _ _ _ hi8]
            by_cases hir : i = r
            · rw [if_neg (fun h => h.2 hir), if_neg (fun h => h.2 hir)]
            · rw [if_pos ⟨ka_n10, hir⟩, if_pos ⟨⟨h0, h1, h2⟩, hir⟩]
          · rw [if_neg h2, if_pos rfl, k76 _ _ _ hi8, if_neg (fun h => h.1 rfl), if_neg (fun h => h2 h.1.2.2)]
        · rw [if_neg h1, if_pos rfl, k76 _ _ _ hi8, if_neg (fun h => h.1 rfl), if_neg (fun h => h1 h.1.2.1)]
      · rw [if_neg h0, if_pos rfl, k76 _ _ _ hi8, if_neg (fun h => h.1 rfl), if_neg (fun h => h0 h.1.1)]
    · show b_X6_twinsOf_4 τ n s (nI r) _ (nI (cR ω)) G = _
      unfold b_X6_twinsOf_4
      rw [hV.cn.2.1, hI.r0, if_pos (nI_le (Nat.le_refl _) (by omega))]
      rfl
  unfold f_X6_twinsOf
  rw [e]
  rfl
def payS (ω : gW) (set : Int32) : Int32 := acc (fun i b => if bb set i = true then b + ov ω i 2 else b) 0 (cO ω)
def lonS (ω : gW) (set : Int32) : Int32 := acc (fun i b => if bb set i = true then b + ov ω i 1 else b) 0 (cO ω)
def ppS (ω : gW) (set : Int32) : Int32 := acc (fun i b => if bb set i = true then b + priceS ω i else b) 0 (cR ω)
theorem s_payOf (hF : FS τ G s) (hV : VS G s ω) (hI : WI ω) (hn : 20 < n) {set : Int32} : f_X6_payOf τ n s set G = some (payS ω set) := by
  have ho := hI.o1
  have e : l_X6_payOf_4 τ n s set 0 0 G = some (payS ω set) := by
    unfold l_X6_payOf_4
    refine ka_up (cO ω) (fun j => (acc (fun i b => if bb set i = true then b + ov ω i 2 else b) 0 j, nI j)) (by omega) rfl (fun i hi => ?_) ?_
    · have hi8 : i < 8 := by omega
      have hh := hs_bb set (show i < 32 by omega)
      simp only [b_X6_payOf_4, hV.cn, hI.o0, nI_n hi (by omega), if_false, hF.rf, ka_bs, hF.o hi8, hV.o hi, ka_letE, nI_1, acc_s, hh]
      by_cases h : bb set i = true
      · simp only [h, if_true]
      · simp only [h, Bool.false_eq_true, if_false]
    · simp only [b_X6_payOf_4, hV.cn, hI.o0, nI_t (Nat.le_refl _) (show cO ω < 2 ^ 31 by omega), if_true]
      rfl
  unfold f_X6_payOf
  rw [e]
  rfl
theorem s_fathomsOf (hF : FS τ G s) (hV : VS G s ω) (hI : WI ω) (hn : 20 < n) {set : Int32} : f_X6_fathomsOf τ n s set G = some (lonS ω set) := by
  have ho := hI.o1
  have e : l_X6_fathomsOf_4 τ n s set 0 0 G = some (lonS ω set) := by
    unfold l_X6_fathomsOf_4
    refine ka_up (cO ω) (fun j => (acc (fun i b => if bb set i = true then b + ov ω i 1 else b) 0 j, nI j)) (by omega) rfl (fun i hi => ?_) ?_
    · have hi8 : i < 8 := by omega
      have hh := hs_bb set (show i < 32 by omega)
      simp only [b_X6_fathomsOf_4, hV.cn, hI.o0, nI_n hi (by omega), if_false, hF.rf, ka_bs, hF.o hi8, hV.o hi, ka_letE, nI_1, acc_s, hh]
      by_cases h : bb set i = true
      · simp only [h, if_true]
      · simp only [h, Bool.false_eq_true, if_false]
    · simp only [b_X6_fathomsOf_4, hV.cn, hI.o0, nI_t (Nat.le_refl _) (show cO ω < 2 ^ 31 by omega), if_true]
      rfl
  unfold f_X6_fathomsOf
  rw [e]
  rfl
theorem s_pricesOf (hF : FS τ G s) (hV : VS G s ω) (hI : WI ω) (hn : 20 < n) {set : Int32} : f_X6_pricesOf τ n s set G = some (ppS ω set) := by
  have ho := hI.r1
  have e : l_X6_pricesOf_4 τ n s set 0 0 G = some (ppS ω set) := by
    unfold l_X6_pricesOf_4
    refine ka_up (cR ω) (fun j => (acc (fun i b => if bb set i = true then b + priceS ω i else b) 0 j, nI j)) (by omega) rfl (fun i hi => ?_) ?_
    · have hi8 : i < 8 := by omega
      have hh := hs_bb set (show i < 32 by omega)
      simp only [b_X6_pricesOf_4, hV.cn, hI.r0, nI_n hi (by omega), if_false, hF.rf, ka_bs, hF.r hi8, s_priceOf hF hV hI (hV.r hi) (hI.r hi), ka_letE, nI_1, acc_s, hh]
      by_cases h : bb set i = true
      · simp only [h, if_true]
      · simp only [h, Bool.false_eq_true, if_false]
    · simp only [b_X6_pricesOf_4, hV.cn, hI.r0, nI_t (Nat.le_refl _) (show cR ω < 2 ^ 31 by omega), if_true]
      rfl
  unfold f_X6_pricesOf
  rw [e]
  rfl
def boS (ω : gW) (x : Int32) : Int32 := acc (fun i b => if x < ov ω i 0 then b else b ||| b1 i) 0 (cO ω)
theorem s_ordersBorne (hF : FS τ G s) (hV : VS G s ω) (hI : WI ω) (hn : 20 < n) {x : Int32} : f_X6_ordersBorne τ n s x G = some (boS ω x) := by
  have ho := hI.o1
  have e : l_X6_ordersBorne_4 τ n s x 0 0 G = some (boS ω x) := by
    unfold l_X6_ordersBorne_4
    refine ka_up (cO ω) (fun j => (acc (fun i b => if x < ov ω i 0 then b else b ||| b1 i) 0 j, nI j)) (by omega) rfl (fun i hi => ?_) ?_
    · have hi8 : i < 8 := by omega
      simp only [b_X6_ordersBorne_4, hV.cn, hI.o0, nI_n hi (by omega), if_false, hF.rf, ka_bs, hF.o hi8, hV.o hi, ka_letE, nI_1, acc_s, b1_e]
      by_cases h : x < ov ω i 0
      · simp only [h, if_true]
      · simp only [h, if_false]
    · simp only [b_X6_ordersBorne_4, hV.cn, hI.o0, nI_t (Nat.le_refl _) (show cO ω < 2 ^ 31 by omega), if_true]
      rfl
  unfold f_X6_ordersBorne
  rw [e]
  rfl
/-! the reference's -/
theorem m_has {set : Int32} {i : Nat} (hi : i < 32) : f_X11_has set (nI i) = some (if bb set i = true then 1 else 0) := by
  unfold f_X11_has
  have hh := hs_bb set hi
  by_cases h : bb set i = true
  · rw [if_pos (hh.mpr h), if_pos h]
  · rw [if_neg (fun e => h (hh.mp e)), if_neg h]
theorem m_in0 {x a b : Int32} : f_X11_in x a b = some (if x < a ∨ b < x then 0 else 1) := by
  unfold f_X11_in
  by_cases h1 : x < a
  · rw [if_pos h1, if_pos (Or.inl h1)]
  · rw [if_neg h1]
    by_cases h2 : b < x
    · rw [if_pos h2, if_pos (Or.inr h2)]
    · rw [if_neg h2, if_neg (fun h => by rcases h with h | h <;> contradiction)]
theorem m_wholeOnes (hM : FM τ G m) (hω : ge G (m + 1) = ω) (hI : WI ω) (hn : 20 < n) : f_X11_wholeOnes τ n m G = some (acc (fun i b => if rv ω i 8 = 0 then b ||| b1 i else b) 0 (cR ω)) := by
  have hr := hI.r1
  have e : l_X11_wholeOnes_4 τ n m 0 0 G = some (acc (fun i b => if rv ω i 8 = 0 then b ||| b1 i else b) 0 (cR ω)) := by
    unfold l_X11_wholeOnes_4
    refine ka_up (cR ω) (fun j => (acc (fun i b => if rv ω i 8 = 0 then b ||| b1 i else b) 0 j, nI j)) (by omega) rfl (fun i hi => ?_) ?_
    · have hi9 : i < 9 := by omega
      simp only [b_X11_wholeOnes_4, k_X11_wholeOnes_28, hM.cn, hω, hI.r0, nI_n hi (by omega), if_false, ka_bs, m_isWhole hM hi9, ka_letE, nI_1, acc_s, b1_e]
      by_cases h : rv ω i 8 = 0
      · simp only [h, if_true, ka_n10, if_false]
      · simp only [h, if_false, if_true, i3_o0]
    · simp only [b_X11_wholeOnes_4, hM.cn, hω, hI.r0, ka_bs, nI_t (Nat.le_refl _) (show cR ω < 2 ^ 31 by omega), if_true]
  unfold f_X11_wholeOnes
  rw [e]
  rfl
def brS (ω : gW) : Int32 := acc (fun i b => if rv ω i 8 = 0 then b else b ||| b1 i) 0 (cR ω)
theorem brS_e : brS ω = acc (fun i b => if ¬ rv ω i 8 = 0 then b ||| b1 i else b) 0 (cR ω) := acc_congr fun i b _ => by
  by_cases h : rv ω i 8 = 0
  · rw [if_pos h, if_neg (fun h' => h' h)]
  · rw [if_neg h, if_pos h]
theorem brS_w (hI : WI ω) : (((1 : Int32) <<< (nI (cR ω) &&& 31)) - 1) &&& (acc (fun i b => if rv ω i 8 = 0 then b ||| b1 i else b) 0 (cR ω) ^^^ (-1)) = brS ω := by
  have hr := hI.r1
  rw [brS_e]
  refine b_ext fun j hj => ?_
  rw [b_and, bb_full (cR ω) (by omega) j hj, b_not _ hj, acc_bb hj (by omega), acc_bb hj (by omega)]
  by_cases h1 : j < cR ω <;> by_cases h2 : rv ω j 8 = 0 <;> simp [h1, h2]
theorem m_brokenOnes (hM : FM τ G m) (hω : ge G (m + 1) = ω) (hI : WI ω) (hn : 20 < n) : f_X11_brokenOnes τ n m G = some (brS ω) := by
  unfold f_X11_brokenOnes
  rw [hM.cn.2.1, ka_bs, m_wholeOnes hM hω hI hn, ka_bs, hω, hI.r0, brS_w hI]
theorem m_payOf (hM : FM τ G m) (hω : ge G (m + 1) = ω) (hI : WI ω) (hn : 20 < n) {set : Int32} : f_X11_payOf τ n m set G = some (payS ω set) := by
  have hr := hI.o1
  have e : l_X11_payOf_4 τ n m set 0 0 G = some (payS ω set) := by
    unfold l_X11_payOf_4
    refine ka_up (cO ω) (fun j => (acc (fun i b => if bb set i = true then b + ov ω i 2 else b) 0 j, nI j)) (by omega) rfl (fun i hi => ?_) ?_
    · have hi8 : i < 8 := by omega
      simp only [b_X11_payOf_4, k_X11_payOf_31, hM.cn, hω, hI.o0, nI_n hi (by omega), if_false, ka_bs, m_has (set := set) (show i < 32 by omega), hM.ofOs hi8, ka_letE, nI_1, acc_s]
      by_cases h : bb set i = true
      · simp only [h, if_true, ka_n10, if_false]
      · simp only [h, Bool.false_eq_true, if_false, if_true, i3_a0]
    · simp only [b_X11_payOf_4, hM.cn, hω, hI.o0, ka_bs, nI_t (Nat.le_refl _) (show cO ω < 2 ^ 31 by omega), if_true]
      rfl
  unfold f_X11_payOf
  rw [e]
  rfl
theorem m_longOf (hM : FM τ G m) (hω : ge G (m + 1) = ω) (hI : WI ω) (hn : 20 < n) {set : Int32} : f_X11_longOf τ n m set G = some (lonS ω set) := by
  have hr := hI.o1
  have e : l_X11_longOf_4 τ n m set 0 0 G = some (lonS ω set) := by
    unfold l_X11_longOf_4
    refine ka_up (cO ω) (fun j => (acc (fun i b => if bb set i = true then b + ov ω i 1 else b) 0 j, nI j)) (by omega) rfl (fun i hi => ?_) ?_
    · have hi8 : i < 8 := by omega
      simp only [b_X11_longOf_4, k_X11_longOf_31, hM.cn, hω, hI.o0, nI_n hi (by omega), if_false, ka_bs, m_has (set := set) (show i < 32 by omega), hM.ofOs hi8, ka_letE, nI_1, acc_s]
      by_cases h : bb set i = true
      · simp only [h, if_true, ka_n10, if_false]
      · simp only [h, Bool.false_eq_true, if_false, if_true, i3_a0]
    · simp only [b_X11_longOf_4, hM.cn, hω, hI.o0, ka_bs, nI_t (Nat.le_refl _) (show cO ω < 2 ^ 31 by omega), if_true]
      rfl
  unfold f_X11_longOf
  rw [e]
  rfl
theorem i3_m (a b : Int32) : a * b = b * a := Int32.mul_comm a b
theorem m_priceOfYarn (hM : FM τ G m) (hω : ge G (m + 1) = ω) {y : Nat} (hy : y < 10) : f_X11_priceOfYarn τ m (nI y) G = some (prY ω y) := by
  unfold f_X11_priceOfYarn prY
  simp only [hM.ofYs hy, ka_bs, hω]
  rw [i3_m 3, i3_m 2, gmax_c]
theorem m_priceOf (hM : FM τ G m) (hω : ge G (m + 1) = ω) (hI : WI ω) {i : Nat} (hi : i < cR ω) : f_X11_priceOf τ m (nI i) G = some (priceS ω i) := by
  have hy := hI.y1
  have hr := hI.r1
  have hi9 : i < 9 := by omega
  obtain ⟨⟨e0, e1, e2⟩, l0, l1, l2⟩ := (hI.r hi).y
  unfold f_X11_priceOf priceS
  rw [m_isWhole hM hi9, hω, ka_bs]
  by_cases h : rv ω i 8 = 0
  · rw [if_pos h, if_pos h, if_neg ka_n10]
    simp only [hM.ofs hi9, hω, ka_bs, e0, e1, e2, m_priceOfYarn hM hω (show ry ω i 0 < 10 by omega), m_priceOfYarn hM hω (show ry ω i 1 < 10 by omega), m_priceOfYarn hM hω (show ry ω i 2 < 10 by omega)]
  · rw [if_neg h, if_neg h, if_pos rfl]
theorem m_priceOfAll (hM : FM τ G m) (hω : ge G (m + 1) = ω) (hI : WI ω) (hn : 20 < n) {set : Int32} : f_X11_priceOfAll τ n m set G = some (ppS ω set) := by
  have hr := hI.r1
  have e : l_X11_priceOfAll_4 τ n m set 0 0 G = some (ppS ω set) := by
    unfold l_X11_priceOfAll_4
    refine ka_up (cR ω) (fun j => (acc (fun i b => if bb set i = true then b + priceS ω i else b) 0 j, nI j)) (by omega) rfl (fun i hi => ?_) ?_
    · simp only [b_X11_priceOfAll_4, k_X11_priceOfAll_30, hM.cn, hω, hI.r0, nI_n hi (by omega), if_false, ka_bs, m_has (set := set) (show i < 32 by omega), m_priceOf hM hω hI hi, ka_letE, nI_1, acc_s]
      by_cases h : bb set i = true
      · simp only [h, if_true, ka_n10, if_false]
      · simp only [h, Bool.false_eq_true, if_false, if_true, i3_a0]
    · simp only [b_X11_priceOfAll_4, hM.cn, hω, hI.r0, ka_bs, nI_t (Nat.le_refl _) (show cR ω < 2 ^ 31 by omega), if_true]
      rfl
  unfold f_X11_priceOfAll
  rw [e]
  rfl
end
