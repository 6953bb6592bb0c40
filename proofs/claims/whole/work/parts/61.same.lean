/-! USES, SAME in the reference -/
def ysS (ω : gW) (i : Nat) : Int32 := (b1 (ry ω i 0) ||| b1 (ry ω i 1)) ||| b1 (ry ω i 2)
section
variable {τ : gτ} {n : Nat} {G : gG} {m : Nat} {ω : gW}
theorem ysS_bb {i j : Nat} (hK : ROK ω i) (hy : cY ω ≤ 10) (hj : j < 32) : bb (ysS ω i) j = true ↔ (j = ry ω i 0 ∨ j = ry ω i 1 ∨ j = ry ω i 2) := by
  obtain ⟨-, l0, l1, l2⟩ := hK.y
  unfold ysS
  rw [b_or, b_or, bb_b1 (by omega) hj, bb_b1 (by omega) hj, bb_b1 (by omega) hj]
  simp only [Bool.or_eq_true, decide_eq_true_eq, or_assoc]
theorem of_ry {i k : Nat} (hK : ROK ω i) (hy : cY ω ≤ 10) (hk : k < 100) : (nI k = rv ω i 0 ∨ nI k = rv ω i 1 ∨ nI k = rv ω i 2) ↔ (k = ry ω i 0 ∨ k = ry ω i 1 ∨ k = ry ω i 2) := by
  obtain ⟨⟨e0, e1, e2⟩, l0, l1, l2⟩ := hK.y
  rw [e0, e1, e2, nI_eq (by omega) (by omega), nI_eq (by omega) (by omega), nI_eq (by omega) (by omega)]
theorem ys_eq {i r : Nat} (hK : ROK ω i) (hR : ROK ω r) (hy : cY ω ≤ 10) : ysS ω i = ysS ω r ↔ ((ry ω r 0 = ry ω i 0 ∨ ry ω r 0 = ry ω i 1 ∨ ry ω r 0 = ry ω i 2) ∧ (ry ω r 1 = ry ω i 0 ∨ ry ω r 1 = ry ω i 1 ∨ ry ω r 1 = ry ω i 2) ∧ (ry ω r 2 = ry ω i 0 ∨ ry ω r 2 = ry ω i 1 ∨ ry ω r 2 = ry ω i 2)) := by
  obtain ⟨-, l0, l1, l2⟩ := hK.y
  obtain ⟨-, k0, k1, k2⟩ := hR.y
  obtain ⟨d1, d2, d3⟩ := hK.2.1
  obtain ⟨f1, f2, f3⟩ := hR.2.1
  constructor
  · intro h
    refine ⟨?_, ?_, ?_⟩
    · exact (ysS_bb hK hy (by omega)).mp (by rw [h]; exact (ysS_bb hR hy (by omega)).mpr (Or.inl rfl))
    · exact (ysS_bb hK hy (by omega)).mp (by rw [h]; exact (ysS_bb hR hy (by omega)).mpr (Or.inr (Or.inl rfl)))
    · exact (ysS_bb hK hy (by omega)).mp (by rw [h]; exact (ysS_bb hR hy (by omega)).mpr (Or.inr (Or.inr rfl)))
  · intro h
    refine b_ext fun j hj => ?_
    have e : bb (ysS ω i) j = true ↔ bb (ysS ω r) j = true := by
      rw [ysS_bb hK hy hj, ysS_bb hR hy hj]
      generalize ry ω i 0 = a at *
      generalize ry ω i 1 = b at *
      generalize ry ω i 2 = c at *
      generalize ry ω r 0 = a' at *
      generalize ry ω r 1 = b' at *
      generalize ry ω r 2 = c' at *
      obtain ⟨h1, h2, h3⟩ := h
      rcases h1 with h1 | h1 | h1 <;> rcases h2 with h2 | h2 | h2 <;> rcases h3 with h3 | h3 | h3 <;> omega
    cases h1 : bb (ysS ω i) j <;> cases h2 : bb (ysS ω r) j
    · rfl
    · exact absurd (e.mpr h2) (by rw [h1]; decide)
    · exact absurd (e.mp h1) (by rw [h2]; decide)
    · rfl
theorem m_yarnSet (hM : FM τ G m) (hω : ge G (m + 1) = ω) {i : Nat} (hi : i < 9) (hK : ROK ω i) : f_X11_yarnSet τ m (nI i) G = some (ysS ω i) := by
  obtain ⟨⟨e0, e1, e2⟩, -⟩ := hK.y
  unfold f_X11_yarnSet
  simp only [hM.ofs hi, hω, ka_bs, e0, e1, e2]
  rfl
theorem m_usesOf (hM : FM τ G m) (hω : ge G (m + 1) = ω) (hI : WI ω) (hn : 20 < n) {y : Nat} (hy : y < 10) : f_X11_usesOf τ n m (nI y) G = some (usesS ω (nI y)) := by
  have hr := hI.r1
  have hy1 := hI.y1
  have e : l_X11_usesOf_4 τ n m (nI y) 0 0 G = some (usesS ω (nI y)) := by
    unfold l_X11_usesOf_4
    refine ka_up (cR ω) (fun j => (acc (fun i b => if nI y = rv ω i 0 ∨ nI y = rv ω i 1 ∨ nI y = rv ω i 2 then b ||| b1 i else b) 0 j, nI j)) (by omega) rfl (fun i hi => ?_) ?_
    · have hi9 : i < 9 := by omega
      have hh : bb (ysS ω i) y = true ↔ (nI y = rv ω i 0 ∨ nI y = rv ω i 1 ∨ nI y = rv ω i 2) := (ysS_bb (hI.r hi) hy1 (by omega)).trans (of_ry (hI.r hi) hy1 (by omega)).symm
      simp only [b_X11_usesOf_4, k_X11_usesOf_32, hM.cn, hω, hI.r0, nI_n hi (by omega), if_false, ka_bs, m_yarnSet hM hω hi9 (hI.r hi), m_has (set := ysS ω i) (show y < 32 by omega), ka_letE, nI_1, acc_s, b1_e]
      by_cases h : bb (ysS ω i) y = true
      · simp only [h, if_true, ka_n10, if_false, hh.mp h]
      · have h' : ¬ (nI y = rv ω i 0 ∨ nI y = rv ω i 1 ∨ nI y = rv ω i 2) := fun e => h (hh.mpr e)
        simp only [h, h', Bool.false_eq_true, if_false, if_true, i3_o0]
    · simp only [b_X11_usesOf_4, hM.cn, hω, hI.r0, ka_bs, nI_t (Nat.le_refl _) (show cR ω < 2 ^ 31 by omega), if_true]
      rfl
  unfold f_X11_usesOf
  rw [e]
  rfl
theorem m_sameAs (hM : FM τ G m) (hω : ge G (m + 1) = ω) (hI : WI ω) (hn : 20 < n) {r : Nat} (hr : r < cR ω) : f_X11_sameAs τ n m (nI r) G = some (twS ω r) := by
  have hr1 := hI.r1
  have hy1 := hI.y1
  have hr9 : r < 9 := by omega
  obtain ⟨⟨q0, q1, q2⟩, p0, p1, p2⟩ := (hI.r hr).y
  have e : l_X11_sameAs_4 τ n m (nI r) 0 0 G = some (twS ω r) := by
    unfold l_X11_sameAs_4
    refine ka_up (cR ω) (fun j => (acc (fun i b => if ((rv ω r 0 = rv ω i 0 ∨ rv ω r 0 = rv ω i 1 ∨ rv ω r 0 = rv ω i 2) ∧ (rv ω r 1 = rv ω i 0 ∨ rv ω r 1 = rv ω i 1 ∨ rv ω r 1 = rv ω i 2) ∧ (rv ω r 2 = rv ω i 0 ∨ rv ω r 2 = rv ω i 1 ∨ rv ω r 2 = rv ω i 2)) ∧ ¬ i = r then b ||| b1 i else b) 0 j, nI j)) (by omega) rfl (fun i hi => ?_) ?_
    · have hi9 : i < 9 := by omega
      have hh : ysS ω i = ysS ω r ↔ ((rv ω r 0 = rv ω i 0 ∨ rv ω r 0 = rv ω i 1 ∨ rv ω r 0 = rv ω i 2) ∧ (rv ω r 1 = rv ω i 0 ∨ rv ω r 1 = rv ω i 1 ∨ rv ω r 1 = rv ω i 2) ∧ (rv ω r 2 = rv ω i 0 ∨ rv ω r 2 = rv ω i 1 ∨ rv ω r 2 = rv ω i 2)) := by
        rw [ys_eq (hI.r hi) (hI.r hr) hy1, q0, q1, q2, of_ry (hI.r hi) hy1 (by omega), of_ry (hI.r hi) hy1 (by omega), of_ry (hI.r hi) hy1 (by omega)]
      show b_X11_sameAs_4 τ n m (nI r) _ (nI i) G = _
      unfold b_X11_sameAs_4 k_X11_sameAs_37 k_X11_sameAs_38
      simp only [hM.cn, hω, hI.r0, nI_n hi (by omega), if_false, ka_bs, m_yarnSet hM hω hi9 (hI.r hi), m_yarnSet hM hω hr9 (hI.r hr), ka_letE, nI_1, acc_s, b1_e, i3_o0]
      by_cases hir : i = r
      · subst hir
        simp only [not_true, and_false, if_false, if_true]
      · rw [if_neg (fun h => hir ((nI_eq (by omega) (by omega)).mp h))]
        by_cases h : ysS ω i = ysS ω r
        · rw [if_pos h, if_pos ⟨hh.mp h, hir⟩]
        · rw [if_neg h, if_neg (fun e => h (hh.mpr e.1))]
    · simp only [b_X11_sameAs_4, hM.cn, hω, hI.r0, ka_bs, nI_t (Nat.le_refl _) (show cR ω < 2 ^ 31 by omega), if_true]
      rfl
  unfold f_X11_sameAs
  rw [e]
  rfl
end
