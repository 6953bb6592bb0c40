/-! CALLS: meet -/
section
variable {τ : gτ} {n : Nat} {G G' : gG} {x m s t l l' o : Nat} {ω ω' : gW} {im : Option gW} {me : List gW} {ta : List Nat} {fa : Int32}
abbrev cmS (ω : gW) (q k : Nat) : Prop := (rv ω k 8 = 0 ∧ rv ω k 9 = 0) ∧ ¬ rv ω k 3 < ov ω q 1 ∧ ¬ beS ω k < ov ω q 0
theorem m_canMeet (hM : FM τ G m) (hω : ge G (m + 1) = ω) (hI : WI ω) (hLI : LI ω) (hn : 500 < n) {q k : Nat} (hq : q < cO ω) (hk : k < cR ω) : gOk (f_X11_canMeet τ n m (nI q) (nI k) G) (fun p => p.1 = (if cmS ω q k then 1 else 0) ∧ Fr (fun b => b = m + 8) G p.2) := by
  have hr := hI.r1
  have ho := hI.o1
  unfold f_X11_canMeet
  rw [m_isWhole hM (by omega), ka_bs, hω]
  by_cases h8 : rv ω k 8 = 0
  · rw [if_pos h8, if_neg ka_n10, hM.of (w := 9) k 9 rfl rfl (by omega), ka_bs, hω]
    by_cases h9 : rv ω k 9 = 0
    · rw [if_pos h9, hM.of (w := 3) k 3 rfl rfl (by omega), ka_bs, hM.ofOrder (w := 1) q 1 rfl rfl (by omega), ka_bs, hω]
      by_cases h3 : rv ω k 3 < ov ω q 1
      · rw [if_pos h3]
        exact ⟨_, rfl, (if_neg (fun h => h.2.1 h3)).symm, Fr.rf⟩
      · rw [if_neg h3, ka_bind2]
        refine gOk.mono (m_bearsOf hM hω (i := k) (by omega) hI.y1 (hI.r hk) hLI hn) fun p hp => ?_
        obtain ⟨p1, p2⟩ := hp
        have hM2 : FM τ p.2 m := p2.fm hM (by omega)
        have hω2 : ge p.2 (m + 1) = ω := (p2 (m + 1) (by omega)).2.2.1.trans hω
        rw [hM2.ofOrder (w := 0) q 0 rfl rfl (by omega), ka_bs, hω2, p1]
        by_cases h0 : beS ω k < ov ω q 0
        · rw [if_pos h0]
          exact ⟨_, rfl, (if_neg (fun h => h.2.2 h0)).symm, p2⟩
        · rw [if_neg h0]
          exact ⟨_, rfl, (if_pos ⟨⟨h8, h9⟩, h3, h0⟩).symm, p2⟩
    · rw [if_neg h9]
      exact ⟨_, rfl, (if_neg (fun h => h9 h.1.2)).symm, Fr.rf⟩
  · rw [if_neg h8, if_pos rfl]
    exact ⟨_, rfl, (if_neg (fun h => h8 h.1.1)).symm, Fr.rf⟩
theorem s_isFilledBy {a q : Nat} (hO : OV G a ω q) {u v : Int32} : f_X4_isFilledBy a u v G = some (if v < ov ω q 0 then 0 else if u < ov ω q 1 then 0 else 1) := by
  unfold f_X4_isFilledBy
  rw [hO.1, hO.2.1]
  by_cases h1 : v < ov ω q 0
  · rw [if_pos h1, if_pos h1]
  · rw [if_neg h1, if_neg h1]
    by_cases h2 : u < ov ω q 1
    · rw [if_pos h2, if_pos h2]
    · rw [if_neg h2, if_neg h2]
def omW (ω : gW) (q : Nat) : gW := fun j => if 143 + 3 * q ≤ j ∧ j < 164 then ω (j + 3) else ω j
def meetW (ω : gW) (q k : Nat) : gW := wSt (wSt (omW (rS ω k 9 (ov ω q 0)) q) 2 (nI (cO ω - 1))) 10 (ω 10 + ov ω q 2)
theorem meetW.xx {q k j : Nat} (hk : k < 8) (h2 : j ≠ 2) (h10 : j ≠ 10) (h : j < 53 ∨ (133 ≤ j ∧ j < 143) ∨ 167 ≤ j) : meetW ω q k j = ω j := by
  unfold meetW omW
  rw [wSt_ne h10, wSt_ne h2, if_neg (by omega), rS_x (by decide) (by omega)]
theorem meetW.e {q k i j : Nat} (hi : i < 9) (hj : j < 10) : rv (meetW ω q k) i j = if i = k ∧ j = 9 then ov ω q 0 else rv ω i j := by
  unfold meetW
  rw [rv_lo (by decide) hi hj, rv_lo (by decide) hi hj]
  show omW _ q (53 + 10 * i + j) = _
  unfold omW
  rw [if_neg (by omega)]
  exact rv_rS (by decide) hj
theorem meetW.oo {q k i j : Nat} (hk : k < 8) (hi : i < 7) (hj : j < 3) : ov (meetW ω q k) i j = if q ≤ i then ov ω (i + 1) j else ov ω i j := by
  unfold ov meetW omW
  rw [wSt_ne (by omega), wSt_ne (by omega)]
  by_cases h : q ≤ i
  · rw [if_pos h, if_pos (by omega), rS_x (by decide) (by omega), show 143 + 3 * i + j + 3 = 143 + 3 * (i + 1) + j by omega]
  · rw [if_neg h, if_neg (by omega), rS_x (by decide) (by omega)]
theorem meetW.c {q k : Nat} (h8 : cO ω ≤ 8) : meetW ω q k 2 = nI (cO ω - 1) ∧ cO (meetW ω q k) = cO ω - 1 := by
  have e : meetW ω q k 2 = nI (cO ω - 1) := by
    unfold meetW
    rw [wSt_ne (by decide), wSt_eq]
  refine ⟨e, ?_⟩
  unfold cO
  rw [e, nI_clamp (by omega)]
  rfl
theorem meetW.wi {q k : Nat} (hI : WI ω) (hq : q < cO ω) (hk : k < cR ω) : WI (meetW ω q k) := by
  have hr := hI.r1
  have ho := hI.o1
  have X : ∀ j, j ≠ 2 → j ≠ 10 → (j < 53 ∨ (133 ≤ j ∧ j < 143) ∨ 167 ≤ j) → meetW ω q k j = ω j := fun j h1 h2 h => meetW.xx (by omega) h1 h2 h
  have cy : cY (meetW ω q k) = cY ω := by unfold cY; rw [X 0 (by decide) (by decide) (by decide)]
  have cr : cR (meetW ω q k) = cR ω := by unfold cR; rw [X 1 (by decide) (by decide) (by decide)]
  obtain ⟨c1, c2⟩ := meetW.c (ω := ω) (q := q) (k := k) ho
  refine wi_acts hI ⟨?_, ?_⟩ ⟨?_, ?_⟩ ⟨?_, ?_⟩ (X 3 (by decide) (by decide) (by decide)) (X 4 (by decide) (by decide) (by decide)) (X 5 (by decide) (by decide) (by decide)) (X 6 (by decide) (by decide) (by decide)) (X 7 (by decide) (by decide) (by decide)) (X 11 (by decide) (by decide) (by decide)) (fun i hi => ?_) (fun i hi => ?_) (fun i hi => ?_)
  · rw [cy, X 0 (by decide) (by decide) (by decide)]; exact hI.y0
  · rw [cy]; exact hI.y1
  · rw [cr, X 1 (by decide) (by decide) (by decide)]; exact hI.r0
  · rw [cr]; exact hI.r1
  · rw [c2]; exact c1
  · rw [c2]; omega
  · rw [cy] at hi
    have hy := hI.y1
    refine (hI.y hi).mv fun q hq => ?_
    exact X _ (by omega) (by omega) (by omega)
  · rw [cr] at hi
    by_cases hik : i = k
    · subst hik
      obtain ⟨-, -, ⟨e3, e4, e5, e6, e8, e9⟩, e7, e38⟩ := id (hI.r hi)
      have E : ∀ j, j < 10 → j ≠ 9 → rv (meetW ω q i) i j = rv ω i j := fun j hj h9 => by rw [meetW.e (by omega) hj, if_neg (fun h => h9 h.2)]
      refine rok_set2 (hI.r hi) cy (fun j hj => E j (by omega) (by omega)) ?_ ?_ ?_ ?_ ?_ ?_ ?_ ?_
      · rw [E 3 (by decide) (by decide)]; exact e3
      · rw [E 4 (by decide) (by decide)]; exact e4
      · rw [E 5 (by decide) (by decide)]; exact e5
      · rw [E 6 (by decide) (by decide)]; exact e6
      · rw [E 8 (by decide) (by decide)]; exact e8
      · rw [meetW.e (by omega) (by decide), if_pos ⟨rfl, rfl⟩]
        exact bt_w (hI.o hq).1 (by decide) (by decide)
      · rw [E 7 (by decide) (by decide)]; exact e7
      · rw [E 8 (by decide) (by decide), E 3 (by decide) (by decide)]; exact e38
    · exact rok_mv (hI.r hi) cy fun j hj => by rw [meetW.e (by omega) hj, if_neg (fun h => hik h.1)]
  · rw [c2] at hi
    by_cases h : q ≤ i
    · exact (hI.o (i := i + 1) (by omega)).mv fun j hj => by rw [meetW.oo (by omega) (by omega) hj, if_pos h]
    · exact (hI.o (i := i) (by omega)).mv fun j hj => by rw [meetW.oo (by omega) (by omega) hj, if_neg h]
theorem meetW.iv {q k : Nat} (hI : IV ω im me ta) (hq : q < cO ω) (hk : k < cR ω) : IV (meetW ω q k) im me ta := by
  have hr := hI.1.r1
  exact iv_of hI (meetW.wi hI.1 hq hk) (meetW.xx (by omega) (by decide) (by decide) (by decide)) (fun j hj => meetW.xx (by omega) (by omega) (by omega) (by omega))
theorem s_removeOrderL (hF : FS τ G s) (hO : ∀ i, i < cO ω → OV G (s + 24 + i) ω i) (hc : gi G 6 6 s = nI (cO ω)) (ho : cO ω ≤ 8) (hn : 500 < n) {k : Nat} (hk : k < cO ω) : gOk (l_X6_removeOrder_2 τ n s (nI k) G) (fun G' => (∀ i, i < cO ω → OV G' (s + 24 + i) ω (if k ≤ i ∧ i + 1 < cO ω then i + 1 else i)) ∧ Fr (fun b => s + 24 ≤ b ∧ b ≤ s + 31) G G') := by
  unfold l_X6_removeOrder_2
  refine ka_loop (cO ω - 1 - k) (fun c q => q.1 = nI (k + c) ∧ (∀ i, i < cO ω → OV q.2 (s + 24 + i) ω (if k ≤ i ∧ i < k + c then i + 1 else i)) ∧ Fr (fun b => s + 24 ≤ b ∧ b ≤ s + 31) G q.2) (by omega) ⟨rfl, fun i hi => by rw [if_neg (by omega)]; exact hO i hi, Fr.rf⟩ (fun c q hcc hq => ?_)
  obtain ⟨x2, G1⟩ := q
  obtain ⟨e1, e2, e3⟩ := hq
  have e1 : x2 = nI (k + c) := e1
  have e3 : Fr (fun b => s + 24 ≤ b ∧ b ≤ s + 31) G G1 := e3
  have e2 : ∀ i, i < cO ω → OV G1 (s + 24 + i) ω (if k ≤ i ∧ i < k + c then i + 1 else i) := e2
  subst e1
  have hF1 : FS τ G1 s := hF.to e3 (fun b h1 h2 h3 => by omega)
  have n1 : gi G1 6 6 s = nI (cO ω) := by rw [(e3 s (by omega)).1, hc]
  show gOk (b_X6_removeOrder_2 τ n s (nI (k + c)) G1) _
  unfold b_X6_removeOrder_2
  rw [if_neg (nI_pos (by omega)), n1, nI_1]
  by_cases hlt : k + c + 1 < cO ω
  · have hRi := e2 (k + c + 1) hlt
    rw [if_neg (show ¬ (k ≤ k + c + 1 ∧ k + c + 1 < k + c) by omega)] at hRi
    obtain ⟨G2, e4, hR4, f4⟩ := s_ob (p := s + 24 + (k + c)) (q := s + 24 + (k + c + 1)) (G := G1) (by omega) hRi
    rw [if_neg (nI_ge hlt (by omega)), hF1.rf.2.2.1, ka_bs, hF1.o (i := k + c) (by omega), ka_bs, hF1.o (i := k + c + 1) (by omega), e4, ka_bs, ka_letE]
    refine ⟨_, rfl, by omega, rfl, fun i hi => ?_, e3.tr (f4.mono fun b hb => by have hb : b = s + 24 + (k + c) := hb; omega)⟩
    show OV G2 (s + 24 + i) ω _
    by_cases hik : i = k + c
    · rw [hik, if_pos (by omega)]; exact hR4
    · have := (e2 i hi).same (f4 (s + 24 + i) (fun h => hik (by have h : s + 24 + i = s + 24 + (k + c) := h; omega))) (ω' := ω) (fun j hj => rfl)
      by_cases h2 : k ≤ i ∧ i < k + c
      · rw [if_pos (by omega)]; rw [if_pos h2] at this; exact this
      · rw [if_neg (by omega)]; rw [if_neg h2] at this; exact this
  · rw [if_pos (nI_le (by omega) (by omega))]
    refine ⟨_, rfl, fun i hi => ?_, e3⟩
    have := e2 i hi
    by_cases h2 : k ≤ i ∧ i < k + c
    · rw [if_pos (by omega)]; rw [if_pos h2] at this; exact this
    · rw [if_neg (by omega)]; rw [if_neg h2] at this; exact this
theorem m_meetL (hM : FM τ G m) (hω : ge G (m + 1) = ω) (hn : 500 < n) {k : Nat} {v : Int32} (hk : k < 8) : gOk (l_X11_meet_95 τ n m v (nI (143 + 3 * k)) G) (fun G' => ge G' (m + 1) = omW ω k ∧ Fr (fun b => b = m + 1) G G') := by
  unfold l_X11_meet_95
  refine gOk.mono (ka_loop (21 - 3 * k) (fun c q => q.1 = nI (143 + 3 * k + c) ∧ (∀ j, ge q.2 (m + 1) j = if 143 + 3 * k ≤ j ∧ j < 143 + 3 * k + c then ω (j + 3) else ω j) ∧ Fr (fun b => b = m + 1) G q.2) (K := fun G' => (∀ j, ge G' (m + 1) j = if 143 + 3 * k ≤ j ∧ j < 164 then ω (j + 3) else ω j) ∧ Fr (fun b => b = m + 1) G G') (by omega) ⟨rfl, fun j => by rw [if_neg (by omega)]; exact congrFun hω j, Fr.rf⟩ (fun c q hc hI => ?_)) (fun G1 hG => ⟨?_, hG.2⟩)
  · obtain ⟨x4, G1⟩ := q
    obtain ⟨e1, e2, e3⟩ := hI
    have e1 : x4 = nI (143 + 3 * k + c) := e1
    have e3 : Fr (fun b => b = m + 1) G G1 := e3
    have e2 : ∀ j, ge G1 (m + 1) j = if 143 + 3 * k ≤ j ∧ j < 143 + 3 * k + c then ω (j + 3) else ω j := e2
    subst e1
    have hM1 : FM τ G1 m := e3.fm hM (by omega)
    show gOk (b_X11_meet_95 τ n m v (nI (143 + 3 * k + c)) G1) _
    unfold b_X11_meet_95
    rw [show nI (143 + 3 * k + c) + (3 : Int32) = nI (143 + 3 * k + c + 3) from ka_ix rfl]
    by_cases hlt : c < 21 - 3 * k
    · rw [if_neg (show ¬ (167 : Int32) ≤ nI (143 + 3 * k + c + 3) from nI_ge (b := 167) (by omega) (by decide)), m_g hM1, m_g hM1, hM1.w (143 + 3 * k + c + 3) rfl (by omega), m_w hM1 (143 + 3 * k + c) rfl (by omega), ka_letE, nI_1, nI_clamp (by omega)]
      refine ⟨_, rfl, hlt, rfl, fun j => ?_, e3.tr (Fr.e rfl)⟩
      show ge (gse G1 (m + 1) _ _) (m + 1) j = _
      rw [ka_ee, e2 j]
      by_cases hj : j = 143 + 3 * k + c
      · rw [if_pos ⟨rfl, hj⟩, if_pos (by omega), e2, if_neg (by omega), hj]
      · rw [if_neg (fun e => hj e.2)]
        by_cases h2 : 143 + 3 * k ≤ j ∧ j < 143 + 3 * k + c
        · rw [if_pos h2, if_pos (by omega)]
        · rw [if_neg h2, if_neg (by omega)]
    · rw [if_pos (show (167 : Int32) ≤ nI (143 + 3 * k + c + 3) from nI_le (a := 167) (by omega) (by omega))]
      refine ⟨_, rfl, fun j => ?_, e3⟩
      rw [e2 j, show 143 + 3 * k + c = 164 by omega]
  · funext j
    rw [hG.1 j]
    rfl
end
