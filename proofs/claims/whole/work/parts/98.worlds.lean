/-! SEASONS: the worlds -/
section
variable {ω ω' : gW}
theorem s_u16 : (((nI 16).toUInt32 &&& Int32.toUInt32 31).toBitVec % 32).toNat = 16 := by decide +kernel
theorem b_ush16 (x : Int32) (i : Nat) : bb ((x.toUInt32 >>> ((nI 16).toUInt32 &&& Int32.toUInt32 31)).toInt32) i = bb x (16 + i) := by
  show (x.toUInt32 >>> ((nI 16).toUInt32 &&& Int32.toUInt32 31)).toBitVec.getLsbD i = x.toUInt32.toBitVec.getLsbD (16 + i)
  rw [UInt32.toBitVec_shiftRight]
  show (x.toUInt32.toBitVec >>> (((nI 16).toUInt32 &&& Int32.toUInt32 31).toBitVec % 32).toNat).getLsbD i = _
  rw [s_u16, BitVec.getLsbD_ushiftRight]
theorem bb_32767 : ∀ i, i < 32 → bb 32767 i = decide (i < 15) := by decide +kernel
theorem draw_e (x : Int32) : ((x.toUInt32 >>> ((16 : Int32).toUInt32 &&& Int32.toUInt32 31)).toInt32) &&& 32767 = (x >>> ((16 : Int32) &&& 31)) &&& 32767 := by
  refine b_ext fun i hi => ?_
  rw [b_and, b_and, bb_32767 i hi]
  by_cases h : i < 15
  · rw [show bb ((x.toUInt32 >>> ((16 : Int32).toUInt32 &&& Int32.toUInt32 31)).toInt32) i = bb x (16 + i) from b_ush16 x i, show bb (x >>> ((16 : Int32) &&& 31)) i = if 16 + i < 32 then bb x (16 + i) else bb x 31 from b_sshr 16 (by decide) x hi, if_pos (by omega)]
  · rw [decide_eq_false h, Bool.and_false, Bool.and_false]
def shW (ω : gW) : gW := fun j => if 172 ≤ j ∧ j < 467 then ω (j - 5) else ω j
def brkW (ω : gW) (k : Nat) : gW := wSt (wSt (wSt (wSt (wSt (wSt (wSt (wSt (wSt (wSt (shW ω) 167 (ω 5)) 168 (rv ω k 0)) 169 (rv ω k 1)) 170 (rv ω k 2)) 171 (rv ω k 9)) 11 (gmin 60 (ω 11 + 1))) 8 (ω 8 + rv ω k 9)) 9 (ω 9 + 1)) (53 + 10 * k + 8) 1) (53 + 10 * k + 9) 0
theorem brkW.xx {k j : Nat} (hk : k < 8) (h8 : j ≠ 8) (h9 : j ≠ 9) (h11 : j ≠ 11) (h : (j < 167 ∧ (j < 53 + 10 * k + 8 ∨ 63 + 10 * k ≤ j)) ∨ 467 ≤ j) : brkW ω k j = ω j := by
  unfold brkW shW
  rw [wSt_ne (by omega), wSt_ne (by omega), wSt_ne h9, wSt_ne h8, wSt_ne h11, wSt_ne (by omega), wSt_ne (by omega), wSt_ne (by omega), wSt_ne (by omega), wSt_ne (by omega), if_neg (by omega)]
theorem brkW.e {k i j : Nat} (hk : k < 8) (hi : i < 9) (hj : j < 10) : rv (brkW ω k) i j = if i = k ∧ j = 9 then 0 else if i = k ∧ j = 8 then 1 else rv ω i j := by
  show rv (rS (rS _ k 8 1) k 9 0) i j = _
  rw [rv_rS (by decide) hj, rv_rS (by decide) hj]
  by_cases h9 : i = k ∧ j = 9
  · rw [if_pos h9, if_pos h9]
  · rw [if_neg h9, if_neg h9]
    by_cases h8 : i = k ∧ j = 8
    · rw [if_pos h8, if_pos h8]
    · rw [if_neg h8, if_neg h8, rv_lo (by decide) hi hj, rv_lo (by decide) hi hj, rv_lo (by decide) hi hj, rv_lo (by decide) hi hj, rv_lo (by decide) hi hj, rv_lo (by decide) hi hj, rv_lo (by decide) hi hj, rv_lo (by decide) hi hj]
      exact if_neg (by omega)
theorem brkW.h {k : Nat} (hk : k < 8) : brkW ω k 8 = ω 8 + rv ω k 9 ∧ brkW ω k 9 = ω 9 + 1 ∧ brkW ω k 11 = gmin 60 (ω 11 + 1) := by
  unfold brkW
  refine ⟨?_, ?_, ?_⟩
  · rw [wSt_ne (by omega), wSt_ne (by omega), wSt_ne (by decide), wSt_eq]
  · rw [wSt_ne (by omega), wSt_ne (by omega), wSt_eq]
  · rw [wSt_ne (by omega), wSt_ne (by omega), wSt_ne (by decide), wSt_ne (by decide), wSt_eq]
def lw0 (ω : gW) (k : Nat) : Nat → Int32
  | 0 => ω 5
  | 1 => rv ω k 0
  | 2 => rv ω k 1
  | 3 => rv ω k 2
  | _ => rv ω k 9
theorem brkW.l0 {k w : Nat} (hk : k < 8) (hw : w < 5) : brkW ω k (167 + w) = lw0 ω k w := by
  unfold brkW
  rw [wSt_ne (by omega), wSt_ne (by omega), wSt_ne (by omega), wSt_ne (by omega), wSt_ne (by omega)]
  match w, hw with
  | 0, _ => rw [wSt_ne (by decide), wSt_ne (by decide), wSt_ne (by decide), wSt_ne (by decide), wSt_eq]; rfl
  | 1, _ => rw [wSt_ne (by decide), wSt_ne (by decide), wSt_ne (by decide), wSt_eq]; rfl
  | 2, _ => rw [wSt_ne (by decide), wSt_ne (by decide), wSt_eq]; rfl
  | 3, _ => rw [wSt_ne (by decide), wSt_eq]; rfl
  | 4, _ => rw [wSt_eq]; rfl
theorem brkW.ls {k j : Nat} (hk : k < 8) (h : 172 ≤ j) (h2 : j < 467) : brkW ω k j = ω (j - 5) := by
  unfold brkW shW
  rw [wSt_ne (by omega), wSt_ne (by omega), wSt_ne (by omega), wSt_ne (by omega), wSt_ne (by omega), wSt_ne (by omega), wSt_ne (by omega), wSt_ne (by omega), wSt_ne (by omega), wSt_ne (by omega), if_pos ⟨h, h2⟩]
/-- of a world: how many things there are -/
def WJ (ω : gW) : Prop := ((ω 0 = nI (cY ω) ∧ cY ω ≤ 10) ∧ (ω 1 = nI (cR ω) ∧ cR ω ≤ 8) ∧ ω 2 = nI (cO ω) ∧ cO ω ≤ 8) ∧ (bt (ω 3) 0 12 ∧ bt (ω 4) 0 1 ∧ bt (ω 5) 0 9999 ∧ bt (ω 6) 0 100 ∧ bt (ω 7) 0 100 ∧ ω 11 = nI (cL ω) ∧ cL ω ≤ 60)
theorem WI.j (h : WI ω) : WJ ω := ⟨h.1, h.2.1⟩
theorem WJ.of (h : WJ ω) (e : ∀ j, j < 12 → j ≠ 8 → j ≠ 9 → j ≠ 10 → ω' j = ω j) : WJ ω' := by
  have c0 : cY ω' = cY ω := by unfold cY; rw [e 0 (by decide) (by decide) (by decide) (by decide)]
  have c1 : cR ω' = cR ω := by unfold cR; rw [e 1 (by decide) (by decide) (by decide) (by decide)]
  have c2 : cO ω' = cO ω := by unfold cO; rw [e 2 (by decide) (by decide) (by decide) (by decide)]
  have c3 : cL ω' = cL ω := by unfold cL; rw [e 11 (by decide) (by decide) (by decide) (by decide)]
  unfold WJ
  rw [c0, c1, c2, c3, e 0 (by decide) (by decide) (by decide) (by decide), e 1 (by decide) (by decide) (by decide) (by decide), e 2 (by decide) (by decide) (by decide) (by decide), e 3 (by decide) (by decide) (by decide) (by decide), e 4 (by decide) (by decide) (by decide) (by decide), e 5 (by decide) (by decide) (by decide) (by decide), e 6 (by decide) (by decide) (by decide) (by decide), e 7 (by decide) (by decide) (by decide) (by decide), e 11 (by decide) (by decide) (by decide) (by decide)]
  exact h
theorem gmin_nI {a b : Nat} (ha : a < 2 ^ 31) (hb : b < 2 ^ 31) : gmin (nI a) (nI b) = nI (min a b) := by
  refine Int32.toInt_inj.mp ?_
  rw [gmin_i, nI_toInt ha, nI_toInt hb, nI_toInt (by omega)]
  omega
theorem cL_brk {k : Nat} (hk : k < 8) (hJ : WJ ω) : brkW ω k 11 = nI (cL (brkW ω k)) ∧ cL (brkW ω k) = min 60 (cL ω + 1) := by
  obtain ⟨-, -, -, -, -, -, h11, h60⟩ := hJ
  have e : brkW ω k 11 = nI (min 60 (cL ω + 1)) := by
    rw [(brkW.h hk).2.2, h11, nI_1]
    exact gmin_nI (a := 60) (by decide) (by omega)
  have e2 : cL (brkW ω k) = min 60 (cL ω + 1) := by
    unfold cL
    rw [e, nI_clamp (by omega)]
    rfl
  exact ⟨by rw [e2]; exact e, e2⟩
theorem brkW.wi {k : Nat} (hk : k < cR ω) (hJ : WJ ω) (hy : ∀ i, i < cY ω → YOK ω i) (hr : ∀ i, i < cR ω → i ≠ k → ROK ω i) (ho : ∀ i, i < cO ω → OOK ω i) (hK : ((rv ω k 0 = nI (ry ω k 0) ∧ ry ω k 0 < cY ω) ∧ (rv ω k 1 = nI (ry ω k 1) ∧ ry ω k 1 < cY ω) ∧ rv ω k 2 = nI (ry ω k 2) ∧ ry ω k 2 < cY ω) ∧ (ry ω k 0 ≠ ry ω k 1 ∧ ry ω k 0 ≠ ry ω k 2 ∧ ry ω k 1 ≠ ry ω k 2) ∧ bt (rv ω k 3) 0 400 ∧ bt (rv ω k 4) 0 9 ∧ bt (rv ω k 5) 0 99 ∧ bt (rv ω k 6) 0 1 ∧ (rv ω k 7 = nI 1 ∨ rv ω k 7 = nI 2 ∨ rv ω k 7 = nI 4 ∨ rv ω k 7 = nI 8)) : WI (brkW ω k) := by
  obtain ⟨⟨⟨a1, a2⟩, ⟨b1, b2⟩, c1, c2⟩, ⟨d3, d4, d5, d6, d7, d11, d60⟩⟩ := id hJ
  have hk8 : k < 8 := by omega
  have X : ∀ j, j < 53 → j ≠ 8 → j ≠ 9 → j ≠ 11 → brkW ω k j = ω j := fun j h h8 h9 h11 => brkW.xx hk8 h8 h9 h11 (by omega)
  have cy : cY (brkW ω k) = cY ω := by unfold cY; rw [X 0 (by decide) (by decide) (by decide) (by decide)]
  have cr : cR (brkW ω k) = cR ω := by unfold cR; rw [X 1 (by decide) (by decide) (by decide) (by decide)]
  have co : cO (brkW ω k) = cO ω := by unfold cO; rw [X 2 (by decide) (by decide) (by decide) (by decide)]
  obtain ⟨l1, l2⟩ := cL_brk hk8 hJ
  refine ⟨⟨⟨?_, ?_⟩, ⟨?_, ?_⟩, ?_, ?_⟩, ⟨?_, ?_, ?_, ?_, ?_, l1, by rw [l2]; omega⟩, fun i hi => ?_, fun i hi => ?_, fun i hi => ?_⟩
  · rw [cy, X 0 (by decide) (by decide) (by decide) (by decide)]; exact a1
  · rw [cy]; exact a2
  · rw [cr, X 1 (by decide) (by decide) (by decide) (by decide)]; exact b1
  · rw [cr]; exact b2
  · rw [co, X 2 (by decide) (by decide) (by decide) (by decide)]; exact c1
  · rw [co]; exact c2
  · rw [X 3 (by decide) (by decide) (by decide) (by decide)]; exact d3
  · rw [X 4 (by decide) (by decide) (by decide) (by decide)]; exact d4
  · rw [X 5 (by decide) (by decide) (by decide) (by decide)]; exact d5
  · rw [X 6 (by decide) (by decide) (by decide) (by decide)]; exact d6
  · rw [X 7 (by decide) (by decide) (by decide) (by decide)]; exact d7
  · rw [cy] at hi
    exact (hy i hi).mv fun q hq => X _ (by omega) (by omega) (by omega) (by omega)
  · rw [cr] at hi
    by_cases hik : i = k
    · subst hik
      obtain ⟨k1, k2, k3, k4, k5, k6, k7⟩ := hK
      have E : ∀ j, j < 10 → j ≠ 8 → j ≠ 9 → rv (brkW ω i) i j = rv ω i j := fun j hj h8 h9 => by rw [brkW.e hk8 (by omega) hj, if_neg (fun h => h9 h.2), if_neg (fun h => h8 h.2)]
      have e8 : rv (brkW ω i) i 8 = nI 1 := by rw [brkW.e hk8 (by omega) (by decide), if_neg (by omega), if_pos ⟨rfl, rfl⟩]; rfl
      have e9 : rv (brkW ω i) i 9 = nI 0 := by rw [brkW.e hk8 (by omega) (by decide), if_pos ⟨rfl, rfl⟩]; rfl
      refine ⟨?_, ?_, ⟨?_, ?_, ?_, ?_, ⟨1, by decide, by decide, e8⟩, ⟨0, by decide, by decide, e9⟩⟩, ?_, fun h => ?_⟩
      · unfold ry at k1 ⊢
        rw [E 0 (by decide) (by decide) (by decide), E 1 (by decide) (by decide) (by decide), E 2 (by decide) (by decide) (by decide), cy]
        exact k1
      · unfold ry at k2 ⊢
        rw [E 0 (by decide) (by decide) (by decide), E 1 (by decide) (by decide) (by decide), E 2 (by decide) (by decide) (by decide)]
        exact k2
      · rw [E 3 (by decide) (by decide) (by decide)]; exact k3
      · rw [E 4 (by decide) (by decide) (by decide)]; exact k4
      · rw [E 5 (by decide) (by decide) (by decide)]; exact k5
      · rw [E 6 (by decide) (by decide) (by decide)]; exact k6
      · rw [E 7 (by decide) (by decide) (by decide)]; exact k7
      · rw [e8] at h
        exact absurd h (by decide)
    · exact rok_mv (hr i hi hik) cy fun j hj => by rw [brkW.e hk8 (by omega) hj, if_neg (fun h => hik h.1), if_neg (fun h => hik h.1)]
  · rw [co] at hi
    exact (ho i hi).mv fun q hq => brkW.xx hk8 (by omega) (by omega) (by omega) (by omega)
/-- what seasons may change of a world -/
def SW (ω ω' : gW) : Prop := WI ω' ∧ ω' 4 = ω 4 ∧ (∀ j, 467 ≤ j → ω' j = ω j) ∧ cY ω' = cY ω ∧ cR ω' = cR ω ∧ cO ω' = cO ω
theorem SW.rf (h : WI ω) : SW ω ω := ⟨h, rfl, fun _ _ => rfl, rfl, rfl, rfl⟩
theorem SW.tr {ω'' : gW} (h : SW ω ω') (h' : SW ω' ω'') : SW ω ω'' := by
  obtain ⟨a, b, c, d, e, f⟩ := h
  obtain ⟨a', b', c', d', e', f'⟩ := h'
  exact ⟨a', b'.trans b, fun j hj => (c' j hj).trans (c j hj), d'.trans d, e'.trans e, f'.trans f⟩
theorem SW.li (h : SW ω ω') (hI : LI ω) : LI ω' := li_of h.2.1 h.2.2.1 hI
theorem SW.lv (h : SW ω ω') {G : gG} {l : Nat} (hV : LV G l ω) : LV G l ω' := lv_of h.2.1 h.2.2.1 hV
def wrW (ω : gW) (k : Nat) : gW := rS ω k 5 (gmin 99 (rv ω k 5 + weS ω k))
def lnW (ω : gW) (k : Nat) : gW := rS (wrW ω k) k 3 (rv ω k 3 - 1)
def frW (ω : gW) (k : Nat) : gW := if rv ω k 6 = 1 then wrW ω k else if rv ω k 3 - 1 = 0 then brkW (lnW ω k) k else lnW ω k
def plS (ω : gW) (k : Nat) (g : Int32) : Int32 := if g = 0 then rv ω k 9 else rv ω k 9 * 2
def goW (ω : gW) (k : Nat) (g : Int32) : gW := if plS ω k g ≤ 0 then frW ω k else if plS ω k g ≤ beS ω k then frW ω k else brkW ω k
theorem wrW.re {k : Nat} : RE k ω (wrW ω k) := RE.rf.rs (by decide)
theorem lnW.re {k : Nat} : RE k ω (lnW ω k) := wrW.re.rs (by decide)
theorem wrW.e {k j : Nat} (hj : j < 10) : rv (wrW ω k) k j = if j = 5 then gmin 99 (rv ω k 5 + weS ω k) else rv ω k j := by
  unfold wrW
  by_cases h5 : j = 5
  · rw [if_pos h5, h5, rv_rS1 (by decide)]
  · rw [if_neg h5, rv_rS0 (by decide) hj h5]
theorem lnW.e {k j : Nat} (hj : j < 10) : rv (lnW ω k) k j = if j = 3 then rv ω k 3 - 1 else if j = 5 then gmin 99 (rv ω k 5 + weS ω k) else rv ω k j := by
  unfold lnW
  by_cases h5 : j = 3
  · rw [if_pos h5, h5, rv_rS1 (by decide)]
  · rw [if_neg h5, rv_rS0 (by decide) hj h5, wrW.e hj]
theorem bt_wr {k : Nat} (hK : ROK ω k) (hLI : LI ω) : bt (gmin 99 (rv ω k 5 + weS ω k)) 0 99 := by
  obtain ⟨a, -, a2, ha⟩ := hK.2.2.1.2.2.1
  obtain ⟨b, -, b2, hb⟩ := weS_bt hLI k
  rw [ha, hb, nI_add]
  exact ⟨min 99 (a + b), Nat.zero_le _, by omega, gmin_nI (a := 99) (by decide) (by omega)⟩
theorem wrW.ok {k : Nat} (hk : k < 8) (hK : ROK ω k) (hLI : LI ω) : ROK (wrW ω k) k := by
  obtain ⟨-, -, ⟨c3, c4, c5, c6, c8, c9⟩, c7, c38⟩ := id hK
  refine rok_set hK (wrW.re.cs hk).1 (fun j hj => ?_) ?_ ?_ ?_ ?_ ?_ ?_ ?_ ?_
  · rw [wrW.e (by omega), if_neg (by omega)]
  · rw [wrW.e (by decide)]; exact c3
  · rw [wrW.e (by decide)]; exact c4
  · rw [wrW.e (by decide)]; exact bt_wr hK hLI
  · rw [wrW.e (by decide)]; exact c6
  · rw [wrW.e (by decide)]; exact c8
  · rw [wrW.e (by decide)]; exact c9
  · rw [wrW.e (by decide)]; exact c7
  · rw [wrW.e (by decide), wrW.e (by decide)]; exact c38
theorem lnW.ok {k : Nat} (hk : k < 8) (hK : ROK ω k) (hLI : LI ω) (h8 : rv ω k 8 = 0) (h3 : ¬ rv ω k 3 - 1 = 0) : ROK (lnW ω k) k := by
  obtain ⟨-, -, ⟨c3, c4, c5, c6, c8, c9⟩, c7, c38⟩ := id hK
  obtain ⟨a, a1, a2, ha⟩ := c38 h8
  have e3 : rv ω k 3 - 1 = nI (a - 1) := by rw [ha]; exact nI_sub (b := 1) a1
  have h1 : 1 ≤ a - 1 := by
    rcases Nat.eq_zero_or_pos (a - 1) with h | h
    · rw [e3, h] at h3; exact absurd rfl h3
    · exact h
  refine rok_set hK (lnW.re.cs hk).1 (fun j hj => ?_) ?_ ?_ ?_ ?_ ?_ ?_ ?_ ?_
  · rw [lnW.e (by omega), if_neg (by omega), if_neg (by omega)]
  · rw [lnW.e (by decide)]; exact ⟨a - 1, Nat.zero_le _, by omega, e3⟩
  · rw [lnW.e (by decide)]; exact c4
  · rw [lnW.e (by decide)]; exact bt_wr hK hLI
  · rw [lnW.e (by decide)]; exact c6
  · rw [lnW.e (by decide)]; exact c8
  · rw [lnW.e (by decide)]; exact c9
  · rw [lnW.e (by decide)]; exact c7
  · rw [lnW.e (by decide), lnW.e (by decide)]; exact fun _ => ⟨a - 1, h1, by omega, e3⟩
theorem SW.re {k : Nat} (h : RE k ω ω') (hk : k < cR ω) (hI : WI ω) (hK : ROK ω' k) : SW ω ω' := by
  have hr := hI.r1
  obtain ⟨q1, q2, q3, q4⟩ := h.cs (show k < 8 by omega)
  exact ⟨h.wi hk hI hK, h 4 (by omega), fun j hj => h j (by omega), q1, q2, q3⟩
theorem rok_pre {k : Nat} (hK : ROK ω k) : ((rv ω k 0 = nI (ry ω k 0) ∧ ry ω k 0 < cY ω) ∧ (rv ω k 1 = nI (ry ω k 1) ∧ ry ω k 1 < cY ω) ∧ rv ω k 2 = nI (ry ω k 2) ∧ ry ω k 2 < cY ω) ∧ (ry ω k 0 ≠ ry ω k 1 ∧ ry ω k 0 ≠ ry ω k 2 ∧ ry ω k 1 ≠ ry ω k 2) ∧ bt (rv ω k 3) 0 400 ∧ bt (rv ω k 4) 0 9 ∧ bt (rv ω k 5) 0 99 ∧ bt (rv ω k 6) 0 1 ∧ (rv ω k 7 = nI 1 ∨ rv ω k 7 = nI 2 ∨ rv ω k 7 = nI 4 ∨ rv ω k 7 = nI 8) :=
  ⟨hK.1, hK.2.1, hK.2.2.1.1, hK.2.2.1.2.1, hK.2.2.1.2.2.1, hK.2.2.1.2.2.2.1, hK.2.2.2.1⟩
theorem SW.br {k : Nat} (hw : WI (brkW ω k)) (hk : k < 8) : SW ω (brkW ω k) := by
  refine ⟨hw, brkW.xx hk (by decide) (by decide) (by decide) (by omega), fun j hj => brkW.xx hk (by omega) (by omega) (by omega) (by omega), ?_, ?_, ?_⟩
  · unfold cY; rw [brkW.xx hk (by decide) (by decide) (by decide) (by omega)]
  · unfold cR; rw [brkW.xx hk (by decide) (by decide) (by decide) (by omega)]
  · unfold cO; rw [brkW.xx hk (by decide) (by decide) (by decide) (by omega)]
theorem SW.brk {k : Nat} (hI : WI ω) (hk : k < cR ω) : SW ω (brkW ω k) := by
  have hr := hI.r1
  exact SW.br (brkW.wi hk hI.j (fun i hi => hI.y hi) (fun i hi _ => hI.r hi) (fun i hi => hI.o hi) (rok_pre (hI.r hk))) (by omega)
theorem SW.ln0 {k : Nat} (hI : WI ω) (hLI : LI ω) (hk : k < cR ω) (h8 : rv ω k 8 = 0) : WJ (lnW ω k) ∧ SW ω (brkW (lnW ω k) k) := by
  have hr := hI.r1
  have hy := hI.y1
  have ho := hI.o1
  have hk8 : k < 8 := by omega
  have hRE := lnW.re (ω := ω) (k := k)
  obtain ⟨q1, q2, q3, q4⟩ := hRE.cs hk8
  have hJ : WJ (lnW ω k) := hI.j.of fun j hj _ _ _ => hRE j (by omega)
  obtain ⟨k1, k2, k3, k4, k5, k6, k7⟩ := rok_pre (hI.r hk)
  obtain ⟨a, a1, a2, ha⟩ := (hI.r hk).2.2.2.2 h8
  have e3 : rv ω k 3 - 1 = nI (a - 1) := by rw [ha]; exact nI_sub (b := 1) a1
  have E : ∀ j, j < 3 → rv (lnW ω k) k j = rv ω k j := fun j hj => by rw [lnW.e (by omega), if_neg (by omega), if_neg (by omega)]
  have hw : WI (brkW (lnW ω k) k) := by
    refine brkW.wi (by rw [q2]; exact hk) hJ (fun i hi => ?_) (fun i hi hik => ?_) (fun i hi => ?_) ⟨?_, ?_, ?_, ?_, ?_, ?_, ?_⟩
    · rw [q1] at hi
      exact (hI.y hi).mv fun q hq => hRE _ (by omega)
    · rw [q2] at hi
      exact rok_mv (hI.r hi) q1 fun j hj => hRE.r hik hj
    · rw [q3] at hi
      exact (hI.o hi).mv fun q hq => hRE _ (by omega)
    · unfold ry at k1 ⊢
      rw [E 0 (by decide), E 1 (by decide), E 2 (by decide), q1]
      exact k1
    · unfold ry at k2 ⊢
      rw [E 0 (by decide), E 1 (by decide), E 2 (by decide)]
      exact k2
    · rw [lnW.e (by decide)]; exact ⟨a - 1, Nat.zero_le _, by omega, e3⟩
    · rw [lnW.e (by decide)]; exact k4
    · rw [lnW.e (by decide)]; exact bt_wr (hI.r hk) hLI
    · rw [lnW.e (by decide)]; exact k6
    · rw [lnW.e (by decide)]; exact k7
  obtain ⟨-, b4, b467, bY, bR, bO⟩ := SW.br hw hk8
  exact ⟨hJ, hw, b4.trans (hRE 4 (by omega)), fun j hj => (b467 j hj).trans (hRE j (by omega)), bY.trans q1, bR.trans q2, bO.trans q3⟩
theorem SW.fr {k : Nat} (hI : WI ω) (hLI : LI ω) (hk : k < cR ω) (h8 : rv ω k 8 = 0) : SW ω (frW ω k) := by
  have hr := hI.r1
  unfold frW
  by_cases h6 : rv ω k 6 = 1
  · rw [if_pos h6]; exact SW.re wrW.re hk hI (wrW.ok (by omega) (hI.r hk) hLI)
  · rw [if_neg h6]
    by_cases h3 : rv ω k 3 - 1 = 0
    · rw [if_pos h3]; exact (SW.ln0 hI hLI hk h8).2
    · rw [if_neg h3]; exact SW.re lnW.re hk hI (lnW.ok (by omega) (hI.r hk) hLI h8 h3)
theorem SW.go {k : Nat} {g : Int32} (hI : WI ω) (hLI : LI ω) (hk : k < cR ω) (h8 : rv ω k 8 = 0) : SW ω (goW ω k g) := by
  unfold goW
  by_cases h1 : plS ω k g ≤ 0
  · rw [if_pos h1]; exact SW.fr hI hLI hk h8
  · rw [if_neg h1]
    by_cases h2 : plS ω k g ≤ beS ω k
    · rw [if_pos h2]; exact SW.fr hI hLI hk h8
    · rw [if_neg h2]; exact SW.brk hI hk
end
