/-! WHAT A ROPE BEARS, in the class -/
theorem i3_as (a b c : Int32) : a + (b - c) = a + b - c := by grind
theorem i3_b (b f a : Int32) : b - f + a = b + a - f := by grind
theorem i3_f (b f a : Int32) : b - f + -a = b - (f + a) := by grind
theorem i3_01 : ¬ (0 : Int32) = 1 := by decide
theorem i3_0m : ¬ (0 : Int32) = -1 := by decide
theorem i3_1m : ¬ (1 : Int32) = -1 := by decide
theorem i3_m1 : ¬ (-1 : Int32) = 1 := by decide
theorem i3_m0 : ¬ (-1 : Int32) = 0 := by decide
section
variable {τ : gτ} {n : Nat} {G : gG} {s l a i : Nat} {ω : gW}
theorem Fr.lv {A : Nat → Prop} {G' : gG} (hf : Fr A G G') (h : LV G l ω) (hA : ∀ b, l ≤ b → b ≤ l + 4 → ¬ A b) : LV G' l ω := by
  unfold LV
  rw [(hf l (hA l (by omega) (by omega))).1, (hf l (hA l (by omega) (by omega))).1, (hf (l + 1) (hA _ (by omega) (by omega))).2.2.1, (hf (l + 2) (hA _ (by omega) (by omega))).2.2.1, (hf (l + 3) (hA _ (by omega) (by omega))).2.2.1, (hf (l + 4) (hA _ (by omega) (by omega))).2.2.1]
  exact h
theorem s_conditionHolds (hL : FL τ G l) (hV : LV G l ω) (hA : ∀ j, j ≤ 10 → ge G (l + 5) j = fcS ω i (nI j) 0) (hK : ROK ω i) (hLI : LI ω) (h1 : ω 4 = 1) {ln : Nat} (hln : ln < cLn ω) (hn : 500 < n) : gOk (f_X1_conditionHolds τ n l (nI (lb ω ln)) (nI (le ω ln)) G) (fun q => q.1 = cnS ω i ln ∧ Fr (fun b => b = l + 6) G q.2) := by
  obtain ⟨-, hc12, hls⟩ := hLI h1
  obtain ⟨-, hb2, hb3, hCI, -⟩ := hls ln hln
  have hcodes := ((hV.2.2 h1).2 ln hln).2.2.2
  have h6 := bt01 hK.2.2.1.2.2.2.1
  have hend := hCI.ends h6
  obtain ⟨c1, c2, c3, c4, c5⟩ := hCI
  unfold f_X1_conditionHolds
  rw [ka_bind]
  unfold l_X1_conditionHolds_5
  refine gOk.mono (ka_loop (le ω ln - lb ω ln) (fun k q => q.1 = nI (evL ω i (lb ω ln) k).length ∧ q.2.1 = nI (lb ω ln + k) ∧ SK (ge q.2.2 (l + 6)) (evL ω i (lb ω ln) k) ∧ Fr (fun b => b = l + 6) G q.2.2) (K := fun r => r.1 = nI (evL ω i (lb ω ln) (le ω ln - lb ω ln)).length ∧ SK (ge r.2 (l + 6)) (evL ω i (lb ω ln) (le ω ln - lb ω ln)) ∧ Fr (fun b => b = l + 6) G r.2) (by omega) ⟨rfl, rfl, trivial, Fr.rf⟩ (fun k q hk hI => ?_)) (fun r hr => ?_)
  · obtain ⟨x3, x5, G1⟩ := q
    obtain ⟨e1, e2, e3, e4⟩ := hI
    have e1 : x3 = nI (evL ω i (lb ω ln) k).length := e1
    have e2 : x5 = nI (lb ω ln + k) := e2
    subst e1; subst e2
    have hL1 : FL τ G1 l := e4.fl hL (by omega)
    have hA1 : ∀ j, j ≤ 10 → ge G1 (l + 5) j = fcS ω i (nI j) 0 := fun j hj => by rw [(e4 (l + 5) (by omega)).2.2.1]; exact hA j hj
    by_cases hlt : k < le ω ln - lb ω ln
    · obtain ⟨T, hT, hTl⟩ := c4 k (by omega)
      obtain ⟨T', hT', -⟩ := c4 (k + 1) (by omega)
      have hty : tyS (sc ω (lb ω ln + k)) T = some T' := by
        have h : (tyR ω (lb ω ln) k).bind (tyS (sc ω (lb ω ln + k))) = some T' := hT'
        rw [hT] at h
        exact h
      have hTV := TV.run (i := i) h6 hT
      obtain ⟨G2, a1, a2, a3⟩ := s_step (n := n) hL1 hA1 hTV hty (c5 (lb ω ln + k) (by omega) (by omega)) (by rw [← hTV.len]; exact hTl) e3 (e := le ω ln) (by omega) c2 (by rw [(e4 (l + 4) (by omega)).2.2.1]; exact hcodes _ (by omega) (by omega))
      exact ⟨_, a1, hlt, rfl, rfl, a2, e4.tr a3⟩
    · have hkN : k = le ω ln - lb ω ln := by omega
      subst hkN
      refine ⟨.inr (nI (evL ω i (lb ω ln) (le ω ln - lb ω ln)).length, G1), ?_, rfl, e3, e4⟩
      show b_X1_conditionHolds_5 τ n l _ _ _ _ = _
      unfold b_X1_conditionHolds_5
      simp only [nI_t (show le ω ln ≤ lb ω ln + (le ω ln - lb ω ln) by omega) (show lb ω ln + (le ω ln - lb ω ln) < 2 ^ 31 by omega), if_true]
  · obtain ⟨x3, G1⟩ := r
    obtain ⟨e1, e3, e4⟩ := hr
    have e1 : x3 = nI (evL ω i (lb ω ln) (le ω ln - lb ω ln)).length := e1
    have e3 : SK (ge G1 (l + 6)) (evL ω i (lb ω ln) (le ω ln - lb ω ln)) := e3
    have e4 : Fr (fun b => b = l + 6) G G1 := e4
    subst e1
    have hL1 : FL τ G1 l := e4.fl hL (by omega)
    simp only [ka_letE]
    unfold k_X1_conditionHolds_127 cnS
    rcases hend with hL | ⟨v, hL, hv01⟩
    · rw [hL] at e3 ⊢
      exact ⟨_, rfl, rfl, e4⟩
    · rw [hL] at e3 ⊢
      have hv0 : ge G1 (l + 6) 0 = v := e3.1
      rw [if_neg (show ¬ nI [v].length = 0 from ka_n10)]
      simp only [hL1.rf, ka_bs, hL1.f6 (x := 0) 0 rfl (by decide), show (0 : Int32).toNatClampNeg = 0 from rfl, hv0]
      rcases hv01 with rfl | rfl
      · exact ⟨_, rfl, rfl, e4⟩
      · exact ⟨_, rfl, rfl, e4⟩
def smC (ω : gW) (i : Nat) (κ : Int32) : Int32 := if ω 4 = 1 then acc (fun ln b => if (if lw ω ln 0 = 0 then (1 : Int32) else 0) = κ ∧ ¬ cnS ω i ln = 0 then b + (if lw ω ln 0 = -1 then - lw ω ln 1 else lw ω ln 1) else b) 0 (cLn ω) else 0
theorem smC0 (hLI : LI ω) : smC ω i 0 = smS ω i 1 - smS ω i (-1) := by
  unfold smC smS
  by_cases h1 : ω 4 = 1
  · obtain ⟨-, -, hls⟩ := hLI h1
    rw [if_pos h1, if_pos h1, if_pos h1]
    have H : ∀ k, k ≤ cLn ω → acc (fun ln b => if (if lw ω ln 0 = 0 then (1 : Int32) else 0) = 0 ∧ ¬ cnS ω i ln = 0 then b + (if lw ω ln 0 = -1 then - lw ω ln 1 else lw ω ln 1) else b) 0 k = acc (fun ln b => if lw ω ln 0 = 1 ∧ ¬ cnS ω i ln = 0 then b + lw ω ln 1 else b) 0 k - acc (fun ln b => if lw ω ln 0 = -1 ∧ ¬ cnS ω i ln = 0 then b + lw ω ln 1 else b) 0 k := by
      intro k
      induction k with
      | zero => intro _; show (0 : Int32) = 0 - 0; decide
      | succ k ih =>
        intro hk
        have ih := ih (by omega)
        simp only [acc_s]
        generalize acc (fun ln b => if (if lw ω ln 0 = 0 then (1 : Int32) else 0) = 0 ∧ ¬ cnS ω i ln = 0 then b + (if lw ω ln 0 = -1 then - lw ω ln 1 else lw ω ln 1) else b) 0 k = C at ih ⊢
        generalize acc (fun ln b => if lw ω ln 0 = 1 ∧ ¬ cnS ω i ln = 0 then b + lw ω ln 1 else b) 0 k = B at ih ⊢
        generalize acc (fun ln b => if lw ω ln 0 = -1 ∧ ¬ cnS ω i ln = 0 then b + lw ω ln 1 else b) 0 k = F at ih ⊢
        subst ih
        rcases (hls k (by omega)).1 with h | h | h
        · simp only [h, i3_01, i3_0m, ka_n10, eq_self, if_true, if_false, false_and]
        · by_cases hc : cnS ω i k = 0
          · simp only [h, hc, not_true, and_false, if_false]
          · simp only [h, hc, i3_1m, ka_n10, eq_self, if_true, if_false, not_false_eq_true, and_self, false_and]
            exact i3_b _ _ _
        · by_cases hc : cnS ω i k = 0
          · simp only [h, hc, not_true, and_false, if_false]
          · simp only [h, hc, i3_m1, i3_m0, eq_self, if_true, if_false, not_false_eq_true, and_self, false_and]
            exact i3_f _ _ _
    exact H _ (Nat.le_refl _)
  · rw [if_neg h1, if_neg h1, if_neg h1]
    decide
theorem smC1 (hLI : LI ω) : smC ω i 1 = smS ω i 0 := by
  unfold smC smS
  by_cases h1 : ω 4 = 1
  · rw [if_pos h1, if_pos h1]
    refine acc_congr fun ln b hl => ?_
    by_cases h : lw ω ln 0 = 0
    · simp only [h, i3_0m, eq_self, if_true, if_false, true_and]
    · simp only [h, i3_01, if_false, false_and]
  · rw [if_neg h1, if_neg h1]
theorem s_sumOfLines (hL : FL τ G l) (hV : LV G l ω) (hA : ∀ j, j ≤ 10 → ge G (l + 5) j = fcS ω i (nI j) 0) (hK : ROK ω i) (hLI : LI ω) {κ : Int32} (hn : 500 < n) : gOk (f_X1_sumOfLines τ n l κ G) (fun q => q.1 = smC ω i κ ∧ Fr (fun b => b = l + 6) G q.2) := by
  unfold f_X1_sumOfLines
  rw [ka_bind]
  unfold l_X1_sumOfLines_7 smC
  by_cases h1 : ω 4 = 1
  · obtain ⟨hc, hc12, hls⟩ := hLI h1
    rw [if_pos h1]
    refine gOk.mono (ka_loop (cLn ω) (fun k q => q.1 = acc (fun ln b => if (if lw ω ln 0 = 0 then (1 : Int32) else 0) = κ ∧ ¬ cnS ω i ln = 0 then b + (if lw ω ln 0 = -1 then - lw ω ln 1 else lw ω ln 1) else b) 0 k ∧ q.2.1 = nI (if k = 0 then 0 else le ω (k - 1)) ∧ q.2.2.1 = nI k ∧ Fr (fun b => b = l + 6) G q.2.2.2) (K := fun r => r.1 = acc (fun ln b => if (if lw ω ln 0 = 0 then (1 : Int32) else 0) = κ ∧ ¬ cnS ω i ln = 0 then b + (if lw ω ln 0 = -1 then - lw ω ln 1 else lw ω ln 1) else b) 0 (cLn ω) ∧ Fr (fun b => b = l + 6) G r.2) (by omega) ⟨rfl, rfl, rfl, Fr.rf⟩ (fun k q hk hI => ?_)) (fun r hr => ?_)
    · obtain ⟨x2, x3, x4, G1⟩ := q
      obtain ⟨f1, f2, f3, f4⟩ := hI
      have e1 : x2 = _ := f1
      have e2 : x3 = nI (if k = 0 then 0 else le ω (k - 1)) := f2
      have e3 : x4 = nI k := f3
      have e4 : Fr (fun b => b = l + 6) G G1 := f4
      clear f1 f2 f3 f4
      subst e1; subst e3
      have hL1 : FL τ G1 l := e4.fl hL (by omega)
      have hV1 : LV G1 l ω := e4.lv hV (fun b _ _ => by omega)
      have hA1 : ∀ j, j ≤ 10 → ge G1 (l + 5) j = fcS ω i (nI j) 0 := fun j hj => by rw [(e4 (l + 5) (by omega)).2.2.1]; exact hA j hj
      obtain ⟨v0, v1⟩ := hV1.2.2 h1
      show gOk (b_X1_sumOfLines_7 τ n l κ _ _ _ _) _
      unfold b_X1_sumOfLines_7
      rw [v0, hc]
      by_cases hlt : k < cLn ω
      · obtain ⟨u1, u2, u3, u4⟩ := v1 k hlt
        obtain ⟨w1, w2, w3, w4, w5, -⟩ := hls k hlt
        have hk0 : k < 2 ^ 31 := by omega
        have k52 : ∀ (v : Int32) (G2 : gG), FL τ G2 l → LV G2 l ω → Fr (fun b => b = l + 6) G G2 → v = acc (fun ln b => if (if lw ω ln 0 = 0 then (1 : Int32) else 0) = κ ∧ ¬ cnS ω i ln = 0 then b + (if lw ω ln 0 = -1 then - lw ω ln 1 else lw ω ln 1) else b) 0 (k + 1) → gOk (k_X1_sumOfLines_52 τ n l κ v (nI k) G2) (gKK (fun s' => k < cLn ω ∧ s'.1 = acc (fun ln b => if (if lw ω ln 0 = 0 then (1 : Int32) else 0) = κ ∧ ¬ cnS ω i ln = 0 then b + (if lw ω ln 0 = -1 then - lw ω ln 1 else lw ω ln 1) else b) 0 (k + 1) ∧ s'.2.1 = nI (if k + 1 = 0 then 0 else le ω (k + 1 - 1)) ∧ s'.2.2.1 = nI (k + 1) ∧ Fr (fun b => b = l + 6) G s'.2.2.2) (fun r => r.1 = acc (fun ln b => if (if lw ω ln 0 = 0 then (1 : Int32) else 0) = κ ∧ ¬ cnS ω i ln = 0 then b + (if lw ω ln 0 = -1 then - lw ω ln 1 else lw ω ln 1) else b) 0 (cLn ω) ∧ Fr (fun b => b = l + 6) G r.2)) := by
          intro v G2 hL2 hV2 hf hv
          unfold k_X1_sumOfLines_52
          simp only [hL2.rf, ka_bs, hL2.f3 k rfl (by omega), nI_clamp hk0, (((hV2.2.2 h1).2 k hlt).2.2.1), ka_letE]
          refine ⟨_, rfl, hlt, hv, ?_, nI_1 k, hf⟩
          exact w3
        simp only [nI_n hlt (by omega), if_false, hL1.rf, ka_bs, hL1.f1 k rfl (by omega), hL1.f3 k rfl (by omega), nI_clamp hk0, u1, u3]
        refine ka_ite (fun hw => ?_) (fun hw => ?_)
        · rw [ka_bind2, e2, ← w5, w3]
          refine gOk.mono (s_conditionHolds hL1 hV1 hA1 hK hLI h1 hlt hn) (fun r hr => ?_)
          obtain ⟨v, G2⟩ := r
          obtain ⟨a1, a2⟩ := hr
          have a1 : v = cnS ω i k := a1
          have a2 : Fr (fun b => b = l + 6) G1 G2 := a2
          subst a1
          have hL2 : FL τ G2 l := a2.fl hL1 (by omega)
          have hV2 : LV G2 l ω := a2.lv hV1 (fun b _ _ => by omega)
          refine ka_ite (fun hz => ?_) (fun hz => ?_)
          · refine k52 _ G2 hL2 hV2 (e4.tr a2) ?_
            rw [acc_s, if_neg (fun h => h.2 hz)]
          · simp only [hL2.rf, ka_bs, hL2.f2 k rfl (by omega), nI_clamp hk0, (((hV2.2.2 h1).2 k hlt).2.1), ka_letE]
            refine k52 _ G2 hL2 hV2 (e4.tr a2) ?_
            rw [acc_s]
            exact (if_pos ⟨hw, hz⟩).symm
        · refine k52 _ G1 hL1 hV1 e4 ?_
          rw [acc_s, if_neg (fun h => hw h.1)]
      · have hkN : k = cLn ω := by omega
        subst hkN
        rw [if_pos (nI_le (Nat.le_refl _) (by omega))]
        exact ⟨_, rfl, rfl, e4⟩
    · obtain ⟨v, G1⟩ := r
      exact ⟨_, rfl, hr.1, hr.2⟩
  · rw [if_neg h1]
    refine gOk.mono (ka_loop 0 (fun k q => q = (0, 0, 0, G)) (K := fun r => r = (0, G)) (by omega) rfl (fun k q hk hI => ?_)) (fun r hr => ?_)
    · subst hI
      refine ⟨.inr (0, G), ?_, rfl⟩
      show b_X1_sumOfLines_7 τ n l κ 0 0 0 G = _
      unfold b_X1_sumOfLines_7
      rw [hV.2.1 h1, if_pos (by decide)]
    · subst hr
      exact ⟨_, rfl, rfl, Fr.rf⟩
theorem s_isWinter (hV : VS G s ω) : f_X6_isWinter s G = some (wiS ω) := by
  unfold f_X6_isWinter wiS
  simp only [hV.cn, ka_si]
/-- where the scratch of a law lies -/
abbrev scr (l : Nat) : Nat → Prop := fun b => b = l + 5 ∨ b = l + 6
theorem s_bearing (hF : FS τ G s) (hV : VS G s ω) (hI : WI ω) (hL : FL τ G l) (hLV : LV G l ω) (hLI : LI ω) (hR : RV G a ω i) (hK : ROK ω i) (hsl : s + 31 < l ∨ l + 6 < s) (hal : a < l ∨ l + 6 < a) (hn : 500 < n) : gOk (f_X6_bearing τ n s a l G) (fun q => q.1 = beS ω i ∧ Fr (scr l) G q.2) := by
  have hy := hI.y1
  obtain ⟨⟨e0, e1, e2⟩, l0, l1, l2⟩ := hK.y
  have m0 : ry ω i 0 < 10 := by omega
  have m1 : ry ω i 1 < 10 := by omega
  have m2 : ry ω i 2 < 10 := by omega
  obtain ⟨r0, r1, r2, r3, r4, r5, r6, r7, r8, r9⟩ := hR.f
  unfold f_X6_bearing
  rw [r9]
  by_cases h : rv ω i 8 = 0
  · have eb : beS ω i = gmax 0 (soS ω (ry ω i 0) + soS ω (ry ω i 1) + soS ω (ry ω i 2) + smS ω i 1 - smS ω i (-1) - rv ω i 5 / 10) * rv ω i 7 := if_pos h
    rw [if_pos h]
    obtain ⟨G5, h5, hA, hf5⟩ := s_regard hL hR hK (hV.2.1 _ l0) (hV.2.1 _ l1) (hV.2.1 _ l2)
    have hL5 : FL τ G5 l := hf5.fl hL (by omega)
    have hLV5 : LV G5 l ω := hf5.lv hLV (fun b _ _ => by omega)
    have so : ∀ y, y < cY ω → f_X9_soundness (s + 6 + y) G5 = some (soS ω y) := fun y hyl => by
      unfold f_X9_soundness soS
      rw [(hf5 (s + 6 + y) (by omega)).1, (hf5 (s + 6 + y) (by omega)).1, (hV.y hyl).1, (hV.y hyl).2.2.1, gmax_c]
    rw [r0, e0, hF.yarnAt m0, ka_bs, hF.ky m0, r1, e1, hF.yarnAt m1, ka_bs, hF.ky m1, r2, e2, hF.yarnAt m2, ka_bs, hF.ky m2, s_isWinter hV, ka_bs, h5, ka_bs, so _ l0, ka_bs, so _ l1, ka_bs, so _ l2, ka_bs, ka_bind2]
    refine gOk.mono (s_sumOfLines hL5 hLV5 hA hK hLI hn) (fun r hr => ?_)
    obtain ⟨v, G6⟩ := r
    obtain ⟨b1, b2⟩ := hr
    have b1 : v = smC ω i 0 := b1
    have b2 : Fr (fun b => b = l + 6) G5 G6 := b2
    subst b1
    have a5 : gi G6 5 5 a = rv ω i 5 := by rw [(b2 a (by omega)).1, (hf5 a (by omega)).1]; exact r5
    have a6 : gi G6 5 6 a = rv ω i 7 := by rw [(b2 a (by omega)).1, (hf5 a (by omega)).1]; exact r6
    refine ⟨_, rfl, ?_, (hf5.mono (fun b hb => Or.inl hb)).tr (b2.mono (fun b hb => Or.inr hb))⟩
    show gmax (soS ω (ry ω i 0) + soS ω (ry ω i 1) + soS ω (ry ω i 2) + smC ω i 0 - gi G6 5 5 a / 10) 0 * gi G6 5 6 a = _
    rw [eb, a5, a6, smC0 hLI, i3_as, gmax_c]
  · rw [if_neg h]
    exact ⟨_, rfl, (if_neg h).symm, Fr.rf⟩
theorem s_wearing (hF : FS τ G s) (hV : VS G s ω) (hI : WI ω) (hL : FL τ G l) (hLV : LV G l ω) (hLI : LI ω) (hR : RV G a ω i) (hK : ROK ω i) (hsl : s + 31 < l ∨ l + 6 < s) (hal : a < l ∨ l + 6 < a) (hn : 500 < n) : gOk (f_X6_wearing τ n s a l G) (fun q => q.1 = weS ω i ∧ Fr (scr l) G q.2) := by
  have hy := hI.y1
  obtain ⟨⟨e0, e1, e2⟩, l0, l1, l2⟩ := hK.y
  have m0 : ry ω i 0 < 10 := by omega
  have m1 : ry ω i 1 < 10 := by omega
  have m2 : ry ω i 2 < 10 := by omega
  unfold f_X6_wearing weS
  simp only [hR.f, e0, e1, e2]
  rw [hLV.1]
  by_cases h : ω 4 = 1
  · rw [if_neg (by rw [h]; decide), if_pos h]
    obtain ⟨G5, h5, hA, hf5⟩ := s_regard hL hR hK (hV.2.1 _ l0) (hV.2.1 _ l1) (hV.2.1 _ l2)
    have hL5 : FL τ G5 l := hf5.fl hL (by omega)
    have hLV5 : LV G5 l ω := hf5.lv hLV (fun b _ _ => by omega)
    simp only [hF.yarnAt m0, hF.yarnAt m1, hF.yarnAt m2, ka_bs, hF.ky m0, hF.ky m1, hF.ky m2, s_isWinter hV, h5]
    rw [ka_bind2]
    refine gOk.mono (s_sumOfLines hL5 hLV5 hA hK hLI hn) (fun r hr => ?_)
    obtain ⟨v, G6⟩ := r
    obtain ⟨b1, b2⟩ := hr
    refine ⟨_, rfl, ?_, (hf5.mono (fun b hb => Or.inl hb)).tr (b2.mono (fun b hb => Or.inr hb))⟩
    rw [← smC1 hLI]
    exact b1
  · have h0 : ω 4 = 0 := (bt01 hI.2.1.2.1).resolve_right h
    rw [if_pos h0, if_neg h]
    exact ⟨_, rfl, rfl, Fr.rf⟩
end
