/-! SEASONS: the class -/
section
variable {τ : gτ} {n : Nat} {G G' : gG} {s l : Nat} {ω ω' : gW}
def SV (τ : gτ) (G : gG) (s l : Nat) (ω : gW) : Prop := FS τ G s ∧ VS G s ω ∧ WI ω ∧ FL τ G l ∧ LV G l ω ∧ LI ω ∧ (s + 31 < l ∨ l + 6 < s)
abbrev sq (s l : Nat) : Nat → Prop := fun b => (s ≤ b ∧ b ≤ s + 31) ∨ b = l + 5 ∨ b = l + 6
theorem SV.goes (h : SV τ G s l ω) (hf : Fr (sq s l) G G') (hF : FS τ G' s) (hV : VS G' s ω') (hW : SW ω ω') : SV τ G' s l ω' := by
  obtain ⟨a, b, c, d, e, f, g⟩ := h
  exact ⟨hF, hV, hW.1, hf.fl d (by omega), hW.lv (hf.lv e fun b h1 h2 => by omega), hW.li f, g⟩
/-- scratch of the law alone -/
theorem SV.scr (h : SV τ G s l ω) (hf : Fr (scr l) G G') : SV τ G' s l ω := by
  obtain ⟨a, b, c, d, e, f, g⟩ := h
  exact ⟨hf.fs a fun b h1 h2 => by omega, hf.vs c b fun b h1 h2 => by omega, c, hf.fl d (by omega), hf.lv e fun b h1 h2 => by omega, f, g⟩
theorem scr_sq (hf : Fr (scr l) G G') : Fr (sq s l) G G' := hf.mono fun b hb => Or.inr hb
theorem spn_sq (hf : Fr (spn s) G G') : Fr (sq s l) G G' := hf.mono fun b hb => Or.inl hb
theorem s_add (hF : FS τ G s) {nx a : Nat} {c v : Int32} (hnx : nx < 60) (h1 : gi G 0 1 (s + 4) = c) (h2 : gi G 0 2 (s + 4) = nI nx) : ∃ G', f_X0_add τ (s + 4) v a G = some G' ∧ gi G' 0 1 (s + 4) = gmin (c + 1) 60 ∧ gi G' 0 2 (s + 4) = nI ((nx + 1) % 60) ∧ (∀ j, ge G' (s + 5) j = if j = nx * 5 + 4 then gi G 5 7 a else if j = nx * 5 + 3 then gi G 5 2 a else if j = nx * 5 + 2 then gi G 5 1 a else if j = nx * 5 + 1 then gi G 5 0 a else if j = nx * 5 then v else ge G (s + 5) j) ∧ Fr (fun b => b = s + 4 ∨ b = s + 5) G G' ∧ ∀ c k d, gr G' c k d = gr G c k d := by
  have r0 := hF.rf.2.2.2.2
  have hl := hF.ln.2.2.2
  have i5 : nI nx * (5 : Int32) = nI (nx * 5) := pk_mul nx 5
  have i1 : nI (nx * 5) + (1 : Int32) = nI (nx * 5 + 1) := ka_ix rfl
  have i2 : nI (nx * 5) + (2 : Int32) = nI (nx * 5 + 2) := ka_ix rfl
  have i3 : nI (nx * 5) + (3 : Int32) = nI (nx * 5 + 3) := ka_ix rfl
  have i4 : nI (nx * 5) + (4 : Int32) = nI (nx * 5 + 4) := ka_ix rfl
  have c' : ∀ {d : Nat}, d < 300 → ∀ {ρ : Type} {e : Option ρ}, gchk (gIn (nI d) (gn τ (s + 5))) e = e := fun {d} hd {ρ e} => ka_chkT (by rw [hl]; exact ka_in hd (by decide))
  have er : (nI nx + (1 : Int32)) - (nI nx + 1) / 60 * 60 = nI ((nx + 1) % 60) := by
    rw [nI_1]
    exact pk_rem (a := nx + 1) (d := 60) (by omega) (by decide) (by decide)
  have fE : ∀ {G : gG} {i : Nat} {v : Int32}, Fr (fun b => b = s + 4 ∨ b = s + 5) G (gse G (s + 5) i v) := fun {G i v} => Fr.e (A := fun b => b = s + 4 ∨ b = s + 5) (Or.inr rfl)
  have fI : ∀ {G : gG} {q : Nat} {v : Int32}, Fr (fun b => b = s + 4 ∨ b = s + 5) G (gsi G 0 q (s + 4) v) := fun {G q v} => Fr.i (A := fun b => b = s + 4 ∨ b = s + 5) (Or.inl rfl)
  unfold f_X0_add
  simp only [ka_letE, h2, i5, i1, i2, i3, i4, ka_re, ka_ie, r0, ka_bs, c' (show nx * 5 < 300 by omega), c' (show nx * 5 + 1 < 300 by omega), c' (show nx * 5 + 2 < 300 by omega), c' (show nx * 5 + 3 < 300 by omega), c' (show nx * 5 + 4 < 300 by omega), nI_clamp (show nx * 5 < 2 ^ 31 by omega), nI_clamp (show nx * 5 + 1 < 2 ^ 31 by omega), nI_clamp (show nx * 5 + 2 < 2 ^ 31 by omega), nI_clamp (show nx * 5 + 3 < 2 ^ 31 by omega), nI_clamp (show nx * 5 + 4 < 2 ^ 31 by omega), er]
  refine ⟨_, rfl, ?_, ?_, fun j => ?_, (((((fE.tr fE).tr fE).tr fE).tr fE).tr fI).tr fI, fun _ _ _ => rfl⟩
  · simp [ka_ii, ka_ie, h1]
  · simp [ka_ii]
  · simp [ka_ei, ka_ee]
theorem s_snap (hF : FS τ G s) (hV : VS G s ω) (hJ : WJ ω) {k : Nat} (hk : k < cR ω) : gOk (f_X6_snap τ s (s + 16 + k) G) (fun G' => VS G' s (brkW ω k) ∧ FS τ G' s ∧ Fr (spn s) G G') := by
  obtain ⟨⟨⟨-, hyy⟩, ⟨-, hrr⟩, -, hoo⟩, -, -, -, -, -, h11, h60⟩ := id hJ
  have hk8 : k < 8 := by omega
  obtain ⟨d0, d1, d2, d3, d4, d5, d6, d7, d8, d9, d10⟩ := hV.cn
  obtain ⟨r0, r1, r2, r3, r4, r5, r6, r7, r8, r9⟩ := (hV.r hk).f
  obtain ⟨l1, nx, hnx, l2, l3⟩ := hV.2.2.2.2
  obtain ⟨G2, e2, a1, a2, a3, f2, g2⟩ := s_add (v := gi G 6 10 s) (a := s + 16 + k) hF hnx l1 l2
  have hs2 := (f2 s (by omega)).1
  have hk2 := (f2 (s + 16 + k) (by omega)).1
  have hF2 : FS τ G2 s := ⟨by obtain ⟨p1, p2, p3, p4, p5⟩ := hF.rf; exact ⟨by rw [g2, p1], by rw [g2, p2], by rw [g2, p3], by rw [g2, p4], by rw [g2, p5]⟩, hF.2.1, fun i hi => by rw [(f2 (s + 1) (by omega)).2.2.2.1]; exact hF.2.2.1 i hi, fun i hi => by rw [(f2 (s + 2) (by omega)).2.2.2.1]; exact hF.2.2.2.1 i hi, fun i hi => by rw [(f2 (s + 3) (by omega)).2.2.2.1]; exact hF.2.2.2.2 i hi⟩
  unfold f_X6_snap
  rw [hF.rf.2.2.2.1, ka_bs, e2, ka_bs, ka_letE, ka_letE, ka_letE, ka_letE]
  refine ⟨_, rfl, ?_⟩
  show VS _ s (brkW ω k) ∧ FS τ _ s ∧ Fr (spn s) G _
  generalize hG6 : gsi (gsi (gsi (gsi G2 6 13 s _) 6 14 s _) 5 7 (s + 16 + k) 0) 5 9 (s + 16 + k) 1 = G6
  have f6 : Fr (fun b => b = s ∨ b = s + 16 + k) G2 G6 := by
    rw [← hG6]
    exact (((Fr.i (A := fun b => b = s ∨ b = s + 16 + k) (Or.inl rfl)).tr (Fr.i (A := fun b => b = s ∨ b = s + 16 + k) (Or.inl rfl))).tr (Fr.i (A := fun b => b = s ∨ b = s + 16 + k) (Or.inr rfl))).tr (Fr.i (A := fun b => b = s ∨ b = s + 16 + k) (Or.inr rfl))
  have hF6 : FS τ G6 s := by rw [← hG6]; exact hF2
  have f : Fr (fun b => b = s ∨ b = s + 4 ∨ b = s + 5 ∨ b = s + 16 + k) G G6 := (f2.mono fun b hb => by rcases hb with h | h <;> omega).tr (f6.mono fun b hb => by rcases hb with h | h <;> omega)
  have X : ∀ j, j < 53 → j ≠ 8 → j ≠ 9 → j ≠ 11 → brkW ω k j = ω j := fun j h h8 h9 h11 => brkW.xx hk8 h8 h9 h11 (by omega)
  have hd : gi G6 6 4 s = ω 0 ∧ gi G6 6 5 s = ω 1 ∧ gi G6 6 6 s = ω 2 ∧ gi G6 6 7 s = ω 3 ∧ gi G6 6 8 s = ω 6 ∧ gi G6 6 9 s = ω 7 ∧ gi G6 6 10 s = ω 5 ∧ gi G6 6 11 s = ω 12 ∧ gi G6 6 12 s = ω 10 ∧ gi G6 6 13 s = ω 8 + rv ω k 9 ∧ gi G6 6 14 s = ω 9 + 1 := by
    rw [← hG6]
    simp only [ka_ii]
    simp [hs2, hk2, d0, d1, d2, d3, d4, d5, d6, d7, d8, d9, d10, r7]
  have hRk : RV G6 (s + 16 + k) (brkW ω k) k := by
    have E : ∀ j, j < 10 → j ≠ 8 → j ≠ 9 → rv (brkW ω k) k j = rv ω k j := fun j hj h8 h9 => by rw [brkW.e hk8 (by omega) hj, if_neg (fun h => h9 h.2), if_neg (fun h => h8 h.2)]
    have e8 : rv (brkW ω k) k 8 = 1 := by rw [brkW.e hk8 (by omega) (by decide), if_neg (by omega), if_pos ⟨rfl, rfl⟩]
    have e9 : rv (brkW ω k) k 9 = 0 := by rw [brkW.e hk8 (by omega) (by decide), if_pos ⟨rfl, rfl⟩]
    unfold RV
    rw [E 0 (by decide) (by decide) (by decide), E 1 (by decide) (by decide) (by decide), E 2 (by decide) (by decide) (by decide), E 3 (by decide) (by decide) (by decide), E 4 (by decide) (by decide) (by decide), E 5 (by decide) (by decide) (by decide), E 6 (by decide) (by decide) (by decide), E 7 (by decide) (by decide) (by decide), e8, e9]
    rw [← hG6]
    simp [ka_ii, hk2, r0, r1, r2, r3, r4, r5, r6, r8]
  obtain ⟨h8, h9, h11'⟩ := brkW.h (ω := ω) (k := k) hk8
  obtain ⟨c1, c2⟩ := cL_brk (ω := ω) (k := k) hk8 hJ
  refine ⟨⟨?_, fun i hi => ?_, fun i hi => ?_, fun i hi => ?_, ?_, (nx + 1) % 60, by omega, ?_, fun q w hq hw => ?_⟩, hF6, f.mono fun b hb => by show s ≤ b ∧ b ≤ s + 31; rcases hb with h | h | h | h <;> omega⟩
  · rw [X 0 (by decide) (by decide) (by decide) (by decide), X 1 (by decide) (by decide) (by decide) (by decide), X 2 (by decide) (by decide) (by decide) (by decide), X 3 (by decide) (by decide) (by decide) (by decide), X 6 (by decide) (by decide) (by decide) (by decide), X 7 (by decide) (by decide) (by decide) (by decide), X 5 (by decide) (by decide) (by decide) (by decide), X 12 (by decide) (by decide) (by decide) (by decide), X 10 (by decide) (by decide) (by decide) (by decide), h8, h9]
    exact hd
  · have e : cY (brkW ω k) = cY ω := by unfold cY; rw [X 0 (by decide) (by decide) (by decide) (by decide)]
    rw [e] at hi
    exact (hV.yv hi).same (f (s + 6 + i) (by omega)) fun q hq => X _ (by omega) (by omega) (by omega) (by omega)
  · have e : cR (brkW ω k) = cR ω := by unfold cR; rw [X 1 (by decide) (by decide) (by decide) (by decide)]
    rw [e] at hi
    by_cases hik : i = k
    · rw [hik]; exact hRk
    · exact (hV.r hi).same (f (s + 16 + i) (by omega)) fun j hj => by rw [brkW.e hk8 (by omega) hj, if_neg (fun h => hik h.1), if_neg (fun h => hik h.1)]
  · have e : cO (brkW ω k) = cO ω := by unfold cO; rw [X 2 (by decide) (by decide) (by decide) (by decide)]
    rw [e] at hi
    exact (hV.ov hi).same (f (s + 24 + i) (by omega)) fun q hq => brkW.xx hk8 (by omega) (by omega) (by omega) (by omega)
  · rw [(f6 (s + 4) (by omega)).1, a1, h11', gmin_c]
  · rw [(f6 (s + 4) (by omega)).1, a2]
  · rw [(f6 (s + 5) (by omega)).2.2.1, a3]
    rw [c2] at hq
    by_cases hq0 : q = 0
    · subst hq0
      have ex : ((nx + 1) % 60 + 59 - 0) % 60 = nx := by omega
      rw [ex, show 167 + 5 * 0 + w = 167 + w by omega, brkW.l0 hk8 hw]
      match w, hw with
      | 0, _ => rw [if_neg (by omega), if_neg (by omega), if_neg (by omega), if_neg (by omega), if_pos (by omega), d6]; rfl
      | 1, _ => rw [if_neg (by omega), if_neg (by omega), if_neg (by omega), if_pos rfl, r0]; rfl
      | 2, _ => rw [if_neg (by omega), if_neg (by omega), if_pos rfl, r1]; rfl
      | 3, _ => rw [if_neg (by omega), if_pos rfl, r2]; rfl
      | 4, _ => rw [if_pos rfl, r7]; rfl
    · obtain ⟨p, rfl⟩ : ∃ p, q = p + 1 := ⟨q - 1, by omega⟩
      have ex : ((nx + 1) % 60 + 59 - (p + 1)) % 60 = (nx + 59 - p) % 60 := by omega
      have hne : (nx + 59 - p) % 60 ≠ nx := by omega
      rw [ex, if_neg (by omega), if_neg (by omega), if_neg (by omega), if_neg (by omega), if_neg (by omega), l3 p w (by omega) hw, brkW.ls hk8 (by omega) (by omega)]
      congr 1
      omega
theorem s_fray41 (h : SV τ G s l ω) (hn : 500 < n) {k : Nat} (hk : k < cR ω) (h8 : rv ω k 8 = 0) : gOk (k_X6_fray_41 τ n s (s + 16 + k) l G) (fun G' => SV τ G' s l (frW ω k) ∧ Fr (sq s l) G G') := by
  obtain ⟨hF, hV, hI, hL, hLV, hLI, hsl⟩ := id h
  have hr := hI.r1
  have hW := SW.fr hI hLI hk h8
  unfold k_X6_fray_41
  rw [ka_bind2]
  refine gOk.mono (s_wearing hF hV hI hL hLV hLI (hV.r hk) (hI.r hk) hsl (by omega) hn) fun p hp => ?_
  obtain ⟨p1, p2⟩ := hp
  have h2 := h.scr p2
  obtain ⟨hF2, hV2, -⟩ := id h2
  obtain ⟨r0, r1, r2, r3, r4, r5, r6, r7, r8, r9⟩ := (hV2.r hk).f
  rw [ka_letE, p1, (hV.r hk).f.2.2.2.2.2.1, gmin_c]
  generalize hG3 : gsi p.2 5 5 (s + 16 + k) (gmin 99 (rv ω k 5 + weS ω k)) = G3
  have f3 : Fr (fun b => b = s + 16 + k) p.2 G3 := by rw [← hG3]; exact Fr.i rfl
  have hF3 : FS τ G3 s := by rw [← hG3]; exact hF2
  have hR3 : RV G3 (s + 16 + k) (wrW ω k) k := by
    unfold RV
    simp only [wrW.e (show 0 < 10 by decide), wrW.e (show 1 < 10 by decide), wrW.e (show 2 < 10 by decide), wrW.e (show 3 < 10 by decide), wrW.e (show 4 < 10 by decide), wrW.e (show 5 < 10 by decide), wrW.e (show 6 < 10 by decide), wrW.e (show 7 < 10 by decide), wrW.e (show 8 < 10 by decide), wrW.e (show 9 < 10 by decide)]
    rw [← hG3]
    simp [ka_ii, r0, r1, r2, r3, r4, r6, r7, r8, r9]
  have hV3 : VS G3 s (wrW ω k) := wrW.re.vs hk hI hV2 f3 hR3
  have fA : Fr (sq s l) G G3 := (scr_sq p2).tr (f3.mono fun b hb => by omega)
  have w8 : gi G3 5 8 (s + 16 + k) = rv ω k 6 := hR3.f.2.2.2.2.2.2.2.2.1.trans ((wrW.e (by decide)).trans (if_neg (by decide)))
  have w3 : gi G3 5 3 (s + 16 + k) = rv ω k 3 := hR3.f.2.2.2.1.trans ((wrW.e (by decide)).trans (if_neg (by decide)))
  rw [w8]
  unfold frW at hW ⊢
  rcases bt01 (hI.r hk).2.2.1.2.2.2.1 with h6 | h6
  · have h61 : ¬ rv ω k 6 = 1 := by rw [h6]; exact ka_n01
    rw [if_neg h61] at hW
    rw [if_pos h6, if_neg h61, ka_letE, w3]
    generalize hG4 : gsi G3 5 3 (s + 16 + k) (rv ω k 3 - 1) = G4
    obtain ⟨q0, q1, q2, q3, q4, q5, q6, q7, q8, q9⟩ := hR3.f
    have f4 : Fr (fun b => b = s + 16 + k) G3 G4 := by rw [← hG4]; exact Fr.i rfl
    have hF4 : FS τ G4 s := by rw [← hG4]; exact hF3
    have hR4 : RV G4 (s + 16 + k) (lnW ω k) k := by
      have E : ∀ j, j < 10 → j ≠ 3 → rv (lnW ω k) k j = rv (wrW ω k) k j := fun j hj h3 => rv_rS0 (by decide) hj h3
      unfold RV
      rw [E 0 (by decide) (by decide), E 1 (by decide) (by decide), E 2 (by decide) (by decide), E 4 (by decide) (by decide), E 5 (by decide) (by decide), E 6 (by decide) (by decide), E 7 (by decide) (by decide), E 8 (by decide) (by decide), E 9 (by decide) (by decide), show rv (lnW ω k) k 3 = rv ω k 3 - 1 from rv_rS1 (by decide)]
      rw [← hG4]
      simp [ka_ii, q0, q1, q2, q4, q5, q6, q7, q8, q9]
    have hV4 : VS G4 s (lnW ω k) := lnW.re.vs hk hI hV2 (f3.tr f4) hR4
    have fB : Fr (sq s l) G G4 := fA.tr (f4.mono fun b hb => by omega)
    rw [hR4.f.2.2.2.1, show rv (lnW ω k) k 3 = rv ω k 3 - 1 from rv_rS1 (by decide)]
    obtain ⟨a, a1, a2, ha⟩ := (hI.r hk).2.2.2.2 h8
    have e3 : rv ω k 3 - 1 = nI (a - 1) := by rw [ha]; exact nI_sub (b := 1) a1
    by_cases h3 : rv ω k 3 - 1 = 0
    · rw [if_pos h3] at hW
      rw [if_pos h3, if_neg (by rw [h3]; exact (by decide : ¬ (0 : Int32) < 0)), ka_bind]
      obtain ⟨hJ, -⟩ := SW.ln0 hI hLI hk h8
      refine gOk.mono (s_snap hF4 hV4 hJ (k := k) (by rw [(lnW.re.cs (show k < 8 by omega)).2.1]; exact hk)) fun G5 h5 => ?_
      obtain ⟨v5, s5, f5⟩ := h5
      have fC : Fr (sq s l) G G5 := fB.tr (spn_sq f5)
      exact ⟨_, rfl, h.goes fC s5 v5 hW, fC⟩
    · rw [if_neg h3] at hW
      have hpos : (0 : Int32) < rv ω k 3 - 1 := by
        rw [e3]
        rcases Nat.eq_zero_or_pos (a - 1) with h0 | h0
        · rw [e3, h0] at h3; exact absurd rfl h3
        · exact nI_lt (a := 0) h0 (by omega)
      rw [if_neg h3, if_pos hpos]
      exact ⟨_, rfl, h.goes fB hF4 hV4 hW, fB⟩
  · have h60 : ¬ rv ω k 6 = 0 := by rw [h6]; exact ka_n10
    rw [if_pos h6] at hW
    rw [if_neg h60, if_pos h6]
    exact ⟨_, rfl, h.goes fA hF3 hV3 hW, fA⟩
theorem s_fray (h : SV τ G s l ω) (hn : 500 < n) {k : Nat} (hk : k < cR ω) (h8 : rv ω k 8 = 0) (g : Int32) : gOk (f_X6_fray τ n s (s + 16 + k) g l G) (fun G' => SV τ G' s l (goW ω k g) ∧ Fr (sq s l) G G') := by
  obtain ⟨hF, hV, hI, hL, hLV, hLI, hsl⟩ := id h
  have hr := hI.r1
  have hW := SW.go (g := g) hI hLI hk h8
  have k17 : gOk (k_X6_fray_17 τ n s (s + 16 + k) l (plS ω k g) G) (fun G' => SV τ G' s l (goW ω k g) ∧ Fr (sq s l) G G') := by
    unfold k_X6_fray_17
    unfold goW at hW ⊢
    by_cases h0 : plS ω k g ≤ 0
    · rw [if_pos h0, if_pos h0]
      exact s_fray41 h hn hk h8
    · rw [if_neg h0] at hW
      rw [if_neg h0, if_neg h0, ka_bind2]
      refine gOk.mono (s_bearing hF hV hI hL hLV hLI (hV.r hk) (hI.r hk) hsl (by omega) hn) fun p hp => ?_
      obtain ⟨p1, p2⟩ := hp
      have h2 := h.scr p2
      rw [p1]
      by_cases h1 : plS ω k g ≤ beS ω k
      · rw [if_pos h1, if_pos h1]
        exact gOk.mono (s_fray41 h2 hn hk h8) fun G' h' => ⟨h'.1, (scr_sq p2).tr h'.2⟩
      · rw [if_neg h1] at hW
        rw [if_neg h1, if_neg h1, ka_bind]
        refine gOk.mono (s_snap h2.1 h2.2.1 hI.j hk) fun G5 h5 => ?_
        obtain ⟨v5, s5, f5⟩ := h5
        have fC : Fr (sq s l) G G5 := (scr_sq p2).tr (spn_sq f5)
        exact ⟨_, rfl, h.goes fC s5 v5 hW, fC⟩
  unfold f_X6_fray
  rw [(hV.r hk).f.2.2.2.2.2.2.2.1]
  unfold plS at k17
  by_cases hg : g = 0
  · rw [if_pos hg] at k17 ⊢; exact k17
  · rw [if_neg hg] at k17 ⊢; exact k17
theorem s_draw (h : SV τ G s l ω) : ∃ G', f_X6_draw s G = some (drD ω, G') ∧ SV τ G' s l (drW ω) ∧ Fr (sq s l) G G' := by
  obtain ⟨hF, hV, hI, hL, hLV, hLI, hsl⟩ := id h
  obtain ⟨a0, a1, a2, a3, a4, a5, a6, a7, a8, a9, a10⟩ := hV.cn
  have f1 : Fr (fun b => b = s) G (gsi G 6 11 s (1103515245 * ω 12 + 12345)) := Fr.i rfl
  have hV1 : VS (gsi G 6 11 s (1103515245 * ω 12 + 12345)) s (drW ω) := by
    refine vs_head (drW.xx (by decide)) (drW.xx (by decide)) (drW.xx (by decide)) (drW.xx (by decide)) (fun j hj => drW.xx (by omega)) hI hV f1 ?_
    rw [drW.xx (show 0 ≠ 12 by decide), drW.xx (show 1 ≠ 12 by decide), drW.xx (show 2 ≠ 12 by decide), drW.xx (show 3 ≠ 12 by decide), drW.xx (show 6 ≠ 12 by decide), drW.xx (show 7 ≠ 12 by decide), drW.xx (show 5 ≠ 12 by decide), drW.xx (show 10 ≠ 12 by decide), drW.xx (show 8 ≠ 12 by decide), drW.xx (show 9 ≠ 12 by decide), show drW ω 12 = 1103515245 * ω 12 + 12345 from wSt_eq]
    simp [ka_ii, a0, a1, a2, a3, a4, a5, a6, a8, a9, a10]
  have f2 : Fr (sq s l) G (gsi G 6 11 s (1103515245 * ω 12 + 12345)) := f1.mono fun b hb => by omega
  refine ⟨_, ?_, h.goes f2 hF.head hV1 (SW.dr hI), f2⟩
  unfold f_X6_draw
  rw [ka_letE, a7, hV1.cn.2.2.2.2.2.2.2.1, draw_e]
  rfl
theorem s_end (h : SV τ G s l ω) : ∃ G', f_X6_endSeason s G = some G' ∧ SV τ G' s l (endW ω) ∧ Fr (sq s l) G G' := by
  obtain ⟨hF, hV, hI, hL, hLV, hLI, hsl⟩ := id h
  obtain ⟨a0, a1, a2, a3, a4, a5, a6, a7, a8, a9, a10⟩ := hV.cn
  have X : ∀ j, j ≠ 5 → endW ω j = ω j := fun j h => wSt_ne h
  have f1 : Fr (fun b => b = s) G (gsi G 6 10 s (gmin 9999 (ω 5 + 1))) := Fr.i rfl
  have hV1 : VS (gsi G 6 10 s (gmin 9999 (ω 5 + 1))) s (endW ω) := by
    refine vs_head (X 0 (by decide)) (X 1 (by decide)) (X 2 (by decide)) (X 11 (by decide)) (fun j hj => X j (by omega)) hI hV f1 ?_
    rw [X 0 (by decide), X 1 (by decide), X 2 (by decide), X 3 (by decide), X 6 (by decide), X 7 (by decide), X 12 (by decide), X 10 (by decide), X 8 (by decide), X 9 (by decide), show endW ω 5 = gmin 9999 (ω 5 + 1) from wSt_eq]
    simp [ka_ii, a0, a1, a2, a3, a4, a5, a7, a8, a9, a10]
  have f2 : Fr (sq s l) G (gsi G 6 10 s (gmin 9999 (ω 5 + 1))) := f1.mono fun b hb => by omega
  refine ⟨_, ?_, h.goes f2 hF.head hV1 (SW.en hI), f2⟩
  unfold f_X6_endSeason
  rw [ka_letE, a6, gmin_c]
end
