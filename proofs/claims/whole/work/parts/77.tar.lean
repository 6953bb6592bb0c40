/-! CALLS: tar, whip, twice -/
section
variable {τ : gτ} {n : Nat} {G G' : gG} {x m s t l l' o : Nat} {ω ω' : gW} {im : Option gW} {me : List gW} {ta : List Nat} {fa : Int32}
def rS (ω : gW) (i j : Nat) (v : Int32) : gW := wSt ω (53 + 10 * i + j) v
theorem rv_rS {i j i' j' : Nat} {v : Int32} (hj : j < 10) (hj' : j' < 10) : rv (rS ω i j v) i' j' = if i' = i ∧ j' = j then v else rv ω i' j' := rv_wSt hj hj'
theorem rv_rS1 {i j : Nat} {v : Int32} (hj : j < 10) : rv (rS ω i j v) i j = v := by rw [rv_rS hj hj, if_pos ⟨rfl, rfl⟩]
theorem rv_rS0 {i j j' : Nat} {v : Int32} (hj : j < 10) (hj' : j' < 10) (h : j' ≠ j) : rv (rS ω i j v) i j' = rv ω i j' := by rw [rv_rS hj hj', if_neg (fun e => h e.2)]
theorem RE.rs {k j : Nat} {v : Int32} (h : RE k ω ω') (hj : j < 10) : RE k ω (rS ω' k j v) := h.st hj
theorem rok_set {k : Nat} (hK : ROK ω k) (hy : cY ω' = cY ω) (h : ∀ j, j < 3 → rv ω' k j = rv ω k j) (h3 : bt (rv ω' k 3) 0 400) (h4 : bt (rv ω' k 4) 0 9) (h5 : bt (rv ω' k 5) 0 99) (h6 : bt (rv ω' k 6) 0 1) (h8 : bt (rv ω' k 8) 0 1) (h9 : bt (rv ω' k 9) 0 999) (h7 : rv ω' k 7 = nI 1 ∨ rv ω' k 7 = nI 2 ∨ rv ω' k 7 = nI 4 ∨ rv ω' k 7 = nI 8) (h38 : rv ω' k 8 = 0 → bt (rv ω' k 3) 1 400) : ROK ω' k := by
  obtain ⟨a, b, -⟩ := hK
  refine ⟨?_, ?_, ⟨h3, h4, h5, h6, h8, h9⟩, h7, h38⟩
  · unfold ry at a ⊢
    rw [h 0 (by decide), h 1 (by decide), h 2 (by decide), hy]
    exact a
  · unfold ry at b ⊢
    rw [h 0 (by decide), h 1 (by decide), h 2 (by decide)]
    exact b
theorem MV.th0 {v : Int32} (h : MV τ G m ω im me ta fa) : MV τ (gsi G 11 0 m v) m ω im me ta fa := by
  have h2 := (h.q (QM.th (v := v))).1
  have e : ge (gsi G 11 0 m v) (m + 1) = ω := h.2.1
  rw [e] at h2
  exact h2
theorem c_sound (hC : CV τ G x s t l l' ω im me ta fa) (hI : WI ω) {k : Nat} (hk : k < cR ω) : f_X10_soundRopeOf τ x (nI k) G = some (if rv ω k 8 = 0 then .inr (s + 16 + k) else .inl x_ISE, G) := by
  have hr := hI.r1
  unfold f_X10_soundRopeOf
  rw [ka_bxr (c_ropeOf hC hI hk), hC.fs.1.kr (by omega), (hC.vs.r hk).f.2.2.2.2.2.2.2.2.2]
  by_cases h8 : rv ω k 8 = 0
  · rw [if_pos h8, if_pos h8]
  · rw [if_neg h8, if_neg h8]
theorem c_soundNo (hC : CV τ G x s t l l' ω im me ta fa) (hI : WI ω) {y : Int32} (hy : y < 0 ∨ nI (cR ω) ≤ y) : f_X10_soundRopeOf τ x y G = some (.inl x_IOE, G) := by
  unfold f_X10_soundRopeOf
  exact ka_bxl (c_ropeNo hC hI hy)
/-- one cell of the reference's world written -/
theorem m_put (hM : FM τ G m) {j : Nat} {v : Int32} (hj : j < 2165) : FM τ (gse G (m + 1) j v) m ∧ ge (gse G (m + 1) j v) (m + 1) = wSt (ge G (m + 1)) j v ∧ Fr (fun b => b = m + 1) G (gse G (m + 1) j v) :=
  ⟨Fr.fm (A := fun b => b = m + 1) (Fr.e rfl) hM (by omega), ge_wSt, Fr.e rfl⟩
theorem m_put2 (hM : MV τ G m ω im me ta fa) {i j : Nat} {v : Int32} : MV τ (gse G (m + 1) (53 + 10 * i + j) v) m (rS ω i j v) im me ta fa ∧ Fr (fun b => b = m + 1) G (gse G (m + 1) (53 + 10 * i + j) v) :=
  ⟨hM.world (Fr.e rfl) (by rw [ge_wSt, hM.2.1]; rfl), Fr.e rfl⟩
theorem bt_tar {v : Int32} (h : bt v 0 9) : bt (gmin 9 (v + 1)) 0 9 := by
  obtain ⟨a, -, h, rfl⟩ := h
  rw [nI_1]
  unfold gmin
  by_cases h1 : nI (a + 1) < 9
  · rw [if_pos h1]
    have : a + 1 < 9 := by
      rcases Nat.lt_or_ge (a + 1) 9 with h | h
      · exact h
      · exact absurd h1 (nI_nlt (a := a + 1) (b := 9) h (by omega))
    exact ⟨a + 1, Nat.zero_le _, by omega, rfl⟩
  · rw [if_neg h1]
    exact ⟨9, by decide, by decide, rfl⟩
theorem bt_tar2 {v : Int32} (h : bt v 0 99) : bt (gmax 0 (v - 5)) 0 99 := by
  obtain ⟨a, -, h, rfl⟩ := h
  have e : ∀ a : Fin 100, gmax 0 (nI a.1 - 5) = nI (a.1 - 5) := by decide +kernel
  rw [e ⟨a, by omega⟩]
  exact ⟨a - 5, Nat.zero_le _, by omega, rfl⟩
def tarW (ω : gW) (k : Nat) : gW := rS (rS ω k 4 (gmin 9 (rv ω k 4 + 1))) k 5 (gmax 0 (rv ω k 5 - 5))
theorem tarW.re {k : Nat} : RE k ω (tarW ω k) := (RE.rf.rs (by decide)).rs (by decide)
theorem tarW.e {k j : Nat} (hj : j < 10) : rv (tarW ω k) k j = if j = 5 then gmax 0 (rv ω k 5 - 5) else if j = 4 then gmin 9 (rv ω k 4 + 1) else rv ω k j := by
  unfold tarW
  by_cases h5 : j = 5
  · rw [if_pos h5, h5, rv_rS1 (by decide)]
  · rw [if_neg h5, rv_rS0 (by decide) hj h5]
    by_cases h4 : j = 4
    · rw [if_pos h4, h4, rv_rS1 (by decide)]
    · rw [if_neg h4, rv_rS0 (by decide) hj h4]
theorem tarW.ok {k : Nat} (hk : k < 8) (hK : ROK ω k) : ROK (tarW ω k) k := by
  obtain ⟨-, -, ⟨c3, c4, c5, c6, c8, c9⟩, c7, c38⟩ := id hK
  refine rok_set hK (tarW.re.cs hk).1 (fun j hj => ?_) ?_ ?_ ?_ ?_ ?_ ?_ ?_ ?_
  · rw [tarW.e (by omega), if_neg (by omega), if_neg (by omega)]
  · rw [tarW.e (by decide)]; exact c3
  · rw [tarW.e (by decide)]; exact bt_tar c4
  · rw [tarW.e (by decide)]; exact bt_tar2 c5
  · rw [tarW.e (by decide)]; exact c6
  · rw [tarW.e (by decide)]; exact c8
  · rw [tarW.e (by decide)]; exact c9
  · rw [tarW.e (by decide)]; exact c7
  · rw [tarW.e (by decide), tarW.e (by decide)]; exact c38
theorem c_tar (hC : CV τ G x s t l l' ω im me ta fa) (hI : IV ω im me ta) (hn : 500 < n) {k : Nat} (hk : k < cR ω) (h8 : rv ω k 8 = 0) : gOk (f_X10_tar τ n x (nI k) G) (fun q => q.1 = .inr (rv (tarW ω k) k 4) ∧ CV τ q.2 x s t l l' (tarW ω k) im (pushM me ω) ta fa ∧ Fr (fun b => x ≤ b ∧ b ≤ x + 511) G q.2) := by
  have hr := hI.1.r1
  have hsl := hC.sl
  have e0 := c_sound hC hI.1 hk
  rw [if_pos h8] at e0
  unfold f_X10_tar
  rw [ka_bxr e0, hC.fs.1.kr (by omega), hC.rf.2.2.2.1, ka_bs, hC.rf.2.2.2.2.2.2.2.2.2.2.1, ka_bs, ka_bind]
  refine gOk.mono (c_keep hC hI hn) fun G1 h1 => ?_
  obtain ⟨hC1, hf1⟩ := h1
  obtain ⟨r0, r1, r2, r3, r4, r5, r6, r7, r8, r9⟩ := (hC1.vs.r hk).f
  have fi : ∀ {G : gG} {c q : Nat} {v : Int32}, Fr (fun b => b = s + 16 + k) G (gsi G c q (s + 16 + k) v) := fun {G c q v} => Fr.i (A := fun b => b = s + 16 + k) rfl
  unfold f_X5_tarOnce
  have e5 : ∀ v, gi (gsi G1 5 4 (s + 16 + k) v) 5 5 (s + 16 + k) = rv ω k 5 := fun v => by rw [ka_ii, if_neg (fun h => absurd h.2.1 (by decide)), r5]
  rw [ka_letE, ka_letE, ka_bs, r4, e5, gmin_c (rv ω k 4 + 1), gmax_c (rv ω k 5 - 5)]
  have hf2 : Fr (fun b => b = s + 16 + k) G1 (gsi (gsi G1 5 4 (s + 16 + k) (gmin 9 (rv ω k 4 + 1))) 5 5 (s + 16 + k) (gmax 0 (rv ω k 5 - 5))) := fi.tr fi
  refine ⟨_, rfl, ?_, hC1.rope hI.push hk tarW.re hf2 ?_, (hf1.mono fun b hb => by omega).tr (hf2.mono fun b hb => by omega)⟩
  · show (Sum.inr _ : String ⊕ Int32) = _
    rw [tarW.e (by decide)]
    simp [ka_ii]
  · unfold RV
    simp only [tarW.e (show 0 < 10 by decide), tarW.e (show 1 < 10 by decide), tarW.e (show 2 < 10 by decide), tarW.e (show 3 < 10 by decide), tarW.e (show 4 < 10 by decide), tarW.e (show 5 < 10 by decide), tarW.e (show 6 < 10 by decide), tarW.e (show 7 < 10 by decide), tarW.e (show 8 < 10 by decide), tarW.e (show 9 < 10 by decide)]
    simp [ka_ii, r0, r1, r2, r3, r6, r7, r8, r9]
theorem m_tar (hM : MV τ G m ω im me ta fa) (hI : IV ω im me ta) (hn : 6000 < n) {k : Nat} (hk : k < cR ω) (h8 : rv ω k 8 = 0) : gOk (f_X11_tar τ n m (nI k) G) (fun p => Th [x_IOE, x_ISE] (.inr (rv (tarW ω k) k 4)) p.1 (gi p.2 11 0 m) ∧ (∃ ω2, WE (tarW ω k) ω2 ∧ MV τ p.2 m ω2 im (pushM me ω) ta fa) ∧ Fr (fun b => m ≤ b ∧ b ≤ m + 10) G p.2) := by
  have hr := hI.1.r1
  have hM2 : MV τ (gsi G 11 0 m 0) m ω im me ta fa := hM.th0
  unfold f_X11_tar
  rw [ka_letE, (m_no hM2.1 hM2.2.1 hI.1 _).2.1, ka_bs, if_neg (no_k hk (by omega)), ka_b2 m_thIf0, if_pos rfl, m_isWhole hM2.1 (by omega), ka_bs, hM2.2.1, if_pos h8, if_neg ka_n10]
  unfold k_X11_tar_32
  rw [ka_b2 m_thIf0, if_pos rfl, ka_bind]
  refine gOk.mono (m_remembers hM2 hI.2.2.2.1.1 hn) fun G3 h3 => ?_
  obtain ⟨hM3, th3, hf3⟩ := h3
  unfold f_X11_tars
  obtain ⟨hM4, hf4⟩ := m_put2 hM3 (i := k) (j := 4) (v := gmin 9 (rv ω k 4 + 1))
  obtain ⟨hM5, hf5⟩ := m_put2 hM4 (i := k) (j := 5) (v := gmax 0 (rv ω k 5 - 5))
  rw [hM3.1.rf.1, ka_bs, m_at (w := 4) (j := 4) (by omega) rfl, ka_bs, hM3.1.of (w := 4) k 4 rfl rfl (by omega), ka_bs, hM3.1.w _ rfl (by omega), ka_letE, hM3.2.1, nI_clamp (by omega), hM4.1.rf.1, ka_bs, m_at (w := 5) (j := 5) (by omega) rfl, ka_bs, hM4.1.of (w := 5) k 5 rfl rfl (by omega), ka_bs, hM4.1.w _ rfl (by omega), ka_letE, hM4.2.1, nI_clamp (by omega), ka_bs, rv_rS0 (by decide) (by decide) (by decide), hM5.1.of (w := 4) k 4 rfl rfl (by omega), ka_bs, hM5.2.1]
  refine ⟨_, rfl, ⟨?_, rfl⟩, ⟨tarW ω k, WE.rf, hM5⟩, ?_⟩
  · rw [(hf5 m (by omega)).1, (hf4 m (by omega)).1, th3]
    exact th_set
  · have fth : Fr (fun b => m ≤ b ∧ b ≤ m + 10) G (gsi G 11 0 m 0) := Fr.i ⟨Nat.le_refl _, by omega⟩
    exact ((fth.tr (hf3.mono fun b hb => by omega)).tr (hf4.mono fun b hb => by omega)).tr (hf5.mono fun b hb => by omega)
theorem op_tar (hm : m = x + 512) (ho : o = m + 11) (hτ : gn τ o = 1) (hn : 6000 < n) (hC : CV τ G x s t l l' ω im me ta fa) (hM : MV τ G m ω im me ta fa) (hI : IV ω im me ta) (y : Int32) : gOk (f_L_tar τ n x y o G) (fun q => gOk (f_X11_tar τ n m y q.2) (fun p => q.1 = gi p.2 11 0 m ∧ (q.1 = 0 → gl p.2 o 0 = p.1.toInt64) ∧ ST τ x m p.2)) := by
  have hr := hI.1.r1
  unfold f_L_tar
  rcases arg_ix y (N := cR ω) (by omega) with ⟨k, hk, rfl⟩ | ⟨hno, -⟩
  · by_cases h8 : rv ω k 8 = 0
    · exact join_x (α := Int32) hm ho hτ (by decide) hM (tarW.re.iv hI.push hk (tarW.ok (by omega) (hI.1.r hk))) (c_tar hC hI (by omega) hk h8) (fun G1 hM1 => m_tar hM1 hI hn hk h8)
    · have e0 := c_sound hC hI.1 hk
      rw [if_neg h8] at e0
      refine join_q (ans := .inl x_ISE) hm ho hτ (by decide) hC hM hI ⟨_, (by unfold f_X10_tar; exact ka_bxl e0), rfl, QC.rf⟩ (fun G1 hM1 => ?_)
      have hM2 : FM τ (gsi G1 11 0 m 0) m := QM.th.fm hM1.1
      have hω2 : ge (gsi G1 11 0 m 0) (m + 1) = ω := hM1.2.1
      unfold f_X11_tar
      rw [ka_letE, (m_no hM2 hω2 hI.1 _).2.1, ka_bs, if_neg (no_k hk (by omega)), ka_b2 m_thIf0, if_pos rfl, m_isWhole hM2 (by omega), ka_bs, hω2, if_neg h8, if_pos rfl]
      unfold k_X11_tar_32
      rw [ka_b2 m_thIf1, if_neg ka_n10]
      refine ⟨_, rfl, ?_, QM.th.tr QM.th⟩
      show gCode [x_IOE, x_ISE] x_ISE 1 = some _
      rw [th_set]
      rfl
  · refine join_q (ans := .inl x_IOE) hm ho hτ (by decide) hC hM hI ⟨_, (by unfold f_X10_tar; exact ka_bxl (c_soundNo hC hI.1 hno)), rfl, QC.rf⟩ (fun G1 hM1 => ?_)
    have hM2 : FM τ (gsi G1 11 0 m 0) m := QM.th.fm hM1.1
    have hω2 : ge (gsi G1 11 0 m 0) (m + 1) = ω := hM1.2.1
    unfold f_X11_tar
    rw [ka_letE, (m_no hM2 hω2 hI.1 _).2.1, ka_bs, if_pos hno, ka_b2 m_thIf1, if_neg ka_n10]
    refine ⟨_, rfl, ?_, QM.th.tr QM.th⟩
    show gCode [x_IOE, x_ISE] x_IOE 1 = some _
    rw [th_set]
    rfl
end
