/-! CALLS: image -/
section
variable {τ : gτ} {n : Nat} {G G' : gG} {x m s t l l' o : Nat} {ω : gW} {im : Option gW} {me : List gW} {ta : List Nat} {fa : Int32}
theorem c_image (hC : CV τ G x s t l l' ω im me ta fa) (hI : IV ω im me ta) (hn : 500 < n) : gOk (f_X10_image τ n x G) (fun G' => CV τ G' x s t l l' ω (some ω) me ta fa ∧ Fr (fun b => x ≤ b ∧ b ≤ x + 511) G G') := by
  have hsl := hC.sl
  obtain ⟨h1, h2, h3, h4, ⟨f1, f2, f3, f4⟩, ⟨g1, g2, g3⟩, h7, h8⟩ := hC.1
  have hrf := hC.rf
  unfold f_X10_image
  rw [hrf.2.2.2.2.1, ka_bs, hrf.2.2.2.2.2.2.2.2.2.2.1, ka_bs, ka_bind]
  refine gOk.mono (s_become f3 hC.fs.1 hC.vs hI.1 (by omega) hn) fun G3 hG3 => ?_
  obtain ⟨v3, s3, fr3⟩ := hG3
  have fr3 : Fr (fun c => x + 391 ≤ c ∧ c ≤ x + 391 + 31) G G3 := fr3
  have x3 := fr3 x (by omega)
  rw [x3.2.1, x3.2.1, hrf.2.2.2.2.2.1, ka_bs, hrf.2.2.2.2.2.2.2.2.2.2.2.2.1, ka_bs, ka_bind]
  have lv3 : LV G3 l ω := fr3.lv hC.lv fun b c1 c2 => by omega
  refine gOk.mono (s_lbec (fr3.fl g1 (by omega)) (fr3.fl hC.fl.1 (by omega)) lv3 hI.1 hI.2.1 (by omega)) fun G6 hG6 => ?_
  obtain ⟨v6, r6, fr6⟩ := hG6
  rw [ka_letE]
  have fr7 : Fr (fun b => b = x) G6 (gsi G6 10 14 x 1) := Fr.i rfl
  have p14 : gi (gsi G6 10 14 x 1) 10 14 x = 1 := by simp [ka_ii]
  have r7 : ∀ c k d, gr (gsi G6 10 14 x 1) c k d = gr G3 c k d := fun c k d => r6 c k d
  generalize gsi G6 10 14 x 1 = G7 at fr7 p14 r7
  have fA : Fr (fun b => b = x ∨ (x + 391 ≤ b ∧ b ≤ x + 427)) G G7 := ((fr3.mono fun b hb => by omega).tr (fr6.mono fun b hb => by omega)).tr (fr7.mono fun b hb => by omega)
  have rx : ∀ c k, gr G7 c k x = gr G c k x := fun c k => by rw [r7, x3.2.1]
  obtain ⟨nx, m1, m2, m3, m4⟩ := hC.2.2.2.2.1
  refine ⟨_, rfl, ⟨⟨?_, ?_, h3, fun k hk => ?_, ⟨?_, ?_, ?_, fun k hk => ?_⟩, ⟨?_, ?_, ?_⟩, h7, h8⟩, fA.vs hI.1 hC.vs fun b c1 c2 => by omega, fA.lv hC.lv fun b c1 c2 => by omega, ⟨p14, fun w hw => ?_⟩, ⟨nx, m1, ?_, ?_, fun j w hj => ?_⟩, ⟨?_, fun j b hj => ?_⟩, ?_⟩, fA.mono fun b hb => by omega⟩
  · simp only [rx]; exact h1
  · rw [(fA (x + 1) (by omega)).2.1, (fA (x + 3) (by omega)).2.1, (fA (x + 4) (by omega)).2.1, (fA (x + 5) (by omega)).2.1]; exact h2
  · rw [(fA (x + 6) (by omega)).2.2.2.1]; exact h4 k hk
  · exact fA.fs f1 fun b c1 c2 => by omega
  · exact fA.fs f2 fun b c1 c2 => by omega
  · exact fr7.fs (fr6.fs s3 fun b c1 c2 => by omega) fun b c1 c2 => by omega
  · exact fA.fs (f4 k hk) fun b c1 c2 => by omega
  · have := fr3.fl g1 (by omega)
    unfold FL at this ⊢
    simp only [r7]
    exact this
  · exact fA.fl g2 (by omega)
  · exact fA.fl g3 (by omega)
  · cases hw
    exact ⟨fr7.vs hI.1 (fr6.vs hI.1 v3 fun b c1 c2 => by omega) fun b c1 c2 => by omega, fr7.lv v6 fun b c1 c2 => by omega⟩
  · rw [(fA (x + 5) (by omega)).1]; exact m2
  · rw [(fA (x + 5) (by omega)).1]; exact m3
  · have : (nx + 12 - me.length + j) % 12 < 12 := Nat.mod_lt _ (by decide)
    exact fA.vs (hI.2.2.2.1.2 j w hj).1 (m4 j w hj) fun b c1 c2 => by omega
  · rw [(fA (x + 1) (by omega)).1]; exact hC.2.2.2.2.2.1.1
  · rw [(fA (x + 2) (by omega)).2.2.1]; exact hC.2.2.2.2.2.1.2 j b hj
  · rw [(fA (x + 1) (by omega)).1]; exact hC.2.2.2.2.2.2
theorem m_imageL (hM : FM τ G m) (hn : 6000 < n) : gOk (l_X11_image_7 τ n m 0 G) (fun G1 => (∀ j, j < 1316 → ge G1 (m + 2) j = ge G (m + 1) j) ∧ Fr (fun b => b = m + 2) G G1) := by
  unfold l_X11_image_7
  refine ka_loop 1316 (fun k q => q.1 = nI k ∧ (∀ j, j < k → ge q.2 (m + 2) j = ge G (m + 1) j) ∧ Fr (fun b => b = m + 2) G q.2) (by omega) ⟨rfl, fun j hj => by omega, Fr.rf⟩ (fun k q hk hp => ?_)
  obtain ⟨y, G1⟩ := q
  obtain ⟨e1, e2, e3⟩ := hp
  have e1 : y = nI k := e1
  have e2 : ∀ j, j < k → ge G1 (m + 2) j = ge G (m + 1) j := e2
  have e3 : Fr (fun b => b = m + 2) G G1 := e3
  subst e1
  have hM1 : FM τ G1 m := e3.fm hM (by omega)
  have ew : ge G1 (m + 1) = ge G (m + 1) := (e3 (m + 1) (by omega)).2.2.1
  show gOk (b_X11_image_7 τ n m (nI k) G1) _
  unfold b_X11_image_7
  by_cases hlt : k < 1316
  · rw [if_neg (show ¬ (1316 : Int32) ≤ nI k from nI_ge (b := 1316) hlt (by decide)), hM1.rf.2.1, ka_bs, hM1.rf.1, ka_bs, hM1.w k rfl (by omega), ka_chkT (by rw [hM1.2.2.1]; exact ka_in hlt (by decide)), ka_letE, ka_letE, nI_1, nI_clamp (by omega)]
    refine ⟨_, rfl, hlt, rfl, fun j hj => ?_, e3.tr (Fr.e rfl)⟩
    show ge (gse G1 (m + 2) k (ge G1 (m + 1) k)) (m + 2) j = _
    rw [ka_ee, ew]
    by_cases hjk : j = k
    · rw [if_pos ⟨rfl, hjk⟩, hjk]
    · rw [if_neg (fun h => hjk h.2), e2 j (by omega)]
  · have hkN : k = 1316 := by omega
    subst hkN
    rw [if_pos (show (1316 : Int32) ≤ nI 1316 from Int32.le_refl _)]
    exact ⟨_, rfl, e2, e3⟩
theorem m_image (hM : MV τ G m ω im me ta fa) (hn : 6000 < n) : gOk (f_X11_image τ n m G) (fun G' => MV τ G' m ω (some ω) me ta fa ∧ Fr (fun b => m ≤ b ∧ b ≤ m + 10) G G') := by
  have hM2 : MV τ (gsi G 11 0 m 0) m ω im me ta fa := hM.th0
  have fth : Fr (fun b => m ≤ b ∧ b ≤ m + 10) G (gsi G 11 0 m 0) := Fr.i ⟨Nat.le_refl _, by omega⟩
  unfold f_X11_image
  rw [ka_letE]
  generalize gsi G 11 0 m 0 = G1 at hM2 fth
  obtain ⟨hF, hω, -, ⟨m1, m2⟩, ⟨t1, t2⟩, t3⟩ := hM2
  rw [ka_bind]
  refine gOk.mono (m_imageL hF hn) fun G3 h3 => ?_
  obtain ⟨h3, f3⟩ := h3
  rw [ka_letE]
  unfold k_X11_image_32
  rw [ka_letE]
  have q3 := f3 m (by omega)
  have f4 : Fr (fun b => b = m) G3 (gsi G3 11 6 m 1) := Fr.i rfl
  have hF3 : FM τ G3 m := f3.fm hF (by omega)
  have hF4 : FM τ (gsi G3 11 6 m 1) m := hF3
  refine ⟨_, rfl, ⟨hF4, ?_, ⟨?_, fun v h' j hj => ?_⟩, ⟨?_, fun j v hj i hi => ?_⟩, ⟨?_, fun j b hj => ?_⟩, ?_⟩, (fth.tr (f3.mono fun b hb => by omega)).tr (f4.mono fun b hb => by omega)⟩
  · rw [(f4 (m + 1) (by omega)).2.2.1, (f3 (m + 1) (by omega)).2.2.1]; exact hω
  · show _ = (1 : Int32)
    simp [ka_ii]
  · cases h'
    rw [(f4 (m + 2) (by omega)).2.2.1, h3 j hj, hω]
  · rw [ka_ii, if_neg (fun h => absurd h.2.1 (by decide)), q3.1]; exact m1
  · rw [(f4 (m + 5) (by omega)).2.2.1, (f3 (m + 5) (by omega)).2.2.1]; exact m2 j v hj i hi
  · rw [ka_ii, if_neg (fun h => absurd h.2.1 (by decide)), q3.1]; exact t1
  · rw [(f4 (m + 6) (by omega)).2.2.1, (f3 (m + 6) (by omega)).2.2.1]; exact t2 j b hj
  · rw [ka_ii, if_neg (fun h => absurd h.2.1 (by decide)), q3.1]; exact t3
theorem op_image (hm : m = x + 512) (hn : 6000 < n) (hC : CV τ G x s t l l' ω im me ta fa) (hM : MV τ G m ω im me ta fa) (hI : IV ω im me ta) : gOk (f_X10_image τ n x G) (fun G1 => gOk (f_X11_image τ n m G1) (fun G2 => ST τ x m G2)) := by
  have hIV : IV ω (some ω) me ta := ⟨hI.1, hI.2.1, fun w hw => by cases hw; exact ⟨hI.1, hI.2.1⟩, hI.2.2.2⟩
  refine gOk.mono (c_image hC hI (by omega)) fun G1 hq => ?_
  obtain ⟨q2, q3⟩ := hq
  refine gOk.mono (m_image (hM.out q3 fun b c1 c2 => by omega) hn) fun G2 hp => ?_
  exact ST.mk0 hm hIV q2 Fr.rf WE.rf hp.1 hp.2
end
