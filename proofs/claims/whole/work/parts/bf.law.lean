/-! CALLS: law -/
section
variable {τ : gτ} {n : Nat} {G G' : gG} {x m s t l l' o : Nat} {ω ω' : gW} {im : Option gW} {me : List gW} {ta : List Nat} {fa fa' : Int32} {Λ : List lwL} {P : List (Nat × Int32)}
/-- the draft, brought down -/
def cpD (d : gW) (k : Nat) : gW := fun j => if 467 ≤ j ∧ j < 467 + k then d (j + 849) else d j
theorem m_law52 {v : Int32} (hM : FM τ G m) (hn : 6000 < n) : gOk (l_X11_law_52 τ n m v 0 G) (fun G1 => ge G1 (m + 1) = cpD (ge G (m + 1)) 849 ∧ Fr (fun b => b = m + 1) G G1) := by
  unfold l_X11_law_52
  refine ka_loop 849 (fun k q => q.1 = nI k ∧ ge q.2 (m + 1) = cpD (ge G (m + 1)) k ∧ Fr (fun b => b = m + 1) G q.2) (by omega) ⟨rfl, funext fun j => by unfold cpD; rw [if_neg (by omega)], Fr.rf⟩ (fun k q hk hp => ?_)
  obtain ⟨y, G1⟩ := q
  obtain ⟨e1, e2, e3⟩ := hp
  have e1 : y = nI k := e1
  have e2 : ge G1 (m + 1) = cpD (ge G (m + 1)) k := e2
  have e3 : Fr (fun b => b = m + 1) G G1 := e3
  subst e1
  have hM1 : FM τ G1 m := e3.fm hM (by omega)
  show gOk (b_X11_law_52 τ n m v (nI k) G1) _
  unfold b_X11_law_52
  by_cases hlt : k < 849
  · have i1 : (1316 : Int32) + nI k = nI (1316 + k) := by rw [show (1316 : Int32) = nI 1316 from rfl, nI_add]
    have i2 : (467 : Int32) + nI k = nI (467 + k) := by rw [show (467 : Int32) = nI 467 from rfl, nI_add]
    rw [if_neg (show ¬ (849 : Int32) ≤ nI k from nI_ge (b := 849) hlt (by decide)), m_g hM1, m_g hM1, hM1.w (1316 + k) i1 (by omega), m_w hM1 (467 + k) i2 (by omega), i1, nI_clamp (by omega), ka_letE, nI_1]
    refine ⟨_, rfl, hlt, rfl, ?_, e3.tr (Fr.e rfl)⟩
    show ge (gse G1 (m + 1) (467 + k) (ge G1 (m + 1) (1316 + k))) (m + 1) = _
    rw [ge_wSt, e2]
    funext j
    unfold wSt cpD
    by_cases hjk : j = 467 + k
    · rw [if_pos hjk, if_neg (by omega), if_pos (by omega), hjk, show 467 + k + 849 = 1316 + k by omega]
    · rw [if_neg hjk]
      by_cases hj : 467 ≤ j ∧ j < 467 + k
      · rw [if_pos hj, if_pos (by omega)]
      · rw [if_neg hj, if_neg (by omega)]
  · have hkN : k = 849 := by omega
    subst hkN
    rw [if_pos (show (849 : Int32) ≤ nI 849 from Int32.le_refl _)]
    exact ⟨_, rfl, e2, e3⟩
/-- the world that a text of the law makes in the reference -/
def lwW (w : gW) (z : Int32) : gW := wSt (cpD (wSt w 1316 z) 849) 4 1
theorem lwW_lo {w : gW} {z : Int32} {j : Nat} (h : j < 467) (h4 : j ≠ 4) : lwW w z j = w j := by
  unfold lwW cpD
  rw [wSt_ne h4, if_neg (by omega), wSt_ne (by omega)]
theorem lwW_mid {w : gW} {z : Int32} {j : Nat} (h : 468 ≤ j) (h2 : j < 1316) : lwW w z j = w (j + 849) := by
  unfold lwW cpD
  rw [wSt_ne (by omega), if_pos (by omega), wSt_ne (by omega)]
theorem lwW_467 {w : gW} {z : Int32} : lwW w z 467 = z := by
  unfold lwW cpD
  rw [wSt_ne (by omega), if_pos (by omega)]
  exact wSt_eq
theorem lwW_ok (hQ : SQ G m P) (hS : SLn G m Λ) (hP : P.length ≤ 400) (hΛ : Λ.length ≤ 12) : LWd (lwW (ge G (m + 1)) (nI Λ.length)) Λ P := by
  refine ⟨wSt_eq, lwW_467, fun j r hj => ?_, fun k s hk => ?_⟩
  · have hjl := gn_in hj
    obtain ⟨s0, s1, s2, s3⟩ := hS j r hj
    unfold lw
    rw [lwW_mid (by omega) (by omega), lwW_mid (by omega) (by omega), lwW_mid (by omega) (by omega), lwW_mid (by omega) (by omega)]
    rw [show 468 + 4 * j + 0 + 849 = 1317 + 4 * j by omega, show 468 + 4 * j + 1 + 849 = 1317 + 4 * j + 1 by omega, show 468 + 4 * j + 2 + 849 = 1317 + 4 * j + 2 by omega, show 468 + 4 * j + 3 + 849 = 1317 + 4 * j + 3 by omega]
    exact ⟨s0, s1, s2, s3⟩
  · have hkl := gn_in hk
    obtain ⟨g1, g2⟩ := hQ.2 k s hk
    unfold sc sn
    rw [lwW_mid (by omega) (by omega), lwW_mid (by omega) (by omega)]
    rw [show 516 + 2 * k + 849 = 1365 + 2 * k by omega, show 517 + 2 * k + 849 = 1365 + 2 * k + 1 by omega]
    exact ⟨g1, g2⟩
theorem m_law (hM : MV τ G m ω im me ta fa) (hI : IV ω im me ta) (hn : 6000 < n) : gOk (f_X11_law τ n m G) (fun p => Fr (fun b => m ≤ b ∧ b ≤ m + 10) G p.2 ∧ ((∃ f, laW (tbT ta) ta.length = .inr f ∧ gi p.2 11 0 m = 1 ∧ ∃ w, (∀ j, j < 1316 → w j = ω j) ∧ MV τ p.2 m w im me [] (nI f)) ∨ ∃ Λ P, laW (tbT ta) ta.length = .inl (Λ, P) ∧ gi p.2 11 0 m = 0 ∧ p.1 = nI Λ.length ∧ ∃ w, lwI ω Λ P w ∧ MV τ p.2 m w im [] [] (-1))) := by
  have hme := hM.2.2.2.1.1
  have hL := hI.2.2.2.2.1
  unfold f_X11_law
  rw [ka_bind2]
  refine gOk.mono (m_lread hM hI (by omega)) fun q hq => ?_
  obtain ⟨v1, G2⟩ := q
  obtain ⟨⟨f2, m2, w2⟩, ⟨z0, z6, z7, z9⟩, hq⟩ := hq
  have f2 : Fr (fun b => b = m ∨ b = m + 1) G G2 := f2
  have m2 : FM τ G2 m := m2
  have w2 : ∀ j, j < 1317 → ge G2 (m + 1) j = ω j := w2
  have z0 : gi G2 11 0 m = 0 := z0
  have z6 : gi G2 11 6 m = gi G 11 6 m := z6
  have z7 : gi G2 11 7 m = nI me.length := z7.trans hme
  have z9 : gi G2 11 9 m = 0 := z9
  show gOk (if 0 ≤ v1 then _ else _) _
  rcases hq with ⟨Λ, P, eW, e1, q2, s2⟩ | ⟨f, eW, e1, e12⟩
  · obtain ⟨hW, hP, hΛ⟩ := laW_ok eW
    have e1 : v1 = nI Λ.length := e1
    have q2 : SQ G2 m P := q2
    have s2 : SLn G2 m Λ := s2
    have h0 : (0 : Int32) ≤ v1 := by rw [e1]; exact nI_le (a := 0) (Nat.zero_le _) (by omega)
    rw [if_pos h0]
    unfold k_X11_law_19
    rw [ka_letE, if_pos h0]
    unfold k_X11_law_32
    rw [m_thIf0, ka_b2 rfl, if_pos rfl]
    have m3 : FM τ (gsi G2 11 14 m (-1)) m := m2
    rw [m_g m3, m_w m3 (x := 1316) 1316 rfl (by decide), ka_bind]
    have m4 : FM τ (gse (gsi G2 11 14 m (-1)) (m + 1) 1316 v1) m := m2
    have f4 : Fr (fun b => b = m ∨ b = m + 1) G2 (gse (gsi G2 11 14 m (-1)) (m + 1) 1316 v1) := (Fr.i (A := fun b => b = m ∨ b = m + 1) (Or.inl rfl)).tr (Fr.e (A := fun b => b = m ∨ b = m + 1) (Or.inr rfl))
    have w4 : ge (gse (gsi G2 11 14 m (-1)) (m + 1) 1316 v1) (m + 1) = wSt (ge G2 (m + 1)) 1316 v1 := by
      rw [ge_wSt]
      rfl
    have y4 : gi (gse (gsi G2 11 14 m (-1)) (m + 1) 1316 v1) 11 0 m = 0 ∧ gi (gse (gsi G2 11 14 m (-1)) (m + 1) 1316 v1) 11 6 m = gi G 11 6 m ∧ gi (gse (gsi G2 11 14 m (-1)) (m + 1) 1316 v1) 11 9 m = 0 ∧ gi (gse (gsi G2 11 14 m (-1)) (m + 1) 1316 v1) 11 14 m = -1 := by
      simp only [ka_ie, ka_ii]
      simp [z0, z6, z9]
    generalize gse (gsi G2 11 14 m (-1)) (m + 1) 1316 v1 = G4 at m4 f4 w4 y4
    refine gOk.mono (m_law52 (v := v1) m4 hn) fun G12 g12 => ?_
    obtain ⟨w12, f12⟩ := g12
    have m12 : FM τ G12 m := f12.fm m4 (by omega)
    have y12 := (f12 m (by omega)).1
    rw [ka_letE]
    unfold k_X11_law_85
    rw [m_g m12, m_w m12 (x := 4) 4 rfl (by decide), ka_letE]
    have f15 : Fr (fun b => b = m ∨ b = m + 1) G12 (gsi (gse G12 (m + 1) 4 1) 11 7 m 0) := (Fr.e (A := fun b => b = m ∨ b = m + 1) (Or.inr rfl)).tr (Fr.i (A := fun b => b = m ∨ b = m + 1) (Or.inl rfl))
    have w15 : ge (gsi (gse G12 (m + 1) 4 1) 11 7 m 0) (m + 1) = lwW (ge G2 (m + 1)) (nI Λ.length) := by
      show ge (gse G12 (m + 1) 4 1) (m + 1) = _
      rw [ge_wSt, w12, w4, e1]
      rfl
    have m15 : FM τ (gsi (gse G12 (m + 1) 4 1) 11 7 m 0) m := m12
    have y15 : ∀ k, k ≠ 7 → gi (gsi (gse G12 (m + 1) 4 1) 11 7 m 0) 11 k m = gi G4 11 k m := fun k hk => by
      rw [ka_ii, if_neg (fun h => hk h.2.1)]
      exact y12 11 k
    have y157 : gi (gsi (gse G12 (m + 1) 4 1) 11 7 m 0) 11 7 m = 0 := by rw [ka_ii, if_pos ⟨rfl, rfl, rfl⟩]
    generalize gsi (gse G12 (m + 1) 4 1) 11 7 m 0 = G15 at f15 w15 m15 y15 y157
    have fA : Fr (fun b => b = m ∨ b = m + 1 ∨ b = m + 3) G G15 := (((f2.tr f4).mono fun b hb => by omega).tr (f12.mono fun b hb => by omega)).tr (f15.mono fun b hb => by omega)
    refine ⟨_, rfl, fA.mono fun b hb => by omega, Or.inr ⟨Λ, P, eW, (y15 0 (by decide)).trans y4.1, e1, _, ⟨lwW_ok q2 s2 (by omega) hΛ, fun j hj h4 => (lwW_lo hj h4).trans (w2 j (by omega))⟩, ?_⟩⟩
    exact MV.mk3 hM fA m15 w15 ((y15 6 (by decide)).trans y4.2.1) y157 (fun j v h => by cases h) ((y15 9 (by decide)).trans y4.2.2.1) ((y15 14 (by decide)).trans y4.2.2.2)
  · have e1 : v1 = -1 := e1
    have e12 : gi G2 11 12 m = nI f := e12
    have h0 : ¬ (0 : Int32) ≤ v1 := by rw [e1]; decide
    rw [if_neg h0, e12]
    unfold k_X11_law_19
    rw [ka_letE, if_neg h0]
    unfold k_X11_law_32
    rw [m_thIf1, ka_b2 rfl, if_neg ka_n10]
    have fg : Fr (fun b => b = m) G2 (gsi (gsi G2 11 14 m (nI f)) 11 0 m 1) := (Fr.i (A := fun b => b = m) rfl).tr (Fr.i (A := fun b => b = m) rfl)
    have mg : FM τ (gsi (gsi G2 11 14 m (nI f)) 11 0 m 1) m := m2
    have y : gi (gsi (gsi G2 11 14 m (nI f)) 11 0 m 1) 11 0 m = 1 ∧ gi (gsi (gsi G2 11 14 m (nI f)) 11 0 m 1) 11 6 m = gi G 11 6 m ∧ gi (gsi (gsi G2 11 14 m (nI f)) 11 0 m 1) 11 7 m = nI me.length ∧ gi (gsi (gsi G2 11 14 m (nI f)) 11 0 m 1) 11 9 m = 0 ∧ gi (gsi (gsi G2 11 14 m (nI f)) 11 0 m 1) 11 14 m = nI f := by
      simp only [ka_ii]
      simp [z6, z7, z9]
    have wg : ge (gsi (gsi G2 11 14 m (nI f)) 11 0 m 1) (m + 1) = ge G2 (m + 1) := rfl
    generalize gsi (gsi G2 11 14 m (nI f)) 11 0 m 1 = G8 at fg mg y wg
    have fA : Fr (fun b => b = m ∨ b = m + 1 ∨ b = m + 3) G G8 := (f2.mono fun b hb => by omega).tr (fg.mono fun b hb => by omega)
    refine ⟨_, rfl, fA.mono fun b hb => by omega, Or.inl ⟨f, eW, y.1, ge G2 (m + 1), fun j hj => w2 j (by omega), ?_⟩⟩
    exact MV.mk3 hM fA mg wg y.2.1 y.2.2.1 (fun _ _ h => h) y.2.2.2.1 y.2.2.2.2
theorem op_law (hm : m = x + 512) (ho : o = m + 11) (hτ : gn τ o = 1) (hn : 6000 < n) (hC : CV τ G x s t l l' ω im me ta fa) (hM : MV τ G m ω im me ta fa) (hI : IV ω im me ta) : gOk (f_L_law τ n x o G) (fun q => gOk (f_X11_law τ n m q.2) (fun p => q.1 = gi p.2 11 0 m ∧ (q.1 = 0 → gl p.2 o 0 = p.1.toInt64) ∧ ST τ x m p.2)) := by
  have hL := hI.2.2.2.2.1
  have hIV : IV ω im me [] := by
    obtain ⟨a, b, c, d, -, -⟩ := hI
    exact ⟨a, b, c, d, Nat.zero_le _, fun b hb => by cases hb⟩
  unfold f_L_law
  cases hr : laW (tbT ta) ta.length with
  | inr f =>
    refine join_w (I := fun w => ∀ j, j < 1316 → w j = ω j) (im1 := im) (me1 := me) (ta1 := []) (fa1 := nI f) (s1 := s) (t1 := t) (l1 := l) (l1' := l') (ans := .inl x_IAE) (α := Unit) hm ho hτ (by decide) hM (fun w hw => hIV.lo hw) ?_ (fun G1 hM1 => ?_)
    · refine gOk.mono (c_law hC hI (by omega)) fun q hq => ?_
      rcases hq with ⟨hf, ⟨f', e1, e2, e3⟩ | ⟨Λ, P, e1, -⟩⟩
      · rw [hr] at e1
        cases e1
        exact ⟨e2, fun w hw => e3.lo hIV hw, hf⟩
      · rw [hr] at e1; cases e1
    · refine gOk.mono (m_law hM1 hI hn) fun p hp => ?_
      rcases hp with ⟨hf, ⟨f', e1, e2, w, e3, e4⟩ | ⟨Λ, P, e1, -⟩⟩
      · rw [hr] at e1
        cases e1
        refine ⟨?_, ⟨w, e3, e4⟩, hf⟩
        rw [e2]
        rfl
      · rw [hr] at e1; cases e1
  | inl u =>
    obtain ⟨Λ, P⟩ := u
    obtain ⟨hW, hP, hΛ⟩ := laW_ok hr
    refine join_w (I := lwI ω Λ P) (im1 := im) (me1 := []) (ta1 := []) (fa1 := -1) (s1 := s) (t1 := t) (l1 := l') (l1' := l) (ans := .inr (nI Λ.length)) (α := Unit) hm ho hτ (by decide) hM (fun w hw => ?_) ?_ (fun G1 hM1 => ?_)
    · obtain ⟨a, b, c, d, -, -⟩ := hI
      exact ⟨wi_4 hw.2 hw.1.1 a, hw.1.li hW (by omega) hΛ, c, ⟨Nat.zero_le _, fun j w hj => by cases hj⟩, Nat.zero_le _, fun b hb => by cases hb⟩
    · refine gOk.mono (c_law hC hI (by omega)) fun q hq => ?_
      rcases hq with ⟨hf, ⟨f', e1, -⟩ | ⟨Λ', P', e1, e2, e3⟩⟩
      · rw [hr] at e1; cases e1
      · rw [hr] at e1
        cases e1
        exact ⟨e2, e3, hf⟩
    · refine gOk.mono (m_law hM1 hI hn) fun p hp => ?_
      rcases hp with ⟨hf, ⟨f', e1, -⟩ | ⟨Λ', P', e1, e2, e3, w, e4, e5⟩⟩
      · rw [hr] at e1; cases e1
      · rw [hr] at e1
        cases e1
        exact ⟨⟨e2, e3⟩, ⟨w, e4, e5⟩, hf⟩
end
