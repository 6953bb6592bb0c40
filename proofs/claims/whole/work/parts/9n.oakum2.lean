/-! CALLS: oakum, the reference and both -/
section
variable {τ : gτ} {n : Nat} {G G' : gG} {x m s t l l' o : Nat} {ω : gW} {im : Option gW} {me : List gW} {ta : List Nat} {fa : Int32}
theorem m_fits (hM : FM τ G m) (hω : ge G (m + 1) = ω) {a b c : Nat} {u v : Int32} (ha : a < 10) (hb : b < 10) (hc : c < 10) : f_X11_fits τ m (nI a) (nI b) (nI c) u v G = some (if stY ω a b c = u ∧ roY ω a b c = v then 1 else 0) := by
  unfold f_X11_fits
  rw [hM.ofYarn (w := 0) a 0 rfl rfl (by omega), ka_bs, hM.ofYarn (w := 0) b 0 rfl rfl (by omega), ka_bs, hM.ofYarn (w := 0) c 0 rfl rfl (by omega), ka_bs, hω]
  by_cases h1 : yv ω a 0 + yv ω b 0 + yv ω c 0 = u
  · rw [if_pos h1, hM.ofYarn (w := 2) a 2 rfl rfl (by omega), ka_bs, hM.ofYarn (w := 2) b 2 rfl rfl (by omega), ka_bs, hM.ofYarn (w := 2) c 2 rfl rfl (by omega), ka_bs, hω]
    by_cases h2 : yv ω a 2 + yv ω b 2 + yv ω c 2 = v
    · rw [if_pos h2, if_pos ⟨h1, h2⟩]
    · rw [if_neg h2, if_neg (fun h => h2 h.2)]
  · rw [if_neg h1, if_neg (fun h => h1 h.1)]
theorem m_th (hM : FM τ G m) {ρ : Type} {f : Nat → Option ρ} : (gr G 11 19 m).bind f = f (m + 10) := by rw [hM.rf.2.2.2.2.2.2.2.2.2, ka_bs]
theorem m_thc (hM : FM τ G m) {S : Nat} (hS : S < 10) {ρ : Type} {e : Option ρ} : gchk (gIn (nI S) (gn τ (m + 10))) e = e :=
  ka_chkT (by rw [hM.2.2.2.2.2.2.2.2.2.2]; exact ka_in hS (by decide))
theorem QM.t10 (hf : Fr (fun b => b = m + 10) G G') : QM m G G' ∧ gi G' 11 0 m = gi G 11 0 m ∧ ge G' (m + 1) = ge G (m + 1) :=
  ⟨⟨hf.mono fun b hb => by omega, fun c k _ => (hf m (by omega)).1 c k, (hf m (by omega)).2.1, by rw [(hf (m + 1) (by omega)).2.2.1]; exact WE.rf⟩, (hf m (by omega)).1 11 0, (hf (m + 1) (by omega)).2.2.1⟩
theorem m_tally (hM : FM τ G m) (hω : ge G (m + 1) = ω) (hI : WI ω) (hn : 500 < n) {u v w : Int32} (ht : ∀ y, y < 10 → ge G (m + 10) y = 0) : gOk (l_X11_oakum_69 τ n m u v w 0 (((1 : Int32) <<< (nI (cY ω) &&& 31)) - 1) 0 G) (fun r => r.1 = nI (oaS ω u v).1 ∧ r.2.1 = (oaS ω u v).2.2 ∧ tbG (m + 10) r.2.2 (oaS ω u v) ∧ Fr (fun b => b = m + 10) G r.2.2) := by
  have hy := hI.y1
  unfold l_X11_oakum_69
  have cnt : ∀ {G1 : gG}, Fr (fun b => b = m + 10) G G1 → FM τ G1 m ∧ ge G1 (m + 1) = ω := fun h => ⟨h.fm hM (by omega), (h (m + 1) (by omega)).2.2.1.trans hω⟩
  refine loop3 (n := n) (N := cY ω) (by omega) (oaF ω u v)
    (fun a b c s q => q.1 = nI s.1 ∧ q.2.1 = s.2.2 ∧ tbG (m + 10) q.2.2.2 s ∧ q.2.2.1 = nI c ∧ Fr (fun b => b = m + 10) G q.2.2.2) (fun a b s r => r.1 = nI s.1 ∧ r.2.1 = s.2.2 ∧ tbG (m + 10) r.2.2 s ∧ Fr (fun b => b = m + 10) G r.2.2) (fun a b q => b_X11_oakum_99 τ n m u v w q.1 q.2.1 (nI a) (nI b) q.2.2.1 q.2.2.2)
    (fun a b c s q hab hbc hc hp => ?_) (fun a b s q hab hb hp => ?_)
    (fun a b s q => q.1 = nI s.1 ∧ q.2.1 = s.2.2 ∧ tbG (m + 10) q.2.2.2 s ∧ q.2.2.1 = nI b ∧ Fr (fun b => b = m + 10) G q.2.2.2) (fun a s r => r.1 = nI s.1 ∧ r.2.1 = s.2.2 ∧ tbG (m + 10) r.2.2 s ∧ Fr (fun b => b = m + 10) G r.2.2) (fun a q => b_X11_oakum_84 τ n m u v w q.1 q.2.1 (nI a) q.2.2.1 q.2.2.2)
    (fun a b s q hab hb hp => ?_) (fun a s q ha hp => ?_)
    (fun a s q => q.1 = nI s.1 ∧ q.2.1 = s.2.2 ∧ tbG (m + 10) q.2.2.2 s ∧ q.2.2.1 = nI a ∧ Fr (fun b => b = m + 10) G q.2.2.2) (fun s r => r.1 = nI s.1 ∧ r.2.1 = s.2.2 ∧ tbG (m + 10) r.2.2 s ∧ Fr (fun b => b = m + 10) G r.2.2) (fun q => b_X11_oakum_69 τ n m u v w q.1 q.2.1 q.2.2.1 q.2.2.2)
    (fun a s q ha hp => ?_) (fun s q hp => ?_) (s := oa0 ω) (q := (0, ((1 : Int32) <<< (nI (cY ω) &&& 31)) - 1, 0, G)) ⟨rfl, rfl, fun y hy => ht y hy, rfl, Fr.rf⟩
  · obtain ⟨p1, p3, p2, G1⟩ := q
    obtain ⟨b1', b5, b2, b3, b4⟩ := hp
    have e1 : p1 = nI s.1 := b1'
    have e5 : p3 = s.2.2 := b5
    have t2 : tbG (m + 10) G1 s := b2
    have e2 : p2 = nI c := b3
    have q2 : Fr (fun b => b = m + 10) G G1 := b4
    clear b1' b2 b3 b4 b5
    subst e1; subst e2; subst e5
    obtain ⟨hM1, w1⟩ := cnt q2
    show gOk (b_X11_oakum_99 τ n m u v w (nI s.1) s.2.2 (nI a) (nI b) (nI c) G1) _
    unfold b_X11_oakum_99
    rw [hM1.cn.1, ka_bs, w1, hI.y0, if_neg (nI_ge hc (by omega)), m_fits hM1 w1 (by omega) (by omega) (by omega), ka_bs]
    by_cases h1 : stY ω a b c = u ∧ roY ω a b c = v
    · have ef : oaF ω u v a b c s = oaN a b c s := if_pos h1
      have f3 : Fr (fun b => b = m + 10) G1 (gse G1 (m + 10) a (nI (s.2.1 a + 1))) := Fr.e rfl
      have q3 := q2.tr f3
      have f4 : Fr (fun b => b = m + 10) (gse G1 (m + 10) a (nI (s.2.1 a + 1))) (gse (gse G1 (m + 10) a (nI (s.2.1 a + 1))) (m + 10) b (nI (s.2.1 b + 1))) := Fr.e rfl
      have q4 := q3.tr f4
      have f5 : Fr (fun b => b = m + 10) (gse (gse G1 (m + 10) a (nI (s.2.1 a + 1))) (m + 10) b (nI (s.2.1 b + 1))) (gse (gse (gse G1 (m + 10) a (nI (s.2.1 a + 1))) (m + 10) b (nI (s.2.1 b + 1))) (m + 10) c (nI (s.2.1 c + 1))) := Fr.e rfl
      have q5 := q4.tr f5
      have g0 : ge G1 (m + 10) a + 1 = nI (s.2.1 a + 1) := by rw [t2 a (by omega), nI_1]
      have g1 : ge (gse G1 (m + 10) a (nI (s.2.1 a + 1))) (m + 10) b + 1 = nI (s.2.1 b + 1) := by rw [ka_ee, if_neg (fun h => by omega), t2 b (by omega), nI_1]
      have g2 : ge (gse (gse G1 (m + 10) a (nI (s.2.1 a + 1))) (m + 10) b (nI (s.2.1 b + 1))) (m + 10) c + 1 = nI (s.2.1 c + 1) := by rw [ka_ee, if_neg (fun h => by omega), ka_ee, if_neg (fun h => by omega), t2 c (by omega), nI_1]
      rw [if_pos h1, if_neg ka_n10, ka_letE, m_th hM1, m_thc hM1 (by omega), m_thc hM1 (by omega), nI_clamp (show a < 2 ^ 31 by omega), g0, ka_letE, m_th (cnt q3).1, m_thc hM1 (by omega), m_thc hM1 (by omega), nI_clamp (show b < 2 ^ 31 by omega), g1, ka_letE, m_th (cnt q4).1, m_thc hM1 (by omega), m_thc hM1 (by omega), nI_clamp (show c < 2 ^ 31 by omega), g2, ka_letE, ka_letE, ka_letE, nI_1, nI_1]
      rw [ef]
      exact ⟨_, rfl, rfl, rfl, tb_put t2 (by omega) (by omega) (by omega) hab hbc, rfl, q5⟩
    · have ef : oaF ω u v a b c s = s := if_neg h1
      rw [if_neg h1, if_pos rfl, ka_letE, nI_1, ef]
      exact ⟨_, rfl, rfl, rfl, t2, rfl, q2⟩
  · obtain ⟨p1, p3, p2, G1⟩ := q
    obtain ⟨e1, e5, t2, rfl, q2⟩ := hp
    obtain ⟨hM1, w1⟩ := cnt q2
    show gOk (b_X11_oakum_99 τ n m u v w p1 p3 (nI a) (nI b) (nI (cY ω)) G1) _
    unfold b_X11_oakum_99
    rw [hM1.cn.1, ka_bs, w1, hI.y0, if_pos (nI_le (Nat.le_refl _) (by omega))]
    exact ⟨_, rfl, e1, e5, t2, q2⟩
  · obtain ⟨p1, p3, p2, G1⟩ := q
    obtain ⟨e1, e5, t2, rfl, q2⟩ := hp
    obtain ⟨hM1, w1⟩ := cnt q2
    refine ⟨(p1, p3, nI (b + 1), G1), ⟨e1, e5, t2, rfl, q2⟩, fun s' hs => ?_⟩
    show gOk (b_X11_oakum_84 τ n m u v w p1 p3 (nI a) (nI b) G1) _
    unfold b_X11_oakum_84 l_X11_oakum_99
    rw [hM1.cn.1, ka_bs, w1, hI.y0, if_neg (nI_ge hb (by omega)), ka_letE, nI_1, ka_bind]
    refine gOk.mono hs fun r hr => ?_
    rw [ka_letE, ka_letE, ka_letE, ka_letE]
    exact ⟨_, rfl, hr.1, hr.2.1, hr.2.2.1, rfl, hr.2.2.2⟩
  · obtain ⟨p1, p3, p2, G1⟩ := q
    obtain ⟨e1, e5, t2, rfl, q2⟩ := hp
    obtain ⟨hM1, w1⟩ := cnt q2
    show gOk (b_X11_oakum_84 τ n m u v w p1 p3 (nI a) (nI (cY ω)) G1) _
    unfold b_X11_oakum_84
    rw [hM1.cn.1, ka_bs, w1, hI.y0, if_pos (nI_le (Nat.le_refl _) (by omega))]
    exact ⟨_, rfl, e1, e5, t2, q2⟩
  · obtain ⟨p1, p3, p2, G1⟩ := q
    obtain ⟨e1, e5, t2, rfl, q2⟩ := hp
    obtain ⟨hM1, w1⟩ := cnt q2
    refine ⟨(p1, p3, nI (a + 1), G1), ⟨e1, e5, t2, rfl, q2⟩, fun s' hs => ?_⟩
    show gOk (b_X11_oakum_69 τ n m u v w p1 p3 (nI a) G1) _
    unfold b_X11_oakum_69 l_X11_oakum_84
    rw [hM1.cn.1, ka_bs, w1, hI.y0, if_neg (nI_ge ha (by omega)), ka_letE, nI_1, ka_bind]
    refine gOk.mono hs fun r hr => ?_
    rw [ka_letE, ka_letE, ka_letE, ka_letE]
    exact ⟨_, rfl, hr.1, hr.2.1, hr.2.2.1, rfl, hr.2.2.2⟩
  · obtain ⟨p1, p3, p2, G1⟩ := q
    obtain ⟨e1, e5, t2, rfl, q2⟩ := hp
    obtain ⟨hM1, w1⟩ := cnt q2
    show gOk (b_X11_oakum_69 τ n m u v w p1 p3 (nI (cY ω)) G1) _
    unfold b_X11_oakum_69
    rw [hM1.cn.1, ka_bs, w1, hI.y0, if_pos (nI_le (Nat.le_refl _) (by omega))]
    exact ⟨_, rfl, e1, e5, t2, q2⟩
theorem m_ask (hM : FM τ G m) (hω : ge G (m + 1) = ω) (hI : WI ω) (hn : 500 < n) {z : oS} (hz : z.1 ≤ 1000) (hzI : oaI (cY ω) z) (ht : tbG (m + 10) G z) : l_X11_oakum_236 τ n m (nI z.1) (-1) 1000000 0 G = some (asR (cY ω) z) := by
  have hy := hI.y1
  unfold l_X11_oakum_236
  have := ka_loop (body := fun (q : Int32 × Int32 × Int32) => b_X11_oakum_236 τ n m (nI z.1) q.1 q.2.1 q.2.2 G) (n := n) (cY ω) (fun c q => q.1 = (asA z c).1 ∧ q.2.1 = nI (asL 1000000 (asA z c).2) ∧ q.2.2 = nI c ∧ (z.1 < 2 → c = 0)) (K := fun r => r = asR (cY ω) z) (by omega) (s0 := (-1, 1000000, 0)) ⟨rfl, rfl, rfl, fun _ => rfl⟩ (fun c q hc hq => ?_)
  · obtain ⟨r, h1, h2'⟩ := this
    rw [h1, h2']
  · obtain ⟨x2, x3, x4⟩ := q
    obtain ⟨b1', b2, b3, b4⟩ := hq
    have e1 : x2 = (asA z c).1 := b1'
    have e2 : x3 = nI (asL 1000000 (asA z c).2) := b2
    have e3 : x4 = nI c := b3
    clear b1' b2 b3
    subst e3
    show gOk (b_X11_oakum_236 τ n m (nI z.1) x2 x3 (nI c) G) _
    unfold b_X11_oakum_236
    rw [hM.cn.1, ka_bs, hω, hI.y0]
    by_cases hlt : c < cY ω
    · rw [if_neg (nI_ge hlt (by omega))]
      by_cases h2 : z.1 < 2
      · rw [if_pos (show nI z.1 ≤ (1 : Int32) from nI_le (b := 1) (by omega) (by decide))]
        refine ⟨_, rfl, ?_⟩
        unfold asR
        rw [if_pos h2, e1, b4 h2]
        rfl
      · have hle := (hzI.1 c hlt).2
        have hL : asL 1000000 (asA z c).2 ≤ 1000000 := by
          cases hr : (asA z c).2 with
          | none => exact Nat.le_refl _
          | some w => have := asA_b hzI (c := c) (by omega) w hr; show w ≤ 1000000; omega
        have hs := asA_s hzI (z := 1000000) (by omega) hlt
        have hV : gmax (nI (z.2.1 c)) (nI z.1 - nI (z.2.1 c)) = nI (asV z c) := by
          rw [nI_sub hle]
          exact gmax_nI (by omega) (by omega)
        have hVl : asV z c ≤ z.1 := by unfold asV; omega
        rw [if_neg (show ¬ nI z.1 ≤ (1 : Int32) from nI_ge (a := 1) (by omega) (by omega)), m_th hM, m_thc hM (by omega), m_th hM, m_thc hM (by omega), nI_clamp (by omega), ht c (by omega), hV, ka_letE, e2]
        by_cases h3 : asV z c < asL 1000000 (asA z c).2
        · rw [if_pos h3] at hs
          rw [if_pos (nI_lt h3 (by omega)), ka_letE, nI_1]
          exact ⟨_, rfl, hlt, by rw [hs], by rw [hs]; rfl, rfl, fun h => absurd h h2⟩
        · rw [if_neg h3] at hs
          rw [if_neg (nI_nlt (by omega) (by omega)), ka_letE, nI_1]
          exact ⟨_, rfl, hlt, by rw [hs]; exact e1, by rw [hs], rfl, fun h => absurd h h2⟩
    · have hcN : c = cY ω := by omega
      rw [if_pos (nI_le (by omega) (by omega))]
      refine ⟨_, rfl, ?_⟩
      show x2 = asR (cY ω) z
      unfold asR
      by_cases h2 : z.1 < 2
      · rw [if_pos h2, e1, b4 h2]; rfl
      · rw [if_neg h2, e1, hcN]
theorem m_oakum (hM : FM τ G m) (hω : ge G (m + 1) = ω) (hI : WI ω) (hn : 500 < n) {u v : Int32} {j : Nat} (hj : j < 3) : gOk (f_X11_oakum τ n m u v (nI j) G) (fun p => Th [x_NSE] (.inr (oaR ω u v j)) p.1 (gi p.2 11 0 m) ∧ QM m G p.2) := by
  have hy := hI.y1
  have hM0 : FM τ (gsi G 11 0 m 0) m := QM.th.fm hM
  have w0 : ge (gsi G 11 0 m 0) (m + 1) = ω := hω
  have hj2 : ¬ (nI j < 0 ∨ 2 < nI j) := fun h => h.elim (fun h => nI_pos (by omega) h) (fun h => nI_nlt (a := 2) (b := j) (by omega) (by decide) h)
  unfold f_X11_oakum
  rw [ka_letE, m_in0, ka_bs, if_neg hj2, if_neg ka_n10]
  unfold k_X11_oakum_20
  rw [ka_b2 m_thIf0, if_pos rfl, hM0.cn.1, ka_bs, w0, hI.y0, ka_letE, ka_bind]
  generalize hfull : ((1 : Int32) <<< (nI (cY ω) &&& 31)) - 1 = full
  unfold l_X11_oakum_45
  refine gOk.mono (ka_loop 10 (fun c q => q.1 = nI c ∧ Fr (fun b => b = m + 10) (gsi G 11 0 m 0) q.2 ∧ ∀ j, j < c → ge q.2 (m + 10) j = 0) (K := fun G' => Fr (fun b => b = m + 10) (gsi G 11 0 m 0) G' ∧ ∀ j, j < 10 → ge G' (m + 10) j = 0) (by omega) ⟨rfl, Fr.rf, fun j hj => by omega⟩ (fun c q hc hq => ?_)) (fun G1 h1 => ?_)
  · obtain ⟨x4, G1⟩ := q
    obtain ⟨b1', b2, b3⟩ := hq
    have e1 : x4 = nI c := b1'
    have q1 : Fr (fun b => b = m + 10) (gsi G 11 0 m 0) G1 := b2
    have t1 : ∀ j, j < c → ge G1 (m + 10) j = 0 := b3
    clear b1' b2 b3
    subst e1
    have hM1 : FM τ G1 m := q1.fm hM0 (by omega)
    show gOk (b_X11_oakum_45 τ n m u v (nI j) 0 full (nI c) G1) _
    unfold b_X11_oakum_45
    by_cases hlt : c < 10
    · rw [if_neg (show ¬ (10 : Int32) ≤ nI c from nI_ge (b := 10) hlt (by decide)), m_th hM1, m_thc hM1 hlt, nI_clamp (by omega), ka_letE, ka_letE, nI_1]
      refine ⟨_, rfl, hlt, rfl, q1.tr (Fr.e rfl), fun j hj => ?_⟩
      show ge (gse G1 (m + 10) c 0) (m + 10) j = 0
      rw [ka_ee]
      by_cases hjc : j = c
      · rw [if_pos ⟨rfl, hjc⟩]
      · rw [if_neg (fun h => hjc h.2)]
        exact t1 j (by omega)
    · have hcN : c = 10 := by omega
      subst hcN
      rw [if_pos (show (10 : Int32) ≤ nI 10 from nI_le (Nat.le_refl 10) (by decide))]
      exact ⟨_, rfl, q1, t1⟩
  · obtain ⟨q1, t1⟩ := h1
    have hM1 : FM τ G1 m := q1.fm hM0 (by omega)
    have w1 : ge G1 (m + 1) = ω := (q1 (m + 1) (by omega)).2.2.1.trans w0
    rw [ka_letE]
    unfold k_X11_oakum_66
    rw [ka_bind, ← hfull]
    refine gOk.mono (m_tally hM1 w1 hI hn (u := u) (v := v) (w := nI j) t1) fun r hr => ?_
    obtain ⟨r1, r2, r3, r4⟩ := hr
    have hM2 : FM τ r.2.2 m := r4.fm hM1 (by omega)
    have w2 : ge r.2.2 (m + 1) = ω := (r4 (m + 1) (by omega)).2.2.1.trans w1
    obtain ⟨z1, z2, -⟩ := QM.t10 (q1.tr r4)
    have hz := oaS_n hI u v
    have hzI := oaS_I hI u v
    rw [ka_letE, ka_letE, ka_letE, r1, r2]
    unfold k_X11_oakum_199
    match j, hj with
    | 0, _ =>
      rw [if_neg (show ¬ (2 : Int32) ≤ nI 0 by decide), if_pos (show nI 0 = 0 from rfl)]
      exact ⟨_, rfl, ⟨z2.trans th_set, rfl⟩, QM.th.tr z1⟩
    | 1, _ =>
      rw [if_neg (show ¬ (2 : Int32) ≤ nI 1 by decide), if_neg (show ¬ nI 1 = 0 by decide)]
      have hsu := suS_e hy hzI
      by_cases h0 : (oaS ω u v).1 = 0
      · rw [if_pos h0] at hsu
        rw [h0, if_pos (show nI 0 = 0 from rfl)]
        exact ⟨_, rfl, ⟨z2.trans th_set, hsu.symm⟩, QM.th.tr z1⟩
      · rw [if_neg h0] at hsu
        rw [if_neg (nI_ne0 (by omega) (by omega))]
        exact ⟨_, rfl, ⟨z2.trans th_set, hsu.symm⟩, QM.th.tr z1⟩
    | 2, _ =>
      rw [if_pos (show (2 : Int32) ≤ nI 2 by decide), m_ask hM2 w2 hI hn hz hzI r3, ka_bs, ka_letE]
      exact ⟨_, rfl, ⟨z2.trans th_set, rfl⟩, QM.th.tr z1⟩
theorem op_oakum (hm : m = x + 512) (ho : o = m + 11) (hτ : gn τ o = 1) (hn : 500 < n) (hC : CV τ G x s t l l' ω im me ta fa) (hM : MV τ G m ω im me ta fa) (hI : IV ω im me ta) (u v w : Int32) : gOk (f_L_oakum τ n x u v w o G) (fun q => gOk (f_X11_oakum τ n m u v w q.2) (fun p => q.1 = gi p.2 11 0 m ∧ (q.1 = 0 → gl p.2 o 0 = p.1.toInt64) ∧ ST τ x m p.2)) := by
  unfold f_L_oakum
  rcases arg_ix w (N := 3) (by decide) with ⟨j, hj, rfl⟩ | ⟨hwo, -⟩
  · exact join_q (ans := .inr (oaR ω u v j)) hm ho hτ (by decide) hC hM hI (c_oakum hC hI hn hj) (fun G1 hM1 => m_oakum hM1.1 hM1.2.1 hI.1 hn hj)
  · have hw2 : w < 0 ∨ 2 < w := (out_in (N := 2) (by decide) rfl).mpr hwo
    refine join_q (ans := .inl x_NSE) hm ho hτ (by decide) hC hM hI ⟨(.inl x_NSE, G), ?_, rfl, QC.rf⟩ (fun G1 hM1 => ?_)
    · unfold f_X10_oakum
      by_cases h0 : w < 0
      · rw [if_pos h0]
      · rw [if_neg h0, if_neg (fun h => le_nlt.mp h (hw2.resolve_left h0))]
    · unfold f_X11_oakum
      rw [ka_letE, m_in0, ka_bs, if_pos hw2, if_pos rfl]
      unfold k_X11_oakum_20
      rw [ka_b2 m_thIf1, if_neg ka_n10]
      refine ⟨_, rfl, ?_, QM.th.tr QM.th⟩
      show gCode [x_NSE] x_NSE 1 = some _
      rw [th_set]
      rfl
end
