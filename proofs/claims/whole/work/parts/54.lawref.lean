/-! THE LAW in the reference -/
section
variable {τ : gτ} {n : Nat} {G : gG} {m i : Nat} {ω : gW}
theorem m_yarnOf (hM : FM τ G m) (hω : ge G (m + 1) = ω) (hi : i < 9) (hy : cY ω ≤ 10) {j k : Nat} (hj : rv ω i j = nI (ry ω i j)) (hl : ry ω i j < cY ω) (hj3 : j < 10) (hk : k < 4) {x y : Int32} (hx : x = nI j) (hyy : y = nI k) : f_X11_yarnOf τ m (nI i) x y G = some (yv ω (ry ω i j) k) := by
  unfold f_X11_yarnOf
  rw [hM.of i j rfl hx (by omega), ka_bs, hω, hj, hM.ofYarn (ry ω i j) k rfl hyy (by omega), ka_bs, hω]
theorem m_fact4 (hM : FM τ G m) (hω : ge G (m + 1) = ω) (hi : i < 9) (hy : cY ω ≤ 10) (hK : ROK ω i) :
    f_X11_weakOf τ m (nI i) G = some (gmin (yv ω (ry ω i 0) 0) (gmin (yv ω (ry ω i 1) 0) (yv ω (ry ω i 2) 0))) ∧
    f_X11_strongOf τ m (nI i) G = some (gmax (yv ω (ry ω i 0) 0) (gmax (yv ω (ry ω i 1) 0) (yv ω (ry ω i 2) 0))) ∧
    f_X11_rotOf τ m (nI i) G = some (yv ω (ry ω i 0) 2 + yv ω (ry ω i 1) 2 + yv ω (ry ω i 2) 2) ∧
    f_X11_reignsOf τ m (nI i) G = some (reS (yv ω (ry ω i 0) 3) (yv ω (ry ω i 1) 3) (yv ω (ry ω i 2) 3)) := by
  obtain ⟨⟨e0, e1, e2⟩, l0, l1, l2⟩ := hK.y
  have a0 := fun (k : Nat) (hk : k < 4) (y : Int32) (hyy : y = nI k) => m_yarnOf hM hω hi hy e0 l0 (by decide) hk (x := 0) rfl hyy
  have a1 := fun (k : Nat) (hk : k < 4) (y : Int32) (hyy : y = nI k) => m_yarnOf hM hω hi hy e1 l1 (by decide) hk (x := 1) rfl hyy
  have a2 := fun (k : Nat) (hk : k < 4) (y : Int32) (hyy : y = nI k) => m_yarnOf hM hω hi hy e2 l2 (by decide) hk (x := 2) rfl hyy
  refine ⟨?_, ?_, ?_, ?_⟩
  · unfold f_X11_weakOf
    rw [a0 0 (by decide) 0 rfl, a1 0 (by decide) 0 rfl, a2 0 (by decide) 0 rfl]
    rfl
  · unfold f_X11_strongOf
    rw [a0 0 (by decide) 0 rfl, a1 0 (by decide) 0 rfl, a2 0 (by decide) 0 rfl]
    rfl
  · unfold f_X11_rotOf
    rw [a0 2 (by decide) 2 rfl, a1 2 (by decide) 2 rfl, a2 2 (by decide) 2 rfl]
    rfl
  · unfold f_X11_reignsOf
    rw [a0 3 (by decide) 3 rfl, a1 3 (by decide) 3 rfl, a2 3 (by decide) 3 rfl]
    rfl
theorem m_factOf (hM : FM τ G m) (hω : ge G (m + 1) = ω) (hi : i < 9) (hy : cY ω ≤ 10) (hK : ROK ω i) {c x : Int32} : f_X11_factOf τ m c x (nI i) G = some (fcS ω i c x) := by
  obtain ⟨h1, h2, h3, h4⟩ := m_fact4 hM hω hi hy hK
  unfold f_X11_factOf fcS
  simp only [h1, h2, h3, h4, hM.ofs hi, hM.rf, hω, ka_bs, hM.w (x := 5) 5 rfl (by decide), ka_si, wiS]
  rfl
theorem m_head (hM : FM τ G m) (hω : ge G (m + 1) = ω) {ln k : Nat} {L : List Int32} (hlt : k < le ω ln) (hle : lw ω ln 3 = nI (le ω ln)) (h4 : le ω ln ≤ 400) (hln : ln < 12) :
    (∀ {ρ : Type} {e : Option ρ}, gchk (gIn (nI (468 + 4 * ln) + 3) (gn τ (m + 1))) e = e) ∧ ge G (m + 1) (nI (468 + 4 * ln) + 3).toNatClampNeg = nI (le ω ln) ∧ (∀ {ρ : Type} {e : Option ρ}, gchk (gIn (516 + 2 * nI k) (gn τ (m + 1))) e = e) ∧ ge G (m + 1) ((516 : Int32) + 2 * nI k).toNatClampNeg = sc ω k ∧ (∀ {ρ : Type} {e : Option ρ}, gchk (gIn (516 + 2 * nI k + 1) (gn τ (m + 1))) e = e) ∧ ge G (m + 1) ((516 : Int32) + 2 * nI k + 1).toNatClampNeg = sn ω k := by
  have q1 : nI (468 + 4 * ln) + 3 = nI (468 + 4 * ln + 3) := ka_ix rfl
  have q2 : (516 : Int32) + 2 * nI k = nI (516 + 2 * k) := by rw [show (2 : Int32) = nI 2 from rfl, pk_mul, show (516 : Int32) = nI 516 from rfl, nI_add]
  have q3 : nI (516 + 2 * k) + 1 = nI (516 + 2 * k + 1) := nI_1 _
  rw [q1, q2, q3]
  refine ⟨hM.w (468 + 4 * ln + 3) rfl (by omega), ?_, hM.w (516 + 2 * k) rfl (by omega), ?_, hM.w (516 + 2 * k + 1) rfl (by omega), ?_⟩
  · rw [hω, nI_clamp (by omega)]; exact hle
  · rw [hω, nI_clamp (by omega)]; rfl
  · rw [hω, nI_clamp (by omega)]; unfold sn; congr 1; omega
theorem FM.v (hM : FM τ G m) {j : Nat} (hj : j < 400) {ρ : Type} {e : Option ρ} : gchk (gIn (nI j) (gn τ (m + 8))) e = e := ka_chkT (by rw [hM.2.2.2.2.2.2.2.2.1]; exact ka_in hj (by decide))
theorem m_stepP (hM : FM τ G m) (hω : ge G (m + 1) = ω) (hi : i < 9) (hy : cY ω ≤ 10) (hK : ROK ω i) {ln k : Nat} {L : List Int32} (hc : sc ω k ≤ 11) (hlen : L.length ≤ 20) (hS : SK (ge G (m + 8)) L) (hlt : k < le ω ln) (hle : lw ω ln 3 = nI (le ω ln)) (h4 : le ω ln ≤ 400) (hln : ln < 12) :
    b_X11_holdsLine_22 τ n m (nI i) (nI L.length) (nI (468 + 4 * ln)) (nI k) G = some (.inl (nI (fcS ω i (sc ω k) (sn ω k) :: L).length, nI (k + 1), gse G (m + 8) L.length (fcS ω i (sc ω k) (sn ω k)))) := by
  obtain ⟨p1, p2, p3, p4, p5, p6⟩ := m_head (L := L) hM hω hlt hle h4 hln
  unfold b_X11_holdsLine_22
  rw [hM.rf.1, ka_bs, p1, p2, if_neg (nI_ge hlt (by omega)), ka_bs, p3, p4, ka_letE, if_neg (show ¬ (11 : Int32) < sc ω k from Int32.not_lt.mpr hc)]
  rw [hM.rf.2.2.2.2.2.2.2.1, ka_bs, ka_bs, p5, p6, m_factOf hM hω hi hy hK, ka_bs, hM.v (show L.length < 400 by omega), nI_clamp (by omega), ka_letE, ka_letE, ka_letE, nI_1, nI_1]
  rfl
theorem m_stepN (hM : FM τ G m) (hω : ge G (m + 1) = ω) {ln k : Nat} {x : Int32} {r : List Int32} (hc : sc ω k = 15) (hlen : r.length < 20) (hx : ge G (m + 8) r.length = x) (hlt : k < le ω ln) (hle : lw ω ln 3 = nI (le ω ln)) (h4 : le ω ln ≤ 400) (hln : ln < 12) :
    b_X11_holdsLine_22 τ n m (nI i) (nI (r.length + 1)) (nI (468 + 4 * ln)) (nI k) G = some (.inl (nI (r.length + 1), nI (k + 1), gse G (m + 8) r.length (1 - x))) := by
  obtain ⟨p1, p2, p3, p4, p5, p6⟩ := m_head (L := r) hM hω hlt hle h4 hln
  have e1 : nI (r.length + 1) - 1 = nI r.length := nI_pred _
  unfold b_X11_holdsLine_22
  rw [hM.rf.1, ka_bs, p1, p2, if_neg (nI_ge hlt (by omega)), ka_bs, p3, p4, ka_letE, if_pos (show (11 : Int32) < sc ω k by rw [hc]; decide), if_pos hc]
  rw [hM.rf.2.2.2.2.2.2.2.1, ka_bs, ka_bs, e1, hM.v (show r.length < 400 by omega), hM.v (show r.length < 400 by omega), nI_clamp (by omega), hx, ka_letE, ka_letE, nI_1]
theorem m_step222 (hM : FM τ G m) {x4 c : Int32} {k q : Nat} {a b s0 v : Int32} (hq : q < 400) (hv : (if c = 12 then a + b else if s0 = 0 then 0 else 1) = v) : k_X11_holdsLine_222 τ n m (nI i) (nI (q + 1)) x4 (nI k) c a b s0 G = some (.inl (nI (q + 1), nI (k + 1), gse G (m + 8) q v)) := by
  have e2 : nI (q + 1) - 1 = nI q := nI_pred _
  have fin : ∀ w : Int32, w = v → k_X11_holdsLine_256 τ n m (nI i) (nI (q + 1)) x4 (nI k) (m + 8) (nI q) w G = some (.inl (nI (q + 1), nI (k + 1), gse G (m + 8) q v)) := by
    intro w hw
    unfold k_X11_holdsLine_256
    rw [hM.v hq, nI_clamp (by omega), ka_letE, ka_letE, nI_1, hw]
  unfold k_X11_holdsLine_222
  rw [hM.rf.2.2.2.2.2.2.2.1, ka_bs, e2]
  by_cases h12 : c = 12
  · rw [if_pos h12] at hv ⊢
    exact fin _ hv
  · rw [if_neg h12] at hv ⊢
    by_cases h0 : s0 = 0
    · rw [if_pos h0] at hv ⊢
      exact fin _ hv
    · rw [if_neg h0] at hv ⊢
      exact fin _ hv
theorem opS_e (c a b s0 : Int32) (h : s0 = if c = 13 then (if b ≤ a then 0 else 1) else if c = 14 then (if a ≤ b then 0 else 1) else if c = 16 then (if a + b = 2 then 1 else 0) else if a + b ≤ 0 then 0 else 1) : (if c = 12 then a + b else if s0 = 0 then 0 else 1) = opS c a b := by
  unfold opS
  by_cases h12 : c = 12
  · rw [if_pos h12, if_pos h12]
  · rw [if_neg h12, if_neg h12, h]
    by_cases h13 : c = 13
    · rw [if_pos h13, if_pos h13]
      by_cases hab : b ≤ a
      · rw [if_pos hab, if_pos rfl, if_neg (Int32.not_lt.mpr hab)]
      · rw [if_neg hab, if_neg ka_n10, if_pos (Int32.not_le.mp hab)]
    · rw [if_neg h13, if_neg h13]
      by_cases h14 : c = 14
      · rw [if_pos h14, if_pos h14]
        by_cases hab : a ≤ b
        · rw [if_pos hab, if_pos rfl, if_neg (Int32.not_lt.mpr hab)]
        · rw [if_neg hab, if_neg ka_n10, if_pos (Int32.not_le.mp hab)]
      · rw [if_neg h14, if_neg h14]
        by_cases h16 : c = 16
        · rw [if_pos h16]
          by_cases hab : a + b = 2
          · rw [if_pos hab, if_neg ka_n10]
          · rw [if_neg hab, if_pos rfl]
        · rw [if_neg h16]
          by_cases hab : a + b ≤ 0
          · rw [if_pos hab, if_pos rfl]
          · rw [if_neg hab, if_neg ka_n10]
theorem m_stepB (hM : FM τ G m) (hω : ge G (m + 1) = ω) {ln k : Nat} {a b : Int32} {r : List Int32} (hc : ¬ sc ω k ≤ 11) (hc2 : ¬ sc ω k = 15) (hlen : r.length < 20) (hb : ge G (m + 8) (r.length + 1) = b) (ha : ge G (m + 8) r.length = a) (hlt : k < le ω ln) (hle : lw ω ln 3 = nI (le ω ln)) (h4 : le ω ln ≤ 400) (hln : ln < 12) :
    b_X11_holdsLine_22 τ n m (nI i) (nI (r.length + 1 + 1)) (nI (468 + 4 * ln)) (nI k) G = some (.inl (nI (r.length + 1), nI (k + 1), gse G (m + 8) r.length (opS (sc ω k) a b))) := by
  obtain ⟨p1, p2, p3, p4, p5, p6⟩ := m_head (L := r) hM hω hlt hle h4 hln
  have e1 : nI (r.length + 1 + 1) + (-1) = nI (r.length + 1) := pk_m1 _
  have e2 : nI (r.length + 1) - 1 = nI r.length := nI_pred _
  have k2 := fun (s0 : Int32) (h : s0 = _) => m_step222 (n := n) (i := i) (G := G) hM (x4 := nI (468 + 4 * ln)) (k := k) (show r.length < 400 by omega) (opS_e (sc ω k) a b s0 h)
  unfold b_X11_holdsLine_22
  rw [hM.rf.1, ka_bs, p1, p2, if_neg (nI_ge hlt (by omega)), ka_bs, p3, p4, ka_letE, if_pos (Int32.not_le.mp hc), if_neg hc2]
  rw [e1, ka_letE, hM.rf.2.2.2.2.2.2.2.1, ka_bs, e2, hM.v (show r.length < 400 by omega), nI_clamp (show r.length < 2 ^ 31 by omega), ha, ka_letE, ka_bs, hM.v (show r.length + 1 < 400 by omega), nI_clamp (show r.length + 1 < 2 ^ 31 by omega), hb, ka_letE]
  by_cases h13 : sc ω k = 13
  · rw [if_pos h13]
    by_cases hab : b ≤ a
    · rw [if_pos hab]
      exact k2 0 (by rw [if_pos h13, if_pos hab])
    · rw [if_neg hab]
      exact k2 1 (by rw [if_pos h13, if_neg hab])
  · rw [if_neg h13]
    by_cases h14 : sc ω k = 14
    · rw [if_pos h14]
      by_cases hab : a ≤ b
      · rw [if_pos hab]
        exact k2 0 (by rw [if_neg h13, if_pos h14, if_pos hab])
      · rw [if_neg hab]
        exact k2 1 (by rw [if_neg h13, if_pos h14, if_neg hab])
    · rw [if_neg h14]
      by_cases h16 : sc ω k = 16
      · rw [if_pos h16]
        by_cases hab : a + b = 2
        · rw [if_pos hab]
          exact k2 1 (by rw [if_neg h13, if_neg h14, if_pos h16, if_pos hab])
        · rw [if_neg hab]
          exact k2 0 (by rw [if_neg h13, if_neg h14, if_pos h16, if_neg hab])
      · rw [if_neg h16]
        by_cases hab : a + b ≤ 0
        · rw [if_pos hab]
          exact k2 0 (by rw [if_neg h13, if_neg h14, if_neg h16, if_pos hab])
        · rw [if_neg hab]
          exact k2 1 (by rw [if_neg h13, if_neg h14, if_neg h16, if_neg hab])
theorem ty_not {ω : gW} {k : Nat} {T T' : List Bool} {L : List Int32} (hT : TV T L) (hty : tyS (sc ω k) T = some T') (h11 : ¬ sc ω k ≤ 11) (h15 : sc ω k = 15) : ∃ x r, L = x :: r := by
  match L with
  | x :: r => exact ⟨x, r, rfl⟩
  | [] =>
    exfalso
    unfold tyS at hty
    rw [if_neg h11, if_pos h15] at hty
    match T, hT, hty with
    | [], _, hty => cases hty
theorem ty_two {ω : gW} {k : Nat} {T T' : List Bool} {L : List Int32} (hT : TV T L) (hty : tyS (sc ω k) T = some T') (h11 : ¬ sc ω k ≤ 11) (h15 : ¬ sc ω k = 15) : ∃ b a r, L = b :: a :: r := by
  have ht2 : ∃ t r, T = t :: t :: r := by
    unfold tyS at hty
    rw [if_neg h11, if_neg h15] at hty
    split at hty
    · split at hty
      · exact ⟨false, _, rfl⟩
      · cases hty
    · split at hty
      · split at hty
        · exact ⟨false, _, rfl⟩
        · cases hty
      · split at hty
        · exact ⟨true, _, rfl⟩
        · cases hty
  obtain ⟨t, r, rfl⟩ := ht2
  match L, hT with
  | b :: a :: r, _ => exact ⟨b, a, r, rfl⟩
theorem m_step (hM : FM τ G m) (hω : ge G (m + 1) = ω) (hi : i < 9) (hy : cY ω ≤ 10) (hK : ROK ω i) {ln k : Nat} {L : List Int32} {T T' : List Bool} (hT : TV T L) (hty : tyS (sc ω k) T = some T') (hst : stV ω k) (hlen : L.length ≤ 20) (hS : SK (ge G (m + 8)) L) (hlt : k < le ω ln) (hle : lw ω ln 3 = nI (le ω ln)) (h4 : le ω ln ≤ 400) (hln : ln < 12) :
    ∃ G', b_X11_holdsLine_22 τ n m (nI i) (nI L.length) (nI (468 + 4 * ln)) (nI k) G = some (.inl (nI (stepL ω i k L).length, nI (k + 1), G')) ∧ SK (ge G' (m + 8)) (stepL ω i k L) ∧ Fr (fun b => b = m + 8) G G' := by
  unfold stepL
  by_cases h11 : sc ω k ≤ 11
  · rw [if_pos h11]
    refine ⟨_, m_stepP hM hω hi hy hK h11 hlen hS hlt hle h4 hln, ⟨?_, ?_⟩, Fr.e rfl⟩
    · rw [ka_ee, if_pos ⟨rfl, rfl⟩]
    · refine hS.keep fun q hq => ?_
      rw [ka_ee, if_neg (fun e => by omega)]
  · rw [if_neg h11]
    by_cases h15 : sc ω k = 15
    · rw [if_pos h15]
      obtain ⟨x, r, rfl⟩ := ty_not hT hty h11 h15
      have hr : r.length < 20 := by have : (x :: r).length = r.length + 1 := rfl; omega
      refine ⟨_, m_stepN hM hω h15 hr hS.1 hlt hle h4 hln, ⟨?_, ?_⟩, Fr.e rfl⟩
      · rw [ka_ee, if_pos ⟨rfl, rfl⟩]
      · refine hS.2.keep fun q hq => ?_
        rw [ka_ee, if_neg (fun e => by omega)]
    · rw [if_neg h15]
      obtain ⟨b, a, r, rfl⟩ := ty_two hT hty h11 h15
      have hr : r.length < 20 := by have : (b :: a :: r).length = r.length + 1 + 1 := rfl; omega
      refine ⟨_, m_stepB hM hω h11 h15 hr hS.1 hS.2.1 hlt hle h4 hln, ⟨?_, ?_⟩, Fr.e rfl⟩
      · rw [ka_ee, if_pos ⟨rfl, rfl⟩]
      · refine hS.2.2.keep fun q hq => ?_
        rw [ka_ee, if_neg (fun e => by omega)]
def smS (ω : gW) (i : Nat) (w : Int32) : Int32 := if ω 4 = 1 then acc (fun ln b => if lw ω ln 0 = w ∧ ¬ cnS ω i ln = 0 then b + lw ω ln 1 else b) 0 (cLn ω) else 0
def soS (ω : gW) (y : Nat) : Int32 := gmax 0 (yv ω y 0 - yv ω y 2)
def beS (ω : gW) (i : Nat) : Int32 := if rv ω i 8 = 0 then gmax 0 (soS ω (ry ω i 0) + soS ω (ry ω i 1) + soS ω (ry ω i 2) + smS ω i 1 - smS ω i (-1) - rv ω i 5 / 10) * rv ω i 7 else 0
def weS (ω : gW) (i : Nat) : Int32 := if ω 4 = 1 then smS ω i 0 else 1
theorem CI.ends {b e : Nat} (h : CI ω b e) (h6 : rv ω i 6 = 0 ∨ rv ω i 6 = 1) : evL ω i b (e - b) = [] ∨ ∃ v, evL ω i b (e - b) = [v] ∧ (v = 0 ∨ v = 1) := by
  rcases h.2.2.1 with rfl | h
  · left
    rw [Nat.sub_self]; rfl
  · right
    have h := TV.run (i := i) h6 h
    match hL : evL ω i b (e - b), h with
    | [v], h => exact ⟨v, rfl, h.1 rfl⟩
theorem m_holdsLine (hM : FM τ G m) (hω : ge G (m + 1) = ω) (hi : i < 9) (hy : cY ω ≤ 10) (hK : ROK ω i) (hLI : LI ω) (h1 : ω 4 = 1) {ln : Nat} (hln : ln < cLn ω) (hn : 500 < n) : gOk (f_X11_holdsLine τ n m (nI ln) (nI i) G) (fun q => q.1 = cnS ω i ln ∧ Fr (fun b => b = m + 8) G q.2) := by
  obtain ⟨-, hc12, hls⟩ := hLI h1
  obtain ⟨-, hb2, hb3, hCI, -⟩ := hls ln hln
  have h6 := bt01 hK.2.2.1.2.2.2.1
  have hend := hCI.ends h6
  obtain ⟨c1, c2, c3, c4, c5⟩ := hCI
  have hv : gn τ (m + 8) = 400 := hM.2.2.2.2.2.2.2.2.1
  have q0 : (468 : Int32) + 4 * nI ln = nI (468 + 4 * ln) := by rw [show (4 : Int32) = nI 4 from rfl, pk_mul, show (468 : Int32) = nI 468 from rfl, nI_add]
  have q1 : nI (468 + 4 * ln) + 2 = nI (468 + 4 * ln + 2) := ka_ix rfl
  have q3 : nI (468 + 4 * ln) + 3 = nI (468 + 4 * ln + 3) := ka_ix rfl
  have r1 : ge G (m + 1) (nI (468 + 4 * ln + 2)).toNatClampNeg = nI (lb ω ln) := by rw [hω, nI_clamp (by omega)]; exact hb2
  unfold f_X11_holdsLine
  simp only [ka_letE, hM.rf, ka_bs, q0, q1, hM.w (468 + 4 * ln + 2) rfl (by omega), r1]
  rw [ka_bind]
  unfold l_X11_holdsLine_22
  refine gOk.mono (ka_loop (le ω ln - lb ω ln) (fun k q => q.1 = nI (evL ω i (lb ω ln) k).length ∧ q.2.1 = nI (lb ω ln + k) ∧ SK (ge q.2.2 (m + 8)) (evL ω i (lb ω ln) k) ∧ Fr (fun b => b = m + 8) G q.2.2) (K := fun r => r.1 = nI (evL ω i (lb ω ln) (le ω ln - lb ω ln)).length ∧ SK (ge r.2 (m + 8)) (evL ω i (lb ω ln) (le ω ln - lb ω ln)) ∧ Fr (fun b => b = m + 8) G r.2) (by omega) ⟨rfl, rfl, trivial, Fr.rf⟩ (fun k q hk hI => ?_)) (fun r hr => ?_)
  · obtain ⟨x3, x5, G1⟩ := q
    obtain ⟨e1, e2, e3, e4⟩ := hI
    have e1 : x3 = nI (evL ω i (lb ω ln) k).length := e1
    have e2 : x5 = nI (lb ω ln + k) := e2
    subst e1; subst e2
    have hM1 : FM τ G1 m := e4.fm hM (by omega)
    have hω1 : ge G1 (m + 1) = ω := (e4 (m + 1) (by omega)).2.2.1.trans hω
    by_cases hlt : k < le ω ln - lb ω ln
    · obtain ⟨T, hT, hTl⟩ := c4 k (by omega)
      obtain ⟨T', hT', -⟩ := c4 (k + 1) (by omega)
      have hty : tyS (sc ω (lb ω ln + k)) T = some T' := by
        have h : (tyR ω (lb ω ln) k).bind (tyS (sc ω (lb ω ln + k))) = some T' := hT'
        rw [hT] at h
        exact h
      have hTV := TV.run (i := i) h6 hT
      obtain ⟨G2, a1, a2, a3⟩ := m_step (n := n) hM1 hω1 hi hy hK hTV hty (c5 (lb ω ln + k) (by omega) (by omega)) (by rw [← hTV.len]; exact hTl) e3 (ln := ln) (by omega) hb3 c2 (by omega)
      exact ⟨_, a1, hlt, rfl, rfl, a2, e4.tr a3⟩
    · have hkN : k = le ω ln - lb ω ln := by omega
      subst hkN
      have r3 : ge G1 (m + 1) (nI (468 + 4 * ln + 3)).toNatClampNeg = nI (le ω ln) := by rw [hω1, nI_clamp (by omega)]; exact hb3
      refine ⟨.inr (nI (evL ω i (lb ω ln) (le ω ln - lb ω ln)).length, G1), ?_, rfl, e3, e4⟩
      show b_X11_holdsLine_22 τ n m (nI i) _ _ _ _ = _
      unfold b_X11_holdsLine_22
      simp only [hM1.rf, ka_bs, q3, hM1.w (468 + 4 * ln + 3) rfl (by omega), r3, nI_t (show le ω ln ≤ lb ω ln + (le ω ln - lb ω ln) by omega) (by omega), if_true]
  · obtain ⟨x3, G1⟩ := r
    obtain ⟨e1, e3, e4⟩ := hr
    have e1 : x3 = nI (evL ω i (lb ω ln) (le ω ln - lb ω ln)).length := e1
    have e3 : SK (ge G1 (m + 8)) (evL ω i (lb ω ln) (le ω ln - lb ω ln)) := e3
    have e4 : Fr (fun b => b = m + 8) G G1 := e4
    subst e1
    have hM1 : FM τ G1 m := e4.fm hM (by omega)
    unfold k_X11_holdsLine_263 cnS
    rcases hend with hL | ⟨v, hL, hv01⟩
    · rw [hL] at e3 ⊢
      exact ⟨_, rfl, rfl, e4⟩
    · rw [hL] at e3 ⊢
      have hv0 : ge G1 (m + 8) 0 = v := e3.1
      rw [if_neg (show ¬ nI [v].length = 0 from ka_n10)]
      simp only [hM1.rf, ka_bs, ka_chkT (show gIn (0 : Int32) (gn τ (m + 8)) by rw [hv]; exact ka_in (i := 0) (by decide) (by decide)), show (0 : Int32).toNatClampNeg = 0 from rfl, hv0]
      by_cases hv1 : v = 1
      · rw [if_pos hv1, if_pos hv1]
        exact ⟨_, rfl, rfl, e4⟩
      · rw [if_neg hv1, if_neg hv1]
        exact ⟨_, rfl, rfl, e4⟩
theorem m_sumOf (hM : FM τ G m) (hω : ge G (m + 1) = ω) (hi : i < 9) (hy : cY ω ≤ 10) (hK : ROK ω i) (hLI : LI ω) {w : Int32} (hn : 500 < n) : gOk (f_X11_sumOf τ n m w (nI i) G) (fun q => q.1 = smS ω i w ∧ Fr (fun b => b = m + 8) G q.2) := by
  unfold f_X11_sumOf
  rw [ka_bind]
  unfold l_X11_sumOf_5 smS
  have w4 : ∀ {G1 : gG}, ge G1 (m + 1) = ω → ge G1 (m + 1) (4 : Int32).toNatClampNeg = ω 4 := fun h => by rw [h]; rfl
  by_cases h1 : ω 4 = 1
  · obtain ⟨hc, hc12, hls⟩ := hLI h1
    rw [if_pos h1]
    refine gOk.mono (ka_loop (cLn ω) (fun k q => q.1 = acc (fun ln b => if lw ω ln 0 = w ∧ ¬ cnS ω i ln = 0 then b + lw ω ln 1 else b) 0 k ∧ q.2.1 = nI k ∧ Fr (fun b => b = m + 8) G q.2.2) (K := fun r => r.1 = acc (fun ln b => if lw ω ln 0 = w ∧ ¬ cnS ω i ln = 0 then b + lw ω ln 1 else b) 0 (cLn ω) ∧ Fr (fun b => b = m + 8) G r.2) (by omega) ⟨rfl, rfl, Fr.rf⟩ (fun k q hk hI => ?_)) (fun r hr => ?_)
    · obtain ⟨x3, x5, G1⟩ := q
      obtain ⟨e1, e2, e4⟩ := hI
      have e1 : x3 = _ := e1
      have e2 : x5 = nI k := e2
      subst e1; subst e2
      have hM1 : FM τ G1 m := e4.fm hM (by omega)
      have hω1 : ge G1 (m + 1) = ω := (e4 (m + 1) (by omega)).2.2.1.trans hω
      have w467 : ge G1 (m + 1) (467 : Int32).toNatClampNeg = nI (cLn ω) := by rw [hω1]; exact hc
      show gOk (b_X11_sumOf_5 τ n m w (nI i) _ _ _) _
      unfold b_X11_sumOf_5
      simp only [hM1.rf, ka_bs, hM1.w (x := 4) 4 rfl (by decide), w4 hω1, h1, if_true, hM1.w (x := 467) 467 rfl (by decide), w467]
      by_cases hlt : k < cLn ω
      · have q0 : (468 : Int32) + 4 * nI k = nI (468 + 4 * k) := by rw [show (4 : Int32) = nI 4 from rfl, pk_mul, show (468 : Int32) = nI 468 from rfl, nI_add]
        have q1 : nI (468 + 4 * k) + 1 = nI (468 + 4 * k + 1) := nI_1 _
        have r0 : ge G1 (m + 1) (nI (468 + 4 * k)).toNatClampNeg = lw ω k 0 := by rw [hω1, nI_clamp (by omega)]; rfl
        simp only [nI_n hlt (by omega), if_false, q0, hM1.w (468 + 4 * k) rfl (by omega), r0]
        refine ka_ite (fun hw => ?_) (fun hw => ?_)
        · rw [ka_bind2]
          refine gOk.mono (m_holdsLine hM1 hω1 hi hy hK hLI h1 hlt hn) (fun r hr => ?_)
          obtain ⟨v, G2⟩ := r
          obtain ⟨a1, a2⟩ := hr
          have a1 : v = cnS ω i k := a1
          have a2 : Fr (fun b => b = m + 8) G1 G2 := a2
          subst a1
          have hM2 : FM τ G2 m := a2.fm hM1 (by omega)
          have hω2 : ge G2 (m + 1) = ω := (a2 (m + 1) (by omega)).2.2.1.trans hω1
          have r1 : ge G2 (m + 1) (nI (468 + 4 * k + 1)).toNatClampNeg = lw ω k 1 := by rw [hω2, nI_clamp (by omega)]; rfl
          refine ka_ite (fun hz => ?_) (fun hz => ?_)
          · refine ⟨_, rfl, hlt, ?_, nI_1 k, e4.tr a2⟩
            show _ = acc _ 0 (k + 1)
            rw [acc_s, if_neg (fun h => h.2 hz)]
          · simp only [hM2.rf, ka_bs, q1, hM2.w (468 + 4 * k + 1) rfl (by omega), r1, ka_letE]
            refine ⟨_, rfl, hlt, ?_, nI_1 k, e4.tr a2⟩
            show _ = acc _ 0 (k + 1)
            rw [acc_s, if_pos ⟨hw, hz⟩]
        · refine ⟨_, rfl, hlt, ?_, nI_1 k, e4⟩
          show _ = acc _ 0 (k + 1)
          rw [acc_s, if_neg (fun h => hw h.1)]
      · have hkN : k = cLn ω := by omega
        subst hkN
        simp only [nI_t (Nat.le_refl _) (show cLn ω < 2 ^ 31 by omega), if_true]
        exact ⟨_, rfl, rfl, e4⟩
    · obtain ⟨v, G1⟩ := r
      exact ⟨_, rfl, hr.1, hr.2⟩
  · rw [if_neg h1]
    refine gOk.mono (ka_loop 0 (fun k q => q = (0, 0, G)) (K := fun r => r = (0, G)) (by omega) rfl (fun k q hk hI => ?_)) (fun r hr => ?_)
    · subst hI
      refine ⟨.inr (0, G), ?_, rfl⟩
      show b_X11_sumOf_5 τ n m w (nI i) 0 0 G = _
      unfold b_X11_sumOf_5
      simp only [hM.rf, ka_bs, hM.w (x := 4) 4 rfl (by decide), w4 hω, h1, if_false]
    · subst hr
      exact ⟨_, rfl, rfl, Fr.rf⟩
theorem m_soundOf (hM : FM τ G m) (hω : ge G (m + 1) = ω) {y : Nat} (hy : y < 10) : f_X11_soundOf τ m (nI y) G = some (soS ω y) := by
  unfold f_X11_soundOf soS
  simp only [hM.ofYs hy, ka_bs, hω]
theorem m_bearsOf (hM : FM τ G m) (hω : ge G (m + 1) = ω) (hi : i < 9) (hy : cY ω ≤ 10) (hK : ROK ω i) (hLI : LI ω) (hn : 500 < n) : gOk (f_X11_bearsOf τ n m (nI i) G) (fun q => q.1 = beS ω i ∧ Fr (fun b => b = m + 8) G q.2) := by
  obtain ⟨⟨e0, e1, e2⟩, l0, l1, l2⟩ := hK.y
  unfold f_X11_bearsOf beS
  rw [m_isWhole hM hi, hω, ka_bs]
  by_cases h : rv ω i 8 = 0
  · rw [if_pos h, if_pos h, if_neg ka_n10]
    simp only [hM.ofs hi, hω, ka_bs, e0, e1, e2, m_soundOf hM hω (show ry ω i 0 < 10 by omega), m_soundOf hM hω (show ry ω i 1 < 10 by omega), m_soundOf hM hω (show ry ω i 2 < 10 by omega)]
    rw [ka_bind2]
    refine gOk.mono (m_sumOf hM hω hi hy hK hLI hn) (fun r hr => ?_)
    obtain ⟨v, G1⟩ := r
    obtain ⟨a1, a2⟩ := hr
    have a1 : v = smS ω i 1 := a1
    have a2 : Fr (fun b => b = m + 8) G G1 := a2
    subst a1
    have hM1 : FM τ G1 m := a2.fm hM (by omega)
    have hω1 : ge G1 (m + 1) = ω := (a2 (m + 1) (by omega)).2.2.1.trans hω
    rw [ka_bind2]
    refine gOk.mono (m_sumOf hM1 hω1 hi hy hK hLI hn) (fun r hr => ?_)
    obtain ⟨v, G2⟩ := r
    obtain ⟨b1, b2⟩ := hr
    have b1 : v = smS ω i (-1) := b1
    have b2 : Fr (fun b => b = m + 8) G1 G2 := b2
    subst b1
    have hM2 : FM τ G2 m := b2.fm hM1 (by omega)
    have hω2 : ge G2 (m + 1) = ω := (b2 (m + 1) (by omega)).2.2.1.trans hω1
    simp only [hM2.ofs hi, hω2, ka_bs, ka_letE]
    exact ⟨_, rfl, rfl, a2.tr b2⟩
  · rw [if_neg h, if_neg h, if_pos rfl]
    exact ⟨_, rfl, rfl, Fr.rf⟩
theorem m_wearsBy (hM : FM τ G m) (hω : ge G (m + 1) = ω) (hi : i < 9) (hy : cY ω ≤ 10) (hK : ROK ω i) (hLI : LI ω) (hn : 500 < n) : gOk (f_X11_wearsBy τ n m (nI i) G) (fun q => q.1 = weS ω i ∧ Fr (fun b => b = m + 8) G q.2) := by
  unfold f_X11_wearsBy weS
  simp only [hM.rf, ka_bs, hM.w (x := 4) 4 rfl (by decide), hω, show ω (4 : Int32).toNatClampNeg = ω 4 from rfl]
  by_cases h1 : ω 4 = 1
  · rw [if_pos h1, if_pos h1, ka_bind2]
    exact gOk.mono (m_sumOf hM hω hi hy hK hLI hn) (fun r hr => ⟨_, rfl, hr.1, hr.2⟩)
  · rw [if_neg h1, if_neg h1]
    exact ⟨_, rfl, rfl, Fr.rf⟩
end
