/-! CALLS: cheapest -/
section
variable {τ : gτ} {n : Nat} {G : gG} {x m s t l l' o : Nat} {ω ω' : gW} {im : Option gW} {me : List gW} {ta : List Nat} {fa : Int32}
def stY (ω : gW) (a b c : Nat) : Int32 := yv ω a 0 + yv ω b 0 + yv ω c 0
def atS (s : Option Int32) (w : Int32) : Bool := match s with
  | some v => decide (v ≤ w)
  | none => false
/-- a round of cheapest: what is found, its strength; top: nothing was found yet -/
def chF (ω : gW) (k : Nat) (a b c : Nat) (s : Int32 × Option Int32) : Int32 × Option Int32 :=
  if atS s.2 (stY ω a b c) = true ∨ (yv ω a 1 < ov ω k 1 ∨ yv ω b 1 < ov ω k 1 ∨ yv ω c 1 < ov ω k 1) ∨ beS (tr ω 8 (nI a) (nI b) (nI c) (ov ω k 1)) 8 < ov ω k 0 then s else (nmS a b c, some (stY ω a b c))
theorem st_lt (hI : WI ω) {a b c : Nat} (ha : a < cY ω) (hb : b < cY ω) (hc : c < cY ω) {z : Nat} (hz : 90 < z) (hz2 : z < 2 ^ 31) : ¬ nI z ≤ stY ω a b c := by
  obtain ⟨p, -, p2, p3⟩ := (hI.y ha).1
  obtain ⟨q, -, q2, q3⟩ := (hI.y hb).1
  obtain ⟨r, -, r2, r3⟩ := (hI.y hc).1
  unfold stY
  rw [p3, q3, r3, nI_add, nI_add]
  exact nI_ge (by omega) hz2
/-- what the least so far is, told from a number above all at first -/
def lsS (z : Nat) (s : Option Int32) (w : Int32) : Prop := match s with
  | some v => w = v
  | none => w = nI z
theorem lsS_le (hI : WI ω) {a b c z : Nat} (ha : a < cY ω) (hb : b < cY ω) (hc : c < cY ω) (hz : 90 < z) (hz2 : z < 2 ^ 31) {s : Option Int32} {w : Int32} (h : lsS z s w) : w ≤ stY ω a b c ↔ atS s (stY ω a b c) = true := by
  cases s with
  | some v =>
    have h : w = v := h
    rw [h]
    exact (decide_eq_true_iff (p := v ≤ stY ω a b c)).symm
  | none =>
    have h : w = nI z := h
    rw [h]
    exact ⟨fun e => absurd e (st_lt hI ha hb hc hz hz2), fun e => by cases e⟩
theorem bt_w {v : Int32} {a b c d : Nat} (h : bt v a b) (h1 : c ≤ a) (h2 : b ≤ d) : bt v c d := by
  obtain ⟨k, k1, k2, k3⟩ := h
  exact ⟨k, by omega, by omega, k3⟩
theorem c_cheapestFor (hC : CV τ G x s t l l' ω im me ta fa) (hI : IV ω im me ta) (hn : 500 < n) {k : Nat} (hk : k < cO ω) : gOk (f_X10_cheapestFor τ n x (s + 24 + k) G) (fun q => q.1 = (T3 (chF ω k) (cY ω) (-1, none)).1 ∧ QC τ x t G q.2) := by
  have hy := hI.1.y1
  have ho8 := hI.1.o1
  have hO := hI.1.o hk
  have hv4 : bt (ov ω k 1) 1 400 := bt_w hO.2.1 (Nat.le_refl _) (by decide)
  unfold f_X10_cheapestFor
  rw [ka_bind]
  unfold l_X10_cheapestFor_8
  have cnt : ∀ {G1 : gG}, QC τ x t G G1 → CV τ G1 x s t l l' ω im me ta fa := fun h => h.cv hC hI
  refine gOk.mono (loop3 (n := n) (N := cY ω) (by omega) (chF ω k)
    (fun a b c s q => (q.1 = s.1 ∧ lsS 91 s.2 q.2.1) ∧ q.2.2.1 = nI c ∧ QC τ x t G q.2.2.2) (fun a b s r => (r.1 = s.1 ∧ lsS 91 s.2 r.2.1) ∧ QC τ x t G r.2.2) (fun a b q => b_X10_cheapestFor_44 τ n x (s + 24 + k) q.1 q.2.1 (nI a) (nI b) q.2.2.1 q.2.2.2)
    (fun a b c s' q hab hbc hc hp => ?_) (fun a b s' q hab hb hp => ?_)
    (fun a b s q => (q.1 = s.1 ∧ lsS 91 s.2 q.2.1) ∧ q.2.2.1 = nI b ∧ QC τ x t G q.2.2.2) (fun a s r => (r.1 = s.1 ∧ lsS 91 s.2 r.2.1) ∧ QC τ x t G r.2.2) (fun a q => b_X10_cheapestFor_26 τ n x (s + 24 + k) q.1 q.2.1 (nI a) q.2.2.1 q.2.2.2)
    (fun a b s' q hab hb hp => ?_) (fun a s' q ha hp => ?_)
    (fun a s q => (q.1 = s.1 ∧ lsS 91 s.2 q.2.1) ∧ q.2.2.1 = nI a ∧ QC τ x t G q.2.2.2) (fun s r => r.1 = s.1 ∧ QC τ x t G r.2) (fun q => b_X10_cheapestFor_8 τ n x (s + 24 + k) q.1 q.2.1 q.2.2.1 q.2.2.2)
    (fun a s' q ha hp => ?_) (fun s' q hp => ?_) (s := (-1, none)) (q := (-1, 91, 0, G)) ⟨⟨rfl, rfl⟩, rfl, QC.rf⟩) fun r hr => ⟨_, rfl, hr⟩
  · obtain ⟨p1, p2, p3, G1⟩ := q
    obtain ⟨s1, s2⟩ := s'
    obtain ⟨⟨h1, h2⟩, rfl, h3⟩ := hp
    have h1 : p1 = s1 := h1
    subst h1
    have h2 : lsS 91 s2 p2 := h2
    have h3 : QC τ x t G G1 := h3
    have hC1 := cnt h3
    have hs := lsS_le hI.1 (a := a) (b := b) (c := c) (by omega) (by omega) hc (by decide) (by decide) h2
    show gOk (b_X10_cheapestFor_44 τ n x (s + 24 + k) p1 p2 (nI a) (nI b) (nI c) G1) _
    unfold b_X10_cheapestFor_44
    rw [hC1.rf.2.2.2.2.2.2.2.2.2.2.1, ka_bs, hC1.vs.cn.1, hI.1.y0, if_neg (nI_ge hc (by omega)), ka_bs, s_strengthOf hC1.fs.1 hC1.vs hI.1 (by omega) (by omega) hc, ka_bs]
    show gOk (if p2 ≤ stY ω a b c then _ else _) _
    by_cases e1 : p2 ≤ stY ω a b c
    · rw [if_pos e1, ka_letE, nI_1]
      have : chF ω k a b c (p1, s2) = (p1, s2) := if_pos (Or.inl (hs.mp e1))
      refine ⟨_, rfl, ?_, rfl, h3⟩
      rw [this]
      exact ⟨rfl, h2⟩
    · rw [if_neg e1, ka_bs, s_shortest hC1.fs.1 hC1.vs hI.1 (by omega) (by omega) hc, ka_bs, (hC1.vs.o hk).2.1]
      by_cases e2 : yv ω a 1 < ov ω k 1 ∨ yv ω b 1 < ov ω k 1 ∨ yv ω c 1 < ov ω k 1
      · rw [if_pos ((gmin_lt _ _ _ _).mpr e2), ka_letE, nI_1]
        have : chF ω k a b c (p1, s2) = (p1, s2) := if_pos (Or.inr (Or.inl e2))
        refine ⟨_, rfl, ?_, rfl, h3⟩
        rw [this]
        exact ⟨rfl, h2⟩
      · rw [if_neg (fun e => e2 ((gmin_lt _ _ _ _).mp e)), ka_bind2]
        refine gOk.mono (c_trialBearing hC1 hI hn (by omega) (by omega) hc (by omega) (by omega) (by omega) hv4) fun p hp => ?_
        obtain ⟨w, G2⟩ := p
        obtain ⟨hw, h4⟩ := hp
        have hw : w = _ := hw
        subst hw
        have hC2 := cnt (h3.tr h4)
        show gOk (if beS _ 8 < gi G2 4 0 (s + 24 + k) then _ else _) _
        rw [(hC2.vs.o hk).1]
        by_cases e3 : beS (tr ω 8 (nI a) (nI b) (nI c) (ov ω k 1)) 8 < ov ω k 0
        · rw [if_pos e3, ka_letE, nI_1]
          have : chF ω k a b c (p1, s2) = (p1, s2) := if_pos (Or.inr (Or.inr e3))
          refine ⟨_, rfl, ?_, rfl, h3.tr h4⟩
          rw [this]
          exact ⟨rfl, h2⟩
        · rw [if_neg e3]
          unfold f_X10_nameOfThree
          rw [ka_bs, ka_letE, nI_1]
          have : chF ω k a b c (p1, s2) = (nmS a b c, some (stY ω a b c)) := if_neg (fun h => by
            rcases h with h | h | h
            · exact e1 (hs.mpr h)
            · exact e2 h
            · exact e3 h)
          refine ⟨_, rfl, ?_, rfl, h3.tr h4⟩
          rw [this]
          exact ⟨rfl, rfl⟩
  · obtain ⟨p1, p2, p3, G1⟩ := q
    obtain ⟨h1, rfl, h3⟩ := hp
    have hC1 := cnt h3
    show gOk (b_X10_cheapestFor_44 τ n x (s + 24 + k) p1 p2 (nI a) (nI b) (nI (cY ω)) G1) _
    unfold b_X10_cheapestFor_44
    rw [hC1.rf.2.2.2.2.2.2.2.2.2.2.1, ka_bs, hC1.vs.cn.1, hI.1.y0, if_pos (nI_le (Nat.le_refl _) (by omega))]
    exact ⟨_, rfl, h1, h3⟩
  · obtain ⟨p1, p2, p3, G1⟩ := q
    obtain ⟨h1, rfl, h3⟩ := hp
    have hC1 := cnt h3
    refine ⟨(p1, p2, nI (b + 1), G1), ⟨h1, rfl, h3⟩, fun s' hs => ?_⟩
    show gOk (b_X10_cheapestFor_26 τ n x (s + 24 + k) p1 p2 (nI a) (nI b) G1) _
    unfold b_X10_cheapestFor_26 l_X10_cheapestFor_44
    rw [hC1.rf.2.2.2.2.2.2.2.2.2.2.1, ka_bs, hC1.vs.cn.1, hI.1.y0, if_neg (nI_ge hb (by omega)), ka_letE, nI_1, ka_bind]
    refine gOk.mono hs fun r hr => ⟨_, rfl, hr.1, rfl, hr.2⟩
  · obtain ⟨p1, p2, p3, G1⟩ := q
    obtain ⟨h1, rfl, h3⟩ := hp
    have hC1 := cnt h3
    show gOk (b_X10_cheapestFor_26 τ n x (s + 24 + k) p1 p2 (nI a) (nI (cY ω)) G1) _
    unfold b_X10_cheapestFor_26
    rw [hC1.rf.2.2.2.2.2.2.2.2.2.2.1, ka_bs, hC1.vs.cn.1, hI.1.y0, if_pos (nI_le (Nat.le_refl _) (by omega))]
    exact ⟨_, rfl, h1, h3⟩
  · obtain ⟨p1, p2, p3, G1⟩ := q
    obtain ⟨h1, rfl, h3⟩ := hp
    have hC1 := cnt h3
    refine ⟨(p1, p2, nI (a + 1), G1), ⟨h1, rfl, h3⟩, fun s' hs => ?_⟩
    show gOk (b_X10_cheapestFor_8 τ n x (s + 24 + k) p1 p2 (nI a) G1) _
    unfold b_X10_cheapestFor_8 l_X10_cheapestFor_26
    rw [hC1.rf.2.2.2.2.2.2.2.2.2.2.1, ka_bs, hC1.vs.cn.1, hI.1.y0, if_neg (nI_ge ha (by omega)), ka_letE, nI_1, ka_bind]
    refine gOk.mono hs fun r hr => ⟨_, rfl, hr.1, rfl, hr.2⟩
  · obtain ⟨p1, p2, p3, G1⟩ := q
    obtain ⟨h1, rfl, h3⟩ := hp
    have hC1 := cnt h3
    show gOk (b_X10_cheapestFor_8 τ n x (s + 24 + k) p1 p2 (nI (cY ω)) G1) _
    unfold b_X10_cheapestFor_8
    rw [hC1.rf.2.2.2.2.2.2.2.2.2.2.1, ka_bs, hC1.vs.cn.1, hI.1.y0, if_pos (nI_le (Nat.le_refl _) (by omega))]
    exact ⟨_, rfl, h1.1, h3⟩
theorem m_cheapestOf (hM : FM τ G m) (hω : ge G (m + 1) = ω) (hI : WI ω) (hLI : LI ω) (hn : 500 < n) {k : Nat} (hk : k < cO ω) : gOk (f_X11_cheapestOf τ n m (nI k) G) (fun r => r.1 = (T3 (chF ω k) (cY ω) (-1, none)).1 ∧ QT m G r.2) := by
  have hy := hI.y1
  have ho8 := hI.o1
  have hO := hI.o hk
  have hv4 : bt (ov ω k 1) 1 400 := bt_w hO.2.1 (Nat.le_refl _) (by decide)
  have cnt : ∀ {G1 : gG}, QT m G G1 → FM τ G1 m ∧ WE ω (ge G1 (m + 1)) ∧ ge G1 (m + 1) 0 = nI (cY ω) := fun {G1} h => by
    have hwe : WE ω (ge G1 (m + 1)) := by rw [← hω]; exact h.1.2.2.2
    exact ⟨h.1.fm hM, hwe, by rw [hwe 0 (by omega)]; exact hI.y0⟩
  unfold f_X11_cheapestOf
  rw [ka_bind]
  unfold l_X11_cheapestOf_9
  refine gOk.mono (loop3 (n := n) (N := cY ω) (by omega) (chF ω k)
    (fun a b c s q => (q.1 = s.1 ∧ lsS 1000000 s.2 q.2.1) ∧ q.2.2.1 = nI c ∧ QT m G q.2.2.2) (fun a b s r => (r.1 = s.1 ∧ lsS 1000000 s.2 r.2.1) ∧ QT m G r.2.2) (fun a b q => b_X11_cheapestOf_39 τ n m (nI k) q.1 q.2.1 (nI a) (nI b) q.2.2.1 q.2.2.2)
    (fun a b c s' q hab hbc hc hp => ?_) (fun a b s' q hab hb hp => ?_)
    (fun a b s q => (q.1 = s.1 ∧ lsS 1000000 s.2 q.2.1) ∧ q.2.2.1 = nI b ∧ QT m G q.2.2.2) (fun a s r => (r.1 = s.1 ∧ lsS 1000000 s.2 r.2.1) ∧ QT m G r.2.2) (fun a q => b_X11_cheapestOf_24 τ n m (nI k) q.1 q.2.1 (nI a) q.2.2.1 q.2.2.2)
    (fun a b s' q hab hb hp => ?_) (fun a s' q ha hp => ?_)
    (fun a s q => (q.1 = s.1 ∧ lsS 1000000 s.2 q.2.1) ∧ q.2.2.1 = nI a ∧ QT m G q.2.2.2) (fun s r => r.1 = s.1 ∧ QT m G r.2) (fun q => b_X11_cheapestOf_9 τ n m (nI k) q.1 q.2.1 q.2.2.1 q.2.2.2)
    (fun a s' q ha hp => ?_) (fun s' q hp => ?_) (s := (-1, none)) (q := (-1, 1000000, 0, G)) ⟨⟨rfl, rfl⟩, rfl, QT.rf⟩) fun r hr => ⟨_, rfl, hr⟩
  · obtain ⟨p1, p2, p3, G1⟩ := q
    obtain ⟨s1, s2⟩ := s'
    obtain ⟨⟨h1, h2⟩, rfl, h3⟩ := hp
    have h1 : p1 = s1 := h1
    subst h1
    have h2 : lsS 1000000 s2 p2 := h2
    have h3 : QT m G G1 := h3
    obtain ⟨hM1, hwe, hc0⟩ := cnt h3
    have hs := lsS_le hI (a := a) (b := b) (c := c) (by omega) (by omega) hc (by decide) (by decide) h2
    show gOk (b_X11_cheapestOf_39 τ n m (nI k) p1 p2 (nI a) (nI b) (nI c) G1) _
    unfold b_X11_cheapestOf_39
    rw [hM1.cn.1, ka_bs, hc0, if_neg (nI_ge hc (by omega)), hM1.ofOrder (w := 1) k 1 rfl rfl (by omega), ka_bs, hM1.ofYarn (w := 0) a 0 rfl rfl (by omega), ka_bs, hM1.ofYarn (w := 0) b 0 rfl rfl (by omega), ka_bs, hM1.ofYarn (w := 0) c 0 rfl rfl (by omega), ka_bs, hwe.o, hwe.y (by omega) (by decide), hwe.y (by omega) (by decide), hwe.y (by omega) (by decide), ka_letE]
    show gOk (if p2 ≤ stY ω a b c then _ else _) _
    by_cases e1 : p2 ≤ stY ω a b c
    · rw [if_pos e1, ka_letE, nI_1]
      have : chF ω k a b c (p1, s2) = (p1, s2) := if_pos (Or.inl (hs.mp e1))
      refine ⟨_, rfl, ?_, rfl, h3⟩
      rw [this]
      exact ⟨rfl, h2⟩
    · rw [if_neg e1, m_haveLength hM1 rfl (by omega) (by omega) (by omega), ka_bs, hwe.y (by omega) (by decide), hwe.y (by omega) (by decide), hwe.y (by omega) (by decide)]
      by_cases e2 : yv ω a 1 < ov ω k 1 ∨ yv ω b 1 < ov ω k 1 ∨ yv ω c 1 < ov ω k 1
      · rw [if_pos e2, if_pos rfl, ka_letE, nI_1]
        have : chF ω k a b c (p1, s2) = (p1, s2) := if_pos (Or.inr (Or.inl e2))
        refine ⟨_, rfl, ?_, rfl, h3⟩
        rw [this]
        exact ⟨rfl, h2⟩
      · rw [if_neg e2, if_neg ka_n10, ka_bind2]
        have hcy := hwe.cs.1
        refine gOk.mono (m_bearsBy hM1 rfl (hwe.wi hI) (hwe.li hLI) hn (by rw [hcy]; omega) (by rw [hcy]; omega) (by rw [hcy]; omega) (by omega) (by omega) (by omega) hv4) fun p hp => ?_
        obtain ⟨w, G2⟩ := p
        obtain ⟨hw, h4, h5⟩ := hp
        have hw : w = beS (tr ω 8 (nI a) (nI b) (nI c) (ov ω k 1)) 8 := by rw [← tr_eq hwe]; exact hw
        subst hw
        have h6 : QT m G G2 := h3.tr ⟨h4, h5⟩
        obtain ⟨hM2, hwe2, -⟩ := cnt h6
        show gOk ((f_X11_ofOrder τ m (nI k) 0 G2).bind _) _
        rw [hM2.ofOrder (w := 0) k 0 rfl rfl (by omega), ka_bs, hwe2.o]
        by_cases e3 : beS (tr ω 8 (nI a) (nI b) (nI c) (ov ω k 1)) 8 < ov ω k 0
        · rw [if_neg (Int32.not_le.mpr e3), ka_letE, nI_1]
          have : chF ω k a b c (p1, s2) = (p1, s2) := if_pos (Or.inr (Or.inr e3))
          refine ⟨_, rfl, ?_, rfl, h6⟩
          rw [this]
          exact ⟨rfl, h2⟩
        · rw [if_pos (Int32.not_lt.mp e3), ka_letE, ka_letE, nI_1]
          have : chF ω k a b c (p1, s2) = (nmS a b c, some (stY ω a b c)) := if_neg (fun h => by
            rcases h with h | h | h
            · exact e1 (hs.mpr h)
            · exact e2 h
            · exact e3 h)
          refine ⟨_, rfl, ?_, rfl, h6⟩
          rw [this]
          exact ⟨rfl, rfl⟩
  · obtain ⟨p1, p2, p3, G1⟩ := q
    obtain ⟨h1, rfl, h3⟩ := hp
    have h3 : QT m G G1 := h3
    obtain ⟨hM1, hwe, hc0⟩ := cnt h3
    show gOk (b_X11_cheapestOf_39 τ n m (nI k) p1 p2 (nI a) (nI b) (nI (cY ω)) G1) _
    unfold b_X11_cheapestOf_39
    rw [hM1.cn.1, ka_bs, hc0, if_pos (nI_le (Nat.le_refl _) (by omega))]
    exact ⟨_, rfl, h1, h3⟩
  · obtain ⟨p1, p2, p3, G1⟩ := q
    obtain ⟨h1, rfl, h3⟩ := hp
    have h3 : QT m G G1 := h3
    obtain ⟨hM1, hwe, hc0⟩ := cnt h3
    refine ⟨(p1, p2, nI (b + 1), G1), ⟨h1, rfl, h3⟩, fun s' hs => ?_⟩
    show gOk (b_X11_cheapestOf_24 τ n m (nI k) p1 p2 (nI a) (nI b) G1) _
    unfold b_X11_cheapestOf_24 l_X11_cheapestOf_39
    rw [hM1.cn.1, ka_bs, hc0, if_neg (nI_ge hb (by omega)), ka_letE, nI_1, ka_bind]
    refine gOk.mono hs fun r hr => ⟨_, rfl, hr.1, rfl, hr.2⟩
  · obtain ⟨p1, p2, p3, G1⟩ := q
    obtain ⟨h1, rfl, h3⟩ := hp
    have h3 : QT m G G1 := h3
    obtain ⟨hM1, hwe, hc0⟩ := cnt h3
    show gOk (b_X11_cheapestOf_24 τ n m (nI k) p1 p2 (nI a) (nI (cY ω)) G1) _
    unfold b_X11_cheapestOf_24
    rw [hM1.cn.1, ka_bs, hc0, if_pos (nI_le (Nat.le_refl _) (by omega))]
    exact ⟨_, rfl, h1, h3⟩
  · obtain ⟨p1, p2, p3, G1⟩ := q
    obtain ⟨h1, rfl, h3⟩ := hp
    have h3 : QT m G G1 := h3
    obtain ⟨hM1, hwe, hc0⟩ := cnt h3
    refine ⟨(p1, p2, nI (a + 1), G1), ⟨h1, rfl, h3⟩, fun s' hs => ?_⟩
    show gOk (b_X11_cheapestOf_9 τ n m (nI k) p1 p2 (nI a) G1) _
    unfold b_X11_cheapestOf_9 l_X11_cheapestOf_24
    rw [hM1.cn.1, ka_bs, hc0, if_neg (nI_ge ha (by omega)), ka_letE, nI_1, ka_bind]
    refine gOk.mono hs fun r hr => ⟨_, rfl, hr.1, rfl, hr.2⟩
  · obtain ⟨p1, p2, p3, G1⟩ := q
    obtain ⟨h1, rfl, h3⟩ := hp
    have h3 : QT m G G1 := h3
    obtain ⟨hM1, hwe, hc0⟩ := cnt h3
    show gOk (b_X11_cheapestOf_9 τ n m (nI k) p1 p2 (nI (cY ω)) G1) _
    unfold b_X11_cheapestOf_9
    rw [hM1.cn.1, ka_bs, hc0, if_pos (nI_le (Nat.le_refl _) (by omega))]
    exact ⟨_, rfl, h1.1, h3⟩
theorem op_cheapest (hm : m = x + 512) (ho : o = m + 11) (hτ : gn τ o = 1) (hn : 500 < n) (hC : CV τ G x s t l l' ω im me ta fa) (hM : MV τ G m ω im me ta fa) (hI : IV ω im me ta) (y : Int32) : gOk (f_L_cheapest τ n x y o G) (fun q => gOk (f_X11_cheapest τ n m y q.2) (fun p => q.1 = gi p.2 11 0 m ∧ (q.1 = 0 → gl p.2 o 0 = p.1.toInt64) ∧ ST τ x m p.2)) := by
  have ho8 := hI.1.o1
  unfold f_L_cheapest
  rcases arg_ix y (N := cO ω) (by omega) with ⟨k, hk, rfl⟩ | ⟨hno, -⟩
  · refine join_q (ans := .inr (T3 (chF ω k) (cY ω) (-1, none)).1) hm ho hτ (by decide) hC hM hI ?_ (fun G1 hM1 => ?_)
    · unfold f_X10_cheapest
      rw [ka_bxr (c_orderOf hC hI.1 hk), hC.fs.1.ko (by omega), ka_bind2]
      exact gOk.mono (c_cheapestFor hC hI hn hk) fun p hp => ⟨_, rfl, congrArg Sum.inr hp.1, hp.2⟩
    · have hM2 : FM τ (gsi G1 11 0 m 0) m := QM.th.fm hM1.1
      have hω2 : ge (gsi G1 11 0 m 0) (m + 1) = ω := hM1.2.1
      unfold f_X11_cheapest
      rw [ka_letE, (m_no hM2 hω2 hI.1 _).2.2, ka_bs, if_neg (no_k hk (by omega)), ka_b2 m_thIf0, if_pos rfl, ka_bind2]
      exact gOk.mono (m_cheapestOf hM2 hω2 hI.1 hI.2.1 hn hk) fun r hr => ⟨_, rfl, ⟨hr.2.2.trans th_set, hr.1⟩, QM.th.tr hr.2.1⟩
  · refine join_q (ans := .inl x_IOE) hm ho hτ (by decide) hC hM hI ⟨_, (by unfold f_X10_cheapest; exact ka_bxl (c_orderNo hC hI.1 hno)), rfl, QC.rf⟩ (fun G1 hM1 => ?_)
    have hM2 : FM τ (gsi G1 11 0 m 0) m := QM.th.fm hM1.1
    have hω2 : ge (gsi G1 11 0 m 0) (m + 1) = ω := hM1.2.1
    unfold f_X11_cheapest
    rw [ka_letE, (m_no hM2 hω2 hI.1 _).2.2, ka_bs, if_pos hno, ka_b2 m_thIf1, if_neg ka_n10]
    refine ⟨_, rfl, ?_, QM.th.tr QM.th⟩
    show gCode [x_IOE] x_IOE 1 = some _
    rw [th_set]
    rfl
end
