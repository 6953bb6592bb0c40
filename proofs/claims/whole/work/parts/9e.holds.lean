/-! CALLS: holds -/
section
variable {ω : gW}
def stW (ω : gW) (k : Nat) : gW := endW (goW ω k 0)
theorem stW.e {k i j : Nat} (hi : i < 9) (hj : j < 10) : rv (stW ω k) i j = rv (goW ω k 0) i j := wSt_ne (by omega)
theorem SW.st {k : Nat} (hI : WI ω) (hLI : LI ω) (hk : k < cR ω) (h8 : rv ω k 8 = 0) : SW ω (stW ω k) := by
  have h := SW.go (g := 0) hI hLI hk h8
  exact h.tr (SW.en h.1)
def hdS (k : Nat) : Nat → gW → Nat → Int32
  | 0, _, c => nI c
  | f + 1, w, c => if rv (goW w k 0) k 8 = 0 then hdS k f (stW w k) (c + 1) else nI c
def chS (k : Nat) : Nat → gW → Nat → Int32
  | 0, _, _ => -1
  | f + 1, w, c => if beS w k < 2 * rv w k 9 then nI c else if rv (goW w k 0) k 8 = 0 then chS k f (stW w k) (c + 1) else -1
theorem hdS_s {k f : Nat} {w : gW} {c : Nat} : hdS k (f + 1) w c = if rv (goW w k 0) k 8 = 0 then hdS k f (stW w k) (c + 1) else nI c := rfl
theorem chS_s {k f : Nat} {w : gW} {c : Nat} : chS k (f + 1) w c = if beS w k < 2 * rv w k 9 then nI c else if rv (goW w k 0) k 8 = 0 then chS k f (stW w k) (c + 1) else -1 := rfl
theorem hdS_0 {k : Nat} {w : gW} {c : Nat} : hdS k 0 w c = nI c := rfl
theorem chS_0 {k : Nat} {w : gW} {c : Nat} : chS k 0 w c = -1 := rfl
def hoR (ω : gW) (k : Nat) : Int32 := if rv ω k 8 = 0 then hdS k 40 ω 0 else 0
def hoC (ω : gW) (k : Nat) : Int32 := if rv ω k 8 = 0 then chS k 41 ω 0 else -1
theorem le_nlt {x y : Int32} : x ≤ y ↔ ¬ y < x := Int32.not_lt.symm
end
section
variable {τ : gτ} {n : Nat} {G G' G1 G2 : gG} {x m s t l l' o : Nat} {ω ω' : gW} {im : Option gW} {me : List gW} {ta : List Nat} {fa : Int32}
theorem c_holdL (hC : CV τ G x s t l l' ω im me ta fa) (hI : IV ω im me ta) (hn : 500 < n) {k : Nat} (hk : k < cR ω) (h8 : rv ω k 8 = 0) (hS : SV τ G t l ω) {R : Int32} (hR : hdS k 40 ω 0 = R) : gOk (l_X10_holds_49 τ n x (t + 16 + k) 0 G) (fun r => match r with | .inl G' => R = nI 40 ∧ QC τ x t G G' | .inr v => v.1 = R ∧ QC τ x t G v.2) := by
  have hr := hI.1.r1
  unfold l_X10_holds_49
  refine ka_loop 40 (fun c q => q.1 = nI c ∧ (∃ w, SV τ q.2 t l w ∧ SW ω w ∧ rv w k 8 = 0 ∧ hdS k (40 - c) w c = R) ∧ QC τ x t G q.2) (by omega) ⟨rfl, ⟨ω, hS, SW.rf hI.1, h8, hR⟩, QC.rf⟩ (fun c q hc hq => ?_)
  obtain ⟨x4, G1⟩ := q
  obtain ⟨b1, ⟨w, b2, hW, hw8, hRc⟩, b3⟩ := hq
  have e1 : x4 = nI c := b1
  have h1 : SV τ G1 t l w := b2
  have q1 : QC τ x t G G1 := b3
  clear b1 b2 b3
  subst e1
  have hC1 := q1.cv hC hI
  show gOk (b_X10_holds_49 τ n x (t + 16 + k) (nI c) G1) _
  unfold b_X10_holds_49
  by_cases hlt : c < 40
  · have hkw : k < cR w := by rw [hW.2.2.2.2.1]; exact hk
    have hLw := hW.li hI.2.1
    rw [if_neg (show ¬ (40 : Int32) ≤ nI c from nI_ge (b := 40) hlt (by decide)), hC1.rf.2.2.2.2.2.2.2.2.2.2.2.1, ka_bs, hC1.rf.2.2.2.2.2.2.2.2.2.2.2.2.1, ka_bs, ka_bind]
    refine gOk.mono (s_fray h1 hn hkw hw8 0) fun G3 h3 => ?_
    obtain ⟨s3, f3⟩ := h3
    have q3 := q1.tr (QC.sv hC1 s3 f3)
    have hC3 := q3.cv hC hI
    have hgo := SW.go (g := 0) hW.1 hLw hkw hw8
    have hk3 : k < cR (goW w k 0) := by rw [hgo.2.2.2.2.1]; exact hkw
    rw [show 40 - c = (40 - (c + 1)) + 1 by omega, hdS_s] at hRc
    rw [(s3.2.1.r hk3).f.2.2.2.2.2.2.2.2.2]
    by_cases h38 : rv (goW w k 0) k 8 = 0
    · rw [if_pos h38] at hRc
      obtain ⟨G4, e4, s4, f4⟩ := s_end s3
      rw [if_pos h38, hC3.rf.2.2.2.2.2.2.2.2.2.2.2.1, ka_bs, e4, ka_bs, ka_letE, nI_1]
      refine ⟨_, rfl, hlt, rfl, ⟨stW w k, s4, hW.tr (SW.st hW.1 hLw hkw hw8), ?_, hRc⟩, q3.tr (QC.sv hC3 s4 f4)⟩
      rw [stW.e (by omega) (by decide)]
      exact h38
    · rw [if_neg h38] at hRc
      rw [if_neg h38]
      exact ⟨_, rfl, hRc, q3⟩
  · have hcN : c = 40 := by omega
    rw [if_pos (show (40 : Int32) ≤ nI c from nI_le (a := 40) (by omega) (by omega))]
    rw [show 40 - c = 0 by omega, hdS_0, hcN] at hRc
    exact ⟨_, rfl, hRc.symm, q1⟩
theorem c_chL (hC : CV τ G x s t l l' ω im me ta fa) (hI : IV ω im me ta) (hn : 500 < n) {k : Nat} (hk : k < cR ω) (hS : SV τ G t l ω) {C : Int32} (hR : hoC ω k = C) : gOk (l_X10_seasonsTillChange_2 τ n x (t + 16 + k) 0 G) (fun r => match r with | .inl G' => C = -1 ∧ QC τ x t G G' | .inr v => v.1 = C ∧ QC τ x t G v.2) := by
  have hr := hI.1.r1
  have hsl := hC.sl
  unfold l_X10_seasonsTillChange_2
  refine ka_loop 41 (fun c q => q.1 = nI c ∧ (∃ w, SV τ q.2 t l w ∧ SW ω w ∧ ((rv w k 8 = 0 ∧ c ≤ 40 ∧ chS k (41 - c) w c = C) ∨ (C = -1 ∧ (¬ rv w k 8 = 0 ∨ c = 41)))) ∧ QC τ x t G q.2) (by omega) ⟨rfl, ⟨ω, hS, SW.rf hI.1, ?_⟩, QC.rf⟩ (fun c q hc hq => ?_)
  · unfold hoC at hR
    by_cases h8 : rv ω k 8 = 0
    · rw [if_pos h8] at hR
      exact Or.inl ⟨h8, by decide, hR⟩
    · rw [if_neg h8] at hR
      exact Or.inr ⟨hR.symm, Or.inl h8⟩
  obtain ⟨x4, G1⟩ := q
  obtain ⟨b1, ⟨w, b2, hW, hst⟩, b3⟩ := hq
  have e1 : x4 = nI c := b1
  have h1 : SV τ G1 t l w := b2
  have q1 : QC τ x t G G1 := b3
  clear b1 b2 b3
  subst e1
  have hC1 := q1.cv hC hI
  have hkw : k < cR w := by rw [hW.2.2.2.2.1]; exact hk
  have hLw := hW.li hI.2.1
  show gOk (b_X10_seasonsTillChange_2 τ n x (t + 16 + k) (nI c) G1) _
  unfold b_X10_seasonsTillChange_2
  by_cases hlt : c < 41
  · rw [if_neg (show ¬ (40 : Int32) < nI c from nI_nlt (a := 40) (by omega) (by decide)), (h1.2.1.r hkw).f.2.2.2.2.2.2.2.2.2]
    by_cases hw8 : rv w k 8 = 0
    · have hRc : chS k (41 - c) w c = C := by
        rcases hst with h | ⟨-, h | h⟩
        · exact h.2.2
        · exact absurd hw8 h
        · omega
      rw [show 41 - c = (41 - (c + 1)) + 1 by omega, chS_s] at hRc
      rw [if_pos hw8, hC1.rf.2.2.2.2.2.2.2.2.2.2.2.1, ka_bs, hC1.rf.2.2.2.2.2.2.2.2.2.2.2.2.1, ka_bs, ka_bind2]
      refine gOk.mono (s_bearing h1.1 h1.2.1 h1.2.2.1 h1.2.2.2.1 h1.2.2.2.2.1 h1.2.2.2.2.2.1 (h1.2.1.r hkw) (h1.2.2.1.r hkw) h1.2.2.2.2.2.2 (by omega) hn) fun p hp => ?_
      obtain ⟨p1, p2⟩ := hp
      have s2 := h1.scr p2
      have q2 := q1.tr (QC.sv hC1 s2 (scr_sq p2))
      have hC2 := q2.cv hC hI
      rw [p1, (s2.2.1.r hkw).f.2.2.2.2.2.2.2.1]
      by_cases hlt2 : beS w k < 2 * rv w k 9
      · rw [if_pos hlt2] at hRc
        rw [if_neg (fun h => le_nlt.mp h hlt2)]
        exact ⟨_, rfl, hRc, q2⟩
      · rw [if_neg hlt2] at hRc
        rw [if_pos (le_nlt.mpr hlt2), hC2.rf.2.2.2.2.2.2.2.2.2.2.2.1, ka_bs, hC2.rf.2.2.2.2.2.2.2.2.2.2.2.2.1, ka_bs, ka_bind]
        refine gOk.mono (s_fray s2 hn hkw hw8 0) fun G3 h3 => ?_
        obtain ⟨s3, f3⟩ := h3
        have q3 := q2.tr (QC.sv hC2 s3 f3)
        have hC3 := q3.cv hC hI
        obtain ⟨G4, e4, s4, f4⟩ := s_end s3
        rw [hC3.rf.2.2.2.2.2.2.2.2.2.2.2.1, ka_bs, e4, ka_bs, ka_letE, nI_1]
        refine ⟨_, rfl, hlt, rfl, ⟨stW w k, s4, hW.tr (SW.st hW.1 hLw hkw hw8), ?_⟩, q3.tr (QC.sv hC3 s4 f4)⟩
        rw [stW.e (by omega) (by decide)]
        by_cases h38 : rv (goW w k 0) k 8 = 0
        · rw [if_pos h38] at hRc
          rcases Nat.lt_or_ge c 40 with h40 | h40
          · exact Or.inl ⟨h38, by omega, hRc⟩
          · rw [show 41 - (c + 1) = 0 by omega, chS_0] at hRc
            exact Or.inr ⟨hRc.symm, Or.inr (by omega)⟩
        · rw [if_neg h38] at hRc
          exact Or.inr ⟨hRc.symm, Or.inl h38⟩
    · rw [if_neg hw8]
      refine ⟨_, rfl, ?_, q1⟩
      rcases hst with h | h
      · exact absurd h.1 hw8
      · exact h.1
  · rw [if_pos (show (40 : Int32) < nI c from nI_lt (a := 40) (by omega) (by omega))]
    refine ⟨_, rfl, ?_, q1⟩
    rcases hst with h | h
    · omega
    · exact h.1
theorem c_holds (hC : CV τ G x s t l l' ω im me ta fa) (hI : IV ω im me ta) (hn : 500 < n) {k : Nat} {b : Int32} (hk : k < cR ω) : gOk (f_X10_holds τ n x (nI k) b G) (fun q => q.1 = .inr (if b = 0 then hoR ω k else hoC ω k) ∧ QC τ x t G q.2) := by
  have hr := hI.1.r1
  unfold f_X10_holds
  rw [ka_bxr (c_ropeOf hC hI.1 hk), hC.fs.1.kr (by omega), hC.rf.2.2.2.2.2.2.2.2.2.2.2.1, ka_bs, hC.rf.2.2.2.2.2.2.2.2.2.2.1, ka_bs, ka_bind]
  refine gOk.mono (c_spare hC hI hn) fun G5 h5 => ?_
  obtain ⟨s5, q5⟩ := h5
  have hC5 := q5.cv hC hI
  rw [hC5.rf.2.2.2.2.2.2.2.2.2.2.2.1, ka_bs, s5.1.rf.2.1, ka_bs, s5.1.r (i := k) (by omega), (s5.2.1.r hk).f.2.2.2.2.2.2.2.2.2]
  by_cases hb : b = 0
  · rw [if_pos hb, if_pos hb]
    unfold hoR
    by_cases h8 : rv ω k 8 = 0
    · rw [if_pos h8, if_pos h8, ka_bind]
      generalize hR : hdS k 40 ω 0 = R
      refine gOk.mono (c_holdL hC5 hI hn hk h8 s5 hR) fun r hr => ?_
      cases r with
      | inl G6 =>
        obtain ⟨r1, r2⟩ := hr
        show gOk (gLet G6 fun G15 => some ((Sum.inr (40 : Int32) : String ⊕ Int32), G15)) _
        rw [ka_letE]
        exact ⟨_, rfl, congrArg Sum.inr r1.symm, q5.tr r2⟩
      | inr v =>
        obtain ⟨r1, r2⟩ := hr
        show gOk (gLet v.1 fun z16 => gLet v.2 fun G17 => some ((Sum.inr z16 : String ⊕ Int32), G17)) _
        rw [ka_letE, ka_letE]
        exact ⟨_, rfl, congrArg Sum.inr r1, q5.tr r2⟩
    · rw [if_neg h8, if_neg h8]
      exact ⟨_, rfl, rfl, q5⟩
  · rw [if_neg hb, if_neg hb]
    unfold f_X10_seasonsTillChange
    generalize hR : hoC ω k = C
    rw [ka_bind2, ka_bind]
    refine gOk.mono (c_chL hC5 hI hn hk s5 hR) fun r hr => ?_
    cases r with
    | inl G6 =>
      obtain ⟨r1, r2⟩ := hr
      show gOk (gLet G6 fun G11 => some ((-1 : Int32), G11)) _
      rw [ka_letE]
      exact ⟨_, rfl, _, rfl, congrArg Sum.inr r1.symm, q5.tr r2⟩
    | inr v =>
      obtain ⟨r1, r2⟩ := hr
      show gOk (gLet v.1 fun z12 => gLet v.2 fun G13 => some (z12, G13)) _
      rw [ka_letE, ka_letE]
      exact ⟨_, rfl, _, rfl, congrArg Sum.inr r1, q5.tr r2⟩
theorem m_hold76 (hM : FM τ G m) (hω : ge G (m + 1) = ω) (hI : WI ω) (hLI : LI ω) (hn : 500 < n) {k c : Nat} {b s0 : Int32} (hk : k < cR ω) : gOk (k_X11_holds_76 τ n m (nI k) b (nI c) s0 G) (fun r => ∃ G', r = .inl (nI c, s0, nI (c + 1), G') ∧ ge G' (m + 1) = stW ω k ∧ Fr (mm m) G G') := by
  unfold k_X11_holds_76
  rw [ka_bind]
  refine gOk.mono (m_goesOn hM hω hI hLI hn hk 0) fun G7 h7 => ?_
  obtain ⟨w7, f7⟩ := h7
  have hM7 : FM τ G7 m := f7.fm hM (by omega)
  obtain ⟨hM8, w8, f8⟩ := m_wr hM7 w7 (k := 5) (v := gmin 9999 (goW ω k 0 5 + 1))
  rw [m_g hM7, m_g hM7, hM7.w (x := 5) 5 rfl (by decide), m_w hM7 (x := 5) 5 rfl (by decide), show Int32.toNatClampNeg 5 = 5 from rfl, w7, ka_letE, nI_1]
  exact ⟨_, rfl, _, rfl, w8, f7.tr (f8.mono fun b hb => Or.inl hb)⟩
theorem m_holdL (hM : FM τ G m) (hω : ge G (m + 1) = ω) (hI : WI ω) (hLI : LI ω) (hn : 500 < n) {k : Nat} {b R C : Int32} (hk : k < cR ω) (hR : hoR ω k = R) (hC : hoC ω k = C) : gOk (l_X11_holds_32 τ n m (nI k) b 0 (-1) 0 G) (fun r => r.1 = R ∧ r.2.1 = C ∧ Fr (mm m) G r.2.2 ∧ ∃ w, ge r.2.2 (m + 1) = w ∧ SW ω w) := by
  have hr := hI.r1
  unfold l_X11_holds_32
  refine ka_loop 41 (fun c q => q.2.2.1 = nI c ∧ Fr (mm m) G q.2.2.2 ∧ ∃ w, ge q.2.2.2 (m + 1) = w ∧ SW ω w ∧ ((rv w k 8 = 0 ∧ c ≤ 40 ∧ hdS k (40 - c) w c = R) ∨ (q.1 = R ∧ (¬ rv w k 8 = 0 ∨ c = 41))) ∧ ((rv w k 8 = 0 ∧ c ≤ 40 ∧ q.2.1 = -1 ∧ chS k (41 - c) w c = C) ∨ (q.2.1 = C ∧ (0 ≤ q.2.1 ∨ ¬ rv w k 8 = 0 ∨ c = 41)))) (by omega) ⟨rfl, Fr.rf, ω, hω, SW.rf hI, ?_, ?_⟩ (fun c q hc hq => ?_)
  · unfold hoR at hR
    by_cases h8 : rv ω k 8 = 0
    · rw [if_pos h8] at hR
      exact Or.inl ⟨h8, by decide, hR⟩
    · rw [if_neg h8] at hR
      exact Or.inr ⟨hR, Or.inl h8⟩
  · unfold hoC at hC
    by_cases h8 : rv ω k 8 = 0
    · rw [if_pos h8] at hC
      exact Or.inl ⟨h8, by decide, rfl, hC⟩
    · rw [if_neg h8] at hC
      exact Or.inr ⟨hC, Or.inr (Or.inl h8)⟩
  obtain ⟨x3, x4, x5, G1⟩ := q
  obtain ⟨b1, b2, w, b3, hW, b4, b5⟩ := hq
  have e1 : x5 = nI c := b1
  have f1 : Fr (mm m) G G1 := b2
  have w1 : ge G1 (m + 1) = w := b3
  have hA : (rv w k 8 = 0 ∧ c ≤ 40 ∧ hdS k (40 - c) w c = R) ∨ (x3 = R ∧ (¬ rv w k 8 = 0 ∨ c = 41)) := b4
  have hB : (rv w k 8 = 0 ∧ c ≤ 40 ∧ x4 = -1 ∧ chS k (41 - c) w c = C) ∨ (x4 = C ∧ (0 ≤ x4 ∨ ¬ rv w k 8 = 0 ∨ c = 41)) := b5
  clear b1 b2 b3 b4 b5
  subst e1
  have hM1 : FM τ G1 m := f1.fm hM (by omega)
  have hkw : k < cR w := by rw [hW.2.2.2.2.1]; exact hk
  have hLw := hW.li hLI
  have hend : (¬ rv w k 8 = 0 ∨ c = 41) → x3 = R ∧ x4 = C := fun h => by
    constructor
    · rcases hA with ⟨a1, a2, -⟩ | a
      · exact h.elim (fun h => absurd a1 h) (fun h => by omega)
      · exact a.1
    · rcases hB with ⟨a1, a2, -⟩ | a
      · exact h.elim (fun h => absurd a1 h) (fun h => by omega)
      · exact a.1
  show gOk (b_X11_holds_32 τ n m (nI k) b x3 x4 (nI c) G1) _
  unfold b_X11_holds_32
  by_cases hlt : c < 41
  · rw [if_neg (show ¬ (40 : Int32) < nI c from nI_nlt (a := 40) (by omega) (by decide)), m_isWhole hM1 (by omega), ka_bs, w1]
    by_cases hw8 : rv w k 8 = 0
    · have hRc : hdS k (40 - c) w c = R := by
        rcases hA with h | ⟨-, h | h⟩
        · exact h.2.2
        · exact absurd hw8 h
        · omega
      have hS := hW.tr (SW.st hW.1 hLw hkw hw8)
      have hA' : (rv (stW w k) k 8 = 0 ∧ c + 1 ≤ 40 ∧ hdS k (40 - (c + 1)) (stW w k) (c + 1) = R) ∨ (nI c = R ∧ (¬ rv (stW w k) k 8 = 0 ∨ c + 1 = 41)) := by
        rcases Nat.lt_or_ge c 40 with h40 | h40
        · rw [show 40 - c = (40 - (c + 1)) + 1 by omega, hdS_s] at hRc
          rw [stW.e (by omega) (by decide)]
          by_cases h38 : rv (goW w k 0) k 8 = 0
          · rw [if_pos h38] at hRc
            exact Or.inl ⟨h38, by omega, hRc⟩
          · rw [if_neg h38] at hRc
            exact Or.inr ⟨hRc, Or.inl h38⟩
        · rw [show 40 - c = 0 by omega, hdS_0] at hRc
          exact Or.inr ⟨hRc, Or.inr (by omega)⟩
      have next : ∀ {G2 : gG} {s0 : Int32}, ge G2 (m + 1) = w → Fr (mm m) G1 G2 → ((rv (stW w k) k 8 = 0 ∧ c + 1 ≤ 40 ∧ s0 = -1 ∧ chS k (41 - (c + 1)) (stW w k) (c + 1) = C) ∨ (s0 = C ∧ (0 ≤ s0 ∨ ¬ rv (stW w k) k 8 = 0 ∨ c + 1 = 41))) → gOk (k_X11_holds_76 τ n m (nI k) b (nI c) s0 G2) (gKK (fun s' => c < 41 ∧ (s'.2.2.1 = nI (c + 1) ∧ Fr (mm m) G s'.2.2.2 ∧ ∃ w, ge s'.2.2.2 (m + 1) = w ∧ SW ω w ∧ ((rv w k 8 = 0 ∧ c + 1 ≤ 40 ∧ hdS k (40 - (c + 1)) w (c + 1) = R) ∨ (s'.1 = R ∧ (¬ rv w k 8 = 0 ∨ c + 1 = 41))) ∧ ((rv w k 8 = 0 ∧ c + 1 ≤ 40 ∧ s'.2.1 = -1 ∧ chS k (41 - (c + 1)) w (c + 1) = C) ∨ (s'.2.1 = C ∧ (0 ≤ s'.2.1 ∨ ¬ rv w k 8 = 0 ∨ c + 1 = 41))))) (fun r => r.1 = R ∧ r.2.1 = C ∧ Fr (mm m) G r.2.2 ∧ ∃ w, ge r.2.2 (m + 1) = w ∧ SW ω w)) := fun {G2 s0} w2 f2 hs => by
        refine gOk.mono (m_hold76 (f2.fm hM1 (by omega)) w2 hW.1 hLw hn (c := c) (b := b) (s0 := s0) hkw) fun r hr => ?_
        obtain ⟨G3, rfl, w3, f3⟩ := hr
        exact ⟨hlt, rfl, (f1.tr f2).tr f3, stW w k, w3, hS, hA', hs⟩
      rw [if_pos hw8, if_neg ka_n10]
      by_cases hx4 : 0 ≤ x4
      · rw [if_pos hx4]
        unfold k_X11_holds_74
        refine next w1 Fr.rf (Or.inr ⟨?_, Or.inl hx4⟩)
        rcases hB with ⟨-, -, h, -⟩ | h
        · rw [h] at hx4
          exact absurd hx4 (by decide)
        · exact h.1
      · have hCc : x4 = -1 ∧ chS k (41 - c) w c = C := by
          rcases hB with h | ⟨-, h | h | h⟩
          · exact h.2.2
          · exact absurd h hx4
          · exact absurd hw8 h
          · omega
        obtain ⟨hx, hCc⟩ := hCc
        rw [show 41 - c = (41 - (c + 1)) + 1 by omega, chS_s] at hCc
        rw [if_neg hx4, ka_bind2]
        refine gOk.mono (m_bearsOf hM1 w1 (i := k) (by omega) hW.1.y1 (hW.1.r hkw) hLw hn) fun p hp => ?_
        obtain ⟨p1, p2⟩ := hp
        have hM2 : FM τ p.2 m := p2.fm hM1 (by omega)
        have w2 : ge p.2 (m + 1) = w := (p2 (m + 1) (by omega)).2.2.1.trans w1
        have f2 : Fr (mm m) G1 p.2 := p2.mono fun b hb => Or.inr hb
        rw [hM2.of (w := 9) k 9 rfl rfl (by omega), ka_bs, w2, p1]
        by_cases hlt2 : beS w k < 2 * rv w k 9
        · rw [if_pos hlt2] at hCc
          rw [if_neg (fun h => le_nlt.mp h hlt2)]
          exact next w2 f2 (Or.inr ⟨hCc, Or.inl (nI_pos' (by omega))⟩)
        · rw [if_neg hlt2] at hCc
          rw [if_pos (le_nlt.mpr hlt2)]
          unfold k_X11_holds_74
          refine next w2 f2 ?_
          rw [stW.e (by omega) (by decide)]
          by_cases h38 : rv (goW w k 0) k 8 = 0
          · rw [if_pos h38] at hCc
            rcases Nat.lt_or_ge c 40 with h40 | h40
            · exact Or.inl ⟨h38, by omega, hx, hCc⟩
            · rw [show 41 - (c + 1) = 0 by omega, chS_0] at hCc
              exact Or.inr ⟨hx.trans hCc, Or.inr (Or.inr (by omega))⟩
          · rw [if_neg h38] at hCc
            exact Or.inr ⟨hx.trans hCc, Or.inr (Or.inl h38)⟩
    · rw [if_neg hw8, if_pos rfl]
      obtain ⟨a, b'⟩ := hend (Or.inl hw8)
      exact ⟨_, rfl, a, b', f1, w, w1, hW⟩
  · rw [if_pos (show (40 : Int32) < nI c from nI_lt (a := 40) (by omega) (by omega))]
    obtain ⟨a, b'⟩ := hend (Or.inr (by omega))
    exact ⟨_, rfl, a, b', f1, w, w1, hW⟩
theorem m_holds (hM : MV τ G m ω im me ta fa) (hI : IV ω im me ta) (hn : 500 < n) {k : Nat} {b : Int32} (hk : k < cR ω) : gOk (f_X11_holds τ n m (nI k) b G) (fun p => Th [x_IOE] (.inr (if b = 0 then hoR ω k else hoC ω k)) p.1 (gi p.2 11 0 m) ∧ QM m G p.2) := by
  have hr := hI.1.r1
  have hM2 : MV τ (gsi G 11 0 m 0) m ω im me ta fa := hM.th0
  unfold f_X11_holds
  rw [ka_letE, (m_no hM2.1 hM2.2.1 hI.1 _).2.1, ka_bs, if_neg (no_k hk (by omega)), ka_b2 m_thIf0, if_pos rfl, ka_bind]
  refine gOk.mono (m_keepsAll hM2.1 hM2.2.1 hn) fun G3 h3 => ?_
  obtain ⟨e3, f3⟩ := h3
  have hM3 : FM τ G3 m := f3.fm hM2.1 (by omega)
  have w3 : ge G3 (m + 1) = ω := (f3 (m + 1) (by omega)).2.2.1.trans hM2.2.1
  generalize hR : hoR ω k = R
  generalize hCC : hoC ω k = C
  rw [ka_bind]
  refine gOk.mono (m_holdL hM3 w3 hI.1 hI.2.1 hn (b := b) hk hR hCC) fun r hr => ?_
  obtain ⟨r1, r2, f4, w, w4, hW⟩ := hr
  rw [ka_letE, ka_letE, ka_letE]
  unfold k_X11_holds_113
  rw [ka_bind]
  refine gOk.mono (m_home hM2.1 hM2.2.1 hn e3 f3 f4 (fun j hj => by rw [w4]; exact hW.2.2.1 j hj)) fun G5 h5 => ?_
  by_cases hb : b = 0
  · rw [if_pos hb, if_pos hb]
    exact ⟨_, rfl, ⟨h5.2.2.trans th_set, r1⟩, QM.th.tr h5.2.1⟩
  · rw [if_neg hb, if_neg hb]
    exact ⟨_, rfl, ⟨h5.2.2.trans th_set, r2⟩, QM.th.tr h5.2.1⟩
theorem op_holds (hm : m = x + 512) (ho : o = m + 11) (hτ : gn τ o = 1) (hn : 500 < n) (hC : CV τ G x s t l l' ω im me ta fa) (hM : MV τ G m ω im me ta fa) (hI : IV ω im me ta) (y b : Int32) : gOk (f_L_holds τ n x y b o G) (fun q => gOk (f_X11_holds τ n m y b q.2) (fun p => q.1 = gi p.2 11 0 m ∧ (q.1 = 0 → gl p.2 o 0 = p.1.toInt64) ∧ ST τ x m p.2)) := by
  have hr := hI.1.r1
  unfold f_L_holds
  rcases arg_ix y (N := cR ω) (by omega) with ⟨k, hk, rfl⟩ | ⟨hno, -⟩
  · exact join_q (ans := .inr (if b = 0 then hoR ω k else hoC ω k)) hm ho hτ (by decide) hC hM hI (c_holds hC hI hn hk) (fun G1 hM1 => m_holds hM1 hI hn hk)
  · refine join_q (ans := .inl x_IOE) hm ho hτ (by decide) hC hM hI ⟨_, (by unfold f_X10_holds; exact ka_bxl (c_ropeNo hC hI.1 hno)), rfl, QC.rf⟩ (fun G1 hM1 => ?_)
    have hM2 : FM τ (gsi G1 11 0 m 0) m := QM.th.fm hM1.1
    have hω2 : ge (gsi G1 11 0 m 0) (m + 1) = ω := hM1.2.1
    unfold f_X11_holds
    rw [ka_letE, (m_no hM2 hω2 hI.1 _).2.1, ka_bs, if_pos hno, ka_b2 m_thIf1, if_neg ka_n10]
    refine ⟨_, rfl, ?_, QM.th.tr QM.th⟩
    show gCode [x_IOE] x_IOE 1 = some _
    rw [th_set]
    rfl
end
