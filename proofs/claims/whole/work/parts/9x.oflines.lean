/-! TEXTS: lines that tell of a rope -/
section
variable {tb : Nat → Nat} {L a b f : Nat} {lo hi : Int32} {r : Nat ⊕ Nat} {ω : gW} {v : Int32} {p q : Int32}
theorem nb_at (h : nbS tb L lo hi (.inl a) = .inr f) : f = a := by
  rw [nbS_i] at h
  by_cases h1 : numT tb L a < lo
  · rw [if_pos h1] at h; cases h; rfl
  · rw [if_neg h1] at h
    by_cases h2 : numT tb L a ≤ hi
    · rw [if_pos h2] at h; cases h
    · rw [if_neg h2] at h; cases h; rfl
/-- a number below a count -/
theorem nb_cnt {N : Nat} (hN : N < 2 ^ 30) (h : nbS tb L 0 (nI N - 1) (.inl a) = .inl b) : ∃ k, k < N ∧ numT tb L a = nI k ∧ nbV tb L 0 (nI N - 1) (.inl a) = nI k := by
  obtain ⟨a', e1, e2, e3, -⟩ := nb_ok h
  cases e1
  rw [e2] at e3
  rcases arg_ix (numT tb L a) (N := N) (by omega) with ⟨k, hk, e⟩ | ⟨h3, -⟩
  · exact ⟨k, hk, e, e2.trans e⟩
  · exact absurd ((no_in hN).mpr h3) e3
def tkR (tb : Nat → Nat) (L : Nat) (ω : gW) (a : Nat) : Nat ⊕ Nat := if numT tb L a < 0 ∨ ω 1 ≤ numT tb L a then .inl a else if rv ω (numT tb L a).toNatClampNeg 8 = 0 then .inl a else .inr a
def orpS (tb : Nat → Nat) (L : Nat) (ω : gW) (a : Nat) : Nat ⊕ Nat := nbS tb L 0 (ω 1 - 1) (tkR tb L ω a)
def orpV (tb : Nat → Nat) (L : Nat) (ω : gW) (a : Nat) : Int32 := nbV tb L 0 (ω 1 - 1) (tkR tb L ω a)
theorem orp_ok (hI : WI ω) (h : orpS tb L ω a = .inl b) : ∃ k, k < cR ω ∧ rv ω k 8 = 0 ∧ orpV tb L ω a = nI k ∧ tkR tb L ω a = .inl a := by
  have h8 := hI.r1
  unfold orpS at h
  unfold orpV
  have ht : tkR tb L ω a = .inl a := by
    unfold tkR at h ⊢
    by_cases h1 : numT tb L a < 0 ∨ ω 1 ≤ numT tb L a
    · rw [if_pos h1]
    · rw [if_neg h1] at h ⊢
      by_cases h2 : rv ω (numT tb L a).toNatClampNeg 8 = 0
      · rw [if_pos h2]
      · rw [if_neg h2] at h; cases h
  rw [ht, hI.r0] at h
  obtain ⟨k, hk, e1, e2⟩ := nb_cnt (by omega) h
  refine ⟨k, hk, ?_, ?_, ht⟩
  · unfold tkR at ht
    rw [e1, hI.r0, if_neg (no_k hk (by omega)), nI_clamp (by omega)] at ht
    by_cases h2 : rv ω k 8 = 0
    · exact h2
    · rw [if_neg h2] at ht; cases ht
  · rw [ht, hI.r0]; exact e2
def hgS (tb : Nat → Nat) (L : Nat) (ω : gW) (a : Nat) : Nat ⊕ Nat := nbS tb L 0 999 (orpS tb L ω a)
def hgW (tb : Nat → Nat) (L : Nat) (ω : gW) (a : Nat) : gW := hangW ω (orpV tb L ω a).toNatClampNeg (nbV tb L 0 999 (orpS tb L ω a))
def ttS (tb : Nat → Nat) (L : Nat) (ω : gW) (a : Nat) : Nat ⊕ Nat := nbS tb L 0 9 (orpS tb L ω a)
def ttW (tb : Nat → Nat) (L : Nat) (ω : gW) (a : Nat) : gW := taW ω (orpV tb L ω a).toNatClampNeg (nbV tb L 0 9 (orpS tb L ω a))
def whW (tb : Nat → Nat) (L : Nat) (ω : gW) (a : Nat) : gW := whipW ω (orpV tb L ω a).toNatClampNeg
theorem hg_nw (hI : WI ω) (h : hgS tb L ω a = .inl b) : NW ω (hgW tb L ω a) := by
  obtain ⟨a1, e1, -⟩ := nb_ok h
  obtain ⟨k, hk, -, e2, -⟩ := orp_ok hI e1
  have := hI.r1
  unfold hgW
  rw [e2, nI_clamp (by omega)]
  exact hangW.re.nw hI hk (hangW.ok (by omega) (hI.r hk) (af_bt (l := 0) (h := 999) (by decide) (by decide) rfl rfl h))
theorem tr_nw (hI : WI ω) (h : ttS tb L ω a = .inl b) : NW ω (ttW tb L ω a) := by
  obtain ⟨a1, e1, -⟩ := nb_ok h
  obtain ⟨k, hk, -, e2, -⟩ := orp_ok hI e1
  have := hI.r1
  unfold ttW
  rw [e2, nI_clamp (by omega)]
  exact taW.re.nw hI hk (taW.ok (by omega) (hI.r hk) (af_bt (l := 0) (h := 9) (by decide) (by decide) rfl rfl h))
theorem wh_nw (hI : WI ω) (h : orpS tb L ω a = .inl b) : NW ω (whW tb L ω a) := by
  obtain ⟨k, hk, -, e2, -⟩ := orp_ok hI h
  have := hI.r1
  unfold whW
  rw [e2, nI_clamp (by omega)]
  exact whipW.re.nw hI hk (whipW.ok (by omega) (hI.r hk))
end
section
variable {τ : gτ} {n : Nat} {G G' G'' : gG} {x t : Nat} {tb : Nat → Nat} {L a b f : Nat} {lo hi : Int32} {r r' : Nat ⊕ Nat} {ω ω' : gW} {v : Int32}
theorem s_setR (hF : FS τ G t) (hV : VS G t ω) (hI : WI ω) {k c j : Nat} (hk : k < cR ω) (hc : (c = 7 ∧ j = 9) ∨ (c = 4 ∧ j = 4) ∨ (c = 8 ∧ j = 6)) : VS (gsi G 5 c (t + 16 + k) v) t (rS ω k j v) ∧ FS τ (gsi G 5 c (t + 16 + k) v) t ∧ Fr (spn t) G (gsi G 5 c (t + 16 + k) v) := by
  have h8 := hI.r1
  have hj : j < 10 := by omega
  refine ⟨(RE.rf.rs hj : RE k ω (rS ω k j v)).vs hk hI hV (Fr.i rfl) ?_, hF, Fr.i (A := spn t) (show t ≤ t + 16 + k ∧ t + 16 + k ≤ t + 31 by omega)⟩
  obtain ⟨d0, d1, d2, d3, d4, d5, d6, d7, d8, d9⟩ := hV.r hk
  unfold RV
  rw [rv_rS hj (by decide), rv_rS hj (by decide), rv_rS hj (by decide), rv_rS hj (by decide), rv_rS hj (by decide), rv_rS hj (by decide), rv_rS hj (by decide), rv_rS hj (by decide), rv_rS hj (by decide), rv_rS hj (by decide)]
  rcases hc with ⟨rfl, rfl⟩ | ⟨rfl, rfl⟩ | ⟨rfl, rfl⟩
  · simp only [ka_ii]
    simp [d0, d1, d2, d3, d4, d5, d6, d8, d9]
  · simp only [ka_ii]
    simp [d0, d1, d2, d3, d5, d6, d7, d8, d9]
  · simp only [ka_ii]
    simp [d0, d1, d2, d3, d4, d5, d6, d7, d9]
theorem RR.num (h : RR τ G x t tb L (.inl a) ω) : gi G 7 5 (x + 1) = numT tb L a := h.2.1.2.2.1.2.2
theorem c_takeRope (h : RR τ G x t tb L (.inl a) ω) (hI : WI ω) (hn : 500 < n) : gOk (f_X8_takeRope τ n (x + 3) G) (fun q => CF x t G q.2 ∧ q.1 = orpV tb L ω a ∧ RR τ q.2 x t tb L (orpS tb L ω a) ω) := by
  have h8 := hI.r1
  have k45 : ∀ {r : Nat ⊕ Nat} {G1 : gG}, CF x t G G1 → RR τ G1 x t tb L r ω → tkR tb L ω a = r → gOk (k_X8_takeRope_45 τ n (x + 3) G1) (fun q => CF x t G q.2 ∧ q.1 = orpV tb L ω a ∧ RR τ q.2 x t tb L (orpS tb L ω a) ω) := fun {r G1} f1 h1 hr => by
    unfold k_X8_takeRope_45
    rw [h1.1.1.1, ka_bs, h1.1.1.2, ka_bs, h1.2.2.cn.2.1, ka_bind2]
    refine gOk.mono (rr_nb h1 hI (lo := 0) (hi := ω 1 - 1) (by decide) hn) fun q hq => ?_
    unfold orpV orpS
    rw [hr]
    exact ⟨_, rfl, f1.tr hq.1, hq.2.1, hq.2.2⟩
  unfold f_X8_takeRope
  rw [h.1.1.1, ka_bs, h.num, ka_letE]
  by_cases h0 : numT tb L a < 0
  · rw [if_pos h0]
    refine k45 CF.rf h ?_
    unfold tkR
    rw [if_pos (Or.inl h0)]
  · rw [if_neg h0, h.1.1.2, ka_bs, h.2.2.cn.2.1]
    by_cases h1 : ω 1 ≤ numT tb L a
    · rw [if_pos h1]
      refine k45 CF.rf h ?_
      unfold tkR
      rw [if_pos (Or.inr h1)]
    · rcases arg_ix (numT tb L a) (N := cR ω) (by omega) with ⟨k, hk, e⟩ | ⟨h3, -⟩
      · have e2 : tkR tb L ω a = if rv ω k 8 = 0 then .inl a else .inr a := by
          unfold tkR
          rw [if_neg (fun h => h.elim h0 h1), e, nI_clamp (by omega)]
        rw [if_neg h1, ka_bs, h.1.2.1.rf.2.1, ka_bs, e, h.1.2.1.r (by omega), (h.2.2.r hk).2.2.2.2.2.2.2.2.2]
        by_cases h2 : rv ω k 8 = 0
        · rw [if_pos h2]
          rw [if_pos h2] at e2
          exact k45 CF.rf h e2
        · rw [if_neg h2, ka_bs, ka_bind]
          rw [if_neg h2] at e2
          refine gOk.mono (c_refuse h.2.1) fun G1 g1 => ?_
          exact k45 (CF.te g1.1) (h.te hI g1.1 g1.2) e2
      · rw [← hI.r0] at h3
        exact absurd h3 (fun h => h.elim h0 h1)
theorem c_readHang (h : RR τ G x t tb L (.inl a) ω) (hI : WI ω) (hn : 500 < n) : gOk (f_X8_readHang τ n (x + 3) G) (fun G' => RO τ G G' x t tb L (hgS tb L ω a) (hgW tb L ω a)) := by
  have h8 := hI.r1
  unfold f_X8_readHang
  rw [ka_bind2]
  refine gOk.mono (c_takeRope h hI hn) fun q hq => ?_
  obtain ⟨v1, G2⟩ := q
  obtain ⟨f2, e1, h2⟩ := hq
  have e1 : v1 = orpV tb L ω a := e1
  subst e1
  have h2 : RR τ G2 x t tb L (orpS tb L ω a) ω := h2
  have f2 : CF x t G G2 := f2
  show gOk ((gr G2 8 0 (x + 3)).bind _) _
  rw [h2.1.1.1, ka_bs, ka_bind2]
  refine gOk.mono (rr_nb h2 hI (lo := 0) (hi := 999) (by decide) hn) fun q hq => ?_
  obtain ⟨v4, G5⟩ := q
  obtain ⟨f5, e4, h5⟩ := hq
  have e4 : v4 = nbV tb L 0 999 (orpS tb L ω a) := e4
  subst e4
  have h5 : RR τ G5 x t tb L (hgS tb L ω a) ω := h5
  have f5 : CF x t G2 G5 := f5
  show gOk ((gr G5 8 0 (x + 3)).bind _) _
  rw [h5.1.1.1, ka_bs]
  cases hr : hgS tb L ω a with
  | inr f =>
    rw [hr] at h5
    rw [c_rt0 h5.2.1, ka_bs, if_pos rfl]
    exact ⟨_, rfl, RO.no (f2.tr f5) h5⟩
  | inl b =>
    rw [hr] at h5
    obtain ⟨a1, e1, -⟩ := nb_ok hr
    obtain ⟨k, hk, -, ek, -⟩ := orp_ok hI e1
    rw [c_rt1 h5.2.1, ka_bs, if_neg ka_n10]
    show gOk ((gr G5 8 1 (x + 3)).bind fun a8 => (gr G5 6 1 a8).bind fun a9 => gchk (gIn (orpV tb L ω a) (gn τ a9)) ((gq G5 a9 (Int32.toNatClampNeg (orpV tb L ω a))).bind _)) _
    rw [ek, h5.1.1.2, ka_bs, h5.1.2.1.rf.2.1, ka_bs, h5.1.2.1.r (by omega), ka_letE]
    refine ⟨_, rfl, RO.wr (f2.tr f5) h5 ?_⟩
    unfold hgW
    rw [ek, nI_clamp (by omega)]
    exact s_setR h5.1.2.1 h5.2.2 hI hk (Or.inl ⟨rfl, rfl⟩)
theorem c_readTar (h : RR τ G x t tb L (.inl a) ω) (hI : WI ω) (hn : 500 < n) : gOk (f_X8_readTar τ n (x + 3) G) (fun G' => RO τ G G' x t tb L (ttS tb L ω a) (ttW tb L ω a)) := by
  have h8 := hI.r1
  unfold f_X8_readTar
  rw [ka_bind2]
  refine gOk.mono (c_takeRope h hI hn) fun q hq => ?_
  obtain ⟨v1, G2⟩ := q
  obtain ⟨f2, e1, h2⟩ := hq
  have e1 : v1 = orpV tb L ω a := e1
  subst e1
  have h2 : RR τ G2 x t tb L (orpS tb L ω a) ω := h2
  have f2 : CF x t G G2 := f2
  show gOk ((gr G2 8 0 (x + 3)).bind _) _
  rw [h2.1.1.1, ka_bs, ka_bind2]
  refine gOk.mono (rr_nb h2 hI (lo := 0) (hi := 9) (by decide) hn) fun q hq => ?_
  obtain ⟨v4, G5⟩ := q
  obtain ⟨f5, e4, h5⟩ := hq
  have e4 : v4 = nbV tb L 0 9 (orpS tb L ω a) := e4
  subst e4
  have h5 : RR τ G5 x t tb L (ttS tb L ω a) ω := h5
  have f5 : CF x t G2 G5 := f5
  show gOk ((gr G5 8 0 (x + 3)).bind _) _
  rw [h5.1.1.1, ka_bs]
  cases hr : ttS tb L ω a with
  | inr f =>
    rw [hr] at h5
    rw [c_rt0 h5.2.1, ka_bs, if_pos rfl]
    exact ⟨_, rfl, RO.no (f2.tr f5) h5⟩
  | inl b =>
    rw [hr] at h5
    obtain ⟨a1, e1, -⟩ := nb_ok hr
    obtain ⟨k, hk, -, ek, -⟩ := orp_ok hI e1
    rw [c_rt1 h5.2.1, ka_bs, if_neg ka_n10]
    show gOk ((gr G5 8 1 (x + 3)).bind fun a8 => (gr G5 6 1 a8).bind fun a9 => gchk (gIn (orpV tb L ω a) (gn τ a9)) ((gq G5 a9 (Int32.toNatClampNeg (orpV tb L ω a))).bind _)) _
    rw [ek, h5.1.1.2, ka_bs, h5.1.2.1.rf.2.1, ka_bs, h5.1.2.1.r (by omega), ka_letE]
    refine ⟨_, rfl, RO.wr (f2.tr f5) h5 ?_⟩
    unfold ttW
    rw [ek, nI_clamp (by omega)]
    exact s_setR h5.1.2.1 h5.2.2 hI hk (Or.inr (Or.inl ⟨rfl, rfl⟩))
theorem c_readWhip (h : RR τ G x t tb L (.inl a) ω) (hI : WI ω) (hn : 500 < n) : gOk (f_X8_readWhip τ n (x + 3) G) (fun G' => RO τ G G' x t tb L (orpS tb L ω a) (whW tb L ω a)) := by
  have h8 := hI.r1
  unfold f_X8_readWhip
  rw [ka_bind2]
  refine gOk.mono (c_takeRope h hI hn) fun q hq => ?_
  obtain ⟨v1, G2⟩ := q
  obtain ⟨f2, e1, h2⟩ := hq
  have e1 : v1 = orpV tb L ω a := e1
  subst e1
  have h2 : RR τ G2 x t tb L (orpS tb L ω a) ω := h2
  have f2 : CF x t G G2 := f2
  show gOk ((gr G2 8 0 (x + 3)).bind _) _
  rw [h2.1.1.1, ka_bs]
  cases hr : orpS tb L ω a with
  | inr f =>
    rw [hr] at h2
    rw [c_rt0 h2.2.1, ka_bs, if_pos rfl]
    exact ⟨_, rfl, RO.no f2 h2⟩
  | inl b =>
    rw [hr] at h2
    obtain ⟨k, hk, -, ek, -⟩ := orp_ok hI hr
    rw [c_rt1 h2.2.1, ka_bs, if_neg ka_n10]
    show gOk ((gr G2 8 1 (x + 3)).bind fun a8 => (gr G2 6 1 a8).bind fun a9 => gchk (gIn (orpV tb L ω a) (gn τ a9)) ((gq G2 a9 (Int32.toNatClampNeg (orpV tb L ω a))).bind _)) _
    rw [ek, h2.1.1.2, ka_bs, h2.1.2.1.rf.2.1, ka_bs, h2.1.2.1.r (by omega), ka_letE]
    refine ⟨_, rfl, RO.wr f2 h2 ?_⟩
    unfold whW
    rw [ek, nI_clamp (by omega)]
    exact s_setR h2.1.2.1 h2.2.2 hI hk (Or.inr (Or.inr ⟨rfl, rfl⟩))
end
section
variable {τ : gτ} {n : Nat} {G G' G'' : gG} {m : Nat} {tb : Nat → Nat} {L a b f : Nat} {lo hi : Int32} {r r' : Nat ⊕ Nat} {ω ω' : gW}
/-- the rope that a line tells of, in the reference -/
theorem m_ofN (h : MR τ G m tb L (.inl a) ω) (hI : WI ω) (hn : 500 < n) : gOk (f_X11_number τ n m 0 (ω 1 - 1) G) (fun q => MK m G q.2 ∧ FM τ q.2 m ∧ ge q.2 (m + 1) = ω ∧ ((q.1 < 0 ∧ orpS tb L ω a = .inr a ∧ MJ τ q.2 m tb L (.inr a)) ∨ ∃ k, k < cR ω ∧ q.1 = nI k ∧ ((¬ rv ω k 8 = 0 ∧ orpS tb L ω a = .inr a ∧ MJ τ q.2 m tb L (.inr a)) ∨ (rv ω k 8 = 0 ∧ orpV tb L ω a = nI k ∧ ∃ b, orpS tb L ω a = .inl b ∧ MJ τ q.2 m tb L (.inl b))))) := by
  have h8 := hI.r1
  refine gOk.mono (mr_nb h (lo := 0) (hi := ω 1 - 1) (by decide) hn) fun q hq => ?_
  obtain ⟨f2, e1, h2, e12⟩ := hq
  refine ⟨f2, h2.2.1, h2.2.2, ?_⟩
  obtain ⟨p, hp, -, hbp⟩ := h.1.2
  have haL : a ≤ L := by rw [← hbp]; exact (bl_le hp).2
  have hB := h.1.1.mk f2
  rw [hI.r0] at e1
  cases hr : nbS tb L 0 (ω 1 - 1) (.inl a) with
  | inr f =>
    have hfa := nb_at hr
    subst hfa
    rw [hI.r0] at hr
    left
    refine ⟨by rw [e1, nb_no hr]; decide, ?_, hB, haL, e12⟩
    unfold orpS
    by_cases ht : tkR tb L ω f = .inl f
    · rw [ht, hI.r0]; exact hr
    · have : tkR tb L ω f = .inr f := by
        unfold tkR at ht ⊢
        by_cases h1 : numT tb L f < 0 ∨ ω 1 ≤ numT tb L f
        · rw [if_pos h1] at ht; exact absurd rfl ht
        · rw [if_neg h1] at ht ⊢
          by_cases h2 : rv ω (numT tb L f).toNatClampNeg 8 = 0
          · rw [if_pos h2] at ht; exact absurd rfl ht
          · rw [if_neg h2]
      rw [this]
      rfl
  | inl b =>
    rw [hr] at h2
    have hr' := hr
    rw [hI.r0] at hr'
    obtain ⟨k, hk, e3, e4⟩ := nb_cnt (by omega) hr'
    right
    refine ⟨k, hk, e1.trans e4, ?_⟩
    have et : tkR tb L ω a = if rv ω k 8 = 0 then .inl a else .inr a := by
      unfold tkR
      rw [e3, hI.r0, if_neg (no_k hk (by omega)), nI_clamp (by omega)]
    unfold orpS orpV
    rw [et]
    by_cases h0 : rv ω k 8 = 0
    · right
      rw [if_pos h0]
      exact ⟨h0, by rw [hI.r0]; exact e4, b, hr, h2.1⟩
    · left
      rw [if_neg h0]
      exact ⟨h0, rfl, hB, haL, e12⟩
/-- hang and tar -/
theorem m_readOf (h : MR τ G m tb L (.inl a) ω) (hI : WI ω) (hn : 500 < n) {j : Nat} {jj hi : Int32} (hj : jj = nI j) (hj2 : j < 10 ∧ j ≠ 6) : gOk (f_X11_readOf τ n m jj hi G) (MO τ m tb L G (nbS tb L 0 hi (orpS tb L ω a)) (rS ω (orpV tb L ω a).toNatClampNeg j (nbV tb L 0 hi (orpS tb L ω a)))) := by
  have h8 := hI.r1
  have hj6 : ¬ jj = (6 : Int32) := fun e => by
    rw [hj] at e
    have := (nI_eq (b := 6) (by omega) (by decide)).mp e
    omega
  unfold f_X11_readOf
  rw [h.2.1.cn.2.1, ka_bs, h.2.2, ka_bind2]
  refine gOk.mono (m_ofN h hI hn) fun q hq => ?_
  obtain ⟨v2, G3⟩ := q
  obtain ⟨f3, hM3, hω3, hc⟩ := hq
  have f3 : MK m G G3 := f3
  have hM3 : FM τ G3 m := hM3
  have hω3 : ge G3 (m + 1) = ω := hω3
  rcases hc with ⟨c1, c2, c3⟩ | ⟨k, hk, ek, hc⟩
  · rw [if_pos c1, c2]
    exact ⟨_, rfl, f3, Or.inr ⟨rfl, a, rfl, c3, hM3⟩⟩
  · have ek : v2 = nI k := ek
    subst ek
    rw [if_neg (show ¬ nI k < 0 from nI_pos (by omega)), m_isWhole hM3 (by omega), ka_bs, hω3]
    rcases hc with ⟨c1, c2, c3⟩ | ⟨c1, c2, b, c3, c4⟩
    · rw [if_neg c1, if_pos rfl, c2]
      exact ⟨_, rfl, f3, Or.inr ⟨rfl, a, rfl, c3, hM3⟩⟩
    · have h3 : MR τ G3 m tb L (.inl b) ω := ⟨c4, hM3, hω3⟩
      rw [if_pos c1, if_neg ka_n10, if_neg hj6, c3, ka_bind2]
      refine gOk.mono (mr_nb h3 (lo := 0) (hi := hi) (by decide) hn) fun q hq => ?_
      obtain ⟨v8, G9⟩ := q
      obtain ⟨f9, e8, h9, -⟩ := hq
      have e8 : v8 = nbV tb L 0 hi (.inl b) := e8
      have f9 : MK m G3 G9 := f9
      have h9 : MR τ G9 m tb L (nbS tb L 0 hi (.inl b)) ω := h9
      show gOk (k_X11_readOf_42 τ n m jj (nI k) v8 G9) _
      unfold k_X11_readOf_42 k_X11_readOf_61
      cases hr : nbS tb L 0 hi (.inl b) with
      | inr f =>
        rw [hr] at h9
        rw [show v8 = -1 from e8.trans (nb_no hr), if_pos (by decide), if_pos (by decide)]
        exact ⟨_, rfl, f3.tr f9, Or.inr ⟨rfl, f, rfl, h9.no⟩⟩
      | inl b9 =>
        rw [hr] at h9
        have h0 : (0 : Int32) ≤ v8 := by rw [e8]; exact nb_ge (by decide) hr
        have hn0 : ¬ v8 < 0 := fun e => nle_of_lt e h0
        rw [if_neg hn0, m_g h9.2.1, m_at (j := j) (by omega) hj, ka_bs, m_w h9.2.1 (53 + 10 * k + j) rfl (by omega), if_neg hn0]
        refine ⟨_, rfl, (f3.tr f9).tr MK.ww, Or.inl ⟨rfl, b9, rfl, ?_⟩⟩
        rw [c2, nI_clamp (by omega), ← e8]
        exact h9.wr
theorem m_readWhip (h : MR τ G m tb L (.inl a) ω) (hI : WI ω) (hn : 500 < n) {hi : Int32} : gOk (f_X11_readOf τ n m 6 hi G) (MO τ m tb L G (orpS tb L ω a) (whW tb L ω a)) := by
  have h8 := hI.r1
  unfold f_X11_readOf
  rw [h.2.1.cn.2.1, ka_bs, h.2.2, ka_bind2]
  refine gOk.mono (m_ofN h hI hn) fun q hq => ?_
  obtain ⟨v2, G3⟩ := q
  obtain ⟨f3, hM3, hω3, hc⟩ := hq
  have f3 : MK m G G3 := f3
  have hM3 : FM τ G3 m := hM3
  have hω3 : ge G3 (m + 1) = ω := hω3
  rcases hc with ⟨c1, c2, c3⟩ | ⟨k, hk, ek, hc⟩
  · rw [if_pos c1, c2]
    exact ⟨_, rfl, f3, Or.inr ⟨rfl, a, rfl, c3, hM3⟩⟩
  · have ek : v2 = nI k := ek
    subst ek
    rw [if_neg (show ¬ nI k < 0 from nI_pos (by omega)), m_isWhole hM3 (by omega), ka_bs, hω3]
    rcases hc with ⟨c1, c2, c3⟩ | ⟨c1, c2, b, c3, c4⟩
    · rw [if_neg c1, if_pos rfl, c2]
      exact ⟨_, rfl, f3, Or.inr ⟨rfl, a, rfl, c3, hM3⟩⟩
    · have h3 : MR τ G3 m tb L (.inl b) ω := ⟨c4, hM3, hω3⟩
      rw [if_pos c1, if_neg ka_n10, if_pos rfl, c3]
      show gOk (k_X11_readOf_42 τ n m 6 (nI k) 1 G3) _
      unfold k_X11_readOf_42 k_X11_readOf_61
      rw [if_neg (by decide), m_g h3.2.1, m_at (k := k) (j := 6) (w := 6) (by omega) rfl, ka_bs, m_w h3.2.1 (53 + 10 * k + 6) rfl (by omega), if_neg (by decide)]
      refine ⟨_, rfl, f3.tr MK.ww, Or.inl ⟨rfl, b, rfl, ?_⟩⟩
      unfold whW
      rw [c2, nI_clamp (by omega)]
      exact h3.wr
end
