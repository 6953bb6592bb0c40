/-! TEXTS: a line of rope -/
section
variable {tb : Nat → Nat} {L a b f : Nat} {lo hi c : Int32} {r : Nat ⊕ Nat} {ω : gW} {v : Int32} {p q : Int32}
def tkY (tb : Nat → Nat) (L : Nat) (p q : Int32) : Nat ⊕ Nat → Nat ⊕ Nat
  | .inl a => if numT tb L a = p ∨ numT tb L a = q then .inr a else .inl a
  | .inr f => .inr f
theorem tkY_i : tkY tb L p q (.inl a) = if numT tb L a = p ∨ numT tb L a = q then .inr a else .inl a := rfl
theorem tk_ok (h : tkY tb L p q r = .inl a) : r = .inl a ∧ numT tb L a ≠ p ∧ numT tb L a ≠ q := by
  cases r with
  | inr f => cases h
  | inl b =>
    rw [tkY_i] at h
    by_cases h1 : numT tb L b = p ∨ numT tb L b = q
    · rw [if_pos h1] at h; cases h
    · rw [if_neg h1] at h
      cases h
      exact ⟨rfl, fun e => h1 (Or.inl e), fun e => h1 (Or.inr e)⟩
theorem tk_cases : (nbV tb L 0 c (.inl a) < 0 ∧ nbS tb L 0 c (tkY tb L p q (.inl a)) = .inr a) ∨ (0 ≤ nbV tb L 0 c (.inl a) ∧ (nbV tb L 0 c (.inl a) = p ∨ nbV tb L 0 c (.inl a) = q) ∧ nbS tb L 0 c (tkY tb L p q (.inl a)) = .inr a) ∨ (0 ≤ nbV tb L 0 c (.inl a) ∧ ¬ (nbV tb L 0 c (.inl a) = p ∨ nbV tb L 0 c (.inl a) = q) ∧ nbS tb L 0 c (tkY tb L p q (.inl a)) = nbS tb L 0 c (.inl a) ∧ nbV tb L 0 c (tkY tb L p q (.inl a)) = nbV tb L 0 c (.inl a) ∧ ∃ b, nbS tb L 0 c (.inl a) = .inl b) := by
  cases hr : nbS tb L 0 c (.inl a) with
  | inr f =>
    have hf := nb_at hr
    subst hf
    left
    refine ⟨by rw [nb_no hr]; decide, ?_⟩
    rw [tkY_i]
    by_cases h1 : numT tb L f = p ∨ numT tb L f = q
    · rw [if_pos h1]; rfl
    · rw [if_neg h1]; exact hr
  | inl b =>
    right
    have h0 := nb_ge (by decide) hr
    obtain ⟨a', e1, e2, -, -⟩ := nb_ok hr
    cases e1
    by_cases h1 : numT tb L a = p ∨ numT tb L a = q
    · left
      rw [tkY_i, if_pos h1, e2]
      rw [e2] at h0
      exact ⟨h0, h1, rfl⟩
    · right
      rw [tkY_i, if_neg h1]
      exact ⟨h0, by rw [e2]; exact h1, hr, rfl, b, rfl⟩
def rrq1 (tb : Nat → Nat) (L : Nat) (ω : gW) (a : Nat) : Nat ⊕ Nat := nbS tb L 0 (ω 0 - 1) (tkY tb L (-1) (-1) (.inl a))
def ru1 (tb : Nat → Nat) (L : Nat) (ω : gW) (a : Nat) : Int32 := nbV tb L 0 (ω 0 - 1) (tkY tb L (-1) (-1) (.inl a))
def rrq2 (tb : Nat → Nat) (L : Nat) (ω : gW) (a : Nat) : Nat ⊕ Nat := nbS tb L 0 (ω 0 - 1) (tkY tb L (ru1 tb L ω a) (-1) (rrq1 tb L ω a))
def ru2 (tb : Nat → Nat) (L : Nat) (ω : gW) (a : Nat) : Int32 := nbV tb L 0 (ω 0 - 1) (tkY tb L (ru1 tb L ω a) (-1) (rrq1 tb L ω a))
def rrq3 (tb : Nat → Nat) (L : Nat) (ω : gW) (a : Nat) : Nat ⊕ Nat := nbS tb L 0 (ω 0 - 1) (tkY tb L (ru1 tb L ω a) (ru2 tb L ω a) (rrq2 tb L ω a))
def ru3 (tb : Nat → Nat) (L : Nat) (ω : gW) (a : Nat) : Int32 := nbV tb L 0 (ω 0 - 1) (tkY tb L (ru1 tb L ω a) (ru2 tb L ω a) (rrq2 tb L ω a))
def rpH (tb : Nat → Nat) (L : Nat) (ω : gW) (a : Nat) : Int32 := gmin (gmin (yv ω (ru1 tb L ω a).toNatClampNeg 1) (yv ω (ru2 tb L ω a).toNatClampNeg 1)) (yv ω (ru3 tb L ω a).toNatClampNeg 1)
def rrq5 (tb : Nat → Nat) (L : Nat) (ω : gW) (a : Nat) : Nat ⊕ Nat := afS tb L s_long 1 (rpH tb L ω a) (rrq3 tb L ω a)
def ru5 (tb : Nat → Nat) (L : Nat) (ω : gW) (a : Nat) : Int32 := afV tb L s_long 1 (rpH tb L ω a) (rrq3 tb L ω a)
def rpW (tb : Nat → Nat) (L : Nat) (ω : gW) (a : Nat) : gW := layW ω (ru1 tb L ω a).toNatClampNeg (ru2 tb L ω a).toNatClampNeg (ru3 tb L ω a).toNatClampNeg (ru5 tb L ω a)
theorem rp_ok (hI : WI ω) (h : rrq3 tb L ω a = .inl b) : ∃ k1 k2 k3, (k1 < cY ω ∧ k2 < cY ω ∧ k3 < cY ω) ∧ (k1 ≠ k2 ∧ k1 ≠ k3 ∧ k2 ≠ k3) ∧ ru1 tb L ω a = nI k1 ∧ ru2 tb L ω a = nI k2 ∧ ru3 tb L ω a = nI k3 := by
  have hy := hI.y1
  obtain ⟨a3, t3, -⟩ := nb_ok h
  obtain ⟨e2, n31, n32⟩ := tk_ok t3
  obtain ⟨a2, t2, -⟩ := nb_ok e2
  obtain ⟨e1, n21, -⟩ := tk_ok t2
  obtain ⟨a1, t1, -⟩ := nb_ok e1
  have h3 := h
  unfold rrq3 at h3
  rw [t3, hI.y0] at h3
  obtain ⟨k3, l3, m3, v3⟩ := nb_cnt (by omega) h3
  have h2 := e2
  unfold rrq2 at h2
  rw [t2, hI.y0] at h2
  obtain ⟨k2, l2, m2, v2⟩ := nb_cnt (by omega) h2
  have h1 := e1
  unfold rrq1 at h1
  rw [t1, hI.y0] at h1
  obtain ⟨k1, l1, m1, v1⟩ := nb_cnt (by omega) h1
  have u1 : ru1 tb L ω a = nI k1 := by unfold ru1; rw [t1, hI.y0]; exact v1
  have u2 : ru2 tb L ω a = nI k2 := by unfold ru2; rw [t2, hI.y0]; exact v2
  have u3 : ru3 tb L ω a = nI k3 := by unfold ru3; rw [t3, hI.y0]; exact v3
  rw [m3, u1] at n31
  rw [m3, u2] at n32
  rw [m2, u1] at n21
  exact ⟨k1, k2, k3, ⟨l1, l2, l3⟩, ⟨fun e => n21 (by rw [e]), fun e => n31 (by rw [e]), fun e => n32 (by rw [e])⟩, u1, u2, u3⟩
theorem y_long (hI : WI ω) {k : Nat} (hk : k < cY ω) : ∃ z, z ≤ 200 ∧ yv ω k 1 = nI z := by
  obtain ⟨-, ⟨z, -, h2, h3⟩, -⟩ := hI.y hk
  exact ⟨z, h2, h3⟩
theorem rp_nw (hI : WI ω) (h8 : cR ω < 8) (h : rrq5 tb L ω a = .inl b) : NW ω (rpW tb L ω a) := by
  obtain ⟨a4, t4, -, n5, -⟩ := nb_ok h
  obtain ⟨a3, t3⟩ := nd_ok t4
  obtain ⟨k1, k2, k3, ⟨l1, l2, l3⟩, ⟨d12, d13, d23⟩, u1, u2, u3⟩ := rp_ok hI t3
  have hy := hI.y1
  obtain ⟨z1, b1, y1⟩ := y_long hI l1
  obtain ⟨z2, b2, y2⟩ := y_long hI l2
  obtain ⟨z3, b3, y3⟩ := y_long hI l3
  have n5 : ¬ (ru5 tb L ω a < 1 ∨ rpH tb L ω a < ru5 tb L ω a) := n5
  have eH : rpH tb L ω a = nI (min (min z1 z2) z3) := by
    unfold rpH
    rw [u1, u2, u3, nI_clamp (by omega), nI_clamp (by omega), nI_clamp (by omega), y1, y2, y3, gmin_nI (by omega) (by omega), gmin_nI (by omega) (by omega)]
  rw [eH] at n5
  have hbt : bt (ru5 tb L ω a) 1 (min (min z1 z2) z3) := bt_of (by omega) (by decide) n5
  unfold rpW
  rw [u1, u2, u3, nI_clamp (by omega), nI_clamp (by omega), nI_clamp (by omega)]
  obtain ⟨kv, g1, g2, g3⟩ := id hbt
  refine layW.nw hI l1 l2 l3 d12 d13 d23 h8 (bt_w hbt (Nat.le_refl 1) (by omega)) ?_
  rw [y1, y2, y3, g3]
  rintro (h | h | h)
  · exact absurd h (nI_nlt (by omega) (by omega))
  · exact absurd h (nI_nlt (by omega) (by omega))
  · exact absurd h (nI_nlt (by omega) (by omega))
end
section
variable {τ : gτ} {n : Nat} {G G' G'' : gG} {x t : Nat} {tb : Nat → Nat} {L a b f : Nat} {r r' : Nat ⊕ Nat} {ω ω' : gW} {p q : Int32}
theorem c_takeYarn (h : RR τ G x t tb L r ω) (hI : WI ω) (hn : 500 < n) : gOk (f_X8_takeYarn τ n (x + 3) p q G) (fun u => CF x t G u.2 ∧ u.1 = nbV tb L 0 (ω 0 - 1) (tkY tb L p q r) ∧ RR τ u.2 x t tb L (nbS tb L 0 (ω 0 - 1) (tkY tb L p q r)) ω) := by
  have k29 : ∀ {r1 : Nat ⊕ Nat} {G1 : gG}, CF x t G G1 → RR τ G1 x t tb L r1 ω → tkY tb L p q r = r1 → gOk (k_X8_takeYarn_29 τ n (x + 3) G1) (fun u => CF x t G u.2 ∧ u.1 = nbV tb L 0 (ω 0 - 1) (tkY tb L p q r) ∧ RR τ u.2 x t tb L (nbS tb L 0 (ω 0 - 1) (tkY tb L p q r)) ω) := fun {r1 G1} f1 h1 hr => by
    unfold k_X8_takeYarn_29
    rw [h1.1.1.1, ka_bs, h1.1.1.2, ka_bs, h1.2.2.cn.1, ka_bind2]
    refine gOk.mono (rr_nb h1 hI (lo := 0) (hi := ω 0 - 1) (by decide) hn) fun u hu => ?_
    rw [hr]
    exact ⟨_, rfl, f1.tr hu.1, hu.2.1, hu.2.2⟩
  have k22 : tkY tb L p q r = rfS r → gOk (k_X8_takeYarn_22 τ n (x + 3) G) (fun u => CF x t G u.2 ∧ u.1 = nbV tb L 0 (ω 0 - 1) (tkY tb L p q r) ∧ RR τ u.2 x t tb L (nbS tb L 0 (ω 0 - 1) (tkY tb L p q r)) ω) := fun hr => by
    unfold k_X8_takeYarn_22
    rw [h.1.1.1, ka_bs, ka_bind]
    refine gOk.mono (c_refuse h.2.1) fun G1 g1 => ?_
    exact k29 (CF.te g1.1) (h.te hI g1.1 g1.2) hr
  unfold f_X8_takeYarn
  rw [h.1.1.1, ka_bs]
  cases r with
  | inl a =>
    rw [h.num]
    by_cases h1 : numT tb L a = p
    · rw [if_pos h1]
      exact k22 (by rw [tkY_i, if_pos (Or.inl h1)]; rfl)
    · rw [if_neg h1, ka_bs, h.num]
      by_cases h2 : numT tb L a = q
      · rw [if_pos h2]
        exact k22 (by rw [tkY_i, if_pos (Or.inr h2)]; rfl)
      · rw [if_neg h2]
        exact k29 CF.rf h (by rw [tkY_i, if_neg (fun h => h.elim h1 h2)])
  | inr f =>
    by_cases h1 : gi G 7 5 (x + 1) = p
    · rw [if_pos h1]
      exact k22 rfl
    · rw [if_neg h1, ka_bs]
      by_cases h2 : gi G 7 5 (x + 1) = q
      · rw [if_pos h2]
        exact k22 rfl
      · rw [if_neg h2]
        exact k29 CF.rf h rfl
theorem s_shAny (hF : FS τ G t) (u v w : Int32) : ∃ z, f_X6_shortest τ t u v w G = some z := by
  obtain ⟨j1, l1, e1⟩ := hF.yarnAny u
  obtain ⟨j2, l2, e2⟩ := hF.yarnAny v
  obtain ⟨j3, l3, e3⟩ := hF.yarnAny w
  unfold f_X6_shortest
  rw [e1, ka_bs, hF.ky l1, e2, ka_bs, hF.ky l2, ka_letE, e3, ka_bs, hF.ky l3]
  exact ⟨_, rfl⟩
theorem c_readRope (h : RR τ G x t tb L (.inl a) ω) (hI : WI ω) (h8 : cR ω < 8) (hn : 500 < n) : gOk (f_X8_readRope τ n (x + 3) G) (fun G' => RO τ G G' x t tb L (rrq5 tb L ω a) (rpW tb L ω a)) := by
  have hy := hI.y1
  unfold f_X8_readRope
  rw [ka_bind2]
  refine gOk.mono (c_takeYarn h hI hn) fun q hq => ?_
  obtain ⟨v1, G2⟩ := q
  obtain ⟨f2, e1, h2⟩ := hq
  have e1 : v1 = ru1 tb L ω a := e1
  subst e1
  have h2 : RR τ G2 x t tb L (rrq1 tb L ω a) ω := h2
  have f2 : CF x t G G2 := f2
  rw [ka_bind2]
  refine gOk.mono (c_takeYarn h2 hI hn) fun q hq => ?_
  obtain ⟨v3, G4⟩ := q
  obtain ⟨f4, e3, h4⟩ := hq
  have e3 : v3 = ru2 tb L ω a := e3
  subst e3
  have h4 : RR τ G4 x t tb L (rrq2 tb L ω a) ω := h4
  have f4 : CF x t G2 G4 := f4
  rw [ka_bind2]
  refine gOk.mono (c_takeYarn h4 hI hn) fun q hq => ?_
  obtain ⟨v5, G6⟩ := q
  obtain ⟨f6, e5, h6⟩ := hq
  have e5 : v5 = ru3 tb L ω a := e5
  subst e5
  have h6 : RR τ G6 x t tb L (rrq3 tb L ω a) ω := h6
  have f6 : CF x t G4 G6 := f6
  show gOk ((gr G6 8 0 (x + 3)).bind _) _
  rw [h6.1.1.1, ka_bs, ka_bind]
  refine gOk.mono (rr_nd h6 hI wo_long hn) fun G9 g9 => ?_
  obtain ⟨f9, h9⟩ := g9
  have fA := f2.tr (f4.tr (f6.tr f9))
  rw [h9.1.1.1, ka_bs, h9.1.1.2, ka_bs]
  have hsh : ∃ z, f_X6_shortest τ t (ru1 tb L ω a) (ru2 tb L ω a) (ru3 tb L ω a) G9 = some z ∧ nbS tb L 1 z (ndW tb L s_long (rrq3 tb L ω a)) = rrq5 tb L ω a ∧ nbV tb L 1 z (ndW tb L s_long (rrq3 tb L ω a)) = ru5 tb L ω a := by
    unfold rrq5 ru5 afS afV
    cases hr : rrq3 tb L ω a with
    | inr f =>
      obtain ⟨z, hz⟩ := s_shAny h9.1.2.1 (ru1 tb L ω a) (ru2 tb L ω a) (ru3 tb L ω a)
      exact ⟨z, hz, rfl, rfl⟩
    | inl b =>
      obtain ⟨k1, k2, k3, ⟨l1, l2, l3⟩, -, u1, u2, u3⟩ := rp_ok hI hr
      refine ⟨rpH tb L ω a, ?_, rfl, rfl⟩
      unfold rpH
      rw [u1, u2, u3, s_shortest h9.1.2.1 h9.2.2 hI l1 l2 l3, nI_clamp (by omega), nI_clamp (by omega), nI_clamp (by omega)]
  obtain ⟨z, hz, hz1, hz2⟩ := hsh
  show gOk ((f_X6_shortest τ t (ru1 tb L ω a) (ru2 tb L ω a) (ru3 tb L ω a) G9).bind _) _
  rw [hz, ka_bs, ka_bind2]
  refine gOk.mono (rr_nb h9 hI (lo := 1) (hi := z) (by decide) hn) fun q hq => ?_
  obtain ⟨v13, G14⟩ := q
  obtain ⟨f14, e13, h14⟩ := hq
  have e13 : v13 = ru5 tb L ω a := Eq.trans e13 hz2
  subst e13
  have h14 : RR τ G14 x t tb L (rrq5 tb L ω a) ω := by rw [← hz1]; exact h14
  have f14 : CF x t G9 G14 := f14
  show gOk ((gr G14 8 0 (x + 3)).bind _) _
  rw [h14.1.1.1, ka_bs]
  cases hr : rrq5 tb L ω a with
  | inr f =>
    rw [hr] at h14
    rw [c_rt0 h14.2.1, ka_bs, if_pos rfl]
    exact ⟨_, rfl, RO.no (fA.tr f14) h14⟩
  | inl b =>
    rw [hr] at h14
    obtain ⟨a4, t4, -⟩ := nb_ok hr
    obtain ⟨a3, t3⟩ := nd_ok t4
    obtain ⟨k1, k2, k3, ⟨l1, l2, l3⟩, ⟨d12, d13, d23⟩, u1, u2, u3⟩ := rp_ok hI t3
    rw [c_rt1 h14.2.1, ka_bs, if_neg ka_n10, h14.1.1.2, ka_bs]
    show gOk (gBind2 (f_X6_addRope τ t (ru1 tb L ω a) (ru2 tb L ω a) (ru3 tb L ω a) (ru5 tb L ω a) G14) _) _
    rw [u1, u2, u3, ka_bind2]
    refine gOk.mono (s_addRope h14.1.2.1 h14.2.2 hI l1 l2 l3 d12 d13 d23 h8 (v := ru5 tb L ω a)) fun q hq => ?_
    obtain ⟨v18, G19⟩ := q
    obtain ⟨-, g1, g2, g3⟩ := hq
    refine ⟨_, rfl, RO.wr (fA.tr f14) h14 ⟨?_, g2, g3⟩⟩
    unfold rpW
    rw [u1, u2, u3, nI_clamp (by omega), nI_clamp (by omega), nI_clamp (by omega)]
    exact g1
end
section
variable {τ : gτ} {n : Nat} {G G' G'' : gG} {m : Nat} {tb : Nat → Nat} {L a b f : Nat} {lo hi : Int32} {r r' : Nat ⊕ Nat} {ω ω' : gW}
theorem MR.at (h : MR τ G m tb L (.inl a) ω) : a ≤ L := by
  obtain ⟨p, hp, -, hbp⟩ := h.1.2
  rw [← hbp]
  exact (bl_le hp).2
theorem m_readRope (h : MR τ G m tb L (.inl a) ω) (hI : WI ω) (h8 : cR ω < 8) (hn : 500 < n) : gOk (f_X11_readRope τ n m G) (MO τ m tb L G (rrq5 tb L ω a) (rpW tb L ω a)) := by
  have hy := hI.y1
  have bad1 : rrq1 tb L ω a = .inr a → rrq5 tb L ω a = .inr a := fun e => by
    unfold rrq5 rrq3 rrq2
    rw [e]
    rfl
  have bad2 : ∀ {f : Nat}, rrq2 tb L ω a = .inr f → rrq5 tb L ω a = .inr f := fun e => by
    unfold rrq5 rrq3
    rw [e]
    rfl
  have bad3 : ∀ {f : Nat}, rrq3 tb L ω a = .inr f → rrq5 tb L ω a = .inr f := fun e => by
    unfold rrq5
    rw [e]
    rfl
  unfold f_X11_readRope
  rw [h.2.1.cn.2.1, ka_bs, h.2.2, hI.r0, if_neg (show ¬ nI (cR ω) = (8 : Int32) from fun e => by have := (nI_eq (b := 8) (by omega) (by decide)).mp e; omega), h.2.1.cn.1, ka_bs, h.2.2, ka_bind2]
  refine gOk.mono (mr_nb h (lo := 0) (hi := ω 0 - 1) (by decide) hn) fun q hq => ?_
  obtain ⟨v3, G4⟩ := q
  obtain ⟨f4, e3, h4, g4⟩ := hq
  have e3 : v3 = nbV tb L 0 (ω 0 - 1) (.inl a) := e3
  have f4 : MK m G G4 := f4
  have g4 : gi G4 11 12 m = nI a := g4
  have h4 : MR τ G4 m tb L (nbS tb L 0 (ω 0 - 1) (.inl a)) ω := h4
  show gOk (if 0 ≤ v3 then _ else _) _
  rcases tk_cases (tb := tb) (L := L) (c := ω 0 - 1) (a := a) (p := -1) (q := -1) with ⟨c1, c2⟩ | ⟨c1, c2, -⟩ | ⟨c1, -, c3, c4, b1, c5⟩
  · rw [← e3] at c1
    rw [if_neg (nle_of_lt c1), bad1 c2]
    show gOk (k_X11_readRope_42 τ n m v3 (-1) G4) _
    unfold k_X11_readRope_42
    rw [if_pos (by decide)]
    exact ⟨_, rfl, f4, Or.inr ⟨rfl, a, rfl, ⟨h.1.1.mk f4, h.at, g4⟩, h4.2.1⟩⟩
  · exfalso
    rcases c2 with c2 | c2 <;> rw [c2] at c1 <;> exact absurd c1 (by decide)
  have u1 : ru1 tb L ω a = v3 := c4.trans e3.symm
  have p1 : rrq1 tb L ω a = .inl b1 := c3.trans c5
  rw [← e3] at c1
  rw [c5] at h4
  rw [if_pos c1]
  show gOk ((f_X11_yarns τ m G4).bind _) _
  rw [h4.2.1.cn.1, ka_bs, h4.2.2, ka_bind2]
  refine gOk.mono (mr_nb h4 (lo := 0) (hi := ω 0 - 1) (by decide) hn) fun q hq => ?_
  obtain ⟨v6, G7⟩ := q
  obtain ⟨f7, e6, h7, g7⟩ := hq
  have e6 : v6 = nbV tb L 0 (ω 0 - 1) (.inl b1) := e6
  have f7 : MK m G4 G7 := f7
  have g7 : gi G7 11 12 m = nI b1 := g7
  have h7 : MR τ G7 m tb L (nbS tb L 0 (ω 0 - 1) (.inl b1)) ω := h7
  have fB := f4.tr f7
  show gOk (k_X11_readRope_42 τ n m v3 v6 G7) _
  unfold k_X11_readRope_42
  have hv3 : ¬ v3 = -1 := fun e => by rw [e] at c1; exact absurd c1 (by decide)
  have r2 : rrq2 tb L ω a = nbS tb L 0 (ω 0 - 1) (tkY tb L v3 (-1) (.inl b1)) := by unfold rrq2; rw [u1, p1]
  rcases tk_cases (tb := tb) (L := L) (c := ω 0 - 1) (a := b1) (p := v3) (q := -1) with ⟨d1, d2⟩ | ⟨d1, d2, d3⟩ | ⟨d1, d2, d3, d4, b2, d5⟩
  · rw [← e6] at d1
    rw [if_pos d1, bad2 (r2.trans d2)]
    exact ⟨_, rfl, fB, Or.inr ⟨rfl, b1, rfl, ⟨h4.1.1.mk f7, h4.at, g7⟩, h7.2.1⟩⟩
  · rw [← e6] at d1 d2
    have d2' : v6 = v3 := d2.resolve_right fun e => by rw [e] at d1; exact absurd d1 (by decide)
    rw [if_neg (fun e => nle_of_lt e d1), if_pos d2', bad2 (r2.trans d3)]
    exact ⟨_, rfl, fB, Or.inr ⟨rfl, b1, rfl, ⟨h4.1.1.mk f7, h4.at, g7⟩, h7.2.1⟩⟩
  have u2 : ru2 tb L ω a = v6 := by unfold ru2; rw [u1, p1]; exact d4.trans e6.symm
  have p2 : rrq2 tb L ω a = .inl b2 := r2.trans (d3.trans d5)
  rw [← e6] at d1 d2
  rw [d5] at h7
  rw [if_neg (fun e => nle_of_lt e d1), if_neg (fun e => d2 (Or.inl e)), h7.2.1.cn.1, ka_bs, h7.2.2, ka_bind2]
  refine gOk.mono (mr_nb h7 (lo := 0) (hi := ω 0 - 1) (by decide) hn) fun q hq => ?_
  obtain ⟨v9, G10⟩ := q
  obtain ⟨f10, e9, h10, g10⟩ := hq
  have e9 : v9 = nbV tb L 0 (ω 0 - 1) (.inl b2) := e9
  have f10 : MK m G7 G10 := f10
  have g10 : gi G10 11 12 m = nI b2 := g10
  have h10 : MR τ G10 m tb L (nbS tb L 0 (ω 0 - 1) (.inl b2)) ω := h10
  have fC := fB.tr f10
  have r3 : rrq3 tb L ω a = nbS tb L 0 (ω 0 - 1) (tkY tb L v3 v6 (.inl b2)) := by unfold rrq3; rw [u1, u2, p2]
  show gOk (if v9 < 0 then some (0, G10) else _) _
  rcases tk_cases (tb := tb) (L := L) (c := ω 0 - 1) (a := b2) (p := v3) (q := v6) with ⟨t1, t2⟩ | ⟨t1, t2, t3⟩ | ⟨t1, t2, t3, t4, b3, t5⟩
  · rw [← e9] at t1
    rw [if_pos t1, bad3 (r3.trans t2)]
    exact ⟨_, rfl, fC, Or.inr ⟨rfl, b2, rfl, ⟨h7.1.1.mk f10, h7.at, g10⟩, h10.2.1⟩⟩
  · rw [← e9] at t1 t2
    have hno : MO τ m tb L G (.inr b2) (rpW tb L ω a) (0, G10) := ⟨fC, Or.inr ⟨rfl, b2, rfl, ⟨h7.1.1.mk f10, h7.at, g10⟩, h10.2.1⟩⟩
    rw [if_neg (fun e => nle_of_lt e t1), bad3 (r3.trans t3)]
    by_cases t31 : v9 = v3
    · rw [if_pos t31]
      exact ⟨_, rfl, hno⟩
    · rw [if_neg t31, if_pos (t2.resolve_left t31)]
      exact ⟨_, rfl, hno⟩
  have u3 : ru3 tb L ω a = v9 := by unfold ru3; rw [u1, u2, p2]; exact t4.trans e9.symm
  have p3 : rrq3 tb L ω a = .inl b3 := r3.trans (t3.trans t5)
  rw [← e9] at t1 t2
  rw [t5] at h10
  obtain ⟨k1, k2, k3, ⟨l1, l2, l3⟩, ⟨n12, n13, n23⟩, w1, w2, w3⟩ := rp_ok hI p3
  have w1' : v3 = nI k1 := u1.symm.trans w1
  have w2' : v6 = nI k2 := u2.symm.trans w2
  have w3' : v9 = nI k3 := u3.symm.trans w3
  obtain ⟨z1, b1', y1⟩ := y_long hI l1
  obtain ⟨z2, b2', y2⟩ := y_long hI l2
  obtain ⟨z3, b3', y3⟩ := y_long hI l3
  have eH : gmin (yv ω k1 1) (gmin (yv ω k2 1) (yv ω k3 1)) = rpH tb L ω a := by
    unfold rpH
    rw [w1, w2, w3, nI_clamp (by omega), nI_clamp (by omega), nI_clamp (by omega), y1, y2, y3, gmin_nI (by omega) (by omega), gmin_nI (by omega) (by omega), gmin_nI (by omega) (by omega), gmin_nI (by omega) (by omega), Nat.min_assoc]
  rw [if_neg (fun e => nle_of_lt e t1), if_neg (fun e => t2 (Or.inl e)), if_neg (fun e => t2 (Or.inr e)), w1', w2', w3', h10.2.1.ofYarn (w := 1) k1 1 rfl rfl (by omega), ka_bs, h10.2.1.ofYarn (w := 1) k2 1 rfl rfl (by omega), ka_bs, h10.2.1.ofYarn (w := 1) k3 1 rfl rfl (by omega), ka_bs, h10.2.2, ka_letE, eH, ka_bind2]
  refine gOk.mono (mr_af h10 wo_long (lo := 1) (hi := rpH tb L ω a) (by decide) hn) fun q hq => ?_
  obtain ⟨v16, G17⟩ := q
  obtain ⟨f17, e16, h17⟩ := hq
  have e16 : v16 = ru5 tb L ω a := by unfold ru5; rw [p3]; exact e16
  have f17 : MK m G10 G17 := f17
  have h17 : MR τ G17 m tb L (rrq5 tb L ω a) ω := by unfold rrq5; rw [p3]; exact h17
  have fD := fC.tr f17
  show gOk (if 0 ≤ v16 then _ else some (0, G17)) _
  cases hr : rrq5 tb L ω a with
  | inr f =>
    rw [hr] at h17
    rw [show v16 = -1 from e16.trans (nb_no hr), if_neg (by decide)]
    exact ⟨_, rfl, fD, Or.inr ⟨rfl, f, rfl, h17.no⟩⟩
  | inl b5 =>
    rw [hr] at h17
    rw [if_pos (by rw [e16]; exact nb_ge (by decide) hr)]
    show gOk ((f_X11_takes τ n m (nI k1) (nI k2) (nI k3) v16 G17).bind fun G18 => some (1, G18)) _
    rw [ka_bind]
    refine gOk.mono (m_takes h17.2.1 h17.2.2 hI hn l1 l2 l3 h8 (v := v16)) fun G18 g18 => ?_
    obtain ⟨o1, o2⟩ := g18
    have om := o2 m (by omega)
    have fE : MK m G17 G18 := ⟨o2.mono fun b hb => Or.inr hb, om.2.1, fun c k _ => om.1 c k, fun j hj => by rw [o1, h17.2.2]; exact layW.xx (by omega) (by omega) (by omega) h8 (by omega) (by omega)⟩
    refine ⟨_, rfl, fD.tr fE, Or.inl ⟨rfl, b5, rfl, ⟨h17.1.1.mk fE, ?_⟩, fE.fm h17.2.1, ?_⟩⟩
    · obtain ⟨p, hp, hp2, hp3⟩ := h17.1.2
      exact ⟨p, hp, by show gi G18 11 10 m = _; rw [om.1]; exact hp2, hp3⟩
    · show ge G18 (m + 1) = _
      unfold rpW
      rw [o1, w1, w2, w3, nI_clamp (by omega), nI_clamp (by omega), nI_clamp (by omega), e16]
end
