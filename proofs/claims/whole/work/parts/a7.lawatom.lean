/-! TEXTS: atoms of the law, in the class -/
section
variable {τ : gτ} {n : Nat} {G G' G'' : gG} {x l' : Nat} {tb : Nat → Nat} {L a b f k D : Nat} {P Q : List (Nat × Int32)} {z s : (Nat × List (Nat × Int32)) ⊕ Nat} {F : Nat → Nat → Int32 → gG → Option gG}
theorem c_cmp (h : LQ τ G x l' tb L s) (hc : cnR s) (hn : 500 < n) : gOk ((f_X2_readSum τ n (x + 4) G).bind fun G18 => (gr G18 2 0 (x + 4)).bind fun a19 => gBind2 (f_X7_takeSign τ n a19 60 G18) fun v20 G21 => if v20 = 0 then ((gr G21 2 0 (x + 4)).bind fun a22 => (f_X7_needSign τ n a22 62 G21).bind fun G23 => k_X2_readAtom_190 τ n F (x + 4) v20 G23) else (k_X2_readAtom_190 τ n F (x + 4) v20 G21)) (fun G' => LM x l' G G' ∧ LQ τ G' x l' tb L (bnd s (cmP tb L))) := by
  rw [ka_bind]
  refine gOk.mono (c_readSum h hc hn) fun G1 g1 => ?_
  obtain ⟨m1, h1⟩ := g1
  rw [h1.ls.1.1, ka_bs]
  have bad : ∀ {f : Nat}, LQ τ G1 x l' tb L (.inr f) → gOk (gBind2 (f_X7_takeSign τ n (x + 1) 60 G1) fun v20 G21 => if v20 = 0 then ((gr G21 2 0 (x + 4)).bind fun a22 => (f_X7_needSign τ n a22 62 G21).bind fun G23 => k_X2_readAtom_190 τ n F (x + 4) v20 G23) else (k_X2_readAtom_190 τ n F (x + 4) v20 G21)) (fun G' => LM x l' G G' ∧ LQ τ G' x l' tb L (.inr f)) := fun {f} hb => by
    rw [ka_b2 (c_tkS0 hb.2.1), if_pos rfl, hb.1.1.1, ka_bs, ka_bind]
    refine gOk.mono (c_needS0 hb) fun G2 g2 => ?_
    refine gOk.mono (c_cmpK (s := .inr f) g2.2 trivial (Or.inl rfl) hn) fun G3 g3 => ?_
    exact ⟨(m1.tr g2.1).tr g3.1, g3.2⟩
  cases s with
  | inr f => exact bad h1
  | inl r =>
    obtain ⟨a, P⟩ := r
    have hc : P.length + 7 ≤ a := hc
    have hle := h.le
    have hsm := smP_ok (tb := tb) (L := L) (a := a) (T := []) (d := 2) hle.1 (Nat.le_refl 2)
    have h1 : LQ τ G1 x l' tb L (apR P (smP tb L a)) := h1
    show gOk _ (fun G' => LM x l' G G' ∧ LQ τ G' x l' tb L (apR P (cmP tb L a)))
    rw [← cmK_e]
    cases hr : smP tb L a with
    | inr f =>
      rw [hr] at h1
      exact bad h1
    | inl r =>
      rw [hr] at h1
      have h1 : LQ τ G1 x l' tb L (.inl (r.1, P ++ r.2)) := h1
      obtain ⟨⟨k1, k2⟩, k3, -, -⟩ := hsm r.1 r.2 hr
      have hl : (P ++ r.2).length = P.length + r.2.length := List.length_append
      rw [ka_bind2]
      refine gOk.mono (c_tkS (sg := 60) h1.2.1 (by decide) hn) fun q hq => ?_
      obtain ⟨v, G2⟩ := q
      obtain ⟨d2, hq⟩ := hq
      have d2 : TE x G1 G2 := d2
      have fin : ∀ {v : Int32} {G3 : gG} {c : Nat}, LM x l' G G3 → LQ τ G3 x l' tb L (.inl (bl tb L (r.1 + 1), P ++ r.2)) → (v = 0 ∨ v = 1) → (if v = 0 then 14 else 13) = c → r.1 < L → (tb r.1 = 60 ∨ tb r.1 = 62) → (if tb r.1 = 60 then 13 else 14) = c → gOk (k_X2_readAtom_190 τ n F (x + 4) v G3) (fun G' => LM x l' G G' ∧ LQ τ G' x l' tb L (apR P (cmK tb L (.inl r)))) := fun {v G3 c} m3 h3 hv hvc hrL ht hcc => by
        have hb := bl_le (tb := tb) (L := L) (p := r.1 + 1) (by omega)
        refine gOk.mono (c_cmpK h3 (by show (P ++ r.2).length + 7 ≤ bl tb L (r.1 + 1); omega) hv hn) fun G4 g4 => ?_
        refine ⟨m3.tr g4.1, ?_⟩
        have h4 := g4.2
        have h4 : LQ τ G4 x l' tb L (apR (P ++ r.2) (match smP tb L (bl tb L (r.1 + 1)) with
          | .inr f => .inr f
          | .inl u => .inl (u.1, u.2 ++ [(if v = 0 then 14 else 13, 0)]))) := h4
        cases hu : smP tb L (bl tb L (r.1 + 1)) with
        | inr f =>
          rw [hu] at h4
          rw [cmK_f ⟨hrL, ht⟩ hu]
          exact h4
        | inl u =>
          rw [hu] at h4
          rw [cmK_i ⟨hrL, ht⟩ hu, hcc]
          have h4 : LQ τ G4 x l' tb L (.inl (u.1, (P ++ r.2) ++ (u.2 ++ [(if v = 0 then 14 else 13, 0)]))) := h4
          rw [hvc, List.append_assoc] at h4
          exact h4
      rcases hq with ⟨w1, e1, j1⟩ | ⟨w1, e1⟩
      · have e1 : v = 1 := e1
        subst e1
        have j1 : TJ τ G2 x tb L (.inl (bl tb L (r.1 + 1))) := j1
        obtain ⟨m2, h2⟩ := h1.mv d2 j1
        show gOk (if (1 : Int32) = 0 then _ else k_X2_readAtom_190 τ n F (x + 4) 1 G2) _
        rw [if_neg ka_n10]
        exact fin (m1.tr m2) h2 (Or.inr rfl) (if_neg ka_n10) w1.1 (Or.inl w1.2) (if_pos w1.2)
      · cases e1
        show gOk (if (0 : Int32) = 0 then ((gr G1 2 0 (x + 4)).bind fun a22 => (f_X7_needSign τ n a22 62 G1).bind fun G23 => k_X2_readAtom_190 τ n F (x + 4) 0 G23) else _) _
        rw [if_pos rfl, h1.1.1.1, ka_bs, ka_bind]
        refine gOk.mono (c_needS (sg := 62) h1 (by omega) (by decide) hn) fun G3 g3 => ?_
        obtain ⟨m3, h3⟩ := g3
        by_cases h62 : r.1 < L ∧ tb r.1 = 62
        · rw [if_pos h62] at h3
          exact fin (m1.tr m3) h3 (Or.inl rfl) (if_pos rfl) h62.1 (Or.inr h62.2) (if_neg (fun e => by omega))
        · rw [if_neg h62] at h3
          rw [cmK_x (r := r) (fun e => e.2.elim (fun e6 => w1 ⟨e.1, e6⟩) (fun e6 => h62 ⟨e.1, e6⟩))]
          refine gOk.mono (c_cmpK (s := .inr r.1) h3 trivial (Or.inl rfl) hn) fun G4 g4 => ?_
          exact ⟨(m1.tr m3).tr g4.1, g4.2⟩
theorem c_refAt {v : Int32} (h : LQ τ G x l' tb L (.inl (a, P))) (hl : P.length ≤ 400) (hf : f ≤ L) (hv : v = nI f) : gOk (f_X7_refuseAt (x + 1) v G) (fun G' => LM x l' G G' ∧ LQ τ G' x l' tb L (.inr f)) := by
  unfold f_X7_refuseAt
  obtain ⟨hT, ha, hA, h2⟩ := h.2.1
  have d : TE x G (gsi G 7 2 (x + 1) v) := TE.put (Or.inl rfl)
  rw [if_pos h2, ka_letE]
  refine ⟨_, rfl, h.no hl d ⟨hT.te d, hf, ?_⟩⟩
  rw [ka_ii, if_pos ⟨rfl, rfl, rfl⟩]
  exact hv
theorem wo_not : wO s_not := wO_of (by decide)
theorem wo_whipped : wO s_whipped := wO_of (by decide)
theorem wo_winter : wO s_winter := wO_of (by decide)
theorem c_atom (h : LQ τ G x l' tb L s) (hc : cnR s) (hn : 500 < n) (hk : D + k = 6)
    (hF1 : 0 < k → ∀ {s : (Nat × List (Nat × Int32)) ⊕ Nat} {G : gG}, LQ τ G x l' tb L s → cnR s → gOk (F 1 (x + 4) (nI (D + 1)) G) (fun G' => LM x l' G G' ∧ LQ τ G' x l' tb L (bnd s (atQ tb L k))))
    (hF0 : 0 < k → ∀ {s : (Nat × List (Nat × Int32)) ⊕ Nat} {G : gG}, LQ τ G x l' tb L s → cnR s → gOk (F 0 (x + 4) (nI (D + 1)) G) (fun G' => LM x l' G G' ∧ LQ τ G' x l' tb L (bnd s (cdP tb L (atQ tb L k))))) :
    gOk (e_X2_readAtom τ n F (x + 4) (nI D) G) (fun G' => LM x l' G G' ∧ LQ τ G' x l' tb L (bnd s (atQ tb L (k + 1)))) := by
  unfold e_X2_readAtom
  rw [h.ls.1.1, ka_bs, ka_letE, ka_bs]
  cases s with
  | inr f =>
    have t0 : ∀ {w : List Int32}, f_X7_takeWord τ n (x + 1) w G = some (0, G) := c_tkW0 h.2.1
    rw [ka_b2 t0, if_pos rfl, h.1.1.1, ka_bs, ka_b2 (c_tkS0 h.2.1), if_pos rfl]
    unfold k_X2_readAtom_39
    rw [if_pos rfl]
    unfold k_X2_readAtom_63
    rw [if_pos rfl, if_pos rfl, h.1.1.1, ka_bs, ka_b2 t0, if_pos rfl, h.1.1.1, ka_bs, ka_b2 t0, if_pos rfl]
    exact c_cmp h trivial hn
  | inl r =>
    obtain ⟨a, P⟩ := r
    have hc : P.length + 7 ≤ a := hc
    have hle := h.le
    have ea : gi G 7 3 (x + 1) = nI a := h.2.1.2.2.1.1
    show gOk _ (fun G' => LM x l' G G' ∧ LQ τ G' x l' tb L (apR P (atQ tb L (k + 1) a)))
    rw [ea, ka_bind2]
    refine gOk.mono (c_tkW h.2.1 wo_not hn) fun q hq => ?_
    obtain ⟨v, G1⟩ := q
    obtain ⟨d1, hq⟩ := hq
    have d1 : TE x G G1 := d1
    unfold atQ
    rcases hq with ⟨w1, e1, j1⟩ | ⟨w1, e1⟩
    · have e1 : v = 1 := e1
      subst e1
      have j1 : TJ τ G1 x tb L (.inl (bl tb L (a + s_not.length))) := j1
      obtain ⟨m1, h1⟩ := h.mv d1 j1
      have h0 : a + 3 ≤ L := wd_le w1 hle.1
      have hb := bl_le (tb := tb) (L := L) (p := a + 3) (by omega)
      show gOk (if (1 : Int32) = 0 then _ else k_X2_readAtom_34 τ n F (x + 4) (nI D) (nI a) 1 G1) _
      rw [if_neg ka_n10, if_pos w1]
      unfold k_X2_readAtom_34 k_X2_readAtom_39
      rw [if_neg ka_n10]
      by_cases hk0 : k = 0
      · rw [if_neg (show ¬ nI D < (6 : Int32) from nI_nlt (b := 6) (by omega) (by omega)), h1.1.1.1, ka_bs, ka_bind, if_pos hk0]
        refine gOk.mono (c_refAt h1 (by omega) hle.1 rfl) fun G2 g2 => ?_
        exact ⟨_, rfl, m1.tr g2.1, g2.2⟩
      · rw [if_pos (show nI D < (6 : Int32) from nI_lt (b := 6) (by omega) (by decide)), if_neg hk0]
        unfold k_X2_readAtom_63
        rw [if_neg ka_n10, nI_1, ka_bind]
        refine gOk.mono (hF1 (by omega) (s := .inl (bl tb L (a + 3), P)) h1 (by show P.length + 7 ≤ bl tb L (a + 3); omega)) fun G2 g2 => ?_
        obtain ⟨m2, h2⟩ := g2
        have h2 : LQ τ G2 x l' tb L (apR P (atQ tb L k (bl tb L (a + 3)))) := h2
        rw [h2.ls.1.2, ka_bs, ka_bind]
        have hat := atQ_ok (tb := tb) (L := L) (k := k) (a := bl tb L (a + 3)) (T := []) (d := 2 * k + 1) hb.2 (by show 0 + (2 * k + 1) ≤ 2 * k + 1; omega)
        rw [show s_not.length = 3 from rfl]
        cases hr : atQ tb L k (bl tb L (a + 3)) with
        | inr f =>
          rw [hr] at h2
          refine gOk.mono (c_emit0 h2) fun G3 g3 => ?_
          exact ⟨_, rfl, (m1.tr m2).tr g3.1, g3.2⟩
        | inl u =>
          rw [hr] at h2
          obtain ⟨⟨k1, k2⟩, k3, -, -⟩ := hat u.1 u.2 hr
          have h2 : LQ τ G2 x l' tb L (.inl (u.1, P ++ u.2)) := h2
          refine gOk.mono (c_emit (s := (15, 0)) h2 (by rw [List.length_append]; omega)) fun G3 g3 => ?_
          refine ⟨_, rfl, (m1.tr m2).tr g3.1, ?_⟩
          have := g3.2
          rw [List.append_assoc] at this
          exact this
    · cases e1
      rw [if_neg w1]
      show gOk (if (0 : Int32) = 0 then ((gr G 2 0 (x + 4)).bind fun a7 => gBind2 (f_X7_takeSign τ n a7 40 G) fun v8 G9 => if v8 = 0 then k_X2_readAtom_39 τ n F (x + 4) (nI D) (nI a) 0 0 G9 else k_X2_readAtom_34 τ n F (x + 4) (nI D) (nI a) 0 G9) else _) _
      rw [if_pos rfl, h.1.1.1, ka_bs, ka_bind2]
      refine gOk.mono (c_tkS (sg := 40) h.2.1 (by decide) hn) fun q hq => ?_
      obtain ⟨v, G1⟩ := q
      obtain ⟨d1, hq⟩ := hq
      have d1 : TE x G G1 := d1
      rcases hq with ⟨w2, e1, j1⟩ | ⟨w2, e1⟩
      · have e1 : v = 1 := e1
        subst e1
        have j1 : TJ τ G1 x tb L (.inl (bl tb L (a + 1))) := j1
        obtain ⟨m1, h1⟩ := h.mv d1 j1
        have hb := bl_le (tb := tb) (L := L) (p := a + 1) (by omega)
        show gOk (if (1 : Int32) = 0 then _ else k_X2_readAtom_34 τ n F (x + 4) (nI D) (nI a) 0 G1) _
        rw [if_neg ka_n10, if_pos w2]
        unfold k_X2_readAtom_34 k_X2_readAtom_39
        rw [if_neg ka_n10]
        by_cases hk0 : k = 0
        · rw [if_neg (show ¬ nI D < (6 : Int32) from nI_nlt (b := 6) (by omega) (by omega)), h1.1.1.1, ka_bs, ka_bind, if_pos hk0]
          refine gOk.mono (c_refAt h1 (by omega) hle.1 rfl) fun G2 g2 => ?_
          exact ⟨_, rfl, m1.tr g2.1, g2.2⟩
        · rw [if_pos (show nI D < (6 : Int32) from nI_lt (b := 6) (by omega) (by decide)), if_neg hk0]
          unfold k_X2_readAtom_63
          rw [if_pos rfl, if_neg ka_n10, nI_1, ka_bind]
          refine gOk.mono (hF0 (by omega) (s := .inl (bl tb L (a + 1), P)) h1 (by show P.length + 7 ≤ bl tb L (a + 1); omega)) fun G2 g2 => ?_
          obtain ⟨m2, h2⟩ := g2
          have h2 : LQ τ G2 x l' tb L (apR P (cdP tb L (atQ tb L k) (bl tb L (a + 1)))) := h2
          rw [h2.ls.1.1, ka_bs, ka_bind]
          have hcd := cdP_ok (tb := tb) (L := L) (d := 2 * k + 3) (e := 2 * k + 1) (A := atQ tb L k) (a := bl tb L (a + 1)) (T := []) (fun a T h h' => atQ_ok h h') (by omega) hb.2 (by show 0 + (2 * k + 1 + 2) ≤ 2 * k + 3; omega)
          cases hr : cdP tb L (atQ tb L k) (bl tb L (a + 1)) with
          | inr f =>
            rw [hr] at h2
            refine gOk.mono (c_needS0 h2) fun G3 g3 => ?_
            exact ⟨_, rfl, (m1.tr m2).tr g3.1, g3.2⟩
          | inl u =>
            rw [hr] at h2
            obtain ⟨⟨k1, k2⟩, k3, -, -⟩ := hcd u.1 u.2 hr
            have h2 : LQ τ G2 x l' tb L (.inl (u.1, P ++ u.2)) := h2
            refine gOk.mono (c_needS (sg := 41) h2 (by rw [List.length_append]; omega) (by decide) hn) fun G3 g3 => ?_
            refine ⟨_, rfl, (m1.tr m2).tr g3.1, ?_⟩
            show LQ τ G3 x l' tb L (apR P (if u.1 < L ∧ tb u.1 = 41 then .inl (bl tb L (u.1 + 1), u.2) else .inr u.1))
            by_cases h41 : u.1 < L ∧ tb u.1 = 41
            · have := g3.2
              rw [if_pos h41] at this ⊢
              exact this
            · have := g3.2
              rw [if_neg h41] at this ⊢
              exact this
      · cases e1
        rw [if_neg w2]
        show gOk (if (0 : Int32) = 0 then k_X2_readAtom_39 τ n F (x + 4) (nI D) (nI a) 0 0 G else _) _
        rw [if_pos rfl]
        unfold k_X2_readAtom_39
        rw [if_pos rfl]
        unfold k_X2_readAtom_63
        rw [if_pos rfl, if_pos rfl, h.1.1.1, ka_bs, ka_bind2]
        refine gOk.mono (c_tkW h.2.1 wo_whipped hn) fun q hq => ?_
        obtain ⟨v, G1⟩ := q
        obtain ⟨d1, hq⟩ := hq
        have d1 : TE x G G1 := d1
        rcases hq with ⟨w3, e1, j1⟩ | ⟨w3, e1⟩
        · have e1 : v = 1 := e1
          subst e1
          have j1 : TJ τ G1 x tb L (.inl (bl tb L (a + s_whipped.length))) := j1
          obtain ⟨m1, h1⟩ := h.mv d1 j1
          show gOk (if (1 : Int32) = 0 then _ else ((gr G1 2 1 (x + 4)).bind fun a29 => (f_X1_emit τ a29 1009 G1).bind fun G30 => some G30)) _
          rw [if_neg ka_n10, if_pos w3, h1.1.1.2, ka_bs, ka_bind]
          refine gOk.mono (c_emit (s := (9, 0)) h1 (by omega)) fun G2 g2 => ?_
          exact ⟨_, rfl, m1.tr g2.1, g2.2⟩
        · cases e1
          rw [if_neg w3]
          show gOk (if (0 : Int32) = 0 then ((gr G 2 0 (x + 4)).bind fun a14 => gBind2 (f_X7_takeWord τ n a14 s_winter G) fun v16 G17 => _) else _) _
          rw [if_pos rfl, h.1.1.1, ka_bs, ka_bind2]
          refine gOk.mono (c_tkW h.2.1 wo_winter hn) fun q hq => ?_
          obtain ⟨v, G1⟩ := q
          obtain ⟨d1, hq⟩ := hq
          have d1 : TE x G G1 := d1
          rcases hq with ⟨w4, e1, j1⟩ | ⟨w4, e1⟩
          · have e1 : v = 1 := e1
            subst e1
            have j1 : TJ τ G1 x tb L (.inl (bl tb L (a + s_winter.length))) := j1
            obtain ⟨m1, h1⟩ := h.mv d1 j1
            show gOk (if (1 : Int32) = 0 then _ else ((gr G1 2 1 (x + 4)).bind fun a29 => (f_X1_emit τ a29 1010 G1).bind fun G30 => some G30)) _
            rw [if_neg ka_n10, if_pos w4, h1.1.1.2, ka_bs, ka_bind]
            refine gOk.mono (c_emit (s := (10, 0)) h1 (by omega)) fun G2 g2 => ?_
            exact ⟨_, rfl, m1.tr g2.1, g2.2⟩
          · cases e1
            rw [if_neg w4]
            show gOk (if (0 : Int32) = 0 then _ else _) _
            rw [if_pos rfl]
            exact c_cmp h hc hn
end
