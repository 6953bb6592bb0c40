/-! TEXTS: an atom of the law, in the reference -/
section
variable {τ : gτ} {n : Nat} {G G' G'' : gG} {m : Nat} {tb : Nat → Nat} {L a b f k D D' : Nat} {P Q : List (Nat × Int32)} {z s : (Nat × List (Nat × Int32)) ⊕ Nat} {F : Nat → Nat → gG → Option (Int32 × gG)} {w : List Int32}
theorem NO.pre {q : Int32 × gG} (hf : NK m G G') (h : NO τ m tb L D G' z q) : NO τ m tb L D G z q := ⟨hf.tr h.1, h.2⟩
theorem m_cmp (h : NQ τ G m tb L D (.inl (a, P))) (hc : P.length + 7 ≤ a) (hn : 500 < n) : gOk (gBind2 (f_X11_readSum τ n m G) fun v8 G9 => if v8 = 0 then some (0, G9) else (gBind2 (f_X11_sign τ n m 60 G9) fun v10 G11 => if v10 = 0 then (gBind2 (f_X11_sign τ n m 62 G11) fun v12 G13 => if v12 = 0 then some (0, G13) else k_X11_readAtom_152 τ n F m v10 G13) else k_X11_readAtom_152 τ n F m v10 G11)) (NO τ m tb L D G (apR P (cmP tb L a))) := by
  have hle := h.at
  have hsm := smP_ok (tb := tb) (L := L) (a := a) (T := []) (d := 2) hle.1 (Nat.le_refl 2)
  rw [ka_bind2, ← cmK_e]
  refine gOk.mono (m_readSum h hc hn) fun q hq => ?_
  obtain ⟨v8, G9⟩ := q
  obtain ⟨m9, h9, e9⟩ := hq
  have m9 : NK m G G9 := m9
  have h9 : NQ τ G9 m tb L D (apR P (smP tb L a)) := h9
  have e9 : v8 = isL (plR (apR P (smP tb L a))) := e9
  cases hr : smP tb L a with
  | inr f =>
    rw [hr] at h9 e9
    rw [if_pos (show v8 = 0 from e9)]
    exact ⟨_, rfl, m9, h9, rfl⟩
  | inl r =>
    rw [hr] at h9 e9
    have h9 : NQ τ G9 m tb L D (.inl (r.1, P ++ r.2)) := h9
    obtain ⟨⟨k1, k2⟩, k3, -, -⟩ := hsm r.1 r.2 hr
    have hl : (P ++ r.2).length = P.length + r.2.length := List.length_append
    have fin : ∀ {v : Int32} {G3 : gG} {c : Nat}, NK m G G3 → NQ τ G3 m tb L D (.inl (bl tb L (r.1 + 1), P ++ r.2)) → (if v = 0 then 14 else 13) = c → r.1 < L → (tb r.1 = 60 ∨ tb r.1 = 62) → (if tb r.1 = 60 then 13 else 14) = c → gOk (k_X11_readAtom_152 τ n F m v G3) (NO τ m tb L D G (apR P (cmK tb L (.inl r)))) := fun {v G3 c} m3 h3 hvc hrL ht hcc => by
      have hb := bl_le (tb := tb) (L := L) (p := r.1 + 1) (by omega)
      refine gOk.mono (m_cmpK (v := v) h3 (by omega) hn) fun q hq => ?_
      obtain ⟨n4, h4, e4⟩ := hq
      cases hu : smP tb L (bl tb L (r.1 + 1)) with
      | inr f =>
        rw [hu] at h4 e4
        rw [cmK_f ⟨hrL, ht⟩ hu]
        exact ⟨m3.tr n4, h4, e4⟩
      | inl u =>
        rw [hu] at h4 e4
        rw [cmK_i ⟨hrL, ht⟩ hu, hcc]
        have h4 : NQ τ q.2 m tb L D (.inl (u.1, (P ++ r.2) ++ (u.2 ++ [(if v = 0 then 14 else 13, 0)]))) := h4
        rw [hvc, List.append_assoc] at h4
        exact ⟨m3.tr n4, h4, e4⟩
    rw [if_neg (by rw [show v8 = 1 from e9]; exact ka_n10)]
    show gOk (gBind2 (f_X11_sign τ n m 60 G9) _) _
    rw [ka_bind2]
    refine gOk.mono (m_sign (sg := 60) (u := 60) h9 (by decide) rfl hn) fun q hq => ?_
    obtain ⟨v10, G11⟩ := q
    obtain ⟨⟨m11, -⟩, hq⟩ := hq
    have m11 : NK m G9 G11 := m11
    rcases hq with ⟨w1, e1, h2⟩ | ⟨w1, e1, h2⟩
    · have e1 : v10 = 1 := e1
      subst e1
      rw [if_neg ka_n10]
      exact fin (m9.tr m11) h2 (if_neg ka_n10) w1.1 (Or.inl w1.2) (if_pos w1.2)
    · have e1 : v10 = 0 := e1
      subst e1
      have h2 : NQ τ G11 m tb L D (.inl (r.1, P ++ r.2)) := h2
      rw [if_pos rfl]
      show gOk (gBind2 (f_X11_sign τ n m 62 G11) _) _
      rw [ka_bind2]
      refine gOk.mono (m_sign (sg := 62) (u := 62) h2 (by decide) rfl hn) fun q hq => ?_
      obtain ⟨v12, G13⟩ := q
      obtain ⟨⟨m13, b13, f13, e13⟩, hq⟩ := hq
      have m13 : NK m G11 G13 := m13
      rcases hq with ⟨w2, e1, h3⟩ | ⟨w2, e1, h3⟩
      · have e1 : v12 = 1 := e1
        subst e1
        rw [if_neg ka_n10]
        exact fin ((m9.tr m11).tr m13) h3 (if_pos rfl) w2.1 (Or.inr w2.2) (if_neg (fun e => by have := w2.2; omega))
      · have e1 : v12 = 0 := e1
        subst e1
        rw [if_pos rfl, cmK_x (r := r) (fun e => e.2.elim (fun e6 => w1 ⟨e.1, e6⟩) (fun e6 => w2 ⟨e.1, e6⟩))]
        exact ⟨_, rfl, (m9.tr m11).tr m13, ⟨⟨b13, k2, e13⟩, f13⟩, rfl⟩
theorem m_atom (h : NQ τ G m tb L D (.inl (a, P))) (hc : P.length + 7 ≤ a) (hn : 500 < n) (hk : D + k = 6)
    (hF2 : 0 < k → ∀ {a : Nat} {P : List (Nat × Int32)} {G : gG}, NQ τ G m tb L (D + 1) (.inl (a, P)) → P.length + 7 ≤ a → gOk (F 2 m G) (NO τ m tb L (D + 1) G (apR P (atQ tb L k a))))
    (hF0 : 0 < k → ∀ {a : Nat} {P : List (Nat × Int32)} {G : gG}, NQ τ G m tb L (D + 1) (.inl (a, P)) → P.length + 7 ≤ a → gOk (F 0 m G) (NO τ m tb L (D + 1) G (apR P (cdP tb L (atQ tb L k) a)))) :
    gOk (e_X11_readAtom τ n F m G) (NO τ m tb L D G (apR P (atQ tb L (k + 1) a))) := by
  have hle := h.at
  have d6 : ∀ {G : gG} {a : Nat} {P : List (Nat × Int32)}, NQ τ G m tb L D (.inl (a, P)) → (gi G 11 13 m = (6 : Int32) ↔ k = 0) := fun {G a P} h => by
    rw [h.2.2.1]
    have : nI D = (6 : Int32) ↔ D = 6 := nI_eq (b := 6) (by omega) (by decide)
    rw [this]
    omega
  unfold e_X11_readAtom
  rw [ka_bind2]
  refine gOk.mono (m_sign (sg := 40) (u := 40) h (by decide) rfl hn) fun q hq => ?_
  obtain ⟨v1, G2⟩ := q
  obtain ⟨⟨m2, b2, f2, e2⟩, hq⟩ := hq
  have m2 : NK m G G2 := m2
  have b2 : MB τ G2 m tb L := b2
  have f2 : FM τ G2 m := f2
  have e2 : gi G2 11 12 m = nI a := e2
  unfold atQ
  rcases hq with ⟨w1, e1, h2⟩ | ⟨w1, e1, h2⟩
  · have e1 : v1 = 1 := e1
    subst e1
    have h2 : NQ τ G2 m tb L D (.inl (bl tb L (a + 1), P)) := h2
    have hno : ¬ wd tb L s_not a = true := fun e => by have := wd_let e wo_not; omega
    have hb := bl_le (tb := tb) (L := L) (p := a + 1) (by omega)
    rw [if_neg hno, if_pos w1, if_neg ka_n10]
    show gOk (if gi G2 11 13 m = 6 then some (0, G2) else _) _
    by_cases hk0 : k = 0
    · rw [if_pos ((d6 h2).mpr hk0), if_pos hk0]
      exact ⟨_, rfl, m2, ⟨⟨b2, hle.1, e2⟩, f2⟩, rfl⟩
    · rw [if_neg (fun e => hk0 ((d6 h2).mp e)), if_neg hk0]
      have e13 : gi G2 11 13 m + 1 = nI (D + 1) := by rw [h2.2.2.1, nI_1]
      rw [e13, ka_letE]
      obtain ⟨m3, h3⟩ := NQ.dep (D' := D + 1) h2
      rw [ka_bind2]
      refine gOk.mono (hF0 (by omega) h3 (by omega)) fun q hq => ?_
      obtain ⟨v23, G24⟩ := q
      obtain ⟨m4, h4, e4⟩ := hq
      have m4 : NK m (gsi G2 11 13 m (nI (D + 1))) G24 := m4
      have h4 : NQ τ G24 m tb L (D + 1) (apR P (cdP tb L (atQ tb L k) (bl tb L (a + 1)))) := h4
      have e4 : v23 = isL (plR (apR P (cdP tb L (atQ tb L k) (bl tb L (a + 1))))) := e4
      show gOk (if v23 = 0 then some (0, G24) else _) _
      cases hr : cdP tb L (atQ tb L k) (bl tb L (a + 1)) with
      | inr f =>
        rw [hr] at h4 e4
        rw [if_pos (show v23 = 0 from e4)]
        exact ⟨_, rfl, (m2.tr m3).tr m4, h4, rfl⟩
      | inl u =>
        rw [hr] at h4 e4
        have h4 : NQ τ G24 m tb L (D + 1) (.inl (u.1, P ++ u.2)) := h4
        have e14 : gi G24 11 13 m - 1 = nI D := by rw [h4.2.2.1, nI_pred]
        rw [if_neg (by rw [show v23 = 1 from e4]; exact ka_n10), e14, ka_letE]
        obtain ⟨m5, h5⟩ := NQ.dep (D' := D) h4
        rw [ka_bind2]
        refine gOk.mono (m_sign (sg := 41) (u := 41) h5 (by decide) rfl hn) fun q hq => ?_
        obtain ⟨v26, G27⟩ := q
        obtain ⟨⟨m6, b6, f6, e6⟩, hq⟩ := hq
        have m6 : NK m (gsi G24 11 13 m (nI D)) G27 := m6
        have mA := ((((m2.tr m3).tr m4).tr m5).tr m6)
        show gOk (gchk (v26 = 0 ∨ v26 = 1) (some (v26, G27))) (NO τ m tb L D G (apR P (if u.1 < L ∧ tb u.1 = 41 then .inl (bl tb L (u.1 + 1), u.2) else .inr u.1)))
        rcases hq with ⟨w2, e7, h7⟩ | ⟨w2, e7, h7⟩
        · have e7 : v26 = 1 := e7
          subst e7
          rw [if_pos w2]
          exact ⟨_, ka_chkT (Or.inr rfl), mA, h7, rfl⟩
        · have e7 : v26 = 0 := e7
          subst e7
          rw [if_neg w2]
          exact ⟨_, ka_chkT (Or.inl rfl), mA, ⟨⟨b6, h4.at.1, e6⟩, f6⟩, rfl⟩
  · have e1 : v1 = 0 := e1
    subst e1
    have h2 : NQ τ G2 m tb L D (.inl (a, P)) := h2
    rw [if_pos rfl]
    show gOk (gBind2 (f_X11_passes τ n m s_not G2) _) _
    rw [ka_bind2]
    refine gOk.mono (m_passes h2 wo_not hn) fun q hq => ?_
    obtain ⟨v4, G5⟩ := q
    obtain ⟨⟨m5, b5, f5, e5⟩, hq⟩ := hq
    have m5 : NK m G2 G5 := m5
    have b5 : MB τ G5 m tb L := b5
    have f5 : FM τ G5 m := f5
    have e5 : gi G5 11 12 m = nI a := e5
    rcases hq with ⟨w2, e4, h5⟩ | ⟨w2, e4, h5⟩
    · have e4 : v4 = 1 := e4
      subst e4
      have h5 : NQ τ G5 m tb L D (.inl (bl tb L (a + 3), P)) := h5
      have h03 : a + 3 ≤ L := wd_le w2 hle.1
      have hb := bl_le (tb := tb) (L := L) (p := a + 3) (by omega)
      rw [if_pos w2, if_neg ka_n10, show s_not.length = 3 from rfl]
      show gOk (if gi G5 11 13 m = 6 then some (0, G5) else _) _
      by_cases hk0 : k = 0
      · rw [if_pos ((d6 h5).mpr hk0), if_pos hk0]
        exact ⟨_, rfl, m2.tr m5, ⟨⟨b5, hle.1, e5⟩, f5⟩, rfl⟩
      · rw [if_neg (fun e => hk0 ((d6 h5).mp e)), if_neg hk0]
        have e13 : gi G5 11 13 m + 1 = nI (D + 1) := by rw [h5.2.2.1, nI_1]
        rw [e13, ka_letE]
        obtain ⟨m3, h3⟩ := NQ.dep (D' := D + 1) h5
        rw [ka_bind2]
        refine gOk.mono (hF2 (by omega) h3 (by omega)) fun q hq => ?_
        obtain ⟨v18, G19⟩ := q
        obtain ⟨m4, h4, e4⟩ := hq
        have m4 : NK m (gsi G5 11 13 m (nI (D + 1))) G19 := m4
        have h4 : NQ τ G19 m tb L (D + 1) (apR P (atQ tb L k (bl tb L (a + 3)))) := h4
        have e4 : v18 = isL (plR (apR P (atQ tb L k (bl tb L (a + 3))))) := e4
        have hat := atQ_ad (tb := tb) (L := L) (k := k) (bl tb L (a + 3))
        show gOk (if v18 = 0 then some (0, G19) else _) _
        cases hr : atQ tb L k (bl tb L (a + 3)) with
        | inr f =>
          rw [hr] at h4 e4
          rw [if_pos (show v18 = 0 from e4)]
          exact ⟨_, rfl, ((m2.tr m5).tr m3).tr m4, h4, rfl⟩
        | inl u =>
          rw [hr] at h4 e4
          obtain ⟨⟨k1, k2⟩, k3⟩ := hat u.1 u.2 hb.2 hr
          have h4 : NQ τ G19 m tb L (D + 1) (.inl (u.1, P ++ u.2)) := h4
          have e14 : gi G19 11 13 m - 1 = nI D := by rw [h4.2.2.1, nI_pred]
          rw [if_neg (by rw [show v18 = 1 from e4]; exact ka_n10), e14, ka_letE]
          obtain ⟨m6, h6⟩ := NQ.dep (D' := D) h4
          rw [ka_bind]
          refine gOk.mono (m_emits (s := (15, 0)) h6 (by rw [List.length_append]; omega)) fun G7 g7 => ?_
          refine ⟨_, rfl, ((((m2.tr m5).tr m3).tr m4).tr m6).tr g7.1, ?_, rfl⟩
          have := g7.2
          rw [List.append_assoc] at this
          exact this
    · have e4 : v4 = 0 := e4
      subst e4
      have h5 : NQ τ G5 m tb L D (.inl (a, P)) := h5
      rw [if_neg w2, if_neg w1, if_pos rfl]
      show gOk (gBind2 (f_X11_readTag τ n m G5) _) _
      rw [ka_bind2]
      refine gOk.mono (m_tag h5 (by omega) hn) fun q hq => ?_
      obtain ⟨v6, G7⟩ := q
      obtain ⟨m7, hq⟩ := hq
      have m7 : NK m G5 G7 := m7
      have mA := (m2.tr m5).tr m7
      rcases hq with ⟨w3, e6, h7⟩ | ⟨w3, w4, e6, h7⟩ | ⟨w3, w4, e6, h7⟩
      · have e6 : v6 = 1 := e6
        subst e6
        rw [if_neg ka_n10, if_pos w3]
        exact ⟨_, rfl, mA, h7, rfl⟩
      · have e6 : v6 = 1 := e6
        subst e6
        rw [if_neg ka_n10, if_neg w3, if_pos w4]
        exact ⟨_, rfl, mA, h7, rfl⟩
      · have e6 : v6 = 0 := e6
        subst e6
        rw [if_pos rfl, if_neg w3, if_neg w4]
        refine gOk.mono (m_cmp (F := F) h7 hc hn) fun q hq => ?_
        exact hq.pre mA
end
