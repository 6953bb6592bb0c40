/-! TEXTS: all lines of the walk -/
section
variable {tb : Nat → Nat} {L a b f k : Nat} {ω : gW}
def rdN (tb : Nat → Nat) (L : Nat) (r : Nat ⊕ Nat) (ω1 : gW) (g : Nat → (Nat ⊕ Nat) × gW) : (Nat ⊕ Nat) × gW := match r with
  | .inr e => (.inr e, ω1)
  | .inl b => if b = L then (.inl b, ω1) else if tb b = 59 then g b else (.inr b, ω1)
def rdA (tb : Nat → Nat) (L : Nat) : Nat → gW → Nat → (Nat ⊕ Nat) × gW
  | 0, ω, a => (.inr a, ω)
  | k + 1, ω, a => rdN tb L (lnR tb L ω a).1 (lnR tb L ω a).2 fun b => rdA tb L k (lnR tb L ω a).2 (bl tb L (b + 1))
theorem rdA_f {e : Nat} (h : (lnR tb L ω a).1 = .inr e) : rdA tb L (k + 1) ω a = (.inr e, (lnR tb L ω a).2) := by
  show rdN tb L (lnR tb L ω a).1 _ _ = _
  rw [h]
  rfl
theorem rdA_e (h : (lnR tb L ω a).1 = .inl L) : rdA tb L (k + 1) ω a = (.inl L, (lnR tb L ω a).2) := by
  show rdN tb L (lnR tb L ω a).1 _ _ = _
  rw [h]
  exact if_pos rfl
theorem rdA_n (h : (lnR tb L ω a).1 = .inl b) (h1 : b ≠ L) (h2 : tb b = 59) : rdA tb L (k + 1) ω a = rdA tb L k (lnR tb L ω a).2 (bl tb L (b + 1)) := by
  show rdN tb L (lnR tb L ω a).1 _ _ = _
  rw [h]
  show (if b = L then _ else if tb b = 59 then _ else _) = _
  rw [if_neg h1, if_pos h2]
theorem rdA_x (h : (lnR tb L ω a).1 = .inl b) (h1 : b ≠ L) (h2 : tb b ≠ 59) : rdA tb L (k + 1) ω a = (.inr b, (lnR tb L ω a).2) := by
  show rdN tb L (lnR tb L ω a).1 _ _ = _
  rw [h]
  show (if b = L then _ else if tb b = 59 then _ else _) = _
  rw [if_neg h1, if_neg h2]
theorem rdA_nw : ∀ {k : Nat} {ω : gW} {a : Nat}, WI ω → (rdA tb L k ω a).1 = .inl b → NW ω (rdA tb L k ω a).2
  | 0, ω, a, hI, h => by cases h
  | k + 1, ω, a, hI, h => by
    cases hr : (lnR tb L ω a).1 with
    | inr e => rw [rdA_f hr] at h; cases h
    | inl c =>
      have hn := ln_nw hI hr
      by_cases h1 : c = L
      · subst h1
        rw [rdA_e hr]
        exact hn
      · by_cases h2 : tb c = 59
        · rw [rdA_n hr h1 h2] at h ⊢
          exact hn.tr (rdA_nw hn.1 h)
        · rw [rdA_x hr h1 h2] at h; cases h
/-- a text of the walk: where its fault is, or the world that it makes -/
def rdW (tb : Nat → Nat) (L : Nat) (ω : gW) : (Nat ⊕ Nat) × gW := if bl tb L 0 = L then (.inl L, ω) else rdA tb L 14 ω (bl tb L 0)
theorem rdW_nw (hI : WI ω) (h : (rdW tb L ω).1 = .inl b) : NW ω (rdW tb L ω).2 := by
  unfold rdW at h ⊢
  by_cases h1 : bl tb L 0 = L
  · rw [if_pos h1]; exact NW.rf hI
  · rw [if_neg h1] at h ⊢; exact rdA_nw hI h
def isL : Nat ⊕ Nat → Int32
  | .inl _ => 1
  | .inr _ => 0
end
section
variable {τ : gτ} {n : Nat} {G G' G'' : gG} {x t : Nat} {tb : Nat → Nat} {L a b f : Nat} {r r' : Nat ⊕ Nat} {ω ω' : gW}
theorem RO.te (h : RO τ G G' x t tb L r ω) (hI : ∀ b, r = .inl b → WI ω) (hd : TE x G' G'') (hJ : TJ τ G'' x tb L r') (hr : ∀ b, r' = .inl b → ∃ b', r = .inl b') : RO τ G G'' x t tb L r' ω := by
  obtain ⟨h1, h2, h3, h4⟩ := h
  have ht := h2.2.2
  refine ⟨h1.tr (CF.te hd), h2.cf (CF.te hd) (hd.fr.fs h2.2.1 fun b h1 h2 h3 => by omega), hJ, fun b hb => ?_⟩
  obtain ⟨b', e⟩ := hr b hb
  exact hd.fr.vs (hI b' e) (h4 b' e) fun b h1 h2 h3 => by omega
theorem TJ.le (h : TJ τ G x tb L (.inl a)) : a ≤ L := h.2.1
theorem c_lines (h : RR τ G x t tb L (.inl a) ω) (hI : WI ω) (hn : 500 < n) : gOk (l_X8_read_30 τ n (x + 3) 1 0 G) (fun q => (q.1 = 0 ∧ RO τ G q.2 x t tb L (rdA tb L 14 ω a).1 (rdA tb L 14 ω a).2) ∨ (¬ q.1 = 0 ∧ ∃ e, (rdA tb L 14 ω a).1 = .inr e ∧ CF x t G q.2 ∧ RS τ q.2 x t ∧ TJ τ q.2 x tb L (.inl e))) := by
  unfold l_X8_read_30
  refine ka_loop 14 (fun c q => (q.1 = 1 ∧ q.2.1 = nI c ∧ ∃ a' ω', CF x t G q.2.2 ∧ RR τ q.2.2 x t tb L (.inl a') ω' ∧ WI ω' ∧ rdA tb L (14 - c) ω' a' = rdA tb L 14 ω a) ∨ (q.1 = 0 ∧ q.2.1 = nI c ∧ RO τ G q.2.2 x t tb L (rdA tb L 14 ω a).1 (rdA tb L 14 ω a).2)) (by omega) (Or.inl ⟨rfl, rfl, a, ω, CF.rf, h, hI, rfl⟩) (fun c q hc hq => ?_)
  obtain ⟨x2, x3, G1⟩ := q
  show gOk (b_X8_read_30 τ n (x + 3) x2 x3 G1) _
  unfold b_X8_read_30
  by_cases h14 : c = 14
  · subst h14
    rcases hq with ⟨e1, e2, a', ω', f1, h1, i1, er⟩ | ⟨e1, e2, h1⟩
    · have e1 : x2 = 1 := e1
      have e2 : x3 = nI 14 := e2
      have f1 : CF x t G G1 := f1
      have h1 : RR τ G1 x t tb L (.inl a') ω' := h1
      subst e1
      subst e2
      rw [if_pos (show (14 : Int32) ≤ nI 14 from nI_le (Nat.le_refl 14) (by decide))]
      refine ⟨_, rfl, Or.inr ⟨ka_n10, a', ?_, f1, h1.1, h1.2.1⟩⟩
      rw [← er]
      rfl
    · have e1 : x2 = 0 := e1
      have e2 : x3 = nI 14 := e2
      subst e1
      subst e2
      rw [if_pos (show (14 : Int32) ≤ nI 14 from nI_le (Nat.le_refl 14) (by decide))]
      exact ⟨_, rfl, Or.inl ⟨rfl, h1⟩⟩
  · rcases hq with ⟨e1, e2, a', ω', f1, h1, i1, er⟩ | ⟨e1, e2, h1⟩
    · have e1 : x2 = 1 := e1
      have e2 : x3 = nI c := e2
      have f1 : CF x t G G1 := f1
      have h1 : RR τ G1 x t tb L (.inl a') ω' := h1
      subst e1
      subst e2
      rw [if_neg (show ¬ (14 : Int32) ≤ nI c from nI_ge (b := 14) (by omega) (by decide)), if_neg ka_n10, ka_bind]
      refine gOk.mono (c_readLine h1 i1 hn) fun G6 h6 => ?_
      have h6' := h6.pre f1
      rw [h6.2.1.1.1, ka_bs, ka_bind2]
      refine gOk.mono (c_lineEnd h6.2.2.1 hn) fun q hq => ?_
      obtain ⟨v8, G9⟩ := q
      obtain ⟨d9, e8, j9⟩ := hq
      have e8 : v8 = enV tb L (lnR tb L ω' a').1 := e8
      have d9 : TE x G6 G9 := d9
      have j9 : TJ τ G9 x tb L (enS tb L (lnR tb L ω' a').1) := j9
      rw [ka_letE, nI_1]
      have ek : 14 - c = (14 - (c + 1)) + 1 := by omega
      rw [ek] at er
      have hW : ∀ b, (lnR tb L ω' a').1 = .inl b → WI (lnR tb L ω' a').2 := fun b hb => (ln_nw i1 hb).1
      refine ⟨_, rfl, by omega, ?_⟩
      show (v8 = 1 ∧ nI (c + 1) = nI (c + 1) ∧ ∃ a' ω', CF x t G G9 ∧ RR τ G9 x t tb L (.inl a') ω' ∧ WI ω' ∧ rdA tb L (14 - (c + 1)) ω' a' = rdA tb L 14 ω a) ∨ (v8 = 0 ∧ nI (c + 1) = nI (c + 1) ∧ RO τ G G9 x t tb L (rdA tb L 14 ω a).1 (rdA tb L 14 ω a).2)
      cases hr : (lnR tb L ω' a').1 with
      | inr e =>
        rw [rdA_f hr] at er
        rw [hr] at e8 j9
        right
        rw [← er]
        rw [hr] at h6'
        exact ⟨e8, rfl, h6'.te (fun b hb => by cases hb) d9 j9 (fun b hb => by cases hb)⟩
      | inl b =>
        rw [hr] at e8 j9
        rw [enV_i] at e8
        rw [enS_i] at j9
        have hb := hW b hr
        have h6v := h6'.2.2.2 b hr
        by_cases hbL : b = L
        · subst hbL
          rw [if_pos rfl] at e8 j9
          rw [rdA_e hr] at er
          right
          rw [← er]
          exact ⟨e8, rfl, h6'.te hW d9 j9 (fun _ _ => ⟨b, hr⟩)⟩
        · rw [if_neg hbL] at e8 j9
          by_cases h59 : tb b = 59
          · rw [if_pos h59] at e8 j9
            rw [rdA_n hr hbL h59] at er
            left
            have hro := h6'.te hW d9 j9 (fun _ _ => ⟨b, hr⟩)
            exact ⟨e8, rfl, _, _, hro.1, ⟨hro.2.1, hro.2.2.1, hro.2.2.2 _ rfl⟩, hb, er⟩
          · rw [if_neg h59] at e8 j9
            rw [rdA_x hr hbL h59] at er
            right
            rw [← er]
            exact ⟨e8, rfl, h6'.te hW d9 j9 (fun b hb => by cases hb)⟩
    · have e1 : x2 = 0 := e1
      have e2 : x3 = nI c := e2
      subst e1
      subst e2
      rw [if_neg (show ¬ (14 : Int32) ≤ nI c from nI_ge (b := 14) (by omega) (by decide)), if_pos rfl]
      exact ⟨_, rfl, Or.inl ⟨rfl, h1⟩⟩
theorem c_k69 (h : RO τ G G' x t tb L r ω) : gOk (k_X8_read_69 τ n (x + 3) G') (fun q => q.1 = isL r ∧ RO τ G q.2 x t tb L r ω) := by
  unfold k_X8_read_69
  rw [h.2.1.1.1, ka_bs]
  cases r with
  | inl a =>
    rw [c_rt1 h.2.2.1, ka_bs, ka_chkT (Or.inr rfl)]
    exact ⟨_, rfl, rfl, h⟩
  | inr f =>
    rw [c_rt0 h.2.2.1, ka_bs, ka_chkT (Or.inl rfl)]
    exact ⟨_, rfl, rfl, h⟩
theorem c_read (hT : TB τ G x tb L) (h80 : gr G 8 0 (x + 3) = some (x + 1)) (hF : FS τ G t) (hV : VS G t ω) (hI : WI ω) (hx : x + 434 ≤ t) (hn : 500 < n) : gOk (f_X8_read τ n (x + 3) t G) (fun q => q.1 = isL (rdW tb L ω).1 ∧ ∃ G1, G1 = gsr G 8 1 (x + 3) (some t) ∧ RO τ G1 q.2 x t tb L (rdW tb L ω).1 (rdW tb L ω).2) := by
  unfold f_X8_read
  rw [ka_letE]
  have r8 : gr (gsr G 8 1 (x + 3) (some t)) 8 0 (x + 3) = some (x + 1) := by rw [ka_rr, if_neg (fun h => absurd h.2.1 (by decide))]; exact h80
  have r81 : gr (gsr G 8 1 (x + 3) (some t)) 8 1 (x + 3) = some t := by rw [ka_rr, if_pos ⟨rfl, rfl, rfl⟩]
  have fr1 : Fr (fun b => b = x + 3) G (gsr G 8 1 (x + 3) (some t)) := Fr.r rfl
  generalize hG1 : gsr G 8 1 (x + 3) (some t) = G1 at r8 r81 fr1
  have hT1 : TB τ G1 x tb L := hT.mv fr1 (by omega) (by omega)
  have hF1 : FS τ G1 t := fr1.fs hF fun b c1 c2 => by omega
  have hV1 : VS G1 t ω := fr1.vs hI hV fun b c1 c2 => by omega
  rw [r8, ka_bs, ka_bind]
  refine gOk.mono (c_begin hT1 hn) fun G3 g3 => ?_
  obtain ⟨d3, j3⟩ := g3
  have hRS1 : RS τ G1 x t := ⟨⟨r8, r81⟩, hF1, hx⟩
  have h3 : RR τ G3 x t tb L (.inl (bl tb L 0)) ω := ⟨hRS1.cf (CF.te d3) (d3.fr.fs hF1 fun b h1 h2 h3 => by omega), j3, d3.fr.vs hI hV1 fun b h1 h2 h3 => by omega⟩
  have f3 : CF x t G1 G3 := CF.te d3
  have hL := hT.2.1.1
  have hb := j3.le
  rw [h3.1.1.1, ka_bs]
  unfold f_X7_isAtEnd
  rw [j3.2.2.1.1, j3.1.2.1.2]
  unfold rdW
  by_cases h0 : bl tb L 0 = L
  · rw [if_neg (show ¬ nI (bl tb L 0) < nI L from nI_nlt (by omega) (by omega)), ka_bs, if_neg ka_n10]
    unfold k_X8_read_27
    have hl : gOk (l_X8_read_30 τ n (x + 3) 0 0 G3) (fun q => q = (0, G3)) := by
      unfold l_X8_read_30
      refine ka_loop 0 (fun c q => q = (0, 0, G3)) (by omega) rfl (fun c q hc hq => ?_)
      subst hq
      show gOk (b_X8_read_30 τ n (x + 3) 0 0 G3) _
      unfold b_X8_read_30
      rw [if_neg (by decide), if_pos rfl]
      exact ⟨_, rfl, rfl⟩
    rw [ka_bind]
    refine gOk.mono hl fun q hq => ?_
    subst hq
    rw [ka_letE, ka_letE]
    unfold k_X8_read_58
    rw [if_pos rfl]
    rw [h0] at h3
    refine gOk.mono (c_k69 (RO.of f3 h3)) fun q hq => ?_
    simp only [if_pos h0]
    exact ⟨hq.1, G1, rfl, hq.2⟩
  · rw [if_pos (nI_lt (show bl tb L 0 < L by omega) (by omega)), ka_bs, if_pos rfl]
    unfold k_X8_read_27
    rw [ka_bind]
    refine gOk.mono (c_lines h3 hI hn) fun q hq => ?_
    obtain ⟨z, G12⟩ := q
    rw [ka_letE, ka_letE]
    simp only [if_neg h0]
    show gOk (k_X8_read_58 τ n (x + 3) z G12) _
    unfold k_X8_read_58
    rcases hq with ⟨e1, h1⟩ | ⟨e1, e, er, f1, s1, j1⟩
    · have e1 : z = 0 := e1
      rw [if_pos e1]
      refine gOk.mono (c_k69 (RO.pre f3 h1)) fun q hq => ?_
      exact ⟨hq.1, G1, rfl, hq.2⟩
    · have e1 : ¬ z = 0 := e1
      have s1 : RS τ G12 x t := s1
      have j1 : TJ τ G12 x tb L (.inl e) := j1
      have f1 : CF x t G3 G12 := f1
      rw [if_neg e1, s1.1.1, ka_bs, ka_bind]
      refine gOk.mono (c_refuse j1) fun G16 g16 => ?_
      have ht := s1.2.2
      have hro : RO τ G1 G16 x t tb L (rdA tb L 14 ω (bl tb L 0)).1 (rdA tb L 14 ω (bl tb L 0)).2 := by
        rw [er]
        exact ⟨(f3.tr f1).tr (CF.te g16.1), s1.cf (CF.te g16.1) (g16.1.fr.fs s1.2.1 fun b h1 h2 h3 => by omega), g16.2, fun b hb => by cases hb⟩
      refine gOk.mono (c_k69 hro) fun q hq => ?_
      exact ⟨hq.1, G1, rfl, hq.2⟩
end
section
variable {τ : gτ} {n : Nat} {G G' G'' : gG} {m : Nat} {tb : Nat → Nat} {L a b f : Nat} {r r' : Nat ⊕ Nat} {ω ω' : gW}
theorem m_lines (h : MR τ G m tb L (.inl a) ω) (hI : WI ω) (hn : 500 < n) : gOk (l_X11_readAll_28 τ n m 1 0 G) (fun q => (∃ G', (q = .inl G' ∨ q = .inr (.inr G')) ∧ MK m G G' ∧ FM τ G' m ∧ ∃ f, (rdA tb L 14 ω a).1 = .inr f ∧ MJ τ G' m tb L (.inr f)) ∨ (∃ z G', q = .inr (.inl (nI z, G')) ∧ z < 14 ∧ MK m G G' ∧ ∃ b, (rdA tb L 14 ω a).1 = .inl b ∧ MR τ G' m tb L (.inl b) (rdA tb L 14 ω a).2)) := by
  unfold l_X11_readAll_28
  refine ka_loop 14 (fun c q => q.1 = nI c ∧ MK m G q.2 ∧ ∃ a' ω', MR τ q.2 m tb L (.inl a') ω' ∧ WI ω' ∧ rdA tb L (14 - c) ω' a' = rdA tb L 14 ω a) (by omega) ⟨rfl, MK.rf, a, ω, h, hI, rfl⟩ (fun c q hc hq => ?_)
  obtain ⟨x2, G1⟩ := q
  obtain ⟨e1, f1, a', ω', h1, i1, er⟩ := hq
  have e1 : x2 = nI c := e1
  have f1 : MK m G G1 := f1
  have h1 : MR τ G1 m tb L (.inl a') ω' := h1
  subst e1
  show gOk (b_X11_readAll_28 τ n m 1 (nI c) G1) _
  unfold b_X11_readAll_28
  by_cases h14 : c = 14
  · subst h14
    rw [ka_bind2]
    refine gOk.mono (m_readLineO h1 hn) fun q hq => ?_
    obtain ⟨v4, G5⟩ := q
    obtain ⟨d5, ⟨-, b, e, -⟩ | ⟨e4, f, ef, j5, m5⟩⟩ := hq
    · cases e
    · have e4 : v4 = 0 := e4
      subst e4
      have d5 : MK m G1 G5 := d5
      rw [if_pos rfl]
      refine ⟨_, rfl, Or.inl ⟨G5, Or.inl rfl, f1.tr d5, m5, f, ?_, j5⟩⟩
      rw [← er, ← ef]
      rfl
  · have ek : 14 - c = (14 - (c + 1)) + 1 := by omega
    rw [ek] at er
    rw [ka_bind2]
    refine gOk.mono (m_readLine h1 i1 (show c < 14 by omega) hn) fun q hq => ?_
    obtain ⟨v4, G5⟩ := q
    obtain ⟨d5, ⟨e4, b, eb, h5⟩ | ⟨e4, f, ef, j5, m5⟩⟩ := hq
    · have e4 : v4 = 1 := e4
      subst e4
      have d5 : MK m G1 G5 := d5
      have h5 : MR τ G5 m tb L (.inl b) (lnR tb L ω' a').2 := h5
      have hW := (ln_nw i1 eb).1
      rw [if_neg ka_n10]
      show gOk ((f_X11_blanks τ n m G5).bind _) _
      obtain ⟨p, hp, h10, hbp⟩ := h5.1.2
      rw [ka_bind]
      refine gOk.mono (m_blanks h5.1.1 hn h10 hp) fun G6 g6 => ?_
      obtain ⟨d6, e10, e12⟩ := g6
      rw [hbp] at e10 e12
      have hB6 := h5.1.1.tm d6
      have hM6 := (MK.tm d6).fm h5.2.1
      have fA := (f1.tr d5).tr (MK.tm d6)
      have hbL := h5.at
      have hL := hB6.2.1.1
      rw [e10, hB6.2.1.2]
      by_cases hb : b = L
      · subst hb
        rw [rdA_e eb] at er
        rw [if_pos rfl]
        refine ⟨_, rfl, Or.inr ⟨c, G6, rfl, by omega, fA, b, ?_, ?_⟩⟩
        · rw [← er]
        · rw [← er]
          exact ⟨⟨hB6, b, Nat.le_refl _, e10, by unfold bl; exact rn_no (by omega)⟩, hM6, by rw [d6.2.1]; exact h5.2.2⟩
      · rw [if_neg (fun e => hb ((nI_eq (by omega) (by omega)).mp e)), m_isAt hB6 (lo := 59) (hi := 59) (u := 59) (v := 59) rfl rfl (by decide) e10 hbL, ka_bs]
        by_cases h59 : tb b = 59
        · rw [if_pos (show b < L ∧ 59 ≤ tb b ∧ tb b ≤ 59 by omega), if_neg ka_n10, nI_1, ka_letE, nI_1, ka_letE]
          rw [rdA_n eb hb h59] at er
          have d7 : TM m G6 (gsi G6 11 10 m (nI (b + 1))) := TM.put (Or.inl rfl)
          refine ⟨_, rfl, by omega, rfl, fA.tr (MK.tm d7), _, _, ⟨⟨hB6.tm d7, b + 1, by omega, ?_, rfl⟩, (MK.tm d7).fm hM6, ?_⟩, hW, er⟩
          · show gi (gsi G6 11 10 m _) 11 10 m = _
            rw [ka_ii, if_pos ⟨rfl, rfl, rfl⟩]
          · show ge G6 (m + 1) = _
            rw [d6.2.1]
            exact h5.2.2
        · rw [if_neg (show ¬ (b < L ∧ 59 ≤ tb b ∧ tb b ≤ 59) by omega), if_pos rfl]
          rw [rdA_x eb hb h59] at er
          refine ⟨_, rfl, Or.inl ⟨G6, Or.inr rfl, fA, hM6, b, ?_, hB6, hbL, e12⟩⟩
          rw [← er]
    · have e4 : v4 = 0 := e4
      subst e4
      have d5 : MK m G1 G5 := d5
      rw [if_pos rfl]
      rw [rdA_f ef] at er
      refine ⟨_, rfl, Or.inl ⟨G5, Or.inl rfl, f1.tr d5, m5, f, ?_, j5⟩⟩
      rw [← er]
end
