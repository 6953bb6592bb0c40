/-! CALLS: law, in the class -/
section
variable {τ : gτ} {n : Nat} {G G' : gG} {x m s t l l' o : Nat} {ω ω' : gW} {im : Option gW} {me : List gW} {ta : List Nat} {fa fa' : Int32} {Λ : List lwL} {P : List (Nat × Int32)}
/-- a text has been read into the spare Law -/
theorem CV.lread (h : CV τ G x s t l l' ω im me ta fa) (hI : IV ω im me ta) (hf : Fr (fun b => b = x + 1 ∨ b = x + 4 ∨ (l' ≤ b ∧ b ≤ l' + 4)) G G') (hr : ∀ c k d, ¬ (c = 2 ∧ k = 1) → gr G' c k d = gr G c k d) (h71 : gi G' 7 1 (x + 1) = 0) (hfa : gi G' 7 2 (x + 1) = fa') : CV τ G' x s t l l' ω im me [] fa' := by
  have hsl := h.sl
  obtain ⟨hX, hV, hLV, ⟨i1, i2⟩, ⟨nx, m1, m2, m3, m4⟩, -, -⟩ := h
  obtain ⟨hI, hL, hIm, ⟨hm1, hm2⟩, -⟩ := hI
  obtain ⟨h1, ⟨h2a, h2b, h2c, h2d⟩, h3, h4, ⟨f1, f2, f3, f4⟩, ⟨g1, g2, g3⟩, h7, h8⟩ := hX
  have fl : ∀ {a : Nat}, FL τ G a → FL τ G' a := fun {a} h => by
    unfold FL at h ⊢
    rw [hr 1 0 a (by decide), hr 1 1 a (by decide), hr 1 2 a (by decide), hr 1 3 a (by decide), hr 1 4 a (by decide), hr 1 5 a (by decide)]
    exact h
  refine ⟨⟨?_, ⟨?_, ?_, ?_, ?_⟩, h3, fun k hk => ?_, ⟨?_, ?_, ?_, fun k hk => ?_⟩, ⟨fl g1, fl g2, fl g3⟩, h7, h8⟩, hf.vs hI hV fun b c1 c2 => by omega, hf.lv hLV fun b c1 c2 => by omega, ⟨?_, fun w h' => ?_⟩, ⟨nx, m1, ?_, ?_, fun j w hj => ?_⟩, ⟨h71, fun j b hj => by cases hj⟩, hfa⟩
  · simp only [(hf x (by omega)).2.1]; exact h1
  · rw [hr _ _ _ (by decide)]; exact h2a
  · rw [hr _ _ _ (by decide)]; exact h2b
  · rw [hr _ _ _ (by decide)]; exact h2c
  · rw [hr _ _ _ (by decide)]; exact h2d
  · rw [(hf (x + 6) (by omega)).2.2.2.1]; exact h4 k hk
  · exact hf.fs f1 fun b c1 c2 => by omega
  · exact hf.fs f2 fun b c1 c2 => by omega
  · exact hf.fs f3 fun b c1 c2 => by omega
  · exact hf.fs (f4 k hk) fun b c1 c2 => by omega
  · rw [(hf x (by omega)).1]; exact i1
  · obtain ⟨a, b⟩ := i2 w h'
    exact ⟨hf.vs (hIm w h').1 a fun b c1 c2 => by omega, hf.lv b fun b c1 c2 => by omega⟩
  · rw [(hf (x + 5) (by omega)).1]; exact m2
  · rw [(hf (x + 5) (by omega)).1]; exact m3
  · exact hf.vs (hm2 j w hj).1 (m4 j w hj) fun b c1 c2 => by omega
/-- the world under a law that was told -/
def lwI (ω : gW) (Λ : List lwL) (P : List (Nat × Int32)) (w : gW) : Prop := LWd w Λ P ∧ ∀ j, j < 467 → j ≠ 4 → w j = ω j
theorem CV.lswap (h : CV τ G x s t l l' ω im me [] fa) (hI : IV ω im me ta) (hLv : LV G l' ω') (hw : ∀ j, j < 467 → j ≠ 4 → ω' j = ω j) : CV τ (gsi (gsr (gsr G 10 12 x (some l')) 10 13 x (some l)) 3 1 (x + 5) 0) x s t l' l ω' im [] [] fa := by
  have hsl := h.sl
  obtain ⟨hX, hV, hLV, ⟨i1, i2⟩, ⟨nx, m1, m2, m3, m4⟩, ⟨t1, t2⟩, t3⟩ := h
  obtain ⟨hI, hL, hIm, ⟨hm1, hm2⟩, -⟩ := hI
  obtain ⟨h1, ⟨h2a, h2b, h2c, h2d⟩, h3, h4', ⟨f1, f2, f3, f4⟩, ⟨g1, g2, g3⟩, h7, h8⟩ := hX
  have hr : ∀ c k d, c ≠ 10 → gr (gsi (gsr (gsr G 10 12 x (some l')) 10 13 x (some l)) 3 1 (x + 5) 0) c k d = gr G c k d := fun c k d hc => by
    show gr (gsr (gsr G 10 12 x (some l')) 10 13 x (some l)) c k d = _
    rw [ka_rr, if_neg (fun e => hc e.1), ka_rr, if_neg (fun e => hc e.1)]
  have hq : ∀ d, gq (gsi (gsr (gsr G 10 12 x (some l')) 10 13 x (some l)) 3 1 (x + 5) 0) d = gq G d := fun _ => rfl
  have hx : ∀ k, gr (gsi (gsr (gsr G 10 12 x (some l')) 10 13 x (some l)) 3 1 (x + 5) 0) 10 k x = if k = 13 then some l else if k = 12 then some l' else gr G 10 k x := fun k => by
    show gr (gsr (gsr G 10 12 x (some l')) 10 13 x (some l)) 10 k x = _
    rw [ka_rr, ka_rr]
    by_cases e1 : k = 13
    · rw [if_pos ⟨rfl, e1, rfl⟩, if_pos e1]
    · rw [if_neg (fun e => e1 e.2.1), if_neg e1]
      by_cases e2 : k = 12
      · rw [if_pos ⟨rfl, e2, rfl⟩, if_pos e2]
      · rw [if_neg (fun e => e2 e.2.1), if_neg e2]
  have hf : Fr (fun b => b = x ∨ b = x + 5) G (gsi (gsr (gsr G 10 12 x (some l')) 10 13 x (some l)) 3 1 (x + 5) 0) := ((Fr.r (A := fun b => b = x ∨ b = x + 5) (Or.inl rfl)).tr (Fr.r (A := fun b => b = x ∨ b = x + 5) (Or.inl rfl))).tr (Fr.i (A := fun b => b = x ∨ b = x + 5) (Or.inr rfl))
  have p31 : gi (gsi (gsr (gsr G 10 12 x (some l')) 10 13 x (some l)) 3 1 (x + 5) 0) 3 1 (x + 5) = nI 0 := by
    rw [ka_ii, if_pos ⟨rfl, rfl, rfl⟩]
    rfl
  have p32 : gi (gsi (gsr (gsr G 10 12 x (some l')) 10 13 x (some l)) 3 1 (x + 5) 0) 3 2 (x + 5) = nI nx := by
    rw [ka_ii, if_neg (fun h => absurd h.2.1 (by decide))]
    exact m3
  have px : gi (gsi (gsr (gsr G 10 12 x (some l')) 10 13 x (some l)) 3 1 (x + 5) 0) 10 14 x = isS im := by
    rw [ka_ii, if_neg (fun h => absurd h.1 (by decide))]
    exact i1
  generalize gsi (gsr (gsr G 10 12 x (some l')) 10 13 x (some l)) 3 1 (x + 5) 0 = G8 at hr hq hx hf p31 p32 px
  refine ⟨⟨?_, ⟨?_, ?_, ?_, ?_⟩, h3, fun k hk => ?_, ⟨?_, ?_, ?_, fun k hk => ?_⟩, ⟨?_, ?_, ?_⟩, h7, by omega⟩, vs_4 hw hI (hf.vs hI hV fun b c1 c2 => by omega), hf.lv hLv fun b c1 c2 => by omega, ⟨px, fun w h' => ?_⟩, ⟨nx, m1, p31, p32, fun j w hj => by cases hj⟩, ⟨?_, fun j b hj => by cases hj⟩, ?_⟩
  · obtain ⟨a0, a1, a2, a3, a4, a5, a6, a7, a8, a9, a10, a11, a12, a13⟩ := h1
    rw [hx, hx, hx, hx, hx, hx, hx, hx, hx, hx, hx, hx, hx, hx]
    exact ⟨a0, a1, a2, a3, a4, a5, a6, a7, a8, a9, a10, a11, rfl, rfl⟩
  · rw [hr _ _ _ (by decide)]; exact h2a
  · rw [hr _ _ _ (by decide)]; exact h2b
  · rw [hr _ _ _ (by decide)]; exact h2c
  · rw [hr _ _ _ (by decide)]; exact h2d
  · rw [hq]; exact h4' k hk
  · exact f1.gg hr hq
  · exact f2.gg hr hq
  · exact f3.gg hr hq
  · exact (f4 k hk).gg hr hq
  · exact g1.gg hr
  · exact g2.gg hr
  · exact g3.gg hr
  · obtain ⟨a, b⟩ := i2 w h'
    exact ⟨hf.vs (hIm w h').1 a fun b c1 c2 => by omega, hf.lv b fun b c1 c2 => by omega⟩
  · rw [(hf (x + 1) (by omega)).1]; exact t1
  · rw [(hf (x + 1) (by omega)).1]; exact t3
theorem c_law (hC : CV τ G x s t l l' ω im me ta fa) (hI : IV ω im me ta) (hn : 500 < n) : gOk (f_X10_law τ n x G) (fun q => Fr (fun b => x ≤ b ∧ b ≤ x + 511) G q.2 ∧ ((∃ f, laW (tbT ta) ta.length = .inr f ∧ q.1 = .inl x_IAE ∧ CV τ q.2 x s t l l' ω im me [] (nI f)) ∨ ∃ Λ P, laW (tbT ta) ta.length = .inl (Λ, P) ∧ q.1 = .inr (nI Λ.length) ∧ ∀ w, lwI ω Λ P w → CV τ q.2 x s t l' l w im [] [] (-1))) := by
  have hsl := hC.sl
  have hL := hI.2.2.2.2.1
  have hrf := hC.rf
  have hX2 := hC.1.2.1
  unfold f_X10_law
  rw [hrf.2.2.1, ka_bs, hrf.2.2.2.2.2.2.2.2.2.2.2.2.2, ka_bs, ka_bind2]
  have hT : TB τ G x (tbT ta) ta.length := ⟨⟨hX2.1, hC.1.2.2.1.1⟩, ⟨hL, hC.2.2.2.2.2.1.1⟩, fun j hj => ⟨hC.2.2.2.2.2.1.2 j _ (tbT_get hj), tbT_lt hI hj⟩⟩
  refine gOk.mono (c_lread hT hX2.2.2.1 hC.fl.2 (by omega) hn) fun q hq => ?_
  obtain ⟨v3, G4⟩ := q
  obtain ⟨⟨f4, r4⟩, w4, e3, z4⟩ := hq
  have f4 : Fr (fun b => b = x + 1 ∨ b = x + 4 ∨ (l' ≤ b ∧ b ≤ l' + 4)) G G4 := f4
  have r4 : ∀ c k d, ¬ (c = 2 ∧ k = 1) → gr G4 c k d = gr G c k d := r4
  have w4 : gi G4 1 8 l' = 1 := w4
  have e3 : v3 = isE (laW (tbT ta) ta.length) := e3
  have z4 : LEz τ G4 x l' (tbT ta) ta.length (laW (tbT ta) ta.length) := z4
  show gOk ((gr G4 10 0 x).bind fun a5 => gLet (gsi G4 7 1 a5 0) fun G6 => if v3 = 0 then some ((.inl x_IAE : String ⊕ Int32), G6) else _) _
  rw [r4 10 0 x (by decide), hrf.1, ka_bs, ka_letE]
  have f6 : Fr (fun b => b = x + 1) G4 (gsi G4 7 1 (x + 1) 0) := Fr.i rfl
  have r6 : ∀ c k d, ¬ (c = 2 ∧ k = 1) → gr (gsi G4 7 1 (x + 1) 0) c k d = gr G c k d := r4
  have hC6 : ∀ {fa' : Int32}, gi G4 7 2 (x + 1) = fa' → CV τ (gsi G4 7 1 (x + 1) 0) x s t l l' ω im me [] fa' := fun {fa'} hfa => by
    refine hC.lread hI (f4.tr (f6.mono fun b hb => Or.inl hb)) r6 (by rw [ka_ii, if_pos ⟨rfl, rfl, rfl⟩]) ?_
    rw [ka_ii, if_neg (fun h => absurd h.2.1 (by decide))]
    exact hfa
  have hF6 : Fr (fun b => x ≤ b ∧ b ≤ x + 511) G (gsi G4 7 1 (x + 1) 0) := (f4.mono fun b hb => by omega).tr (f6.mono fun b hb => by omega)
  cases hr : laW (tbT ta) ta.length with
  | inr f =>
    rw [hr] at e3 z4
    have e3 : v3 = 0 := e3
    have z4 : LQ τ G4 x l' (tbT ta) ta.length (.inr f) := z4
    rw [if_pos e3]
    exact ⟨_, rfl, hF6, Or.inl ⟨f, rfl, rfl, hC6 z4.2.1.2.2⟩⟩
  | inl w =>
    obtain ⟨Λ, P⟩ := w
    obtain ⟨hW, hP, hΛ⟩ := laW_ok hr
    rw [hr] at e3 z4
    have e3 : v3 = 1 := e3
    obtain ⟨z4, y4⟩ := z4
    have z4 : LQ τ G4 x l' (tbT ta) ta.length (.inl (ta.length, P)) := z4
    have y4 : LRw G4 l' Λ := y4
    have hC6 := hC6 z4.2.1.2.2.2
    have lv6 : ∀ w, LWd w Λ P → LV (gsi G4 7 1 (x + 1) 0) l' w := fun w hw => f6.lv (hw.lv hW (by omega) hΛ w4 y4 z4.2.2) fun b c1 c2 => by omega
    have y6 : gi (gsi G4 7 1 (x + 1) 0) 1 6 l' = nI Λ.length := by
      rw [(f6 l' (by omega)).1]
      exact y4.1
    rw [if_neg (by rw [e3]; exact ka_n10)]
    generalize gsi G4 7 1 (x + 1) 0 = G6 at f6 hC6 hF6 lv6 y6
    have hrf6 := hC6.rf
    show gOk ((gr G6 10 12 x).bind fun a7 => (gr G6 10 13 x).bind fun a8 => gLet (gsr G6 10 12 x (some a8)) fun G9 => gLet (gsr G9 10 13 x (some a7)) fun G10 => (gr G10 10 3 x).bind fun a11 => (f_X3_forget a11 G10).bind fun G12 => (gr G12 10 12 x).bind fun a13 => some ((.inr (gi G12 1 6 a13) : String ⊕ Int32), G12)) _
    rw [hrf6.2.2.2.2.2.2.2.2.2.2.2.2.1, ka_bs, hrf6.2.2.2.2.2.2.2.2.2.2.2.2.2, ka_bs, ka_letE, ka_letE]
    have e103 : gr (gsr (gsr G6 10 12 x (some l')) 10 13 x (some l)) 10 3 x = some (x + 5) := by
      rw [ka_rr, if_neg (fun h => absurd h.2.1 (by decide)), ka_rr, if_neg (fun h => absurd h.2.1 (by decide))]
      exact hrf6.2.2.2.1
    rw [e103, ka_bs]
    unfold f_X3_forget
    rw [ka_letE, ka_bs]
    have e12 : gr (gsi (gsr (gsr G6 10 12 x (some l')) 10 13 x (some l)) 3 1 (x + 5) 0) 10 12 x = some l' := by
      show gr (gsr (gsr G6 10 12 x (some l')) 10 13 x (some l)) 10 12 x = _
      rw [ka_rr, if_neg (fun h => absurd h.2.1 (by decide)), ka_rr, if_pos ⟨rfl, rfl, rfl⟩]
    have e16 : gi (gsi (gsr (gsr G6 10 12 x (some l')) 10 13 x (some l)) 3 1 (x + 5) 0) 1 6 l' = nI Λ.length := by
      rw [ka_ii, if_neg (fun h => absurd h.1 (by decide))]
      exact y6
    have fS : Fr (fun b => x ≤ b ∧ b ≤ x + 511) G6 (gsi (gsr (gsr G6 10 12 x (some l')) 10 13 x (some l)) 3 1 (x + 5) 0) := ((Fr.r (A := fun b => x ≤ b ∧ b ≤ x + 511) (by omega)).tr (Fr.r (A := fun b => x ≤ b ∧ b ≤ x + 511) (by omega))).tr (Fr.i (A := fun b => x ≤ b ∧ b ≤ x + 511) (by omega))
    rw [e12, ka_bs, e16]
    exact ⟨_, rfl, hF6.tr fS, Or.inr ⟨Λ, P, rfl, rfl, fun w hw => hC6.lswap hI (lv6 w hw.1) hw.2⟩⟩
end
