/-! ONE CALL on both sides -/
/-- what the law asks of one call's two answers -/
def Th (L : List String) (ans : String ⊕ Int32) (r th : Int32) : Prop := match ans with
  | .inl e => gCode L e 1 = some th
  | .inr v => th = 0 ∧ r = v
/-- class and reference share a state -/
def ST (τ : gτ) (x m : Nat) (G : gG) : Prop := ∃ s t l l' ω im me ta fa, CV τ G x s t l l' ω im me ta fa ∧ MV τ G m ω im me ta fa ∧ IV ω im me ta
section
variable {τ : gτ} {n : Nat} {G : gG} {x m s t l l' o : Nat} {ω : gW} {im : Option gW} {me : List gW} {ta : List Nat} {fa : Int32}
/-- a class's question writes its scratch alone -/
def QC (τ : gτ) (x t : Nat) (G G' : gG) : Prop := Fr (scC x t) G G' ∧ (FS τ G t → FS τ G' t)
theorem QC.rf : QC τ x t G G := ⟨Fr.rf, fun h => h⟩
theorem QC.tr {G' G'' : gG} (h : QC τ x t G G') (h' : QC τ x t G' G'') : QC τ x t G G'' := ⟨h.1.tr h'.1, fun f => h'.2 (h.2 f)⟩
theorem QC.cv {G' : gG} (hq : QC τ x t G G') (h : CV τ G x s t l l' ω im me ta fa) (hI : IV ω im me ta) : CV τ G' x s t l l' ω im me ta fa := h.q hI hq.1 (hq.2 h.fs.2)
theorem QC.scr {G' : gG} (h : CV τ G x s t l l' ω im me ta fa) (hf : Fr (scr l) G G') : QC τ x t G G' := by
  have := h.sl
  refine ⟨hf.mono fun b hb => ?_, fun f => hf.fs f fun b h1 h2 => ?_⟩
  · unfold scC
    show _ ∨ _
    have hb : b = l + 5 ∨ b = l + 6 := hb
    omega
  · show ¬ (b = l + 5 ∨ b = l + 6)
    omega
theorem gTry_ok {α : Type} {q : Option ((String ⊕ α) × gG)} {L : List String} {k : α → gG → Option (Int32 × gG)} {K : Int32 × gG → Prop} (h : gOk q (fun q => match q.1 with
    | .inl e => ∃ c, gCode L e 1 = some c ∧ K (c, q.2)
    | .inr v => gOk (k v q.2) K)) : gOk (gTry q L k) K := by
  obtain ⟨⟨a, G1⟩, h1, h2⟩ := h
  subst h1
  cases a with
  | inl e =>
    obtain ⟨c, h3, h4⟩ := h2
    refine ⟨(c, G1), ?_, h4⟩
    show (gCode L e 1).map _ = _
    rw [h3]; rfl
  | inr v => exact h2
theorem gCode_ne {e : String} {c : Int32} : ∀ (L : List String) (k : Nat), gCode L e (nI k) = some c → ∃ j, j < L.length ∧ c = nI (k + j) := by
  intro L
  induction L with
  | nil => intro k h; cases h
  | cons y L ih =>
    intro k h
    have h : (if e = y then some (nI k) else gCode L e (nI k + 1)) = some c := h
    by_cases hey : e = y
    · rw [if_pos hey] at h
      cases h
      exact ⟨0, Nat.succ_pos _, rfl⟩
    · rw [if_neg hey, nI_1] at h
      obtain ⟨j, hj, e⟩ := ih (k + 1) h
      exact ⟨j + 1, Nat.succ_lt_succ hj, by rw [e]; congr 1; omega⟩
theorem ST.mk0 {G1 G2 G3 : gG} {s1 t1 l1 l1' : Nat} {ω1 ω2 : gW} {im1 : Option gW} {me1 : List gW} {ta1 : List Nat} {fa1 : Int32} (hm : m = x + 512) (hI1 : IV ω1 im1 me1 ta1) (e3 : CV τ G1 x s1 t1 l1 l1' ω1 im1 me1 ta1 fa1) (hf : Fr (fun b => b = m + 11) G1 G2) (p2 : WE ω1 ω2) (p3 : MV τ G3 m ω2 im1 me1 ta1 fa1) (p4 : Fr (fun b => m ≤ b ∧ b ≤ m + 10) G2 G3) : ST τ x m G3 := by
  subst hm
  exact ⟨s1, t1, l1, l1', ω2, im1, me1, ta1, fa1, ((e3.out hI1 hf fun b h1 h2 => by omega).out hI1 p4 fun b h1 h2 => by omega).we hI1 p2, p3, hI1.we p2⟩
/-- the join of a call that may throw: Kx is what an answer lays into the long row -/
theorem join_x {α : Type} {fc : Option ((String ⊕ Int32) × gG)} {fm : gG → Option (Int32 × gG)} {L : List String} {ans : String ⊕ Int32} {s1 t1 l1 l1' : Nat} {ω1 : gW} {im1 : Option gW} {me1 : List gW} {ta1 : List Nat} {fa1 : Int32} {Kx : Int32 → Int64} (hm : m = x + 512) (ho : o = m + 11) (hτ : gn τ o = 1) (hL : L.length ≤ 5) (hM : MV τ G m ω im me ta fa) (hI1 : IV ω1 im1 me1 ta1)
    (h1 : gOk fc (fun q => q.1 = ans ∧ CV τ q.2 x s1 t1 l1 l1' ω1 im1 me1 ta1 fa1 ∧ Fr (fun b => x ≤ b ∧ b ≤ x + 511) G q.2))
    (h2 : ∀ G1, MV τ G1 m ω im me ta fa → gOk (fm G1) (fun p => Th L ans p.1 (gi p.2 11 0 m) ∧ (∃ ω2, WE ω1 ω2 ∧ MV τ p.2 m ω2 im1 me1 ta1 fa1) ∧ Fr (fun b => m ≤ b ∧ b ≤ m + 10) G1 p.2)) :
    gOk (gTry fc L fun v G => gchk (gIn 0 (gn τ o)) <| some (0, gsl G o 0 (Kx v))) (fun q => gOk (fm q.2) (fun p => q.1 = gi p.2 11 0 m ∧ (q.1 = 0 → gl p.2 o 0 = Kx p.1) ∧ ST τ x m p.2)) := by
  obtain ⟨⟨a, G1⟩, e1, e2, e3, e4⟩ := h1
  have e2 : a = ans := e2
  subst e2
  refine gTry_ok ⟨(a, G1), e1, ?_⟩
  have hM1 : MV τ G1 m ω im me ta fa := hM.out e4 fun b h1 h2 => by omega
  cases a with
  | inl e =>
    obtain ⟨p, q0, p1, ⟨ω2, p2, p3⟩, p4⟩ := h2 G1 hM1
    have p1 : gCode L e 1 = some (gi p.2 11 0 m) := p1
    refine ⟨_, p1, p, q0, rfl, fun h0 => ?_, ST.mk0 hm hI1 e3 Fr.rf p2 p3 p4⟩
    obtain ⟨j, hj, h⟩ := gCode_ne L 1 p1
    have h0 : gi p.2 11 0 m = 0 := h0
    rw [h0] at h
    exact absurd ((nI_eq (a := 0) (by decide) (by omega)).mp h) (by omega)
  | inr v =>
    show gOk (gchk (gIn 0 (gn τ o)) (some (0, gsl G1 o 0 (Kx v)))) _
    rw [ka_chkT (by rw [hτ]; exact ka_in (i := 0) (by decide) (by decide))]
    have hf : Fr (fun b => b = m + 11) G1 (gsl G1 o 0 (Kx v)) := fun b hb => gSame.l (fun e => hb (by rw [e, ho]))
    refine ⟨_, rfl, gOk.mono (h2 _ (hM1.out hf fun b h1 h2 => by omega)) fun p hp => ?_⟩
    obtain ⟨⟨t1, t2⟩, ⟨ω2, p2, p3⟩, p4⟩ := hp
    refine ⟨t1.symm, fun _ => ?_, ST.mk0 hm hI1 e3 hf p2 p3 p4⟩
    rw [(p4 o (by omega)).2.2.2.2, t2]
    simp [gl, gsl]
/-- the join of two questions -/
theorem join_q {fc : Option ((String ⊕ Int32) × gG)} {fm : gG → Option (Int32 × gG)} {L : List String} {ans : String ⊕ Int32} {Kx : Int32 → Int64} (hm : m = x + 512) (ho : o = m + 11) (hτ : gn τ o = 1) (hL : L.length ≤ 5) (hC : CV τ G x s t l l' ω im me ta fa) (hM : MV τ G m ω im me ta fa) (hI : IV ω im me ta)
    (h1 : gOk fc (fun q => q.1 = ans ∧ QC τ x t G q.2))
    (h2 : ∀ G1, MV τ G1 m ω im me ta fa → gOk (fm G1) (fun p => Th L ans p.1 (gi p.2 11 0 m) ∧ QM m G1 p.2)) :
    gOk (gTry fc L fun v G => gchk (gIn 0 (gn τ o)) <| some (0, gsl G o 0 (Kx v))) (fun q => gOk (fm q.2) (fun p => q.1 = gi p.2 11 0 m ∧ (q.1 = 0 → gl p.2 o 0 = Kx p.1) ∧ ST τ x m p.2)) := by
  have hsl := hC.sl
  refine join_x (α := Int32) hm ho hτ hL hM hI (s1 := s) (t1 := t) (l1 := l) (l1' := l') (fa1 := fa) (gOk.mono h1 fun q hq => ⟨hq.1, hq.2.cv hC hI, hq.2.1.mono fun b hb => ?_⟩) (fun G1 hM1 => gOk.mono (h2 G1 hM1) fun p hp => ⟨hp.1, ⟨_, (hM1.q hp.2).2, (hM1.q hp.2).1⟩, hp.2.1.mono fun b hb => by omega⟩)
  unfold scC at hb
  omega
/-- the join of two questions that throw nothing -/
theorem join_p {α : Type} {fc : Option (α × gG)} {fm : gG → Option (α × gG)} {ans : α} (hm : m = x + 512) (hC : CV τ G x s t l l' ω im me ta fa) (hM : MV τ G m ω im me ta fa) (hI : IV ω im me ta)
    (h1 : gOk fc (fun q => q.1 = ans ∧ QC τ x t G q.2))
    (h2 : ∀ G1, MV τ G1 m ω im me ta fa → gOk (fm G1) (fun p => p.1 = ans ∧ QM m G1 p.2)) :
    gOk fc (fun q => gOk (fm q.2) (fun p => q.1 = p.1 ∧ ST τ x m p.2)) := by
  have hsl := hC.sl
  refine gOk.mono h1 fun q hq => ?_
  have hM1 : MV τ q.2 m ω im me ta fa := hM.out hq.2.1 fun b h1 h2 h3 => by unfold scC at h3; omega
  refine gOk.mono (h2 q.2 hM1) fun p hp => ⟨hq.1.trans hp.1.symm, ?_⟩
  exact ST.mk0 hm hI (hq.2.cv hC hI) Fr.rf (hM1.q hp.2).2 (hM1.q hp.2).1 (hp.2.1.mono fun b hb => by omega)
end
