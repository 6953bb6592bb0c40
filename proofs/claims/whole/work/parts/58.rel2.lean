/-! the class shows an abstract state, the reference holds it -/
def isS {α : Type} (o : Option α) : Int32 := match o with
  | some _ => 1
  | none => 0
def CV (τ : gτ) (G : gG) (x s t l l' : Nat) (ω : gW) (im : Option gW) (me : List gW) (ta : List Nat) (fa : Int32) : Prop :=
  FX τ G x s t l l' ∧ VS G s ω ∧ LV G l ω ∧
  (gi G 10 14 x = isS im ∧ ∀ ω', im = some ω' → VS G (x + 391) ω' ∧ LV G (x + 423) ω') ∧
  (∃ nx : Nat, nx < 12 ∧ gi G 3 1 (x + 5) = nI me.length ∧ gi G 3 2 (x + 5) = nI nx ∧ ∀ (j : Nat) (ω' : gW), me[j]? = some ω' → VS G (x + 7 + 32 * ((nx + 12 - me.length + j) % 12)) ω') ∧
  (gi G 7 1 (x + 1) = nI ta.length ∧ ∀ (j b : Nat), ta[j]? = some b → ge G (x + 2) j = nI b) ∧ gi G 7 2 (x + 1) = fa
def MV (τ : gτ) (G : gG) (m : Nat) (ω : gW) (im : Option gW) (me : List gW) (ta : List Nat) (fa : Int32) : Prop :=
  FM τ G m ∧ ge G (m + 1) = ω ∧
  (gi G 11 6 m = isS im ∧ ∀ ω', im = some ω' → ∀ j, j < 1316 → ge G (m + 2) j = ω' j) ∧
  (gi G 11 7 m = nI me.length ∧ ∀ (j : Nat) (ω' : gW), me[j]? = some ω' → ∀ i, i < 467 → ge G (m + 5) (467 * j + i) = ω' i) ∧
  (gi G 11 9 m = nI ta.length ∧ ∀ (j b : Nat), ta[j]? = some b → ge G (m + 6) j = (nI b).toInt8.toInt32) ∧ gi G 11 14 m = fa
/-- what stays true of an abstract state -/
def IV (ω : gW) (im : Option gW) (me : List gW) (ta : List Nat) : Prop :=
  WI ω ∧ LI ω ∧ (∀ ω', im = some ω' → WI ω' ∧ LI ω') ∧ (me.length ≤ 12 ∧ ∀ (j : Nat) (ω' : gW), me[j]? = some ω' → WI ω' ∧ ω' 4 = ω 4) ∧ ta.length ≤ 400 ∧ ∀ b, b ∈ ta → b < 256
section
variable {τ : gτ} {G G' : gG} {x m s t l l' : Nat} {ω ω' : gW} {im : Option gW} {me : List gW} {ta : List Nat} {fa : Int32}
theorem CV.sl (h : CV τ G x s t l l' ω im me ta fa) : (s + 31 < l ∧ t + 31 < l ∧ s + 31 < l' ∧ t + 31 < l' ∧ x + 434 ≤ s ∧ s ≤ x + 466 ∧ x + 434 ≤ t ∧ t ≤ x + 466 ∧ (s + 31 < t ∨ t + 31 < s)) ∧ (l = x + 498 ∨ l = x + 505) ∧ (l' = x + 498 ∨ l' = x + 505) ∧ l ≠ l' := by
  obtain ⟨⟨-, -, -, -, -, -, h1, h2⟩, -⟩ := h
  omega
theorem CV.fs (h : CV τ G x s t l l' ω im me ta fa) : FS τ G s ∧ FS τ G t := by
  obtain ⟨⟨-, -, -, -, ⟨f1, f2, -⟩, -, h1, h2⟩, -⟩ := h
  rcases h1 with ⟨rfl, rfl⟩ | ⟨rfl, rfl⟩
  · exact ⟨f1, f2⟩
  · exact ⟨f2, f1⟩
theorem CV.fl (h : CV τ G x s t l l' ω im me ta fa) : FL τ G l ∧ FL τ G l' := by
  obtain ⟨⟨-, -, -, -, -, ⟨-, f1, f2⟩, h1, h2⟩, -⟩ := h
  rcases h2 with ⟨rfl, rfl⟩ | ⟨rfl, rfl⟩
  · exact ⟨f1, f2⟩
  · exact ⟨f2, f1⟩
/-- what a question may write in the class -/
def scC (x t : Nat) (b : Nat) : Prop := (x + 428 ≤ b ∧ b ≤ x + 433) ∨ (t ≤ b ∧ b ≤ t + 31) ∨ b = x + 503 ∨ b = x + 504 ∨ b = x + 510 ∨ b = x + 511
theorem CV.q (h : CV τ G x s t l l' ω im me ta fa) (hI : IV ω im me ta) (hf : Fr (scC x t) G G') (hT : FS τ G' t) : CV τ G' x s t l l' ω im me ta fa := by
  have hsl := h.sl
  obtain ⟨hX, hV, hLV, ⟨i1, i2⟩, ⟨nx, m1, m2, m3, m4⟩, ⟨t1, t2⟩, t3⟩ := h
  obtain ⟨hI, hL, hIm, ⟨hm1, hm2⟩, -⟩ := hI
  have nA : ∀ b, x ≤ b → b ≤ x + 427 → ¬ scC x t b := fun b h1 h2 h3 => by unfold scC at h3; omega
  have q := fun b h1 h2 => hf b (nA b h1 h2)
  refine ⟨FX.fr hf hX nA (fun b h1 h2 => ?_) (fun b h1 h2 h3 => by unfold scC at h3; omega) hT, hf.vs hI hV fun b h1 h2 h3 => by unfold scC at h3; omega, hf.lv hLV fun b h1 h2 h3 => by unfold scC at h3; omega, ⟨?_, fun ω' h' => ?_⟩, ⟨nx, m1, ?_, ?_, fun j ω' hj => ?_⟩, ⟨?_, fun j b hj => ?_⟩, ?_⟩
  · by_cases hb : t ≤ b ∧ b ≤ t + 31
    · exact Or.inr hb
    · exact Or.inl fun h3 => by unfold scC at h3; omega
  · rw [(q x (by omega) (by omega)).1]; exact i1
  · obtain ⟨a, b⟩ := i2 ω' h'
    exact ⟨hf.vs (hIm ω' h').1 a fun b h1 h2 => nA b (by omega) (by omega), hf.lv b fun b h1 h2 => nA b (by omega) (by omega)⟩
  · rw [(q (x + 5) (by omega) (by omega)).1]; exact m2
  · rw [(q (x + 5) (by omega) (by omega)).1]; exact m3
  · have : (nx + 12 - me.length + j) % 12 < 12 := Nat.mod_lt _ (by decide)
    exact hf.vs (hm2 j ω' hj).1 (m4 j ω' hj) fun b h1 h2 => nA b (by omega) (by omega)
  · rw [(q (x + 1) (by omega) (by omega)).1]; exact t1
  · rw [(q (x + 2) (by omega) (by omega)).2.2.1]; exact t2 j b hj
  · rw [(q (x + 1) (by omega) (by omega)).1]; exact t3
/-- the class's cells, and all of them alone, tell what it shows -/
theorem CV.out (h : CV τ G x s t l l' ω im me ta fa) (hI : IV ω im me ta) {A : Nat → Prop} (hf : Fr A G G') (hA : ∀ b, x ≤ b → b ≤ x + 511 → ¬ A b) : CV τ G' x s t l l' ω im me ta fa := by
  have hsl := h.sl
  have hfs := h.fs
  obtain ⟨hX, hV, hLV, ⟨i1, i2⟩, ⟨nx, m1, m2, m3, m4⟩, ⟨t1, t2⟩, t3⟩ := h
  obtain ⟨hI, hL, hIm, ⟨hm1, hm2⟩, -⟩ := hI
  have q := fun b h1 h2 => hf b (hA b h1 h2)
  refine ⟨FX.fr hf hX (fun b h1 h2 => hA b h1 (by omega)) (fun b h1 h2 => Or.inl (hA b (by omega) (by omega))) (fun b h1 h2 => hA b (by omega) (by omega)) (hf.fs hfs.2 fun b h1 h2 => hA b (by omega) (by omega)), hf.vs hI hV fun b h1 h2 => hA b (by omega) (by omega), hf.lv hLV fun b h1 h2 => hA b (by omega) (by omega), ⟨?_, fun ω' h' => ?_⟩, ⟨nx, m1, ?_, ?_, fun j ω' hj => ?_⟩, ⟨?_, fun j b hj => ?_⟩, ?_⟩
  · rw [(q x (by omega) (by omega)).1]; exact i1
  · obtain ⟨a, b⟩ := i2 ω' h'
    exact ⟨hf.vs (hIm ω' h').1 a fun b h1 h2 => hA b (by omega) (by omega), hf.lv b fun b h1 h2 => hA b (by omega) (by omega)⟩
  · rw [(q (x + 5) (by omega) (by omega)).1]; exact m2
  · rw [(q (x + 5) (by omega) (by omega)).1]; exact m3
  · have : (nx + 12 - me.length + j) % 12 < 12 := Nat.mod_lt _ (by decide)
    exact hf.vs (hm2 j ω' hj).1 (m4 j ω' hj) fun b h1 h2 => hA b (by omega) (by omega)
  · rw [(q (x + 1) (by omega) (by omega)).1]; exact t1
  · rw [(q (x + 2) (by omega) (by omega)).2.2.1]; exact t2 j b hj
  · rw [(q (x + 1) (by omega) (by omega)).1]; exact t3
theorem CV.we (h : CV τ G x s t l l' ω im me ta fa) (hI : IV ω im me ta) (hw : WE ω ω') : CV τ G x s t l l' ω' im me ta fa := by
  obtain ⟨hX, hV, hLV, h4⟩ := h
  exact ⟨hX, hw.vs hI.1 hV, hw.lv hLV, h4⟩
theorem IV.we (hI : IV ω im me ta) (hw : WE ω ω') : IV ω' im me ta := by
  obtain ⟨a, b, c, ⟨d, e⟩, f⟩ := hI
  exact ⟨hw.wi a, hw.li b, c, ⟨d, fun j ω'' hj => ⟨(e j ω'' hj).1, by rw [(e j ω'' hj).2, hw 4 (by omega)]⟩⟩, f⟩
theorem MV.out (h : MV τ G m ω im me ta fa) {A : Nat → Prop} (hf : Fr A G G') (hA : ∀ b, m ≤ b → b ≤ m + 10 → ¬ A b) : MV τ G' m ω im me ta fa := by
  obtain ⟨hM, hω, ⟨i1, i2⟩, ⟨m1, m2⟩, ⟨t1, t2⟩, t3⟩ := h
  have q := fun b h1 h2 => hf b (hA b h1 h2)
  refine ⟨hf.fm hM (hA m (by omega) (by omega)), (q (m + 1) (by omega) (by omega)).2.2.1.trans hω, ⟨?_, fun ω' h' j hj => ?_⟩, ⟨?_, fun j ω' hj i hi => ?_⟩, ⟨?_, fun j b hj => ?_⟩, ?_⟩
  · rw [(q m (by omega) (by omega)).1]; exact i1
  · rw [(q (m + 2) (by omega) (by omega)).2.2.1]; exact i2 ω' h' j hj
  · rw [(q m (by omega) (by omega)).1]; exact m1
  · rw [(q (m + 5) (by omega) (by omega)).2.2.1]; exact m2 j ω' hj i hi
  · rw [(q m (by omega) (by omega)).1]; exact t1
  · rw [(q (m + 6) (by omega) (by omega)).2.2.1]; exact t2 j b hj
  · rw [(q m (by omega) (by omega)).1]; exact t3
/-- what a question may write in the reference -/
def QM (m : Nat) (G G' : gG) : Prop := Fr (fun b => b = m ∨ b = m + 1 ∨ b = m + 4 ∨ b = m + 7 ∨ b = m + 8 ∨ b = m + 9 ∨ b = m + 10) G G' ∧ (∀ c k, ¬ (c = 11 ∧ k = 0) → gi G' c k m = gi G c k m) ∧ (∀ c k, gr G' c k m = gr G c k m) ∧ WE (ge G (m + 1)) (ge G' (m + 1))
theorem QM.rf : QM m G G := ⟨Fr.rf, fun _ _ _ => rfl, fun _ _ => rfl, WE.rf⟩
theorem QM.tr {G'' : gG} (h : QM m G G') (h' : QM m G' G'') : QM m G G'' := ⟨h.1.tr h'.1, fun c k hk => (h'.2.1 c k hk).trans (h.2.1 c k hk), fun c k => (h'.2.2.1 c k).trans (h.2.2.1 c k), h.2.2.2.tr h'.2.2.2⟩
theorem QM.th {v : Int32} : QM m G (gsi G 11 0 m v) := ⟨Fr.i (Or.inl rfl), fun c k hk => by rw [ka_ii, if_neg (fun e => hk ⟨e.1, e.2.1⟩)], fun _ _ => rfl, WE.rf⟩
theorem QM.v (hf : Fr (fun b => b = m + 8) G G') : QM m G G' := by
  have q := hf m (by omega)
  refine ⟨hf.mono (fun b hb => by omega), fun c k _ => q.1 c k, q.2.1, ?_⟩
  rw [(hf (m + 1) (by omega)).2.2.1]
  exact WE.rf
theorem QM.fm (h : QM m G G') (hM : FM τ G m) : FM τ G' m := by
  unfold FM
  simp only [h.2.2.1]
  exact hM
theorem MV.q (h : MV τ G m ω im me ta fa) (hq : QM m G G') : MV τ G' m (ge G' (m + 1)) im me ta fa ∧ WE ω (ge G' (m + 1)) := by
  obtain ⟨hM, hω, ⟨i1, i2⟩, ⟨m1, m2⟩, ⟨t1, t2⟩, t3⟩ := h
  have hM' := hq.fm hM
  obtain ⟨hf, hg, hr, hw⟩ := hq
  refine ⟨⟨hM', rfl, ⟨?_, fun ω' h' j hj => ?_⟩, ⟨?_, fun j ω' hj i hi => ?_⟩, ⟨?_, fun j b hj => ?_⟩, ?_⟩, by rw [← hω]; exact hw⟩
  · rw [hg 11 6 (by decide)]; exact i1
  · rw [(hf (m + 2) (by omega)).2.2.1]; exact i2 ω' h' j hj
  · rw [hg 11 7 (by decide)]; exact m1
  · rw [(hf (m + 5) (by omega)).2.2.1]; exact m2 j ω' hj i hi
  · rw [hg 11 9 (by decide)]; exact t1
  · rw [(hf (m + 6) (by omega)).2.2.1]; exact t2 j b hj
  · rw [hg 11 14 (by decide)]; exact t3
end
