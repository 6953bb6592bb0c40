/-! CALLS: seed, undo -/
section
variable {ω ω' : gW}
theorem wi_of (h : ∀ j, j < 467 → ω' j = ω j) (hI : WI ω) : WI ω' := by
  obtain ⟨⟨⟨a1, a2⟩, ⟨b1, b2⟩, c1, c2⟩, ⟨d1, d2, d3, d4, d5, d6, d7⟩, e1, e2, e3⟩ := hI
  have q1 : cY ω' = cY ω := by unfold cY; rw [h 0 (by decide)]
  have q2 : cR ω' = cR ω := by unfold cR; rw [h 1 (by decide)]
  have q3 : cO ω' = cO ω := by unfold cO; rw [h 2 (by decide)]
  have q4 : cL ω' = cL ω := by unfold cL; rw [h 11 (by decide)]
  unfold WI
  rw [q1, q2, q3, q4, h 0 (by decide), h 1 (by decide), h 2 (by decide), h 3 (by decide), h 4 (by decide), h 5 (by decide), h 6 (by decide), h 7 (by decide), h 11 (by decide)]
  refine ⟨⟨⟨a1, a2⟩, ⟨b1, b2⟩, c1, c2⟩, ⟨d1, d2, d3, d4, d5, d6, d7⟩, fun i hi => ?_, fun i hi => ?_, fun i hi => ?_⟩
  · have := e1 i hi
    unfold YOK yv at this ⊢
    rw [h _ (by omega), h _ (by omega), h _ (by omega), h _ (by omega)]
    exact this
  · exact rok_of q1 (fun j hj => h _ (by omega)) (e2 i hi)
  · have := e3 i hi
    unfold OOK ov at this ⊢
    rw [h _ (by omega), h _ (by omega), h _ (by omega)]
    exact this
theorem vs_of (h : ∀ j, j < 467 → ω' j = ω j) {G : gG} {s : Nat} (hI : WI ω) (hV : VS G s ω) : VS G s ω' := by
  obtain ⟨a, b, c, d, ⟨l1, nx, l2, l3, l4⟩⟩ := hV
  have y1 := hI.y1
  have r1 := hI.r1
  have o1 := hI.o1
  have ll := hI.l0
  have q1 : cY ω' = cY ω := by unfold cY; rw [h 0 (by decide)]
  have q2 : cR ω' = cR ω := by unfold cR; rw [h 1 (by decide)]
  have q3 : cO ω' = cO ω := by unfold cO; rw [h 2 (by decide)]
  have q4 : cL ω' = cL ω := by unfold cL; rw [h 11 (by decide)]
  refine ⟨?_, fun i hi => ?_, fun i hi => ?_, fun i hi => ?_, ?_, nx, l2, l3, fun q w hq hw => ?_⟩
  · rw [h 0 (by omega), h 1 (by omega), h 2 (by omega), h 3 (by omega), h 5 (by omega), h 6 (by omega), h 7 (by omega), h 8 (by omega), h 9 (by omega), h 10 (by omega), h 12 (by omega)]; exact a
  · rw [q1] at hi
    have := b i hi
    unfold YV yv at this ⊢
    rw [h _ (by omega), h _ (by omega), h _ (by omega), h _ (by omega)]
    exact this
  · rw [q2] at hi
    have := c i hi
    unfold RV rv at this ⊢
    rw [h _ (by omega), h _ (by omega), h _ (by omega), h _ (by omega), h _ (by omega), h _ (by omega), h _ (by omega), h _ (by omega), h _ (by omega), h _ (by omega)]
    exact this
  · rw [q3] at hi
    have := d i hi
    unfold OV ov at this ⊢
    rw [h _ (by omega), h _ (by omega), h _ (by omega)]
    exact this
  · rw [h 11 (by omega)]; exact l1
  · rw [q4] at hq
    rw [h (167 + 5 * q + w) (by omega)]
    exact l4 q w hq hw
/-- a world brought back, under the law that is -/
def ovr (w ω : gW) : gW := fun i => if i < 467 then w i else ω i
theorem ovr_lo {w : gW} : ∀ j, j < 467 → ovr w ω j = w j := fun j hj => if_pos hj
theorem ovr_hi {w : gW} : ∀ j, 467 ≤ j → ovr w ω j = ω j := fun j hj => if_neg (by omega)
theorem last_of : ∀ me : List gW, me = [] ∨ ∃ L w, me = L ++ [w] := by
  intro me
  induction me with
  | nil => exact Or.inl rfl
  | cons a t ih =>
    rcases ih with rfl | ⟨L, w, rfl⟩
    · exact Or.inr ⟨[], a, rfl⟩
    · exact Or.inr ⟨a :: L, w, rfl⟩
theorem app_lo {L : List gW} {w : gW} {j : Nat} (hj : j < L.length) : (L ++ [w])[j]? = L[j]? := by
  rw [List.getElem?_append, if_pos hj]
theorem app_hi {L : List gW} {w : gW} : (L ++ [w])[L.length]? = some w := by
  rw [List.getElem?_append, if_neg (Nat.lt_irrefl _), Nat.sub_self]
  rfl
end
section
variable {τ : gτ} {n : Nat} {G G' : gG} {x m s t l l' o : Nat} {ω ω' w : gW} {im : Option gW} {me me' : List gW} {ta : List Nat} {fa : Int32}
/-- the memory's own cells written -/
theorem CV.mem (h : CV τ G x s t l l' ω im me ta fa) (hI : IV ω im me ta) (hf : Fr (fun b => b = x + 5) G G') (hr : ∀ c k d, gr G' c k d = gr G c k d) (hmem : ∃ nx : Nat, nx < 12 ∧ gi G' 3 1 (x + 5) = nI me'.length ∧ gi G' 3 2 (x + 5) = nI nx ∧ ∀ (j : Nat) (ω' : gW), me'[j]? = some ω' → VS G (x + 7 + 32 * ((nx + 12 - me'.length + j) % 12)) ω' ∧ WI ω') : CV τ G' x s t l l' ω im me' ta fa := by
  have hsl := h.sl
  obtain ⟨hX, hV, hLV, ⟨i1, i2⟩, -, ⟨t1, t2⟩, t3⟩ := h
  obtain ⟨hI, hL, hIm, -, -⟩ := hI
  obtain ⟨nx, m1, m2, m3, m4⟩ := hmem
  have q := fun b (hb : b ≠ x + 5) => hf b hb
  obtain ⟨h1, h2, h3, h4, ⟨f1, f2, f3, f4⟩, ⟨g1, g2, g3⟩, h7, h8⟩ := hX
  refine ⟨⟨?_, ?_, h3, fun k hk => ?_, ⟨?_, ?_, ?_, fun k hk => ?_⟩, ⟨?_, ?_, ?_⟩, h7, h8⟩, hf.vs hI hV fun b c1 c2 => by omega, hf.lv hLV fun b c1 c2 => by omega, ⟨?_, fun w h' => ?_⟩, ⟨nx, m1, m2, m3, fun j w hj => ?_⟩, ⟨?_, fun j b hj => ?_⟩, ?_⟩
  · simp only [hr]; exact h1
  · simp only [hr]; exact h2
  · rw [(q (x + 6) (by omega)).2.2.2.1]; exact h4 k hk
  · exact hf.fs f1 fun b c1 c2 => by omega
  · exact hf.fs f2 fun b c1 c2 => by omega
  · exact hf.fs f3 fun b c1 c2 => by omega
  · exact hf.fs (f4 k hk) fun b c1 c2 => by omega
  · exact hf.fl g1 (by omega)
  · exact hf.fl g2 (by omega)
  · exact hf.fl g3 (by omega)
  · rw [(q x (by omega)).1]; exact i1
  · obtain ⟨a, b⟩ := i2 w h'
    exact ⟨hf.vs (hIm w h').1 a fun b c1 c2 => by omega, hf.lv b fun b c1 c2 => by omega⟩
  · exact hf.vs (m4 j w hj).2 (m4 j w hj).1 fun b c1 c2 => by omega
  · rw [(q (x + 1) (by omega)).1]; exact t1
  · rw [(q (x + 2) (by omega)).2.2.1]; exact t2 j b hj
  · rw [(q (x + 1) (by omega)).1]; exact t3
theorem IV.pop {L : List gW} (hI : IV ω im (L ++ [w]) ta) : IV ω im L ta ∧ WI w ∧ w 4 = ω 4 ∧ L.length < 12 := by
  obtain ⟨a, b, c, ⟨d, e⟩, f⟩ := hI
  have hl : (L ++ [w]).length = L.length + 1 := by rw [List.length_append]; rfl
  obtain ⟨e1, e2⟩ := e _ _ (app_hi (L := L) (w := w))
  refine ⟨⟨a, b, c, ⟨by omega, fun j v hj => e j v ?_⟩, f⟩, e1, e2, by omega⟩
  have hlt : j < L.length := (List.getElem?_eq_some_iff.mp hj).1
  rw [app_lo hlt]
  exact hj
theorem c_undo {L : List gW} (hC : CV τ G x s t l l' ω im (L ++ [w]) ta fa) (hI : IV ω im (L ++ [w]) ta) (hn : 500 < n) : gOk (f_X10_undo τ n x G) (fun q => q.1 = 1 ∧ CV τ q.2 x s t l l' (ovr w ω) im L ta fa ∧ Fr (fun b => x ≤ b ∧ b ≤ x + 511) G q.2) := by
  have hsl := hC.sl
  obtain ⟨hIp, hWw, hw4, hL12⟩ := hI.pop
  obtain ⟨nx, m1, m2, m3, m4⟩ := hC.2.2.2.2.1
  have hl : (L ++ [w]).length = L.length + 1 := by rw [List.length_append]; rfl
  rw [hl] at m2 m4
  have hVw := m4 _ _ app_hi
  have hix : (nx + 12 - (L.length + 1) + L.length) % 12 = (nx + 11) % 12 := by omega
  rw [hix] at hVw
  obtain ⟨x1, x2, x3, x4, ⟨f1, f2, f3, f4⟩, -⟩ := hC.1
  have hFw := f4 ((nx + 11) % 12) (Nat.mod_lt _ (by decide))
  have p1 : nI (L.length + 1) - 1 = nI L.length := by rw [← nI_1, Int32.add_sub_cancel]
  have p0 : nI nx + (12 : Int32) - 1 = nI (nx + 11) := by
    rw [show (12 : Int32) = nI 12 from rfl, nI_add, show nx + 12 = (nx + 11) + 1 from rfl, ← nI_1, Int32.add_sub_cancel]
  have p2 : nI (nx + 11) - nI (nx + 11) / 12 * 12 = nI ((nx + 11) % 12) := by
    rw [show (12 : Int32) = nI 12 from rfl, pk_rem (by omega) (by decide) (by decide)]
  unfold f_X10_undo
  rw [hC.rf.2.2.2.1, ka_bs, hC.rf.2.2.2.2.2.2.2.2.2.2.1, ka_bs, ka_bind2]
  unfold f_X3_recall
  rw [m2, if_neg (show ¬ nI (L.length + 1) = 0 from fun h => absurd ((nI_eq (b := 0) (by omega) (by decide)).mp h) (by omega)), ka_letE, ka_letE, p1]
  have g2 : gi (gsi G 3 1 (x + 5) (nI L.length)) 3 2 (x + 5) = nI nx := by rw [ka_ii, if_neg (fun h => absurd h.2.1 (by decide)), m3]
  rw [g2, p0, p2]
  have fi : ∀ {G : gG} {c k : Nat} {v : Int32}, Fr (fun b => b = x + 5) G (gsi G c k (x + 5) v) := fun {G c k v} => Fr.i (A := fun b => b = x + 5) rfl
  have f5 : Fr (fun b => b = x + 5) G (gsi (gsi G 3 1 (x + 5) (nI L.length)) 3 2 (x + 5) (nI ((nx + 11) % 12))) := fi.tr fi
  generalize hG5 : gsi (gsi G 3 1 (x + 5) (nI L.length)) 3 2 (x + 5) (nI ((nx + 11) % 12)) = G5 at f5
  have v1 : gi G5 3 1 (x + 5) = nI L.length := by rw [← hG5]; simp [ka_ii]
  have v2 : gi G5 3 2 (x + 5) = nI ((nx + 11) % 12) := by rw [← hG5]; simp [ka_ii]
  have vr : ∀ c k d, gr G5 c k d = gr G c k d := fun c k d => by rw [← hG5]; rfl
  have hlt12 : (nx + 11) % 12 < 12 := Nat.mod_lt _ (by decide)
  have hC5 : CV τ G5 x s t l l' ω im L ta fa := by
    refine hC.mem hI f5 vr ⟨(nx + 11) % 12, hlt12, v1, v2, fun j v hj => ?_⟩
    have hlt : j < L.length := (List.getElem?_eq_some_iff.mp hj).1
    have hj' : (L ++ [w])[j]? = some v := by rw [app_lo hlt]; exact hj
    refine ⟨?_, (hI.2.2.2.1.2 j v hj').1⟩
    rw [show ((nx + 11) % 12 + 12 - L.length + j) % 12 = (nx + 12 - (L.length + 1) + j) % 12 by omega]
    exact m4 j v hj'
  rw [vr, x2.2.2.2, ka_bs, v2, ka_chkT (by rw [x3.2.1]; exact ka_in hlt12 (by decide)), nI_clamp (by omega), (f5 (x + 6) (by omega)).2.2.2.1, x4 _ hlt12, ka_bs, ka_bind]
  have hV5 : VS G5 (x + 7 + 32 * ((nx + 11) % 12)) w := f5.vs hWw hVw fun b c1 c2 => by omega
  have hF5 : FS τ G5 (x + 7 + 32 * ((nx + 11) % 12)) := f5.fs hFw fun b c1 c2 => by omega
  refine gOk.mono (s_become hC5.fs.1 hF5 hV5 hWw (by omega) hn) fun G6 h6 => ?_
  obtain ⟨v6, s6, f6⟩ := h6
  refine ⟨_, rfl, ?_⟩
  show gOk (gchk ((1 : Int32) = 0 ∨ (1 : Int32) = 1) (some ((1 : Int32), G6))) _
  rw [ka_chkT (Or.inr rfl)]
  refine ⟨_, rfl, rfl, hC5.world hIp f6 s6 (vs_of ovr_lo hWw v6) ?_ ovr_hi, (f5.mono fun b hb => by omega).tr (f6.mono fun b hb => by have hb : s ≤ b ∧ b ≤ s + 31 := hb; omega)⟩
  rw [ovr_lo 4 (by decide)]
  exact hw4
end
