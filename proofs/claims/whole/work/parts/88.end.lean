/-! CALLS: end -/
section
variable {τ : gτ} {n : Nat} {G G' : gG} {x m s t l l' o : Nat} {ω w : gW} {im : Option gW} {me : List gW} {ta ta' : List Nat} {fa fa' : Int32}
/-- the tape's own cells written -/
theorem CV.tape (h : CV τ G x s t l l' ω im me ta fa) (hI : IV ω im me ta) (hf : Fr (fun b => b = x + 1 ∨ b = x + 2) G G') (hr : ∀ c k d, gr G' c k d = gr G c k d) (ht : gi G' 7 1 (x + 1) = nI ta'.length ∧ ∀ (j b : Nat), ta'[j]? = some b → ge G' (x + 2) j = nI b) (hfa : gi G' 7 2 (x + 1) = fa') : CV τ G' x s t l l' ω im me ta' fa' := by
  have hsl := h.sl
  obtain ⟨hX, hV, hLV, ⟨i1, i2⟩, ⟨nx, m1, m2, m3, m4⟩, -, -⟩ := h
  obtain ⟨hI, hL, hIm, ⟨hm1, hm2⟩, -⟩ := hI
  have q := fun b (hb : x + 3 ≤ b) => hf b (show ¬ (b = x + 1 ∨ b = x + 2) by omega)
  obtain ⟨h1, h2, h3, h4, ⟨f1, f2, f3, f4⟩, ⟨g1, g2, g3⟩, h7, h8⟩ := hX
  refine ⟨⟨?_, ?_, h3, fun k hk => ?_, ⟨?_, ?_, ?_, fun k hk => ?_⟩, ⟨?_, ?_, ?_⟩, h7, h8⟩, hf.vs hI hV fun b c1 c2 => by omega, hf.lv hLV fun b c1 c2 => by omega, ⟨?_, fun w h' => ?_⟩, ⟨nx, m1, ?_, ?_, fun j w hj => ?_⟩, ht, hfa⟩
  · simp only [hr]; exact h1
  · simp only [hr]; exact h2
  · rw [(q (x + 6) (by omega)).2.2.2.1]; exact h4 k hk
  · exact hf.fs f1 fun b c1 c2 => by omega
  · exact hf.fs f2 fun b c1 c2 => by omega
  · exact hf.fs f3 fun b c1 c2 => by omega
  · exact hf.fs (f4 k hk) fun b c1 c2 => by omega
  · exact hf.fl g1 (by omega)
  · exact hf.fl g2 (by omega)
  · exact hf.fl g3 (by omega)
  · rw [(hf x (by omega)).1]; exact i1
  · obtain ⟨a, b⟩ := i2 w h'
    exact ⟨hf.vs (hIm w h').1 a fun b c1 c2 => by omega, hf.lv b fun b c1 c2 => by omega⟩
  · rw [(q (x + 5) (by omega)).1]; exact m2
  · rw [(q (x + 5) (by omega)).1]; exact m3
  · exact hf.vs (hm2 j w hj).1 (m4 j w hj) fun b c1 c2 => by omega
theorem take_get {k j b : Nat} (h : (ta.take k)[j]? = some b) : ta[j]? = some b := by
  rw [List.getElem?_take] at h
  split at h
  · exact h
  · cases h
end
