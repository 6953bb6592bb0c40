/-! WHAT IS REMEMBERED -/
def pushM (me : List gW) (ω : gW) : List gW := (if me.length = 12 then me.tail else me) ++ [ω]
theorem push_len {me : List gW} {ω : gW} (h : me.length ≤ 12) : (pushM me ω).length = if me.length = 12 then 12 else me.length + 1 := by
  unfold pushM
  by_cases h12 : me.length = 12
  · rw [if_pos h12, if_pos h12, List.length_append, List.length_tail, h12]; rfl
  · rw [if_neg h12, if_neg h12, List.length_append]; rfl
theorem push_get {me : List gW} {ω ω' : gW} (h : me.length ≤ 12) {j : Nat} (hj : (pushM me ω)[j]? = some ω') : (me.length = 12 ∧ j < 11 ∧ me[j + 1]? = some ω') ∨ (me.length = 12 ∧ j = 11 ∧ ω' = ω) ∨ (me.length < 12 ∧ j < me.length ∧ me[j]? = some ω') ∨ (me.length < 12 ∧ j = me.length ∧ ω' = ω) := by
  unfold pushM at hj
  by_cases h12 : me.length = 12
  · rw [if_pos h12, List.getElem?_append, List.length_tail, h12, List.getElem?_tail] at hj
    by_cases hlt : j < 12 - 1
    · rw [if_pos hlt] at hj
      exact Or.inl ⟨h12, hlt, hj⟩
    · rw [if_neg hlt] at hj
      have : j - (12 - 1) = 0 := by
        rcases Nat.eq_zero_or_pos (j - (12 - 1)) with h | h
        · exact h
        · obtain ⟨d, hd⟩ : ∃ d, j - (12 - 1) = d + 1 := ⟨j - (12 - 1) - 1, by omega⟩
          rw [hd] at hj
          cases hj
      rw [this] at hj
      cases hj
      exact Or.inr (Or.inl ⟨h12, by omega, rfl⟩)
  · rw [if_neg h12, List.getElem?_append] at hj
    by_cases hlt : j < me.length
    · rw [if_pos hlt] at hj
      exact Or.inr (Or.inr (Or.inl ⟨by omega, hlt, hj⟩))
    · rw [if_neg hlt] at hj
      have : j - me.length = 0 := by
        rcases Nat.eq_zero_or_pos (j - me.length) with h | h
        · exact h
        · obtain ⟨d, hd⟩ : ∃ d, j - me.length = d + 1 := ⟨j - me.length - 1, by omega⟩
          rw [hd] at hj
          cases hj
      rw [this] at hj
      cases hj
      exact Or.inr (Or.inr (Or.inr ⟨by omega, by omega, rfl⟩))
section
variable {τ : gτ} {n : Nat} {G : gG} {x m s t l l' o : Nat} {ω ω' : gW} {im : Option gW} {me : List gW} {ta : List Nat} {fa : Int32}
theorem IV.push (hI : IV ω im me ta) : IV ω im (pushM me ω) ta := by
  obtain ⟨a, b, c, ⟨d, e⟩, f⟩ := hI
  refine ⟨a, b, c, ⟨by rw [push_len d]; split <;> omega, fun j ω' hj => ?_⟩, f⟩
  rcases push_get d hj with ⟨-, -, h⟩ | ⟨-, -, h⟩ | ⟨-, -, h⟩ | ⟨-, -, h⟩
  · exact e _ _ h
  · rw [h]; exact ⟨a, rfl⟩
  · exact e _ _ h
  · rw [h]; exact ⟨a, rfl⟩
theorem c_keep (hC : CV τ G x s t l l' ω im me ta fa) (hI : IV ω im me ta) (hn : 500 < n) : gOk (f_X3_keep τ n (x + 5) s G) (fun G' => CV τ G' x s t l l' ω im (pushM me ω) ta fa ∧ Fr (fun b => x + 5 ≤ b ∧ b ≤ x + 390) G G') := by
  have hsl := hC.sl
  obtain ⟨nx, m1, m2, m3, m4⟩ := hC.2.2.2.2.1
  have hlen : me.length ≤ 12 := hI.2.2.2.1.1
  have hFX := hC.1
  obtain ⟨x1, x2, x3, x4, ⟨f1, f2, f3, f4⟩, ⟨g1, g2, g3⟩, x7, x8⟩ := hFX
  unfold f_X3_keep
  rw [x2.2.2.2, ka_bs, m3, ka_chkT (by rw [x3.2.1]; exact ka_in m1 (by decide)), nI_clamp (by omega), x4 nx m1, ka_bs, ka_bind]
  refine gOk.mono (s_become (f4 nx m1) hC.fs.1 hC.vs hI.1 (by omega) hn) fun G3 h3 => ?_
  obtain ⟨v3, s3, fr3⟩ := h3
  have fr3 : Fr (fun c => x + 7 + 32 * nx ≤ c ∧ c ≤ x + 7 + 32 * nx + 31) G G3 := fr3
  have h5 := fr3 (x + 5) (by omega)
  have e2 : gi G3 3 2 (x + 5) = nI nx := by rw [h5.1]; exact m3
  have e1 : gi G3 3 1 (x + 5) = nI me.length := by rw [h5.1]; exact m2
  rw [ka_letE, ka_letE, ka_ii, if_neg (fun h => absurd h.2.1 (by decide)), e2, e1]
  have p1 : nI nx + 1 - (nI nx + 1) / 12 * 12 = nI ((nx + 1) % 12) := by
    rw [nI_1, show (12 : Int32) = nI 12 from rfl, pk_rem (by omega) (by decide) (by decide)]
  have p2 : gmin (nI me.length + 1) 12 = nI (pushM me ω).length := by
    rw [push_len hlen, nI_1]
    unfold gmin
    by_cases h12 : me.length = 12
    · rw [if_pos h12, h12, if_pos (by decide)]; rfl
    · rw [if_neg h12, if_neg (show ¬ 12 < nI (me.length + 1) from nI_nlt (a := 12) (by omega) (by decide))]
  rw [p1, p2]
  have fi : ∀ {G : gG} {c k : Nat} {v : Int32}, Fr (fun b => b = x + 5) G (gsi G c k (x + 5) v) := fun {G c k v} => Fr.i (A := fun b => b = x + 5) rfl
  have f5 : Fr (fun b => b = x + 5) G3 (gsi (gsi G3 3 2 (x + 5) (nI ((nx + 1) % 12))) 3 1 (x + 5) (nI (pushM me ω).length)) := fi.tr fi
  generalize hG5 : gsi (gsi G3 3 2 (x + 5) (nI ((nx + 1) % 12))) 3 1 (x + 5) (nI (pushM me ω).length) = G5 at f5
  have v1 : gi G5 3 1 (x + 5) = nI (pushM me ω).length := by rw [← hG5]; simp [ka_ii]
  have v2 : gi G5 3 2 (x + 5) = nI ((nx + 1) % 12) := by rw [← hG5]; simp [ka_ii]
  have vr : ∀ c k d, gr G5 c k d = gr G3 c k d := fun c k d => by rw [← hG5]; rfl
  have q := fun (b : Nat) (h1 : b < x + 7 + 32 * nx ∨ x + 7 + 32 * nx + 31 < b) (h2 : b ≠ x + 5) => (fr3 b (by omega)).tr (f5 b h2)
  have far : ∀ {a : Nat}, x + 6 ≤ a → (a + 31 < x + 7 + 32 * nx ∨ x + 7 + 32 * nx + 31 < a) → (FS τ G a → FS τ G5 a) ∧ ∀ w, WI w → VS G a w → VS G5 a w := fun {a} h1 h2 =>
    ⟨fun h => gSame.fs h fun b c1 c2 => q b (by omega) (by omega), fun w hw h => gSame.vs hw h fun b c1 c2 => q b (by omega) (by omega)⟩
  have newV : VS G5 (x + 7 + 32 * nx) ω ∧ FS τ G5 (x + 7 + 32 * nx) := ⟨f5.vs hI.1 v3 fun b c1 c2 => by omega, f5.fs s3 fun b c1 c2 => by omega⟩
  have fFL : ∀ {a : Nat}, x + 391 ≤ a → FL τ G a → FL τ G5 a := fun {a} h1 h => by
    unfold FL
    simp only [(q a (by omega) (by omega)).2.1]
    exact h
  refine ⟨_, rfl, ⟨⟨?_, ?_, x3, fun k hk => ?_, ⟨(far (by omega) (by omega)).1 f1, (far (by omega) (by omega)).1 f2, (far (by omega) (by omega)).1 f3, fun k hk => ?_⟩, ⟨fFL (by omega) g1, fFL (by omega) g2, fFL (by omega) g3⟩, x7, x8⟩, (far (by omega) (by omega)).2 ω hI.1 hC.vs, ?_, ⟨?_, fun w hw => ?_⟩, ⟨(nx + 1) % 12, Nat.mod_lt _ (by decide), v1, v2, fun j w hj => ?_⟩, ⟨?_, fun j b hj => ?_⟩, ?_⟩, (fr3.mono fun b hb => by omega).tr (f5.mono fun b hb => by omega)⟩
  · simp only [(q x (by omega) (by omega)).2.1]; exact x1
  · rw [(q (x + 1) (by omega) (by omega)).2.1, (q (x + 3) (by omega) (by omega)).2.1, (q (x + 4) (by omega) (by omega)).2.1, vr, h5.2.1]; exact x2
  · rw [(q (x + 6) (by omega) (by omega)).2.2.2.1]; exact x4 k hk
  · by_cases hk2 : k = nx
    · rw [hk2]; exact newV.2
    · exact (far (by omega) (by omega)).1 (f4 k hk)
  · unfold LV
    rw [(q l (by omega) (by omega)).1, (q l (by omega) (by omega)).1, (q (l + 1) (by omega) (by omega)).2.2.1, (q (l + 2) (by omega) (by omega)).2.2.1, (q (l + 3) (by omega) (by omega)).2.2.1, (q (l + 4) (by omega) (by omega)).2.2.1]
    exact hC.lv
  · rw [(q x (by omega) (by omega)).1]; exact hC.2.2.2.1.1
  · obtain ⟨h1, h2⟩ := hC.2.2.2.1.2 w hw
    refine ⟨(far (by omega) (by omega)).2 w (hI.2.2.1 w hw).1 h1, ?_⟩
    unfold LV
    rw [(q (x + 423) (by omega) (by omega)).1, (q (x + 423) (by omega) (by omega)).1, (q (x + 423 + 1) (by omega) (by omega)).2.2.1, (q (x + 423 + 2) (by omega) (by omega)).2.2.1, (q (x + 423 + 3) (by omega) (by omega)).2.2.1, (q (x + 423 + 4) (by omega) (by omega)).2.2.1]
    exact h2
  · rw [push_len hlen]
    have old : ∀ (i : Nat) (idx : Nat), me[i]? = some w → idx = (nx + 12 - me.length + i) % 12 → idx ≠ nx → VS G5 (x + 7 + 32 * idx) w := fun i idx hi he hne => by
      have hidx : idx < 12 := by rw [he]; exact Nat.mod_lt _ (by decide)
      refine (far (by omega) (by omega)).2 w (hI.2.2.2.1.2 i w hi).1 ?_
      rw [he]
      exact m4 i w hi
    rcases push_get hlen hj with ⟨h12, hj1, h⟩ | ⟨h12, hj1, h⟩ | ⟨h12, hj1, h⟩ | ⟨h12, hj1, h⟩
    · rw [if_pos h12]
      exact old (j + 1) _ h (by rw [h12]; omega) (by omega)
    · rw [if_pos h12, h, show ((nx + 1) % 12 + 12 - 12 + j) % 12 = nx by omega]
      exact newV.1
    · rw [if_neg (by omega)]
      exact old j _ h (by omega) (by omega)
    · rw [if_neg (by omega), h, show ((nx + 1) % 12 + 12 - (me.length + 1) + j) % 12 = nx by omega]
      exact newV.1
  · rw [(q (x + 1) (by omega) (by omega)).1]; exact hC.2.2.2.2.2.1.1
  · rw [(q (x + 2) (by omega) (by omega)).2.2.1]; exact hC.2.2.2.2.2.1.2 j b hj
  · rw [(q (x + 1) (by omega) (by omega)).1]; exact hC.2.2.2.2.2.2
end
