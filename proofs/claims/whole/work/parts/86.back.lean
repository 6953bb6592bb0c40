/-! CALLS: back -/
section
variable {ω ω' : gW}
theorem ty_lo (h : ∀ j, j < 1316 → ω' j = ω j) (b : Nat) : ∀ k, b + k ≤ 400 → tyR ω' b k = tyR ω b k := by
  intro k
  induction k with
  | zero => intro _; rfl
  | succ k ih =>
    intro hk
    show (tyR ω' b k).bind (tyS (sc ω' (b + k))) = (tyR ω b k).bind (tyS (sc ω (b + k)))
    rw [ih (by omega), show sc ω' (b + k) = sc ω (b + k) from h _ (by omega)]
theorem li_lo (h : ∀ j, j < 1316 → ω' j = ω j) (hI : LI ω) : LI ω' := by
  have e_lw : ∀ k j, k < 12 → j < 4 → lw ω' k j = lw ω k j := fun k j h1 h2 => h _ (by omega)
  have e_lb : ∀ k, k < 12 → lb ω' k = lb ω k := fun k hk => by unfold lb; rw [e_lw k 2 hk (by decide)]
  have e_le : ∀ k, k < 12 → le ω' k = le ω k := fun k hk => by unfold le; rw [e_lw k 3 hk (by decide)]
  have e_n : cLn ω' = cLn ω := by unfold cLn; rw [h 467 (by omega)]
  unfold LI at hI ⊢
  rw [h 4 (by decide), h 467 (by omega), e_n]
  intro h4
  obtain ⟨a, b, c⟩ := hI h4
  refine ⟨a, b, fun ln hl => ?_⟩
  have h12 : ln < 12 := by omega
  obtain ⟨c1, c2, c3, ⟨d1, d2, d3, d4, d5⟩, c5⟩ := c ln hl
  rw [e_lw ln 0 h12 (by decide), e_lw ln 1 h12 (by decide), e_lw ln 2 h12 (by decide), e_lw ln 3 h12 (by decide), e_lb ln h12, e_le ln h12, e_le (ln - 1) (by omega)]
  refine ⟨c1, c2, c3, ⟨d1, d2, ?_, fun k hk => ?_, fun k h1 h2 => ?_⟩, c5⟩
  · rw [ty_lo h _ _ (by omega)]; exact d3
  · rw [ty_lo h _ _ (by omega)]; exact d4 k hk
  · have := d5 k h1 h2
    unfold stV sc sn at this ⊢
    rw [h (516 + 2 * k) (by omega), h (517 + 2 * k) (by omega)]
    exact this
theorem lv_lo (h : ∀ j, j < 1316 → ω' j = ω j) (hI : LI ω) {G : gG} {l : Nat} (hV : LV G l ω) : LV G l ω' := by
  have e_lw : ∀ k j, k < 12 → j < 4 → lw ω' k j = lw ω k j := fun k j h1 h2 => h _ (by omega)
  have e_lb : ∀ k, k < 12 → lb ω' k = lb ω k := fun k hk => by unfold lb; rw [e_lw k 2 hk (by decide)]
  have e_le : ∀ k, k < 12 → le ω' k = le ω k := fun k hk => by unfold le; rw [e_lw k 3 hk (by decide)]
  have e_n : cLn ω' = cLn ω := by unfold cLn; rw [h 467 (by omega)]
  obtain ⟨v1, v2, v3⟩ := hV
  unfold LV
  rw [h 4 (by decide), h 467 (by decide), e_n]
  refine ⟨v1, v2, fun h4 => ?_⟩
  obtain ⟨-, b, c⟩ := hI h4
  obtain ⟨w1, w2⟩ := v3 h4
  refine ⟨w1, fun ln hl => ?_⟩
  have h12 : ln < 12 := by omega
  obtain ⟨-, -, -, ⟨-, d2, -⟩, -⟩ := c ln hl
  obtain ⟨z1, z2, z3, z4⟩ := w2 ln hl
  rw [e_lw ln 0 h12 (by decide), e_lw ln 1 h12 (by decide), e_lw ln 3 h12 (by decide), e_lb ln h12, e_le ln h12]
  refine ⟨z1, z2, z3, fun k h1 h2 => ?_⟩
  have := z4 k h1 h2
  unfold sc sn at this ⊢
  rw [h (516 + 2 * k) (by omega), h (517 + 2 * k) (by omega)]
  exact this
/-- the image's world, brought back -/
def bkW (w ω : gW) : gW := fun j => if j < 1316 then w j else ω j
theorem bkW_lo {w : gW} : ∀ j, j < 1316 → bkW w ω j = w j := fun j hj => if_pos hj
end
section
variable {τ : gτ} {n : Nat} {G G' : gG} {x m s t l l' o : Nat} {ω w : gW} {im : Option gW} {me : List gW} {ta : List Nat} {fa : Int32}
theorem c_back (hC : CV τ G x s t l l' ω (some w) me ta fa) (hI : IV ω (some w) me ta) (hn : 500 < n) : gOk (f_X10_back τ n x G) (fun q => q.1 = 1 ∧ CV τ q.2 x s t l l' (bkW w ω) (some w) [] ta fa ∧ Fr (fun b => x ≤ b ∧ b ≤ x + 511) G q.2) := by
  have hsl := hC.sl
  obtain ⟨h1, h2, h3, h4, ⟨f1, f2, f3, f4⟩, ⟨g1, g2, g3⟩, h7, h8⟩ := hC.1
  have hrf := hC.rf
  obtain ⟨hWw, hLw⟩ := hI.2.2.1 w rfl
  obtain ⟨i1, i2⟩ := hC.2.2.2.1
  obtain ⟨hVw, hVl⟩ := i2 w rfl
  have i1 : gi G 10 14 x = 1 := i1
  unfold f_X10_back
  rw [i1, if_neg ka_n10, hrf.2.2.2.2.2.2.2.2.2.2.1, ka_bs, hrf.2.2.2.2.1, ka_bs, ka_bind]
  refine gOk.mono (s_become hC.fs.1 f3 hVw hWw (by omega) hn) fun G3 hG3 => ?_
  obtain ⟨v3, s3, fr3⟩ := hG3
  have fr3 : Fr (fun c => s ≤ c ∧ c ≤ s + 31) G G3 := fr3
  have x3 := fr3 x (by omega)
  rw [x3.2.1, x3.2.1, hrf.2.2.2.2.2.2.2.2.2.2.2.2.1, ka_bs, hrf.2.2.2.2.2.1, ka_bs, ka_bind]
  have lv3 : LV G3 (x + 423) w := fr3.lv hVl fun b c1 c2 => by omega
  refine gOk.mono (s_lbec (fr3.fl hC.fl.1 (by omega)) (fr3.fl g1 (by omega)) lv3 hWw hLw (by omega)) fun G6 hG6 => ?_
  obtain ⟨v6, r6, fr6⟩ := hG6
  rw [r6, x3.2.1, hrf.2.2.2.1, ka_bs, ka_bind]
  unfold f_X3_forget
  rw [ka_letE]
  have fr7 : Fr (fun b => b = x + 5) G6 (gsi G6 3 1 (x + 5) 0) := Fr.i rfl
  have p1 : gi (gsi G6 3 1 (x + 5) 0) 3 1 (x + 5) = 0 := by simp [ka_ii]
  have p2 : gi (gsi G6 3 1 (x + 5) 0) 3 2 (x + 5) = gi G6 3 2 (x + 5) := by simp [ka_ii]
  have r7 : ∀ c k d, gr (gsi G6 3 1 (x + 5) 0) c k d = gr G3 c k d := fun c k d => r6 c k d
  generalize gsi G6 3 1 (x + 5) 0 = G7 at fr7 p1 p2 r7
  have fA : Fr (fun b => b = x + 5 ∨ (s ≤ b ∧ b ≤ s + 31) ∨ (l ≤ b ∧ b ≤ l + 4)) G G7 := ((fr3.mono fun b hb => Or.inr (Or.inl hb)).tr (fr6.mono fun b hb => Or.inr (Or.inr hb))).tr (fr7.mono fun b hb => Or.inl hb)
  obtain ⟨nx, m1, m2, m3, m4⟩ := hC.2.2.2.2.1
  have fsA : ∀ {a : Nat}, (a = s ∨ (a + 31 < s ∨ s + 31 < a)) → (x + 5 < a) → (a + 31 < l ∨ l + 4 < a) → FS τ G a → FS τ G7 a := fun {a} ha h5 hl hf => by
    by_cases has : a = s
    · rw [has]; exact fr7.fs (fr6.fs s3 fun b c1 c2 => by omega) fun b c1 c2 => by omega
    · exact fA.fs hf fun b c1 c2 => by omega
  have flA : ∀ {a : Nat}, x + 5 < a → (a < s ∨ s + 31 < a) → FL τ G a → FL τ G7 a := fun {a} h5 hl hf => by
    have := fr3.fl hf (by omega)
    unfold FL at this ⊢
    simp only [r7]
    exact this
  refine ⟨_, rfl, ?_⟩
  refine ⟨_, rfl, rfl, ⟨⟨?_, ?_, h3, fun k hk => ?_, ⟨?_, ?_, ?_, fun k hk => ?_⟩, ⟨?_, ?_, ?_⟩, h7, h8⟩, ?_, ?_, ⟨?_, fun v hv => ?_⟩, ⟨nx, m1, p1, ?_, fun j v hj => ?_⟩, ⟨?_, fun j b hj => ?_⟩, ?_⟩, fA.mono fun b hb => by omega⟩
  · simp only [(fA x (by omega)).2.1]; exact h1
  · rw [(fA (x + 1) (by omega)).2.1, (fA (x + 3) (by omega)).2.1, (fA (x + 4) (by omega)).2.1, r7, (fr3 (x + 5) (by omega)).2.1]; exact h2
  · rw [(fA (x + 6) (by omega)).2.2.2.1]; exact h4 k hk
  · exact fsA (by omega) (by omega) (by omega) f1
  · exact fsA (by omega) (by omega) (by omega) f2
  · exact fsA (by omega) (by omega) (by omega) f3
  · exact fA.fs (f4 k hk) fun b c1 c2 => by omega
  · exact flA (by omega) (by omega) g1
  · exact flA (by omega) (by omega) g2
  · exact flA (by omega) (by omega) g3
  · exact vs_of (fun j hj => bkW_lo j (by omega)) hWw (fr7.vs hWw (fr6.vs hWw v3 fun b c1 c2 => by omega) fun b c1 c2 => by omega)
  · exact lv_lo bkW_lo hLw (fr7.lv v6 fun b c1 c2 => by omega)
  · rw [(fA x (by omega)).1]; exact i1
  · cases hv
    exact ⟨fA.vs hWw hVw fun b c1 c2 => by omega, fA.lv hVl fun b c1 c2 => by omega⟩
  · rw [p2, (fr6 (x + 5) (by omega)).1, (fr3 (x + 5) (by omega)).1]; exact m3
  · cases hj
  · rw [(fA (x + 1) (by omega)).1]; exact hC.2.2.2.2.2.1.1
  · rw [(fA (x + 2) (by omega)).2.2.1]; exact hC.2.2.2.2.2.1.2 j b hj
  · rw [(fA (x + 1) (by omega)).1]; exact hC.2.2.2.2.2.2
end
