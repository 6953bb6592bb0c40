/-! A SHED becomes another -/
section
variable {τ : gτ} {n : Nat} {G : gG} {a b p q : Nat} {ω : gW}
theorem s_yb (hpq : q ≠ p) {i : Nat} (h : YV G q ω i) : ∃ G', f_X9_become p q G = some G' ∧ YV G' p ω i ∧ Fr (fun b => b = p) G G' := by
  have fi : ∀ {G : gG} {c k : Nat} {v : Int32}, Fr (fun b => b = p) G (gsi G c k p v) := fun {G c k v} => Fr.i (A := fun b => b = p) rfl
  obtain ⟨h0, h1, h2, h3⟩ := h
  refine ⟨_, rfl, ?_, ((fi.tr fi).tr fi).tr fi⟩
  refine ⟨?_, ?_, ?_, ?_⟩ <;> simp [ka_ii, hpq, h0, h1, h2, h3]
theorem s_ob (hpq : q ≠ p) {i : Nat} (h : OV G q ω i) : ∃ G', f_X4_become p q G = some G' ∧ OV G' p ω i ∧ Fr (fun b => b = p) G G' := by
  have fi : ∀ {G : gG} {c k : Nat} {v : Int32}, Fr (fun b => b = p) G (gsi G c k p v) := fun {G c k v} => Fr.i (A := fun b => b = p) rfl
  obtain ⟨h0, h1, h2⟩ := h
  refine ⟨_, rfl, ?_, (fi.tr fi).tr fi⟩
  refine ⟨?_, ?_, ?_⟩ <;> simp [ka_ii, hpq, h0, h1, h2]
theorem s_rb (hpq : q ≠ p) {i : Nat} (h : RV G q ω i) (h6 : rv ω i 6 = 0 ∨ rv ω i 6 = 1) (h8 : rv ω i 8 = 0 ∨ rv ω i 8 = 1) : ∃ G', f_X5_become p q G = some G' ∧ RV G' p ω i ∧ Fr (fun b => b = p) G G' := by
  have fi : ∀ {G : gG} {c k : Nat} {v : Int32}, Fr (fun b => b = p) G (gsi G c k p v) := fun {G c k v} => Fr.i (A := fun b => b = p) rfl
  obtain ⟨r0, r1, r2, r3, r4, r5, r6, r7, r8, r9⟩ := h
  unfold f_X5_become
  simp only [ka_letE]
  have e8 : ∀ {G : gG} {c k : Nat} {v : Int32} {c' k' : Nat}, gi (gsi G c k p v) c' k' q = gi G c' k' q := fun {G c k v c' k'} => by rw [ka_ii, if_neg (fun e => hpq e.2.2)]
  simp only [e8, r8, r9]
  rw [ka_chkT h6, ka_chkT h8]
  refine ⟨_, rfl, ?_, ((((((((fi.tr fi).tr fi).tr fi).tr fi).tr fi).tr fi).tr fi).tr fi).tr fi⟩
  refine ⟨?_, ?_, ?_, ?_, ?_, ?_, ?_, ?_, ?_, ?_⟩ <;> simp [ka_ii, r0, r1, r2, r3, r4, r5, r6, r7]
/-- the span of a Shed -/
abbrev spn (a : Nat) : Nat → Prop := fun c => a ≤ c ∧ c ≤ a + 31
theorem s_lb (hA : FS τ G a) (hB : FS τ G b) (hab : a + 31 < b ∨ b + 31 < a) : ∃ G', f_X0_become τ (a + 4) (b + 4) G = some G' ∧ gi G' 0 1 (a + 4) = gi G 0 1 (b + 4) ∧ gi G' 0 2 (a + 4) = gi G 0 2 (b + 4) ∧ (∀ j, j < 300 → ge G' (a + 5) j = ge G (b + 5) j) ∧ Fr (fun c => c = a + 4 ∨ c = a + 5) G G' ∧ ∀ c k d, gr G' c k d = gr G c k d := by
  have e0 : (0 : Int32).toNatClampNeg = 0 := rfl
  have e300 : (nI 300).toNatClampNeg = 300 := nI_clamp (by decide)
  have hne : ¬ b + 4 = a + 4 := by omega
  unfold f_X0_become
  rw [hB.rf.2.2.2.2, ka_bs, hA.rf.2.2.2.2, ka_bs, ka_bs, hA.ln.2.2.2, hB.ln.2.2.2, ka_chkT ⟨by decide, by decide, nI_pos (by decide), by rw [e0, e300]; decide, by rw [e0, e300]; decide⟩, ka_letE, ka_letE, ka_letE, e0, e300]
  refine ⟨_, rfl, ?_, ?_, fun j hj => ?_, ((Fr.w (Or.inr rfl)).tr (Fr.i (Or.inl rfl))).tr (Fr.i (Or.inl rfl)), fun _ _ _ => rfl⟩
  · simp [ka_ii, ka_iw, hne]
  · simp [ka_ii, ka_iw, hne]
  · rw [ka_ei, ka_ei, ka_ew, if_pos rfl, pk_cpy_in (by omega) (by omega)]
    congr 1
    omega
theorem FS.to {A : Nat → Prop} {G1 : gG} (hA : FS τ G a) (hf : Fr A G G1) (h : ∀ c, a ≤ c → c ≤ a + 4 → ¬ A c) : FS τ G1 a := by
  obtain ⟨f1, f2, f3, f4, f5⟩ := hA
  refine ⟨?_, f2, fun i hi => ⟨?_, (f3 i hi).2⟩, fun i hi => ⟨?_, (f4 i hi).2⟩, fun i hi => ⟨?_, (f5 i hi).2⟩⟩
  · simp only [(hf a (h a (by omega) (by omega))).2.1, (hf (a + 4) (h _ (by omega) (by omega))).2.1]; exact f1
  · rw [(hf (a + 1) (h _ (by omega) (by omega))).2.2.2.1]; exact (f3 i hi).1
  · rw [(hf (a + 2) (h _ (by omega) (by omega))).2.2.2.1]; exact (f4 i hi).1
  · rw [(hf (a + 3) (h _ (by omega) (by omega))).2.2.2.1]; exact (f5 i hi).1
abbrev sp6 (a : Nat) : Nat → Prop := fun c => a + 6 ≤ c ∧ c ≤ a + 31
theorem s_bec1 (hA : FS τ G a) (hB : FS τ G b) (hV : VS G b ω) (hI : WI ω) (hab : a + 31 < b ∨ b + 31 < a) (hn : 500 < n) : gOk (l_X6_become_2 τ n a b 0 G) (fun G1 => (∀ i, i < cY ω → YV G1 (a + 6 + i) ω i) ∧ Fr (fun c => a + 6 ≤ c ∧ c ≤ a + 15) G G1) := by
  have hy := hI.y1
  unfold l_X6_become_2
  refine ka_loop (cY ω) (fun k q => q.1 = nI k ∧ (∀ i, i < k → YV q.2 (a + 6 + i) ω i) ∧ Fr (fun c => a + 6 ≤ c ∧ c ≤ a + 15) G q.2) (by omega) ⟨rfl, fun i hi => by omega, Fr.rf⟩ (fun k q hk hp => ?_)
  obtain ⟨y, G1⟩ := q
  obtain ⟨e1, e2, e3⟩ := hp
  have e1 : y = nI k := e1
  have e2 : ∀ i, i < k → YV G1 (a + 6 + i) ω i := e2
  have e3 : Fr (fun c => a + 6 ≤ c ∧ c ≤ a + 15) G G1 := e3
  subst e1
  have hA1 := hA.to e3 fun c h1 h2 => by omega
  have hB1 := e3.fs hB fun c h1 h2 => by omega
  have hV1 := e3.vs hI hV fun c h1 h2 => by omega
  show gOk (b_X6_become_2 τ n a b (nI k) G1) _
  unfold b_X6_become_2
  rw [hV1.cn.1, hI.y0]
  by_cases hlt : k < cY ω
  · rw [if_neg (nI_ge hlt (by omega)), hA1.rf.1, ka_bs, hA1.y (show k < 10 by omega), hB1.rf.1, ka_bs, hB1.y (show k < 10 by omega)]
    obtain ⟨G2, h1, h2, h3⟩ := s_yb (p := a + 6 + k) (q := b + 6 + k) (by omega) (hV1.2.1 k hlt)
    rw [h1, ka_bs, ka_letE, nI_1]
    refine ⟨_, rfl, hlt, rfl, fun i hi => ?_, e3.tr (h3.mono fun c hc => by omega)⟩
    show YV G2 (a + 6 + i) ω i
    by_cases hik : i = k
    · rw [hik]; exact h2
    · have hs := h3 (a + 6 + i) (by omega)
      have := e2 i (by omega)
      unfold YV at this ⊢
      simp only [hs.1]
      exact this
  · have hkN : k = cY ω := by omega
    subst hkN
    rw [if_pos (nI_le (Nat.le_refl _) (by omega))]
    exact ⟨_, rfl, e2, e3⟩
theorem s_bec2 (hA : FS τ G a) (hB : FS τ G b) (hV : VS G b ω) (hI : WI ω) (hab : a + 31 < b ∨ b + 31 < a) (hn : 500 < n) : gOk (l_X6_become_33 τ n a b 0 G) (fun G1 => (∀ i, i < cR ω → RV G1 (a + 16 + i) ω i) ∧ Fr (fun c => a + 16 ≤ c ∧ c ≤ a + 23) G G1) := by
  have hy := hI.r1
  unfold l_X6_become_33
  refine ka_loop (cR ω) (fun k q => q.1 = nI k ∧ (∀ i, i < k → RV q.2 (a + 16 + i) ω i) ∧ Fr (fun c => a + 16 ≤ c ∧ c ≤ a + 23) G q.2) (by omega) ⟨rfl, fun i hi => by omega, Fr.rf⟩ (fun k q hk hp => ?_)
  obtain ⟨y, G1⟩ := q
  obtain ⟨e1, e2, e3⟩ := hp
  have e1 : y = nI k := e1
  have e2 : ∀ i, i < k → RV G1 (a + 16 + i) ω i := e2
  have e3 : Fr (fun c => a + 16 ≤ c ∧ c ≤ a + 23) G G1 := e3
  subst e1
  have hA1 := hA.to e3 fun c h1 h2 => by omega
  have hB1 := e3.fs hB fun c h1 h2 => by omega
  have hV1 := e3.vs hI hV fun c h1 h2 => by omega
  show gOk (b_X6_become_33 τ n a b (nI k) G1) _
  unfold b_X6_become_33
  rw [hV1.cn.2.1, hI.r0]
  by_cases hlt : k < cR ω
  · have hK := hI.r hlt
    rw [if_neg (nI_ge hlt (by omega)), hA1.rf.2.1, ka_bs, hA1.r (show k < 8 by omega), hB1.rf.2.1, ka_bs, hB1.r (show k < 8 by omega)]
    obtain ⟨G2, h1, h2, h3⟩ := s_rb (p := a + 16 + k) (q := b + 16 + k) (by omega) (hV1.r hlt) (bt01 hK.2.2.1.2.2.2.1) (bt01 hK.2.2.1.2.2.2.2.1)
    rw [h1, ka_bs, ka_letE, nI_1]
    refine ⟨_, rfl, hlt, rfl, fun i hi => ?_, e3.tr (h3.mono fun c hc => by omega)⟩
    show RV G2 (a + 16 + i) ω i
    by_cases hik : i = k
    · rw [hik]; exact h2
    · exact (h3 (a + 16 + i) (by omega)).vr (e2 i (by omega))
  · have hkN : k = cR ω := by omega
    subst hkN
    rw [if_pos (nI_le (Nat.le_refl _) (by omega))]
    exact ⟨_, rfl, e2, e3⟩
theorem s_bec3 (hA : FS τ G a) (hB : FS τ G b) (hV : VS G b ω) (hI : WI ω) (hab : a + 31 < b ∨ b + 31 < a) (hn : 500 < n) : gOk (l_X6_become_64 τ n a b 0 G) (fun G1 => (∀ i, i < cO ω → OV G1 (a + 24 + i) ω i) ∧ Fr (fun c => a + 24 ≤ c ∧ c ≤ a + 31) G G1) := by
  have hy := hI.o1
  unfold l_X6_become_64
  refine ka_loop (cO ω) (fun k q => q.1 = nI k ∧ (∀ i, i < k → OV q.2 (a + 24 + i) ω i) ∧ Fr (fun c => a + 24 ≤ c ∧ c ≤ a + 31) G q.2) (by omega) ⟨rfl, fun i hi => by omega, Fr.rf⟩ (fun k q hk hp => ?_)
  obtain ⟨y, G1⟩ := q
  obtain ⟨e1, e2, e3⟩ := hp
  have e1 : y = nI k := e1
  have e2 : ∀ i, i < k → OV G1 (a + 24 + i) ω i := e2
  have e3 : Fr (fun c => a + 24 ≤ c ∧ c ≤ a + 31) G G1 := e3
  subst e1
  have hA1 := hA.to e3 fun c h1 h2 => by omega
  have hB1 := e3.fs hB fun c h1 h2 => by omega
  have hV1 := e3.vs hI hV fun c h1 h2 => by omega
  show gOk (b_X6_become_64 τ n a b (nI k) G1) _
  unfold b_X6_become_64
  rw [hV1.cn.2.2.1, hI.o0]
  by_cases hlt : k < cO ω
  · rw [if_neg (nI_ge hlt (by omega)), hA1.rf.2.2.1, ka_bs, hA1.o (show k < 8 by omega), hB1.rf.2.2.1, ka_bs, hB1.o (show k < 8 by omega)]
    obtain ⟨G2, h1, h2, h3⟩ := s_ob (p := a + 24 + k) (q := b + 24 + k) (by omega) (hV1.2.2.2.1 k hlt)
    rw [h1, ka_bs, ka_letE, nI_1]
    refine ⟨_, rfl, hlt, rfl, fun i hi => ?_, e3.tr (h3.mono fun c hc => by omega)⟩
    show OV G2 (a + 24 + i) ω i
    by_cases hik : i = k
    · rw [hik]; exact h2
    · have hs := h3 (a + 24 + i) (by omega)
      have := e2 i (by omega)
      unfold OV at this ⊢
      simp only [hs.1]
      exact this
  · have hkN : k = cO ω := by omega
    subst hkN
    rw [if_pos (nI_le (Nat.le_refl _) (by omega))]
    exact ⟨_, rfl, e2, e3⟩
theorem s_become (hA : FS τ G a) (hB : FS τ G b) (hV : VS G b ω) (hI : WI ω) (hab : a + 31 < b ∨ b + 31 < a) (hn : 500 < n) : gOk (f_X6_become τ n a b G) (fun G' => VS G' a ω ∧ FS τ G' a ∧ Fr (spn a) G G') := by
  have hl := hI.l0
  have hy1 := hI.y1
  have hr1 := hI.r1
  have ho1 := hI.o1
  unfold f_X6_become k_X6_become_31 k_X6_become_62
  rw [ka_bind]
  refine gOk.mono (s_bec1 hA hB hV hI hab hn) fun G1 h1 => ?_
  obtain ⟨y1, f1⟩ := h1
  have hA1 := hA.to f1 fun c h1 h2 => by omega
  have hB1 := f1.fs hB fun c h1 h2 => by omega
  have hV1 := f1.vs hI hV fun c h1 h2 => by omega
  rw [ka_letE, ka_bind]
  refine gOk.mono (s_bec2 hA1 hB1 hV1 hI hab hn) fun G2 h2 => ?_
  obtain ⟨y2, f2⟩ := h2
  have hA2 := hA1.to f2 fun c h1 h2 => by omega
  have hB2 := f2.fs hB1 fun c h1 h2 => by omega
  have hV2 := f2.vs hI hV1 fun c h1 h2 => by omega
  rw [ka_letE, ka_bind]
  refine gOk.mono (s_bec3 hA2 hB2 hV2 hI hab hn) fun G3 h3 => ?_
  obtain ⟨y3, f3⟩ := h3
  have hA3 := hA2.to f3 fun c h1 h2 => by omega
  have hB3 := f3.fs hB2 fun c h1 h2 => by omega
  have hV3 := f3.vs hI hV2 fun c h1 h2 => by omega
  obtain ⟨G4, e4, l1, l2, l3, f4, g4⟩ := s_lb hA3 hB3 hab
  have hB4 := f4.fs hB3 fun c h1 h2 => by omega
  have hV4 := f4.vs hI hV3 fun c h1 h2 => by omega
  rw [ka_letE]
  unfold k_X6_become_93
  rw [hA3.rf.2.2.2.1, ka_bs, hB3.rf.2.2.2.1, ka_bs, e4, ka_bs]
  simp only [ka_letE]
  have fi : ∀ {G : gG} {c k : Nat} {v : Int32}, Fr (fun c => c = a) G (gsi G c k a v) := fun {G c k v} => Fr.i (A := fun c => c = a) rfl
  have hba : ¬ b = a := by omega
  have eb : ∀ {G : gG} {c k : Nat} {v : Int32} {c' k' : Nat}, gi (gsi G c k a v) c' k' b = gi G c' k' b := fun {G c k v c' k'} => by rw [ka_ii, if_neg (fun e => hba e.2.2)]
  simp only [eb, hV4.cn]
  have f5 : Fr (fun c => c = a) G4 (gsi (gsi (gsi (gsi (gsi (gsi (gsi (gsi (gsi (gsi (gsi G4 6 4 a (ω 0)) 6 5 a (ω 1)) 6 6 a (ω 2)) 6 7 a (ω 3)) 6 8 a (ω 6)) 6 9 a (ω 7)) 6 10 a (ω 5)) 6 11 a (ω 12)) 6 12 a (ω 10)) 6 13 a (ω 8)) 6 14 a (ω 9)) := (((((((((fi.tr fi).tr fi).tr fi).tr fi).tr fi).tr fi).tr fi).tr fi).tr fi).tr fi
  refine ⟨_, rfl, ⟨?_, fun i hi => ?_, fun i hi => ?_, fun i hi => ?_, ?_⟩, ?_, ?_⟩
  · refine ⟨?_, ?_, ?_, ?_, ?_, ?_, ?_, ?_, ?_, ?_, ?_⟩ <;> simp [ka_ii]
  · have hs := (((f2 (a + 6 + i) (by omega)).tr (f3 (a + 6 + i) (by omega))).tr (f4 (a + 6 + i) (by omega))).tr (f5 (a + 6 + i) (by omega))
    have := y1 i hi
    unfold YV at this ⊢
    simp only [hs.1]
    exact this
  · exact (((f3 (a + 16 + i) (by omega)).tr (f4 (a + 16 + i) (by omega))).tr (f5 (a + 16 + i) (by omega))).vr (y2 i hi)
  · have hs := (f4 (a + 24 + i) (by omega)).tr (f5 (a + 24 + i) (by omega))
    have := y3 i hi
    unfold OV at this ⊢
    simp only [hs.1]
    exact this
  · obtain ⟨q1, nx, q2, q3, q4⟩ := hV3.2.2.2.2
    have s4 := f5 (a + 4) (by omega)
    have s5 := f5 (a + 5) (by omega)
    refine ⟨?_, nx, q2, ?_, fun q w hq hw => ?_⟩
    · rw [s4.1, l1]; exact q1
    · rw [s4.1, l2]; exact q3
    · have : (nx + 59 - q) % 60 < 60 := Nat.mod_lt _ (by decide)
      rw [s5.2.2.1, l3 _ (by omega)]
      exact q4 q w hq hw
  · obtain ⟨q1, q2, q3, q4, q5⟩ := hA3
    refine ⟨?_, q2, fun i hi => ⟨?_, (q3 i hi).2⟩, fun i hi => ⟨?_, (q4 i hi).2⟩, fun i hi => ⟨?_, (q5 i hi).2⟩⟩
    · simp only [ka_ri, g4]; exact q1
    · simp only [ka_qi]; rw [(f4 (a + 1) (by omega)).2.2.2.1]; exact (q3 i hi).1
    · simp only [ka_qi]; rw [(f4 (a + 2) (by omega)).2.2.2.1]; exact (q4 i hi).1
    · simp only [ka_qi]; rw [(f4 (a + 3) (by omega)).2.2.2.1]; exact (q5 i hi).1
  · exact ((((f1.mono fun c hc => by show _ ∧ _; omega).tr (f2.mono fun c hc => by show _ ∧ _; omega)).tr (f3.mono fun c hc => by show _ ∧ _; omega)).tr (f4.mono fun c hc => by show _ ∧ _; omega)).tr (f5.mono fun c hc => by show _ ∧ _; omega)
end
