/-! CALLS: lay -/
section
variable {τ : gτ} {n : Nat} {G G' : gG} {x m s t l l' o : Nat} {ω ω' : gW} {im : Option gW} {me : List gW} {ta : List Nat} {fa : Int32}
theorem yat_e (r k : Nat) : f_X11_yarnAt (nI r) (nI k) = some (nI (13 + 4 * r + k)) := by
  unfold f_X11_yarnAt
  rw [show (13 : Int32) = nI 13 from rfl, show (4 : Int32) = nI 4 from rfl, pk_mul, nI_add, nI_add]
/-- fathoms taken from a yarn -/
def yW (ω : gW) (a : Nat) (v : Int32) : gW := wSt ω (13 + 4 * a + 1) (yv ω a 1 - v)
theorem yW.xx {a j : Nat} {v : Int32} (ha : a < 10) (h : j < 13 ∨ 53 ≤ j) : yW ω a v j = ω j := wSt_ne (by omega)
theorem yW.e {a i k : Nat} {v : Int32} (hk : k < 4) : yv (yW ω a v) i k = if i = a ∧ k = 1 then yv ω a 1 - v else yv ω i k := by
  unfold yW
  by_cases h : i = a ∧ k = 1
  · rw [if_pos h, h.1, h.2]; exact wSt_eq
  · rw [if_neg h]; exact wSt_ne (by omega)
def tkW (ω : gW) (ys : Nat → Nat) (v : Int32) : Nat → gW
  | 0 => ω
  | c + 1 => yW (tkW ω ys v c) (ys c) v
theorem tkW.xx {ys : Nat → Nat} {v : Int32} (hy : ∀ c, c < 3 → ys c < 10) {j : Nat} (h : j < 13 ∨ 53 ≤ j) : ∀ {c : Nat}, c ≤ 3 → tkW ω ys v c j = ω j
  | 0, _ => rfl
  | c + 1, hc => (yW.xx (hy c (by omega)) h).trans (tkW.xx hy h (by omega))
def y3 (a b d : Nat) : Nat → Nat
  | 0 => a
  | 1 => b
  | _ => d
def layW (ω : gW) (a b d : Nat) (v : Int32) : gW := wSt (tkW (tr ω (cR ω) (nI a) (nI b) (nI d) v) (y3 a b d) v 3) 1 (nI (cR ω + 1))
theorem y3.lt {a b d : Nat} (ha : a < 10) (hb : b < 10) (hd : d < 10) : ∀ c, c < 3 → y3 a b d c < 10
  | 0, _ => ha
  | 1, _ => hb
  | 2, _ => hd
theorem tr_x {r j : Nat} {p q u v : Int32} (h : j < 53 + 10 * r ∨ 63 + 10 * r ≤ j) : tr ω r p q u v j = ω j := if_neg (by omega)
theorem layW.xx {a b d j : Nat} {v : Int32} (ha : a < 10) (hb : b < 10) (hd : d < 10) (h8 : cR ω < 8) (h1 : j ≠ 1) (h : j < 13 ∨ 133 ≤ j) : layW ω a b d v j = ω j := by
  unfold layW
  rw [wSt_ne h1, tkW.xx (y3.lt ha hb hd) (by omega) (Nat.le_refl 3), tr_x (by omega)]
theorem layW.c {a b d : Nat} {v : Int32} (h8 : cR ω < 8) : cR (layW ω a b d v) = cR ω + 1 := by
  show (layW ω a b d v 1).toNatClampNeg = _
  unfold layW
  rw [wSt_eq, nI_clamp (by omega)]
theorem layW.r {a b d i j : Nat} {v : Int32} (ha : a < 10) (hb : b < 10) (hd : d < 10) (hi : i < 9) (hj : j < 10) : rv (layW ω a b d v) i j = rv (tr ω (cR ω) (nI a) (nI b) (nI d) v) i j := by
  unfold layW
  rw [rv_lo (by decide) hi hj]
  exact tkW.xx (y3.lt ha hb hd) (by omega) (Nat.le_refl 3)
theorem layW.oo {a b d i j : Nat} {v : Int32} (ha : a < 10) (hb : b < 10) (hd : d < 10) (hi : i < 9) (hj : j < 10) (hir : i ≠ cR ω) : rv (layW ω a b d v) i j = rv ω i j := by
  rw [layW.r ha hb hd hi hj]
  exact tr_x (by omega)
theorem layW.y {a b d i k : Nat} {v : Int32} (hab : a ≠ b) (had : a ≠ d) (hbd : b ≠ d) (hi : i < 10) (hk : k < 4) : yv (layW ω a b d v) i k = if (i = a ∨ i = b ∨ i = d) ∧ k = 1 then yv ω i 1 - v else yv ω i k := by
  have e0 : ∀ i k, i < 10 → k < 4 → yv (tr ω (cR ω) (nI a) (nI b) (nI d) v) i k = yv ω i k := fun i k hi hk => tr_x (by omega)
  unfold layW
  rw [yv_hi (by decide) hi hk]
  show yv (yW (yW (yW (tr ω (cR ω) (nI a) (nI b) (nI d) v) a v) b v) d v) i k = _
  rw [yW.e hk, yW.e hk, yW.e hk, yW.e (by decide), yW.e (by decide), yW.e (by decide), e0 i k hi hk]
  by_cases h1 : k = 1
  · subst h1
    by_cases hd : i = d
    · subst hd
      rw [if_pos ⟨rfl, rfl⟩, if_neg (fun h => hbd h.1.symm), if_neg (fun h => had h.1.symm), e0 _ _ hi (by decide), if_pos ⟨Or.inr (Or.inr rfl), rfl⟩]
    · rw [if_neg (fun h => hd h.1)]
      by_cases hb : i = b
      · subst hb
        rw [if_pos ⟨rfl, rfl⟩, if_neg (fun h => hab h.1.symm), e0 _ _ hi (by decide), if_pos ⟨Or.inr (Or.inl rfl), rfl⟩]
      · rw [if_neg (fun h => hb h.1)]
        by_cases ha : i = a
        · subst ha
          rw [if_pos ⟨rfl, rfl⟩, e0 _ _ hi (by decide), if_pos ⟨Or.inl rfl, rfl⟩]
        · rw [if_neg (fun h => ha h.1), if_neg (fun h => h.1.elim ha (fun h => h.elim hb hd))]
  · rw [if_neg (fun h => h1 h.2), if_neg (fun h => h1 h.2), if_neg (fun h => h1 h.2), if_neg (fun h => h1 h.2)]
theorem layW.y1 {a b d i : Nat} {v : Int32} (hab : a ≠ b) (had : a ≠ d) (hbd : b ≠ d) (hi : i < 10) : yv (layW ω a b d v) i 1 = if i = a ∨ i = b ∨ i = d then yv ω i 1 - v else yv ω i 1 := by
  rw [layW.y hab had hbd hi (by decide)]
  by_cases h : i = a ∨ i = b ∨ i = d
  · rw [if_pos ⟨h, rfl⟩, if_pos h]
  · rw [if_neg (fun e => h e.1), if_neg h]
theorem layW.yk {a b d i k : Nat} {v : Int32} (hab : a ≠ b) (had : a ≠ d) (hbd : b ≠ d) (hi : i < 10) (hk : k < 4) (h1 : k ≠ 1) : yv (layW ω a b d v) i k = yv ω i k := by
  rw [layW.y hab had hbd hi hk, if_neg (fun e => h1 e.2)]
theorem tr_r8 {r j : Nat} {p q u v : Int32} (hj : j < 10) : rv (tr ω r p q u v) r j = rv (tr ω 8 p q u v) 8 j := by
  obtain ⟨t0, t1, t2, t3, t4, t5, t6, t7, t8, t9⟩ := tr_rv (ω := ω) (r := r) (a := p) (b := q) (c := u) (len := v)
  obtain ⟨u0, u1, u2, u3, u4, u5, u6, u7, u8, u9⟩ := tr_rv (ω := ω) (r := 8) (a := p) (b := q) (c := u) (len := v)
  match j, hj with
  | 0, _ => rw [t0, u0]
  | 1, _ => rw [t1, u1]
  | 2, _ => rw [t2, u2]
  | 3, _ => rw [t3, u3]
  | 4, _ => rw [t4, u4]
  | 5, _ => rw [t5, u5]
  | 6, _ => rw [t6, u6]
  | 7, _ => rw [t7, u7]
  | 8, _ => rw [t8, u8]
  | 9, _ => rw [t9, u9]
theorem bt_less {p v : Int32} {N : Nat} (hN : N < 2 ^ 30) (hp : bt p 0 N) (hv : bt v 1 N) (h : ¬ p < v) : bt (p - v) 0 N := by
  obtain ⟨a, -, a2, rfl⟩ := hp
  obtain ⟨b, b1, b2, rfl⟩ := hv
  have hba : b ≤ a := by
    rcases Nat.lt_or_ge a b with h' | h'
    · exact absurd (nI_lt h' (by omega)) h
    · exact h'
  exact ⟨a - b, Nat.zero_le _, by omega, nI_sub hba⟩
theorem layW.wi {a b d : Nat} {v : Int32} (hI : WI ω) (ha : a < cY ω) (hb : b < cY ω) (hd : d < cY ω) (hab : a ≠ b) (had : a ≠ d) (hbd : b ≠ d) (h8 : cR ω < 8) (hv : bt v 1 200) (hle : ¬ (yv ω a 1 < v ∨ yv ω b 1 < v ∨ yv ω d 1 < v)) : WI (layW ω a b d v) := by
  have hy := hI.y1
  have X : ∀ j, j ≠ 1 → (j < 13 ∨ 133 ≤ j) → layW ω a b d v j = ω j := fun j h1 h => layW.xx (by omega) (by omega) (by omega) h8 h1 h
  have cy : cY (layW ω a b d v) = cY ω := by unfold cY; rw [X 0 (by decide) (by decide)]
  have co : cO (layW ω a b d v) = cO ω := by unfold cO; rw [X 2 (by decide) (by decide)]
  refine wi_acts hI ⟨?_, ?_⟩ ⟨?_, ?_⟩ ⟨?_, ?_⟩ (X 3 (by decide) (by decide)) (X 4 (by decide) (by decide)) (X 5 (by decide) (by decide)) (X 6 (by decide) (by decide)) (X 7 (by decide) (by decide)) (X 11 (by decide) (by decide)) (fun i hi => ?_) (fun i hi => ?_) (fun i hi => ?_)
  · rw [cy, X 0 (by decide) (by decide)]; exact hI.y0
  · rw [cy]; exact hI.y1
  · rw [layW.c h8]
    exact wSt_eq
  · rw [layW.c h8]; omega
  · rw [co, X 2 (by decide) (by decide)]; exact hI.o0
  · rw [co]; exact hI.o1
  · rw [cy] at hi
    obtain ⟨k0, k1, k2, k3⟩ := hI.y hi
    unfold YOK
    rw [layW.yk hab had hbd (i := i) (k := 0) (by omega) (by decide) (by decide), layW.y1 hab had hbd (i := i) (by omega), layW.yk hab had hbd (i := i) (k := 2) (by omega) (by decide) (by decide), layW.yk hab had hbd (i := i) (k := 3) (by omega) (by decide) (by decide)]
    refine ⟨k0, ?_, k2, k3⟩
    by_cases h : i = a ∨ i = b ∨ i = d
    · rw [if_pos h]
      refine bt_less (by decide) k1 hv ?_
      rcases h with h | h | h
      · subst h; exact fun h => hle (Or.inl h)
      · subst h; exact fun h => hle (Or.inr (Or.inl h))
      · subst h; exact fun h => hle (Or.inr (Or.inr h))
    · rw [if_neg h]; exact k1
  · rw [layW.c h8] at hi
    by_cases hir : i = cR ω
    · subst hir
      have hK : ROK (tr ω 8 (nI a) (nI b) (nI d) v) 8 := tr_ok hI ha hb hd hab had hbd (bt_w hv (Nat.le_refl 1) (by decide)) (r := 8) (by decide) _ rfl tr_we.cs.1
      exact rok_mv hK (cy.trans tr_we.cs.1.symm) fun j hj => by rw [layW.r (by omega) (by omega) (by omega) (by omega) hj, tr_r8 hj]
    · exact rok_mv (hI.r (i := i) (by omega)) cy fun j hj => layW.oo (by omega) (by omega) (by omega) (by omega) hj hir
  · rw [co] at hi
    have hy := hI.o1
    refine (hI.o hi).mv fun q hq => ?_
    exact X _ (by omega) (by omega)
theorem layW.iv {a b d : Nat} {v : Int32} (hI : IV ω im me ta) (ha : a < cY ω) (hb : b < cY ω) (hd : d < cY ω) (hab : a ≠ b) (had : a ≠ d) (hbd : b ≠ d) (h8 : cR ω < 8) (hv : bt v 1 200) (hle : ¬ (yv ω a 1 < v ∨ yv ω b 1 < v ∨ yv ω d 1 < v)) : IV (layW ω a b d v) im me ta := by
  have hy := hI.1.y1
  exact iv_of hI (layW.wi hI.1 ha hb hd hab had hbd h8 hv hle) (layW.xx (by omega) (by omega) (by omega) h8 (by decide) (by decide)) (fun j hj => layW.xx (by omega) (by omega) (by omega) h8 (by omega) (by omega))
theorem s_addRope (hF : FS τ G s) (hV : VS G s ω) (hI : WI ω) {a b d : Nat} {v : Int32} (ha : a < cY ω) (hb : b < cY ω) (hd : d < cY ω) (hab : a ≠ b) (had : a ≠ d) (hbd : b ≠ d) (h8 : cR ω < 8) : gOk (f_X6_addRope τ s (nI a) (nI b) (nI d) v G) (fun q => q.1 = nI (cR ω) ∧ VS q.2 s (layW ω a b d v) ∧ FS τ q.2 s ∧ Fr (spn s) G q.2) := by
  have hyy := hI.y1
  have hoo := hI.o1
  obtain ⟨d0, d1, d2, d3, d4, d5, d6, d7, d8, d9, d10⟩ := hV.cn
  have fY : ∀ {G : gG} {i q : Nat} {w : Int32}, i < 10 → Fr (fun c => c = s ∨ c = s + 16 + cR ω ∨ (s + 6 ≤ c ∧ c ≤ s + 15)) G (gsi G 9 q (s + 6 + i) w) := fun {G i q w} hi => Fr.i (A := fun c => c = s ∨ c = s + 16 + cR ω ∨ (s + 6 ≤ c ∧ c ≤ s + 15)) (by omega)
  have fC : ∀ {G : gG} {q : Nat} {w : Int32}, Fr (fun c => c = s ∨ c = s + 16 + cR ω ∨ (s + 6 ≤ c ∧ c ≤ s + 15)) G (gsi G 6 q s w) := fun {G q w} => Fr.i (A := fun c => c = s ∨ c = s + 16 + cR ω ∨ (s + 6 ≤ c ∧ c ≤ s + 15)) (Or.inl rfl)
  have hF1 : FS τ (gsi G 9 1 (s + 6 + a) (gi G 9 1 (s + 6 + a) - v)) s := hF
  generalize hG1 : gsi G 9 1 (s + 6 + a) (gi G 9 1 (s + 6 + a) - v) = G1 at hF1
  have hF2 : FS τ (gsi G1 9 1 (s + 6 + b) (gi G1 9 1 (s + 6 + b) - v)) s := hF1
  generalize hG2 : gsi G1 9 1 (s + 6 + b) (gi G1 9 1 (s + 6 + b) - v) = G2 at hF2
  have hF3 : FS τ (gsi G2 9 1 (s + 6 + d) (gi G2 9 1 (s + 6 + d) - v)) s := hF2
  generalize hG3 : gsi G2 9 1 (s + 6 + d) (gi G2 9 1 (s + 6 + d) - v) = G3 at hF3
  have f3 : Fr (fun c => c = s ∨ c = s + 16 + cR ω ∨ (s + 6 ≤ c ∧ c ≤ s + 15)) G G3 := by
    rw [← hG3, ← hG2, ← hG1]
    exact ((fY (by omega)).tr (fY (by omega))).tr (fY (by omega))
  have n3 : gi G3 6 5 s = nI (cR ω) := by
    rw [← hG3, ← hG2, ← hG1]
    simp only [ka_ii]
    simp [d1, hI.r0]
  obtain ⟨G4, e4, hR4, f4⟩ := s_beLaid (ω := ω) (a := s + 16 + cR ω) (p := nI a) (q := nI b) (r := nI d) (len := v) (G := G3)
  unfold f_X6_addRope
  rw [d1, hI.r0, if_pos (show nI (cR ω) < 8 from nI_lt (b := 8) h8 (by decide)), hF.yarnAt (by omega), ka_bs, hF.ky (by omega), ka_letE, hG1, hF1.yarnAt (by omega), ka_bs, hF1.ky (by omega), ka_letE, hG2, hF2.yarnAt (by omega), ka_bs, hF2.ky (by omega), ka_letE, hG3, hF3.rf.2.1, ka_bs, n3, hF3.r h8, e4, ka_bs, ka_letE]
  refine ⟨_, rfl, ?_⟩
  show gi _ 6 5 s - 1 = nI (cR ω) ∧ VS _ s (layW ω a b d v) ∧ FS τ _ s ∧ Fr (spn s) G _
  generalize hG5 : gsi G4 6 5 s (gi G4 6 5 s + 1) = G5
  have f4' := (f4 s (by omega)).1
  have hF5 : FS τ G5 s := by
    have hF4 : FS τ G4 s := hF3.to f4 (fun c h1 h2 h3 => by have h3 : c = s + 16 + cR ω := h3; omega)
    rw [← hG5]
    exact hF4
  have f45 : Fr (fun c => c = s ∨ c = s + 16 + cR ω) G3 G5 := by
    rw [← hG5]
    exact (f4.mono fun b hb => Or.inr hb).tr (Fr.i (A := fun c => c = s ∨ c = s + 16 + cR ω) (Or.inl rfl))
  have f5 : Fr (fun c => c = s ∨ c = s + 16 + cR ω ∨ (s + 6 ≤ c ∧ c ≤ s + 15)) G G5 := f3.tr (f45.mono fun b hb => by rcases hb with h | h <;> omega)
  have n5 : gi G5 6 5 s = nI (cR ω + 1) := by
    rw [← hG5]
    simp only [ka_ii]
    simp [f4', n3]
    exact nI_1 _
  have hR5 : RV G5 (s + 16 + cR ω) (tr ω 8 (nI a) (nI b) (nI d) v) 8 := by
    rw [← hG5]
    exact (Fr.i (A := fun c => c = s) rfl : Fr (fun c => c = s) G4 _) (s + 16 + cR ω) (by omega) |>.vr hR4
  have X : ∀ j, j ≠ 1 → (j < 13 ∨ 133 ≤ j) → layW ω a b d v j = ω j := fun j h1 h => layW.xx (by omega) (by omega) (by omega) h8 h1 h
  have hh : gi G5 6 4 s = ω 0 ∧ gi G5 6 6 s = ω 2 ∧ gi G5 6 7 s = ω 3 ∧ gi G5 6 8 s = ω 6 ∧ gi G5 6 9 s = ω 7 ∧ gi G5 6 10 s = ω 5 ∧ gi G5 6 11 s = ω 12 ∧ gi G5 6 12 s = ω 10 ∧ gi G5 6 13 s = ω 8 ∧ gi G5 6 14 s = ω 9 := by
    rw [← hG5]
    simp only [ka_ii]
    simp [f4']
    rw [← hG3, ← hG2, ← hG1]
    simp only [ka_ii]
    simp [d0, d2, d3, d4, d5, d6, d7, d8, d9, d10]
  refine ⟨?_, ?_, hF5, f5.mono fun c hc => by show s ≤ c ∧ c ≤ s + 31; rcases hc with h | h | h <;> omega⟩
  · show gi G5 6 5 s - 1 = nI (cR ω)
    rw [n5, nI_pred]
  · refine vs_acts hI hV ?_ (fun i hi => ?_) (fun i hi => ?_) (fun i hi => ?_) (X 11 (by decide) (by decide)) (fun j h1 h2 => X j (by omega) (by omega)) (f5 (s + 4) (by omega)) (f5 (s + 5) (by omega))
    · rw [X 0 (by decide) (by decide), X 2 (by decide) (by decide), X 3 (by decide) (by decide), X 6 (by decide) (by decide), X 7 (by decide) (by decide), X 5 (by decide) (by decide), X 12 (by decide) (by decide), X 10 (by decide) (by decide), X 8 (by decide) (by decide), X 9 (by decide) (by decide)]
      exact ⟨hh.1, n5.trans wSt_eq.symm, hh.2⟩
    · have e : cY (layW ω a b d v) = cY ω := by unfold cY; rw [X 0 (by decide) (by decide)]
      rw [e] at hi
      obtain ⟨y0, y1, y2, y3'⟩ := hV.y hi
      have g5 := (f45 (s + 6 + i) (by omega)).1
      unfold YV
      rw [layW.yk hab had hbd (i := i) (k := 0) (by omega) (by decide) (by decide), layW.y1 hab had hbd (i := i) (by omega), layW.yk hab had hbd (i := i) (k := 2) (by omega) (by decide) (by decide), layW.yk hab had hbd (i := i) (k := 3) (by omega) (by decide) (by decide), g5, g5, g5, g5, ← hG3, ← hG2, ← hG1]
      simp only [ka_ii]
      refine ⟨by simp [y0], ?_, by simp [y2], by simp [y3']⟩
      by_cases hid : i = d
      · subst hid
        simp [y1, hbd, had, Ne.symm hbd, Ne.symm had]
      · by_cases hib : i = b
        · subst hib
          simp [y1, hab, Ne.symm hab, hid, Ne.symm hid]
        · by_cases hia : i = a
          · subst hia
            simp [y1, hid, hib, Ne.symm hib, Ne.symm hid]
          · simp [y1, hid, hib, hia]
    · rw [layW.c h8] at hi
      by_cases hir : i = cR ω
      · rw [hir]
        exact hR5.same gSame.rf fun j hj => by rw [layW.r (by omega) (by omega) (by omega) (by omega) hj, tr_r8 hj]
      · exact (hV.r (i := i) (by omega)).same (f5 (s + 16 + i) (by omega)) fun j hj => layW.oo (by omega) (by omega) (by omega) (by omega) hj hir
    · have e : cO (layW ω a b d v) = cO ω := by unfold cO; rw [X 2 (by decide) (by decide)]
      rw [e] at hi
      exact (hV.ov hi).same (f5 (s + 24 + i) (by omega)) fun q hq => X _ (by omega) (by omega)
end
