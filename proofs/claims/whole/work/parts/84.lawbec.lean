/-! A LAW BECOMES ANOTHER -/
section
variable {τ : gτ} {n : Nat} {G G' : gG} {a b : Nat} {ω : gW}
theorem l_cp {G : gG} {p q N : Nat} : (∀ j, j < N → ge (gsw G q (va_cpy (ge G p) (ge G q) 0 0 N)) q j = ge G p j) ∧ Fr (fun c => c = q) G (gsw G q (va_cpy (ge G p) (ge G q) 0 0 N)) := by
  refine ⟨fun j hj => ?_, Fr.w rfl⟩
  rw [ka_ew, if_pos rfl, pk_cpy_in (by omega) (by omega)]
  congr 1
  omega
theorem s_lbec (hA : FL τ G a) (hB : FL τ G b) (hV : LV G b ω) (hI : WI ω) (hL : LI ω) (hab : a + 6 < b ∨ b + 6 < a) : gOk (f_X1_become τ a b G) (fun G' => LV G' a ω ∧ (∀ c k d, gr G' c k d = gr G c k d) ∧ Fr (fun c => a ≤ c ∧ c ≤ a + 4) G G') := by
  have e0 : (0 : Int32).toNatClampNeg = 0 := rfl
  have e12 : (12 : Int32).toNatClampNeg = 12 := rfl
  have e400 : (400 : Int32).toNatClampNeg = 400 := rfl
  obtain ⟨⟨a1, a2, a3, a4, -, -⟩, n1, n2, n3, n4, -, -⟩ := hA
  obtain ⟨⟨b1, b2, b3, b4, -, -⟩, k1, k2, k3, k4, -, -⟩ := hB
  have h48 : ω 4 = 0 ∨ ω 4 = 1 := bt01 hI.2.1.2.1
  unfold f_X1_become
  rw [b1, ka_bs, a1, ka_bs, k1, n1, ka_chkT ⟨by decide, by decide, by decide, by decide, by decide⟩, ka_letE, e0, e12]
  obtain ⟨c1, f1⟩ := l_cp (G := G) (p := b + 1) (q := a + 1) (N := 12)
  have r1 : ∀ c k d, gr (gsw G (a + 1) (va_cpy (ge G (b + 1)) (ge G (a + 1)) 0 0 12)) c k d = gr G c k d := fun _ _ _ => rfl
  generalize gsw G (a + 1) (va_cpy (ge G (b + 1)) (ge G (a + 1)) 0 0 12) = G1 at c1 f1 r1
  rw [r1, b2, ka_bs, r1, a2, ka_bs, k2, n2, ka_chkT ⟨by decide, by decide, by decide, by decide, by decide⟩, ka_letE]
  obtain ⟨c2, f2⟩ := l_cp (G := G1) (p := b + 2) (q := a + 2) (N := 12)
  have r2 : ∀ c k d, gr (gsw G1 (a + 2) (va_cpy (ge G1 (b + 2)) (ge G1 (a + 2)) 0 0 12)) c k d = gr G c k d := fun c k d => r1 c k d
  generalize gsw G1 (a + 2) (va_cpy (ge G1 (b + 2)) (ge G1 (a + 2)) 0 0 12) = G2 at c2 f2 r2
  rw [r2, b3, ka_bs, r2, a3, ka_bs, k3, n3, ka_chkT ⟨by decide, by decide, by decide, by decide, by decide⟩, ka_letE]
  obtain ⟨c3, f3⟩ := l_cp (G := G2) (p := b + 3) (q := a + 3) (N := 12)
  have r3 : ∀ c k d, gr (gsw G2 (a + 3) (va_cpy (ge G2 (b + 3)) (ge G2 (a + 3)) 0 0 12)) c k d = gr G c k d := fun c k d => r2 c k d
  generalize gsw G2 (a + 3) (va_cpy (ge G2 (b + 3)) (ge G2 (a + 3)) 0 0 12) = G3 at c3 f3 r3
  rw [r3, b4, ka_bs, r3, a4, ka_bs, k4, n4, ka_chkT ⟨by decide, by decide, by decide, by decide, by decide⟩, ka_letE, e400]
  obtain ⟨c4, f4⟩ := l_cp (G := G3) (p := b + 4) (q := a + 4) (N := 400)
  have r4 : ∀ c k d, gr (gsw G3 (a + 4) (va_cpy (ge G3 (b + 4)) (ge G3 (a + 4)) 0 0 400)) c k d = gr G c k d := fun c k d => r3 c k d
  generalize gsw G3 (a + 4) (va_cpy (ge G3 (b + 4)) (ge G3 (a + 4)) 0 0 400) = G4 at c4 f4 r4
  have hne : ¬ b = a := by omega
  have ei : ∀ {G : gG} {c k : Nat} {v : Int32} {c' k' : Nat}, gi (gsi G c k a v) c' k' b = gi G c' k' b := fun {G c k v c' k'} => by rw [ka_ii, if_neg (fun e => hne e.2.2)]
  have g4 : ∀ c k, gi G4 c k b = gi G c k b := fun c k => by rw [(f4 b (by omega)).1, (f3 b (by omega)).1, (f2 b (by omega)).1, (f1 b (by omega)).1]
  obtain ⟨v1, v2, v3⟩ := hV
  rw [ka_letE, ka_letE, ei, ei, ei, g4, g4, g4, v1, ka_chkT h48, ka_letE]
  have fi : ∀ {G : gG} {c k : Nat} {v : Int32}, Fr (fun c => c = a) G (gsi G c k a v) := fun {G c k v} => Fr.i (A := fun c => c = a) rfl
  have f5 : Fr (fun c => c = a) G4 (gsi (gsi (gsi G4 1 6 a (gi G 1 6 b)) 1 7 a (gi G 1 7 b)) 1 8 a (ω 4)) := (fi.tr fi).tr fi
  have p6 : gi (gsi (gsi (gsi G4 1 6 a (gi G 1 6 b)) 1 7 a (gi G 1 7 b)) 1 8 a (ω 4)) 1 6 a = gi G 1 6 b := by simp [ka_ii]
  have p8 : gi (gsi (gsi (gsi G4 1 6 a (gi G 1 6 b)) 1 7 a (gi G 1 7 b)) 1 8 a (ω 4)) 1 8 a = ω 4 := by simp [ka_ii]
  have r5 : ∀ c k d, gr (gsi (gsi (gsi G4 1 6 a (gi G 1 6 b)) 1 7 a (gi G 1 7 b)) 1 8 a (ω 4)) c k d = gr G c k d := fun c k d => r4 c k d
  generalize gsi (gsi (gsi G4 1 6 a (gi G 1 6 b)) 1 7 a (gi G 1 7 b)) 1 8 a (ω 4) = G5 at f5 p6 p8 r5
  have q1 : ∀ j, j < 12 → ge G5 (a + 1) j = ge G (b + 1) j := fun j hj => by
    rw [(f5 (a + 1) (by omega)).2.2.1, (f4 (a + 1) (by omega)).2.2.1, (f3 (a + 1) (by omega)).2.2.1, (f2 (a + 1) (by omega)).2.2.1, c1 j hj]
  have q2 : ∀ j, j < 12 → ge G5 (a + 2) j = ge G (b + 2) j := fun j hj => by
    rw [(f5 (a + 2) (by omega)).2.2.1, (f4 (a + 2) (by omega)).2.2.1, (f3 (a + 2) (by omega)).2.2.1, c2 j hj, (f1 (b + 2) (by omega)).2.2.1]
  have q3 : ∀ j, j < 12 → ge G5 (a + 3) j = ge G (b + 3) j := fun j hj => by
    rw [(f5 (a + 3) (by omega)).2.2.1, (f4 (a + 3) (by omega)).2.2.1, c3 j hj, (f2 (b + 3) (by omega)).2.2.1, (f1 (b + 3) (by omega)).2.2.1]
  have q4 : ∀ j, j < 400 → ge G5 (a + 4) j = ge G (b + 4) j := fun j hj => by
    rw [(f5 (a + 4) (by omega)).2.2.1, c4 j hj, (f3 (b + 4) (by omega)).2.2.1, (f2 (b + 4) (by omega)).2.2.1, (f1 (b + 4) (by omega)).2.2.1]
  refine ⟨_, rfl, ⟨p8, fun h => by rw [p6]; exact v2 h, fun h => ?_⟩, r5, ((((f1.mono fun c hc => by omega).tr (f2.mono fun c hc => by omega)).tr (f3.mono fun c hc => by omega)).tr (f4.mono fun c hc => by omega)).tr (f5.mono fun c hc => by omega)⟩
  obtain ⟨w1, w2⟩ := v3 h
  obtain ⟨-, l1, l2⟩ := hL h
  refine ⟨by rw [p6]; exact w1, fun ln hl => ?_⟩
  obtain ⟨-, -, -, ⟨-, d2, -⟩, -⟩ := l2 ln hl
  rw [q1 ln (by omega), q2 ln (by omega), q3 ln (by omega)]
  obtain ⟨z1, z2, z3, z4⟩ := w2 ln hl
  refine ⟨z1, z2, z3, fun k h1 h2 => ?_⟩
  rw [q4 k (by omega)]
  exact z4 k h1 h2
end
