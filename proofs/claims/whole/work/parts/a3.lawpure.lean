/-! TEXTS: the law's conditions, read -/
section
variable {tb : Nat → Nat} {L a b f d e k : Nat} {P Q R : List (Nat × Int32)} {T T1 T2 T3 : List Bool} {A : Nat → (Nat × List (Nat × Int32)) ⊕ Nat}
/-- what steps make of a stack's types, never more than d of them -/
def sqL (d : Nat) : List Bool → List (Nat × Int32) → List Bool → Prop
  | T, [], T' => T' = T ∧ T.length ≤ d
  | T, s :: Q, T' => T.length ≤ d ∧ ∃ T1, tyS (nI s.1) T = some T1 ∧ sqL d T1 Q T'
theorem sqL.len : ∀ {Q : List (Nat × Int32)} {T : List Bool}, sqL d T Q T1 → T.length ≤ d
  | [], _, h => h.2
  | _ :: _, _, h => h.1
theorem sqL.app : ∀ {P : List (Nat × Int32)} {T : List Bool}, sqL d T P T1 → sqL d T1 Q T2 → sqL d T (P ++ Q) T2
  | [], T, h, h' => by
    obtain ⟨e, -⟩ := h
    rw [← e]
    exact h'
  | s :: P, T, h, h' => by
    obtain ⟨h1, T3, h2, h3⟩ := h
    exact ⟨h1, T3, h2, h3.app h'⟩
theorem sqL.one {c : Nat} {v : Int32} (h1 : T.length ≤ d) (h2 : tyS (nI c) T = some T1) (h3 : T1.length ≤ d) : sqL d T [(c, v)] T1 := ⟨h1, T1, h2, rfl, h3⟩
theorem sqL.up : ∀ {Q : List (Nat × Int32)} {T : List Bool}, sqL d T Q T1 → d ≤ e → sqL e T Q T1
  | [], T, h, hd => ⟨h.1, Nat.le_trans h.2 hd⟩
  | s :: Q, T, h, hd => by
    obtain ⟨h1, T3, h2, h3⟩ := h
    exact ⟨Nat.le_trans h1 hd, T3, h2, h3.up hd⟩
theorem tz_push {c : Nat} (hc : c ≤ 11) : tyS (nI c) T = some (decide (c = 9 ∨ c = 10) :: T) := by
  unfold tyS
  rw [if_pos (show nI c ≤ (11 : Int32) from nI_le (b := 11) hc (by decide))]
  have e1 : nI c = (9 : Int32) ↔ c = 9 := nI_eq (b := 9) (by omega) (by decide)
  have e2 : nI c = (10 : Int32) ↔ c = 10 := nI_eq (b := 10) (by omega) (by decide)
  simp only [e1, e2]
theorem tz_plus : tyS (nI 12) (false :: false :: T) = some (false :: T) := rfl
theorem tz_less : tyS (nI 13) (false :: false :: T) = some (true :: T) := rfl
theorem tz_more : tyS (nI 14) (false :: false :: T) = some (true :: T) := rfl
theorem tz_not : tyS (nI 15) (true :: T) = some (true :: T) := rfl
theorem tz_and : tyS (nI 16) (true :: true :: T) = some (true :: T) := rfl
theorem tz_or : tyS (nI 17) (true :: true :: T) = some (true :: T) := rfl
def stQ (Q : List (Nat × Int32)) : Prop := ∀ s, s ∈ Q → s.1 ≤ 17 ∧ (s.1 = 11 → bt s.2 0 999)
theorem stQ.app (h : stQ P) (h' : stQ Q) : stQ (P ++ Q) := fun s hs => by
  rcases List.mem_append.mp hs with h1 | h1
  · exact h s h1
  · exact h' s h1
theorem stQ.one {c : Nat} {v : Int32} (h : c ≤ 17) (h2 : c ≠ 11) : stQ [(c, v)] := fun s hs => by
  rw [List.mem_singleton] at hs
  subst hs
  exact ⟨h, fun e => absurd e h2⟩
/-- a piece of a condition has been read: from a to b, steps Q -/
def SND (L d : Nat) (T : List Bool) (a : Nat) (T1 : List Bool) (res : (Nat × List (Nat × Int32)) ⊕ Nat) : Prop := ∀ b Q, res = .inl (b, Q) → (a < b ∧ b ≤ L) ∧ Q.length ≤ b - a ∧ stQ Q ∧ sqL d T Q T1
theorem SND.no : SND L d T a T1 (.inr f) := fun b Q h => by cases h
def ptN (tb : Nat → Nat) (L a : Nat) : (Nat × List (Nat × Int32)) ⊕ Nat := match nbS tb L 0 999 (.inl a) with
  | .inl b => .inl (b, [(11, nbV tb L 0 999 (.inl a))])
  | .inr f => .inr f
def ptW (tb : Nat → Nat) (L a : Nat) : List (List Int32 × Nat) → (Nat × List (Nat × Int32)) ⊕ Nat
  | [] => ptN tb L a
  | w :: ws => if wd tb L w.1 a then .inl (bl tb L (a + w.1.length), [(w.2, 0)]) else ptW tb L a ws
def ptL : List (List Int32 × Nat) := [(s_weak, 0), (s_strong, 1), (s_rot, 2), (s_reigns, 3), (s_tar, 4), (s_worn, 5), (s_long, 6), (s_plies, 7), (s_load, 8)]
def ptP (tb : Nat → Nat) (L a : Nat) : (Nat × List (Nat × Int32)) ⊕ Nat := ptW tb L a ptL
theorem wd_le {w : List Int32} (h : wd tb L w a = true) (ha : a ≤ L) : a + w.length ≤ L := by
  have := (wd_iff.mp h).1
  have := lt_le (tb := tb) ha
  omega
theorem ptN_ok (ha : a ≤ L) (hd : T.length + 1 ≤ d) : SND L d T a (false :: T) (ptN tb L a) := fun b Q h => by
  unfold ptN at h
  cases hr : nbS tb L 0 999 (.inl a) with
  | inr f => rw [hr] at h; cases h
  | inl b' =>
    rw [hr] at h
    cases h
    obtain ⟨a', e1, e2, e3, e4⟩ := nb_ok hr
    cases e1
    have hn : ¬ numT tb L a < 0 := fun e => e3 (Or.inl (by rw [e2]; exact e))
    have h1 := num_dg (lo := 0) (by decide) ha hn
    have h2 := dg_le (tb := tb) ha
    have h3 := bl_le (tb := tb) h2.2
    refine ⟨by omega, by show 1 ≤ b - a; omega, fun s hs => ?_, sqL.one (by omega) (tz_push (by decide)) (by show T.length + 1 ≤ d; omega)⟩
    rw [List.mem_singleton] at hs
    subst hs
    exact ⟨by show 11 ≤ 17; omega, fun _ => af_bt (l := 0) (h := 999) (by decide) (by decide) rfl rfl hr⟩
theorem ptW_ok (ha : a ≤ L) (hd : T.length + 1 ≤ d) : ∀ {ws : List (List Int32 × Nat)}, (∀ w, w ∈ ws → 0 < w.1.length ∧ w.2 ≤ 8) → SND L d T a (false :: T) (ptW tb L a ws)
  | [], _ => ptN_ok ha hd
  | w :: ws, hw => by
    obtain ⟨w1, w2⟩ := hw w (List.mem_cons_self ..)
    show SND L d T a (false :: T) (if wd tb L w.1 a then .inl (bl tb L (a + w.1.length), [(w.2, 0)]) else ptW tb L a ws)
    by_cases h : wd tb L w.1 a = true
    · rw [if_pos h]
      intro b Q hb
      cases hb
      have h1 := wd_le h ha
      have h2 := bl_le (tb := tb) h1
      refine ⟨by omega, by show 1 ≤ bl tb L (a + w.1.length) - a; omega, stQ.one (by omega) (by omega), sqL.one (by omega) ?_ (by show T.length + 1 ≤ d; omega)⟩
      rw [tz_push (by omega), decide_eq_false (by omega)]
    · rw [if_neg h]
      exact ptW_ok ha hd fun w' hw' => hw w' (List.mem_cons_of_mem _ hw')
theorem ptP_ok (ha : a ≤ L) (hd : T.length + 1 ≤ d) : SND L d T a (false :: T) (ptP tb L a) := ptW_ok ha hd (by decide)
/-- the rest of a sum -/
def smL (tb : Nat → Nat) (L : Nat) : Nat → Nat → List (Nat × Int32) → (Nat × List (Nat × Int32)) ⊕ Nat
  | 0, a, P => .inl (a, P)
  | k + 1, a, P => if a < L ∧ tb a = 43 then (match ptP tb L (bl tb L (a + 1)) with
    | .inl r => smL tb L k r.1 (P ++ (r.2 ++ [(12, 0)]))
    | .inr f => .inr f) else .inl (a, P)
def smP (tb : Nat → Nat) (L a : Nat) : (Nat × List (Nat × Int32)) ⊕ Nat := match ptP tb L a with
  | .inl r => smL tb L L r.1 r.2
  | .inr f => .inr f
theorem smL_ok (hd : T.length + 2 ≤ d) : ∀ {k a0 a : Nat} {P : List (Nat × Int32)}, (a0 < a ∧ a ≤ L) → P.length ≤ a - a0 → stQ P → sqL d T P (false :: T) → SND L d T a0 (false :: T) (smL tb L k a P)
  | 0, a0, a, P, h1, h2, h3, h4 => fun b Q h => by cases h; exact ⟨h1, h2, h3, h4⟩
  | k + 1, a0, a, P, h1, h2, h3, h4 => by
    show SND L d T a0 (false :: T) (if a < L ∧ tb a = 43 then _ else .inl (a, P))
    by_cases hs : a < L ∧ tb a = 43
    · rw [if_pos hs]
      have hb := bl_le (tb := tb) (L := L) (p := a + 1) (by omega)
      have hp := ptP_ok (tb := tb) (L := L) (a := bl tb L (a + 1)) (T := false :: T) (d := d) hb.2 (by show T.length + 1 + 1 ≤ d; omega)
      cases hr : ptP tb L (bl tb L (a + 1)) with
      | inr f => exact SND.no
      | inl r =>
        obtain ⟨c1, c2, c3, c4⟩ := hp r.1 r.2 hr
        refine smL_ok hd (by omega) ?_ (h3.app (c3.app (stQ.one (by decide) (by decide)))) (h4.app (c4.app (sqL.one (by show T.length + 1 + 1 ≤ d; omega) tz_plus (by show T.length + 1 ≤ d; omega))))
        rw [List.length_append, List.length_append]
        show P.length + (r.2.length + 1) ≤ _
        omega
    · rw [if_neg hs]
      intro b Q h
      cases h
      exact ⟨h1, h2, h3, h4⟩
theorem smP_ok (ha : a ≤ L) (hd : T.length + 2 ≤ d) : SND L d T a (false :: T) (smP tb L a) := by
  have hp := ptP_ok (tb := tb) (L := L) (a := a) (T := T) (d := d) ha (by omega)
  unfold smP
  cases hr : ptP tb L a with
  | inr f => exact SND.no
  | inl r =>
    obtain ⟨c1, c2, c3, c4⟩ := hp r.1 r.2 hr
    exact smL_ok hd c1 c2 c3 c4
/-- a comparison -/
def cmP (tb : Nat → Nat) (L a : Nat) : (Nat × List (Nat × Int32)) ⊕ Nat := match smP tb L a with
  | .inr f => .inr f
  | .inl r => if r.1 < L ∧ (tb r.1 = 60 ∨ tb r.1 = 62) then (match smP tb L (bl tb L (r.1 + 1)) with
    | .inr f => .inr f
    | .inl u => .inl (u.1, r.2 ++ (u.2 ++ [(if tb r.1 = 60 then 13 else 14, 0)]))) else .inr r.1
theorem cmP_ok (ha : a ≤ L) (hd : T.length + 3 ≤ d) : SND L d T a (true :: T) (cmP tb L a) := by
  have hp := smP_ok (tb := tb) (L := L) (a := a) (T := T) (d := d) ha (by omega)
  unfold cmP
  cases hr : smP tb L a with
  | inr f => exact SND.no
  | inl r =>
    obtain ⟨c1, c2, c3, c4⟩ := hp r.1 r.2 hr
    show SND L d T a (true :: T) (if r.1 < L ∧ (tb r.1 = 60 ∨ tb r.1 = 62) then _ else .inr r.1)
    by_cases hs : r.1 < L ∧ (tb r.1 = 60 ∨ tb r.1 = 62)
    · rw [if_pos hs]
      have hb := bl_le (tb := tb) (L := L) (p := r.1 + 1) (by omega)
      have hq := smP_ok (tb := tb) (L := L) (a := bl tb L (r.1 + 1)) (T := false :: T) (d := d) hb.2 (by show T.length + 1 + 2 ≤ d; omega)
      cases hu : smP tb L (bl tb L (r.1 + 1)) with
      | inr f => exact SND.no
      | inl u =>
        obtain ⟨g1, g2, g3, g4⟩ := hq u.1 u.2 hu
        intro b Q h
        cases h
        have hty : ∀ {c : Nat}, (c = 13 ∨ c = 14) → sqL d (false :: false :: T) [(c, (0 : Int32))] (true :: T) := fun {c} hc => by
          rcases hc with h | h <;> subst h
          · exact sqL.one (by show T.length + 1 + 1 ≤ d; omega) tz_less (by show T.length + 1 ≤ d; omega)
          · exact sqL.one (by show T.length + 1 + 1 ≤ d; omega) tz_more (by show T.length + 1 ≤ d; omega)
        have hc : (if tb r.1 = 60 then 13 else 14) = 13 ∨ (if tb r.1 = 60 then 13 else 14) = 14 := by
          by_cases h : tb r.1 = 60
          · rw [if_pos h]; exact Or.inl rfl
          · rw [if_neg h]; exact Or.inr rfl
        refine ⟨by omega, ?_, c3.app (g3.app (stQ.one (by omega) (by omega))), c4.app (g4.app (hty hc))⟩
        rw [List.length_append, List.length_append]
        show r.2.length + (u.2.length + 1) ≤ u.1 - a
        omega
    · rw [if_neg hs]
      exact SND.no
/-- what and joins -/
def alL (tb : Nat → Nat) (L : Nat) (A : Nat → (Nat × List (Nat × Int32)) ⊕ Nat) : Nat → Nat → List (Nat × Int32) → (Nat × List (Nat × Int32)) ⊕ Nat
  | 0, a, P => .inl (a, P)
  | k + 1, a, P => if wd tb L s_and a then (match A (bl tb L (a + s_and.length)) with
    | .inl r => alL tb L A k r.1 (P ++ (r.2 ++ [(16, 0)]))
    | .inr f => .inr f) else .inl (a, P)
def alP (tb : Nat → Nat) (L : Nat) (A : Nat → (Nat × List (Nat × Int32)) ⊕ Nat) (a : Nat) : (Nat × List (Nat × Int32)) ⊕ Nat := match A a with
  | .inl r => alL tb L A L r.1 r.2
  | .inr f => .inr f
/-- what or joins -/
def cdL (tb : Nat → Nat) (L : Nat) (A : Nat → (Nat × List (Nat × Int32)) ⊕ Nat) : Nat → Nat → List (Nat × Int32) → (Nat × List (Nat × Int32)) ⊕ Nat
  | 0, a, P => .inl (a, P)
  | k + 1, a, P => if wd tb L s_or a then (match alP tb L A (bl tb L (a + s_or.length)) with
    | .inl r => cdL tb L A k r.1 (P ++ (r.2 ++ [(17, 0)]))
    | .inr f => .inr f) else .inl (a, P)
def cdP (tb : Nat → Nat) (L : Nat) (A : Nat → (Nat × List (Nat × Int32)) ⊕ Nat) (a : Nat) : (Nat × List (Nat × Int32)) ⊕ Nat := match alP tb L A a with
  | .inl r => cdL tb L A L r.1 r.2
  | .inr f => .inr f
/-- an atom, with k - 1 nestings left -/
def atQ (tb : Nat → Nat) (L : Nat) : Nat → Nat → (Nat × List (Nat × Int32)) ⊕ Nat
  | 0, a => .inr a
  | k + 1, a =>
    if wd tb L s_not a then (if k = 0 then .inr a else match atQ tb L k (bl tb L (a + s_not.length)) with
      | .inl r => .inl (r.1, r.2 ++ [(15, 0)])
      | .inr f => .inr f)
    else if a < L ∧ tb a = 40 then (if k = 0 then .inr a else match cdP tb L (atQ tb L k) (bl tb L (a + 1)) with
      | .inl r => if r.1 < L ∧ tb r.1 = 41 then .inl (bl tb L (r.1 + 1), r.2) else .inr r.1
      | .inr f => .inr f)
    else if wd tb L s_whipped a then .inl (bl tb L (a + s_whipped.length), [(9, 0)])
    else if wd tb L s_winter a then .inl (bl tb L (a + s_winter.length), [(10, 0)])
    else cmP tb L a
theorem alL_ok (hA : ∀ a T, a ≤ L → T.length + e ≤ d → SND L d T a (true :: T) (A a)) (he : 1 ≤ e) (hd : T.length + (e + 1) ≤ d) : ∀ {k a0 a : Nat} {P : List (Nat × Int32)}, (a0 < a ∧ a ≤ L) → P.length ≤ a - a0 → stQ P → sqL d T P (true :: T) → SND L d T a0 (true :: T) (alL tb L A k a P)
  | 0, a0, a, P, h1, h2, h3, h4 => fun b Q h => by cases h; exact ⟨h1, h2, h3, h4⟩
  | k + 1, a0, a, P, h1, h2, h3, h4 => by
    show SND L d T a0 (true :: T) (if wd tb L s_and a then _ else .inl (a, P))
    by_cases hs : wd tb L s_and a = true
    · rw [if_pos hs]
      have h0 : a + 3 ≤ L := wd_le hs h1.2
      have hb := bl_le (tb := tb) (L := L) (p := a + 3) (by omega)
      have hp := hA (bl tb L (a + 3)) (true :: T) hb.2 (by show T.length + 1 + e ≤ d; omega)
      show SND L d T a0 (true :: T) (match A (bl tb L (a + 3)) with
        | .inl r => alL tb L A k r.1 (P ++ (r.2 ++ [(16, 0)]))
        | .inr f => .inr f)
      cases hr : A (bl tb L (a + 3)) with
      | inr f => exact SND.no
      | inl r =>
        obtain ⟨c1, c2, c3, c4⟩ := hp r.1 r.2 hr
        refine alL_ok hA he hd (by omega) ?_ (h3.app (c3.app (stQ.one (by decide) (by decide)))) (h4.app (c4.app (sqL.one (by show T.length + 1 + 1 ≤ d; omega) tz_and (by show T.length + 1 ≤ d; omega))))
        rw [List.length_append, List.length_append]
        show P.length + (r.2.length + 1) ≤ _
        omega
    · rw [if_neg hs]
      intro b Q h
      cases h
      exact ⟨h1, h2, h3, h4⟩
theorem alP_ok (hA : ∀ a T, a ≤ L → T.length + e ≤ d → SND L d T a (true :: T) (A a)) (he : 1 ≤ e) (ha : a ≤ L) (hd : T.length + (e + 1) ≤ d) : SND L d T a (true :: T) (alP tb L A a) := by
  have hp := hA a T ha (by omega)
  unfold alP
  cases hr : A a with
  | inr f => exact SND.no
  | inl r =>
    obtain ⟨c1, c2, c3, c4⟩ := hp r.1 r.2 hr
    exact alL_ok hA he hd c1 c2 c3 c4
theorem cdL_ok (hA : ∀ a T, a ≤ L → T.length + e ≤ d → SND L d T a (true :: T) (A a)) (he : 1 ≤ e) (hd : T.length + (e + 2) ≤ d) : ∀ {k a0 a : Nat} {P : List (Nat × Int32)}, (a0 < a ∧ a ≤ L) → P.length ≤ a - a0 → stQ P → sqL d T P (true :: T) → SND L d T a0 (true :: T) (cdL tb L A k a P)
  | 0, a0, a, P, h1, h2, h3, h4 => fun b Q h => by cases h; exact ⟨h1, h2, h3, h4⟩
  | k + 1, a0, a, P, h1, h2, h3, h4 => by
    show SND L d T a0 (true :: T) (if wd tb L s_or a then _ else .inl (a, P))
    by_cases hs : wd tb L s_or a = true
    · rw [if_pos hs]
      have h0 : a + 2 ≤ L := wd_le hs h1.2
      have hb := bl_le (tb := tb) (L := L) (p := a + 2) (by omega)
      have hp := alP_ok (tb := tb) (a := bl tb L (a + 2)) (T := true :: T) hA he hb.2 (by show T.length + 1 + (e + 1) ≤ d; omega)
      show SND L d T a0 (true :: T) (match alP tb L A (bl tb L (a + 2)) with
        | .inl r => cdL tb L A k r.1 (P ++ (r.2 ++ [(17, 0)]))
        | .inr f => .inr f)
      cases hr : alP tb L A (bl tb L (a + 2)) with
      | inr f => exact SND.no
      | inl r =>
        obtain ⟨c1, c2, c3, c4⟩ := hp r.1 r.2 hr
        refine cdL_ok hA he hd (by omega) ?_ (h3.app (c3.app (stQ.one (by decide) (by decide)))) (h4.app (c4.app (sqL.one (by show T.length + 1 + 1 ≤ d; omega) tz_or (by show T.length + 1 ≤ d; omega))))
        rw [List.length_append, List.length_append]
        show P.length + (r.2.length + 1) ≤ _
        omega
    · rw [if_neg hs]
      intro b Q h
      cases h
      exact ⟨h1, h2, h3, h4⟩
theorem cdP_ok (hA : ∀ a T, a ≤ L → T.length + e ≤ d → SND L d T a (true :: T) (A a)) (he : 1 ≤ e) (ha : a ≤ L) (hd : T.length + (e + 2) ≤ d) : SND L d T a (true :: T) (cdP tb L A a) := by
  have hp := alP_ok (tb := tb) (T := T) hA he ha (by omega)
  unfold cdP
  cases hr : alP tb L A a with
  | inr f => exact SND.no
  | inl r =>
    obtain ⟨c1, c2, c3, c4⟩ := hp r.1 r.2 hr
    exact cdL_ok hA he hd c1 c2 c3 c4
theorem atQ_ok : ∀ {k a : Nat} {T : List Bool}, a ≤ L → T.length + (2 * k + 1) ≤ d → SND L d T a (true :: T) (atQ tb L k a)
  | 0, a, T, ha, hd => SND.no
  | k + 1, a, T, ha, hd => by
    unfold atQ
    by_cases h1 : wd tb L s_not a = true
    · rw [if_pos h1]
      by_cases hk : k = 0
      · rw [if_pos hk]; exact SND.no
      · rw [if_neg hk]
        have h0 : a + 3 ≤ L := wd_le h1 ha
        have hb := bl_le (tb := tb) (L := L) (p := a + 3) (by omega)
        have hp := atQ_ok (k := k) (a := bl tb L (a + 3)) (T := T) hb.2 (by omega)
        show SND L d T a (true :: T) (match atQ tb L k (bl tb L (a + 3)) with
          | .inl r => .inl (r.1, r.2 ++ [(15, 0)])
          | .inr f => .inr f)
        cases hr : atQ tb L k (bl tb L (a + 3)) with
        | inr f => exact SND.no
        | inl r =>
          obtain ⟨c1, c2, c3, c4⟩ := hp r.1 r.2 hr
          intro b Q h
          cases h
          refine ⟨by omega, ?_, c3.app (stQ.one (by decide) (by decide)), c4.app (sqL.one (by show T.length + 1 ≤ d; omega) tz_not (by show T.length + 1 ≤ d; omega))⟩
          rw [List.length_append]
          show r.2.length + 1 ≤ _
          omega
    · rw [if_neg h1]
      by_cases h2 : a < L ∧ tb a = 40
      · rw [if_pos h2]
        by_cases hk : k = 0
        · rw [if_pos hk]; exact SND.no
        · rw [if_neg hk]
          have hb := bl_le (tb := tb) (L := L) (p := a + 1) (by omega)
          have hp := cdP_ok (tb := tb) (L := L) (d := d) (e := 2 * k + 1) (A := atQ tb L k) (a := bl tb L (a + 1)) (T := T) (fun a T h h' => atQ_ok h h') (by omega) hb.2 (by omega)
          cases hr : cdP tb L (atQ tb L k) (bl tb L (a + 1)) with
          | inr f => exact SND.no
          | inl r =>
            obtain ⟨c1, c2, c3, c4⟩ := hp r.1 r.2 hr
            show SND L d T a (true :: T) (if r.1 < L ∧ tb r.1 = 41 then .inl (bl tb L (r.1 + 1), r.2) else .inr r.1)
            by_cases h3 : r.1 < L ∧ tb r.1 = 41
            · rw [if_pos h3]
              have hb2 := bl_le (tb := tb) (L := L) (p := r.1 + 1) (by omega)
              intro b Q h
              cases h
              exact ⟨by omega, by omega, c3, c4⟩
            · rw [if_neg h3]; exact SND.no
      · rw [if_neg h2]
        by_cases h3 : wd tb L s_whipped a = true
        · rw [if_pos h3]
          intro b Q h
          cases h
          have h0 : a + 7 ≤ L := wd_le h3 ha
          have hb := bl_le (tb := tb) (L := L) (p := a + 7) (by omega)
          show (a < bl tb L (a + 7) ∧ bl tb L (a + 7) ≤ L) ∧ 1 ≤ bl tb L (a + 7) - a ∧ _
          exact ⟨by omega, by omega, stQ.one (by decide) (by decide), sqL.one (by omega) (tz_push (by decide)) (by show T.length + 1 ≤ d; omega)⟩
        · rw [if_neg h3]
          by_cases h4 : wd tb L s_winter a = true
          · rw [if_pos h4]
            intro b Q h
            cases h
            have h0 : a + 6 ≤ L := wd_le h4 ha
            have hb := bl_le (tb := tb) (L := L) (p := a + 6) (by omega)
            show (a < bl tb L (a + 6) ∧ bl tb L (a + 6) ≤ L) ∧ 1 ≤ bl tb L (a + 6) - a ∧ _
            exact ⟨by omega, by omega, stQ.one (by decide) (by decide), sqL.one (by omega) (tz_push (by decide)) (by show T.length + 1 ≤ d; omega)⟩
          · rw [if_neg h4]
            exact cmP_ok ha (by omega)
end
