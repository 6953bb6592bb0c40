/-! TEXTS: comparisons of the law, in the class -/
section
variable {τ : gτ} {n : Nat} {G G' G'' : gG} {x l' : Nat} {tb : Nat → Nat} {L a b f : Nat} {P Q : List (Nat × Int32)} {z s : (Nat × List (Nat × Int32)) ⊕ Nat}
/-- a comparison, given its two sums -/
def cmK (tb : Nat → Nat) (L : Nat) : (Nat × List (Nat × Int32)) ⊕ Nat → (Nat × List (Nat × Int32)) ⊕ Nat
  | .inr f => .inr f
  | .inl r => if r.1 < L ∧ (tb r.1 = 60 ∨ tb r.1 = 62) then (match smP tb L (bl tb L (r.1 + 1)) with
    | .inr f => .inr f
    | .inl u => .inl (u.1, r.2 ++ (u.2 ++ [(if tb r.1 = 60 then 13 else 14, 0)]))) else .inr r.1
theorem cmK_e : cmK tb L (smP tb L a) = cmP tb L a := by
  unfold cmP
  cases smP tb L a with
  | inl r => rfl
  | inr f => rfl
theorem cmK_i {r u : Nat × List (Nat × Int32)} (h : r.1 < L ∧ (tb r.1 = 60 ∨ tb r.1 = 62)) (hu : smP tb L (bl tb L (r.1 + 1)) = .inl u) : cmK tb L (.inl r) = .inl (u.1, r.2 ++ (u.2 ++ [(if tb r.1 = 60 then 13 else 14, 0)])) := by
  show (if r.1 < L ∧ (tb r.1 = 60 ∨ tb r.1 = 62) then _ else _) = _
  rw [if_pos h, hu]
theorem cmK_f {r : Nat × List (Nat × Int32)} (h : r.1 < L ∧ (tb r.1 = 60 ∨ tb r.1 = 62)) (hu : smP tb L (bl tb L (r.1 + 1)) = .inr f) : cmK tb L (.inl r) = .inr f := by
  show (if r.1 < L ∧ (tb r.1 = 60 ∨ tb r.1 = 62) then _ else _) = _
  rw [if_pos h, hu]
theorem cmK_x {r : Nat × List (Nat × Int32)} (h : ¬ (r.1 < L ∧ (tb r.1 = 60 ∨ tb r.1 = 62))) : cmK tb L (.inl r) = .inr r.1 := if_neg h
theorem c_needS0 {v : Int32} (h : LQ τ G x l' tb L (.inr f)) : gOk (f_X7_needSign τ n (x + 1) v G) (fun G' => LM x l' G G' ∧ LQ τ G' x l' tb L (.inr f)) := by
  unfold f_X7_needSign
  rw [ka_b2 (c_tkS0 h.2.1), if_pos rfl, ka_bind]
  refine gOk.mono (c_refuse h.2.1) fun G3 h3 => ?_
  exact ⟨_, rfl, h.mv0 h3.1 h3.2⟩
theorem c_needS {sg : Nat} (h : LQ τ G x l' tb L (.inl (a, P))) (hl : P.length ≤ 400) (hs : (sg < 48 ∨ (57 < sg ∧ sg < 97) ∨ 122 < sg) ∧ sg < 128) (hn : 500 < n) : gOk (f_X7_needSign τ n (x + 1) (nI sg) G) (fun G' => LM x l' G G' ∧ LQ τ G' x l' tb L (if a < L ∧ tb a = sg then .inl (bl tb L (a + 1), P) else .inr a)) := by
  unfold f_X7_needSign
  rw [ka_bind2]
  refine gOk.mono (c_tkS h.2.1 hs hn) fun q hq => ?_
  obtain ⟨v1, G2⟩ := q
  obtain ⟨d1, hq⟩ := hq
  have d1 : TE x G G2 := d1
  rcases hq with ⟨w1, e1, j1⟩ | ⟨w1, e1⟩
  · have e1 : v1 = 1 := e1
    subst e1
    rw [if_neg ka_n10, if_pos w1]
    exact ⟨_, rfl, h.mv d1 j1⟩
  · cases e1
    rw [if_pos rfl, if_neg w1, ka_bind]
    refine gOk.mono (c_refuse h.2.1) fun G3 h3 => ?_
    exact ⟨_, rfl, h.no hl h3.1 h3.2⟩
/-- from the sign on -/
theorem c_cmpK {F : Nat → Nat → Int32 → gG → Option gG} {v : Int32} (h : LQ τ G x l' tb L s) (hc : cnR s) (hv : v = 0 ∨ v = 1) (hn : 500 < n) : gOk (k_X2_readAtom_190 τ n F (x + 4) v G) (fun G' => LM x l' G G' ∧ LQ τ G' x l' tb L (bnd s fun a => match smP tb L a with
    | .inr f => .inr f
    | .inl u => .inl (u.1, u.2 ++ [(if v = 0 then 14 else 13, 0)]))) := by
  unfold k_X2_readAtom_190
  rw [ka_bind]
  refine gOk.mono (c_readSum h hc hn) fun G1 g1 => ?_
  obtain ⟨m1, h1⟩ := g1
  rw [h1.ls.1.2, ka_bs]
  have hem : ∀ {z : (Nat × List (Nat × Int32)) ⊕ Nat}, LQ τ G1 x l' tb L z → (∀ b Q, z = .inl (b, Q) → Q.length < 400) → gOk (if v = 0 then k_X2_readAtom_212 τ n F l' 2004 G1 else k_X2_readAtom_212 τ n F l' 2003 G1) (fun G' => LM x l' G G' ∧ LQ τ G' x l' tb L (match z with
      | .inr f => .inr f
      | .inl u => .inl (u.1, u.2 ++ [(if v = 0 then 14 else 13, 0)]))) := fun {z} hz hb => by
    unfold k_X2_readAtom_212
    cases z with
    | inr f =>
      by_cases hv0 : v = 0
      · rw [if_pos hv0, ka_bind]
        refine gOk.mono (c_emit0 hz) fun G2 g2 => ?_
        exact ⟨_, rfl, m1.tr g2.1, g2.2⟩
      · rw [if_neg hv0, ka_bind]
        refine gOk.mono (c_emit0 hz) fun G2 g2 => ?_
        exact ⟨_, rfl, m1.tr g2.1, g2.2⟩
    | inl u =>
      have hb := hb u.1 u.2 rfl
      by_cases hv0 : v = 0
      · simp only [if_pos hv0]
        rw [ka_bind]
        refine gOk.mono (c_emit (s := (14, 0)) hz hb) fun G2 g2 => ?_
        exact ⟨_, rfl, m1.tr g2.1, g2.2⟩
      · simp only [if_neg hv0]
        rw [ka_bind]
        refine gOk.mono (c_emit (s := (13, 0)) hz hb) fun G2 g2 => ?_
        exact ⟨_, rfl, m1.tr g2.1, g2.2⟩
  cases s with
  | inr f => exact hem h1 fun b Q e => by cases e
  | inl r =>
    obtain ⟨a, P⟩ := r
    have hc : P.length + 7 ≤ a := hc
    have hle := h.le
    have hsm := smP_ok (tb := tb) (L := L) (a := a) (T := []) (d := 2) hle.1 (Nat.le_refl 2)
    have h1 : LQ τ G1 x l' tb L (apR P (smP tb L a)) := h1
    show gOk _ (fun G' => LM x l' G G' ∧ LQ τ G' x l' tb L (apR P (match smP tb L a with
      | .inr f => .inr f
      | .inl u => .inl (u.1, u.2 ++ [(if v = 0 then 14 else 13, 0)]))))
    cases hr : smP tb L a with
    | inr f =>
      rw [hr] at h1
      exact hem h1 fun b Q e => by cases e
    | inl u =>
      rw [hr] at h1
      obtain ⟨⟨k1, k2⟩, k3, -, -⟩ := hsm u.1 u.2 hr
      refine gOk.mono (hem h1 fun b Q e => ?_) fun G2 g2 => ?_
      · cases e
        rw [List.length_append]
        omega
      · refine ⟨g2.1, ?_⟩
        have := g2.2
        show LQ τ G2 x l' tb L (.inl (u.1, P ++ (u.2 ++ [(if v = 0 then 14 else 13, 0)])))
        rw [← List.append_assoc]
        exact this
end
