/-! TEXTS: conditions of the law, in the class -/
section
variable {τ : gτ} {n : Nat} {G G' G'' : gG} {x l' : Nat} {tb : Nat → Nat} {L a b f k d : Nat} {D E : Int32} {P Q : List (Nat × Int32)} {z s : (Nat × List (Nat × Int32)) ⊕ Nat} {F : Nat → Nat → Int32 → gG → Option gG} {A : Nat → (Nat × List (Nat × Int32)) ⊕ Nat}
theorem cdL_0 (h : ¬ wd tb L s_or a = true) : cdL tb L A (k + 1) a P = .inl (a, P) := if_neg h
theorem cdL_r {r : Nat × List (Nat × Int32)} (h : wd tb L s_or a = true) (hr : alP tb L A (bl tb L (a + 2)) = .inl r) : cdL tb L A (k + 1) a P = cdL tb L A k r.1 (P ++ (r.2 ++ [(17, 0)])) := by
  show (if wd tb L s_or a = true then (match alP tb L A (bl tb L (a + 2)) with
    | .inl r => cdL tb L A k r.1 (P ++ (r.2 ++ [(17, 0)]))
    | .inr f => .inr f) else _) = _
  rw [if_pos h, hr]
theorem cdL_f (h : wd tb L s_or a = true) (hr : alP tb L A (bl tb L (a + 2)) = .inr f) : cdL tb L A (k + 1) a P = .inr f := by
  show (if wd tb L s_or a = true then (match alP tb L A (bl tb L (a + 2)) with
    | .inl r => cdL tb L A k r.1 (P ++ (r.2 ++ [(17, 0)]))
    | .inr f => .inr f) else _) = _
  rw [if_pos h, hr]
theorem cdP_f (h : alP tb L A a = .inr f) : cdP tb L A a = .inr f := by
  unfold cdP
  rw [h]
theorem cdP_i {r : Nat × List (Nat × Int32)} (h : alP tb L A a = .inl r) : cdP tb L A a = cdL tb L A L r.1 r.2 := by
  unfold cdP
  rw [h]
theorem alL_ad (hB : adR L A) : ∀ {k a0 a : Nat} {P : List (Nat × Int32)}, (a0 < a ∧ a ≤ L) → P.length ≤ a - a0 → ∀ b Q, alL tb L A k a P = .inl (b, Q) → (a0 < b ∧ b ≤ L) ∧ Q.length ≤ b - a0
  | 0, a0, a, P, h1, h2, b, Q, h => by cases h; exact ⟨h1, h2⟩
  | k + 1, a0, a, P, h1, h2, b, Q, h => by
    by_cases hs : wd tb L s_and a = true
    · have h0 : a + 3 ≤ L := wd_le hs h1.2
      have hb := bl_le (tb := tb) (L := L) (p := a + 3) (by omega)
      cases hr : A (bl tb L (a + 3)) with
      | inr f => rw [alL_f hs hr] at h; cases h
      | inl r =>
        rw [alL_r hs hr] at h
        obtain ⟨c1, c2⟩ := hB _ r.1 r.2 hb.2 hr
        refine alL_ad hB (by omega) ?_ b Q h
        rw [List.length_append, List.length_append]
        show P.length + (r.2.length + 1) ≤ _
        omega
    · rw [alL_0 hs] at h
      cases h
      exact ⟨h1, h2⟩
theorem alP_ad (hB : adR L A) : adR L (alP tb L A) := fun a b Q ha h => by
  rw [← alK_e] at h
  cases hr : A a with
  | inr f => rw [hr] at h; cases h
  | inl r =>
    rw [hr] at h
    obtain ⟨c1, c2⟩ := hB a r.1 r.2 ha hr
    exact alL_ad hB c1 c2 b Q h
theorem c_all (hA : ∀ {s : (Nat × List (Nat × Int32)) ⊕ Nat} {G : gG}, LQ τ G x l' tb L s → cnR s → gOk (F 1 (x + 4) D G) (fun G' => LM x l' G G' ∧ LQ τ G' x l' tb L (bnd s A))) (hB : adR L A) (h : LQ τ G x l' tb L s) (hc : cnR s) (hn : 500 < n) : gOk ((F 1 (x + 4) D G).bind fun G1 => l_X2_readCondition_32 τ n F (x + 4) D E 0 G1) (fun G' => LM x l' G G' ∧ LQ τ G' x l' tb L (bnd s (alP tb L A))) := by
  rw [ka_bind]
  refine gOk.mono (hA h hc) fun G1 g1 => ?_
  obtain ⟨m1, h1⟩ := g1
  cases s with
  | inr f =>
    refine gOk.mono (c_andL (P := []) (z := .inr f) hA hB h1 (fun b Q e => by cases e) hn) fun G2 g2 => ?_
    exact ⟨m1.tr g2.1, g2.2⟩
  | inl r =>
    obtain ⟨a, P⟩ := r
    have hc : P.length + 7 ≤ a := hc
    have hle := h.le
    refine gOk.mono (c_andL (P := P) (z := A a) hA hB h1 (fun b Q e => ?_) hn) fun G2 g2 => ?_
    · obtain ⟨⟨k1, k2⟩, k3⟩ := hB a b Q hle.1 e
      exact ⟨⟨by omega, k2⟩, by omega⟩
    · refine ⟨m1.tr g2.1, ?_⟩
      show LQ τ G2 x l' tb L (apR P (alP tb L A a))
      rw [← alK_e]
      exact g2.2
theorem k25_e {c : Int32} : k_X2_readCondition_25 τ n F (x + 4) D c G = (((F 1 (x + 4) D G).bind fun G1 => l_X2_readCondition_32 τ n F (x + 4) D c 0 G1).bind fun G10 => k_X2_readCondition_72 τ n F (x + 4) D c G10) := by
  unfold k_X2_readCondition_25
  cases F 1 (x + 4) D G with
  | none => rfl
  | some G1 => rfl
theorem c_cond (hA : ∀ {s : (Nat × List (Nat × Int32)) ⊕ Nat} {G : gG}, LQ τ G x l' tb L s → cnR s → gOk (F 1 (x + 4) D G) (fun G' => LM x l' G G' ∧ LQ τ G' x l' tb L (bnd s A))) (hB : adR L A) (h : LQ τ G x l' tb L s) (hc : cnR s) (hn : 500 < n) : gOk (e_X2_readCondition τ n F (x + 4) D G) (fun G' => LM x l' G G' ∧ LQ τ G' x l' tb L (bnd s (cdP tb L A))) := by
  unfold e_X2_readCondition
  generalize hW : bnd s (cdP tb L A) = W
  have hloop : gOk (l_X2_readCondition_2 τ n F (x + 4) D 0 G) (fun G' => LM x l' G G' ∧ LQ τ G' x l' tb L W) := by
    unfold l_X2_readCondition_2
    refine ka_loop 400 (fun c q => q.1 = nI c ∧ LM x l' G q.2 ∧ ((c = 0 ∧ q.2 = G) ∨ (∃ P a Q, 0 < c ∧ LQ τ q.2 x l' tb L (.inl (a, P ++ Q)) ∧ c ≤ a ∧ P.length + Q.length + 7 ≤ a ∧ apR P (cdL tb L A (L + 1 - c) a Q) = W) ∨ (0 < c ∧ ∃ f, LQ τ q.2 x l' tb L (.inr f) ∧ W = .inr f))) (by omega) ⟨rfl, LM.rf, Or.inl ⟨rfl, rfl⟩⟩ (fun c q hc' hq => ?_)
    obtain ⟨x1, G1⟩ := q
    obtain ⟨e1, m1, hq⟩ := hq
    have e1 : x1 = nI c := e1
    have m1 : LM x l' G G1 := m1
    subst e1
    show gOk (b_X2_readCondition_2 τ n F (x + 4) D (nI c) G1) _
    unfold b_X2_readCondition_2
    rcases hq with ⟨hc0, eG⟩ | ⟨P, a, Q, hc0, h1, hca, hl, hs⟩ | ⟨hc0, f, h1, hs⟩
    · have eG : G1 = G := eG
      subst eG
      subst hc0
      rw [if_neg (by decide), if_pos (show nI 0 = 0 from rfl), k25_e, ka_bind]
      refine gOk.mono (c_all hA hB h hc hn) fun G2 g2 => ?_
      obtain ⟨m2, h2⟩ := g2
      unfold k_X2_readCondition_72
      rw [if_pos (show nI 0 ≤ (0 : Int32) by decide), ka_letE]
      refine ⟨_, rfl, by omega, rfl, m1.tr m2, Or.inr ?_⟩
      cases s with
      | inr f => exact Or.inr ⟨by omega, f, h2, hW.symm⟩
      | inl r =>
        obtain ⟨a, P⟩ := r
        have hc : P.length + 7 ≤ a := hc
        have hle := h.le
        have h2 : LQ τ G2 x l' tb L (apR P (alP tb L A a)) := h2
        have hW : apR P (cdP tb L A a) = W := hW
        cases hr : alP tb L A a with
        | inr f =>
          rw [hr] at h2
          rw [cdP_f hr] at hW
          exact Or.inr ⟨by omega, f, h2, hW.symm⟩
        | inl r =>
          rw [hr] at h2
          rw [cdP_i hr] at hW
          obtain ⟨⟨k1, k2⟩, k3⟩ := alP_ad hB a r.1 r.2 hle.1 hr
          exact Or.inl ⟨P, r.1, r.2, by omega, h2, by omega, by omega, by rw [show L + 1 - (0 + 1) = L by omega]; exact hW⟩
    · have h1 : LQ τ G1 x l' tb L (.inl (a, P ++ Q)) := h1
      have hle := h1.le
      rw [show L + 1 - c = (L + 1 - (c + 1)) + 1 by omega] at hs
      by_cases h400 : c = 400
      · subst h400
        rw [if_pos (show (400 : Int32) ≤ nI 400 from nI_le (Nat.le_refl 400) (by decide))]
        have hno : ¬ wd tb L s_or a = true := fun e => by
          have : a + 2 ≤ L := wd_le e hle.1
          omega
        rw [cdL_0 hno] at hs
        refine ⟨_, rfl, m1, ?_⟩
        rw [← hs]
        exact h1
      · rw [if_neg (show ¬ (400 : Int32) ≤ nI c from nI_ge (b := 400) (by omega) (by decide)), if_neg (nI_ne0 hc0 (by omega)), h1.1.1.1, ka_bs, ka_bind2]
        refine gOk.mono (c_tkW h1.2.1 wo_or hn) fun q hq => ?_
        obtain ⟨v, G2⟩ := q
        obtain ⟨d2, hq⟩ := hq
        have d2 : TE x G1 G2 := d2
        rcases hq with ⟨w1, e1, j1⟩ | ⟨w1, e1⟩
        · have e1 : v = 1 := e1
          subst e1
          have j1 : TJ τ G2 x tb L (.inl (bl tb L (a + 2))) := j1
          obtain ⟨m2, h2⟩ := h1.mv d2 j1
          have h0 : a + 2 ≤ L := wd_le w1 hle.1
          have hb := bl_le (tb := tb) (L := L) (p := a + 2) (by omega)
          rw [if_neg ka_n10]
          show gOk (k_X2_readCondition_25 τ n F (x + 4) D (nI c) G2) _
          rw [k25_e, ka_bind]
          refine gOk.mono (c_all (s := .inl (bl tb L (a + 2), P ++ Q)) hA hB h2 (by show (P ++ Q).length + 7 ≤ bl tb L (a + 2); rw [List.length_append]; omega) hn) fun G3 g3 => ?_
          obtain ⟨m3, h3⟩ := g3
          have h3 : LQ τ G3 x l' tb L (apR (P ++ Q) (alP tb L A (bl tb L (a + 2)))) := h3
          unfold k_X2_readCondition_72
          rw [if_neg (show ¬ nI c ≤ (0 : Int32) from nI_ge (a := 0) hc0 (by omega)), h3.ls.1.2, ka_bs, ka_bind]
          cases hr : alP tb L A (bl tb L (a + 2)) with
          | inr f =>
            rw [hr] at h3
            rw [cdL_f w1 hr] at hs
            refine gOk.mono (c_emit0 h3) fun G4 g4 => ?_
            rw [ka_letE, nI_1]
            exact ⟨_, rfl, by omega, rfl, ((m1.tr m2).tr m3).tr g4.1, Or.inr (Or.inr ⟨by omega, f, g4.2, hs.symm⟩)⟩
          | inl r =>
            rw [hr] at h3
            rw [cdL_r w1 hr] at hs
            obtain ⟨⟨k1, k2⟩, k3⟩ := alP_ad hB _ r.1 r.2 hb.2 hr
            have h3 : LQ τ G3 x l' tb L (.inl (r.1, (P ++ Q) ++ r.2)) := h3
            have hl3 : ((P ++ Q) ++ r.2).length = P.length + Q.length + r.2.length := by rw [List.length_append, List.length_append]
            refine gOk.mono (c_emit (s := (17, 0)) h3 (by omega)) fun G4 g4 => ?_
            rw [ka_letE, nI_1]
            refine ⟨_, rfl, by omega, rfl, ((m1.tr m2).tr m3).tr g4.1, Or.inr (Or.inl ⟨P, r.1, Q ++ (r.2 ++ [(17, 0)]), by omega, ?_, by omega, ?_, hs⟩)⟩
            · have := g4.2
              rw [List.append_assoc, List.append_assoc] at this
              exact this
            · rw [List.length_append, List.length_append]
              show P.length + (Q.length + (r.2.length + 1)) + 7 ≤ r.1
              omega
        · cases e1
          rw [if_pos rfl]
          rw [cdL_0 w1] at hs
          refine ⟨_, rfl, m1, ?_⟩
          rw [← hs]
          exact h1
    · have h1 : LQ τ G1 x l' tb L (.inr f) := h1
      have hfin : LM x l' G G1 ∧ LQ τ G1 x l' tb L W := ⟨m1, by rw [hs]; exact h1⟩
      by_cases h4 : (400 : Int32) ≤ nI c
      · rw [if_pos h4]
        exact ⟨_, rfl, hfin⟩
      · rw [if_neg h4, if_neg (nI_ne0 hc0 (by omega)), h1.1.1.1, ka_bs, ka_b2 (c_tkW0 h1.2.1), if_pos rfl]
        exact ⟨_, rfl, hfin⟩
  rw [ka_bind]
  refine gOk.mono hloop fun G1 g1 => ?_
  rw [ka_letE]
  exact ⟨_, rfl, g1⟩
theorem atQ_ad : adR L (atQ tb L k) := fun a b Q ha h => by
  obtain ⟨h1, h2, -, -⟩ := atQ_ok (tb := tb) (L := L) (k := k) (a := a) (T := []) (d := 2 * k + 1) ha (by show 0 + (2 * k + 1) ≤ 2 * k + 1; omega) b Q h
  exact ⟨h1, h2⟩
/-- the recursion -/
theorem c_rec (hn : 500 < n) : ∀ {k D d : Nat}, D + k = 6 → (2 * k + 2 ≤ d → ∀ {s : (Nat × List (Nat × Int32)) ⊕ Nat} {G : gG}, LQ τ G x l' tb L s → cnR s → gOk (r_X2 τ n d 1 (x + 4) (nI D) G) (fun G' => LM x l' G G' ∧ LQ τ G' x l' tb L (bnd s (atQ tb L (k + 1))))) ∧ (2 * k + 3 ≤ d → ∀ {s : (Nat × List (Nat × Int32)) ⊕ Nat} {G : gG}, LQ τ G x l' tb L s → cnR s → gOk (r_X2 τ n d 0 (x + 4) (nI D) G) (fun G' => LM x l' G G' ∧ LQ τ G' x l' tb L (bnd s (cdP tb L (atQ tb L (k + 1)))))) := by
  intro k
  induction k with
  | zero =>
    intro D d hD
    have hat : ∀ {d : Nat}, 2 ≤ d → ∀ {s : (Nat × List (Nat × Int32)) ⊕ Nat} {G : gG}, LQ τ G x l' tb L s → cnR s → gOk (r_X2 τ n d 1 (x + 4) (nI D) G) (fun G' => LM x l' G G' ∧ LQ τ G' x l' tb L (bnd s (atQ tb L (0 + 1)))) := fun {d} hd {s G} h hc => by
      rw [show d = (d - 1) + 1 by omega]
      exact c_atom (F := r_X2 τ n (d - 1)) h hc hn hD (fun h0 => absurd h0 (Nat.lt_irrefl 0)) (fun h0 => absurd h0 (Nat.lt_irrefl 0))
    refine ⟨fun hd {s G} h hc => hat (by omega) h hc, fun hd {s G} h hc => ?_⟩
    rw [show d = (d - 1) + 1 by omega]
    exact c_cond (F := r_X2 τ n (d - 1)) (fun {s G} h hc => hat (by omega) h hc) atQ_ad h hc hn
  | succ k ih =>
    intro D d hD
    have hat : ∀ {d : Nat}, 2 * (k + 1) + 2 ≤ d → ∀ {s : (Nat × List (Nat × Int32)) ⊕ Nat} {G : gG}, LQ τ G x l' tb L s → cnR s → gOk (r_X2 τ n d 1 (x + 4) (nI D) G) (fun G' => LM x l' G G' ∧ LQ τ G' x l' tb L (bnd s (atQ tb L (k + 1 + 1)))) := fun {d} hd {s G} h hc => by
      rw [show d = (d - 1) + 1 by omega]
      exact c_atom (F := r_X2 τ n (d - 1)) h hc hn hD (fun _ {s G} h hc => (ih (D := D + 1) (d := d - 1) (by omega)).1 (by omega) h hc) (fun _ {s G} h hc => (ih (D := D + 1) (d := d - 1) (by omega)).2 (by omega) h hc)
    refine ⟨fun hd {s G} h hc => hat (by omega) h hc, fun hd {s G} h hc => ?_⟩
    rw [show d = (d - 1) + 1 by omega]
    exact c_cond (F := r_X2 τ n (d - 1)) (fun {s G} h hc => hat (by omega) h hc) atQ_ad h hc hn
theorem c_condition (h : LQ τ G x l' tb L s) (hc : cnR s) (hn : 500 < n) : gOk (f_X2_readCondition τ n (x + 4) 0 G) (fun G' => LM x l' G G' ∧ LQ τ G' x l' tb L (bnd s (cdP tb L (atQ tb L 7)))) := (c_rec hn (k := 6) (D := 0) (d := 16) rfl).2 (by decide) h hc
end
