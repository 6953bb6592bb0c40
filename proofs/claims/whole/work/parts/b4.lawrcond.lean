/-! TEXTS: conditions of the law, in the reference -/
section
variable {τ : gτ} {n : Nat} {G G' G'' : gG} {m : Nat} {tb : Nat → Nat} {L a b f k d D D' : Nat} {P Q : List (Nat × Int32)} {z s : (Nat × List (Nat × Int32)) ⊕ Nat} {F : Nat → Nat → gG → Option (Int32 × gG)} {A : Nat → (Nat × List (Nat × Int32)) ⊕ Nat}
theorem m_andL {W : (Nat × List (Nat × Int32)) ⊕ Nat} (hA : ∀ {a : Nat} {P : List (Nat × Int32)} {G : gG}, NQ τ G m tb L D (.inl (a, P)) → P.length + 7 ≤ a → gOk (F 2 m G) (NO τ m tb L D G (apR P (A a)))) (hB : adR L (A)) (h : NQ τ G m tb L D (.inl (b, P ++ Q))) (hb : 0 < b ∧ P.length + Q.length + 7 ≤ b) (hW : alL tb L A L b Q = W) (hn : 500 < n) : gOk (l_X11_readAllOf_9 τ n F m G) (NE τ m tb L D G (apR P W)) := by
  unfold l_X11_readAllOf_9
  refine ka_loop 400 (fun c q => NK m G q ∧ ∃ a Q, NQ τ q m tb L D (.inl (a, P ++ Q)) ∧ c < a ∧ P.length + Q.length + 7 ≤ a ∧ alL tb L A (L - c) a Q = W) (by omega) ⟨NK.rf, b, Q, h, hb.1, hb.2, hW⟩ (fun c G1 hc hq => ?_)
  obtain ⟨m1, a, Q, h1, hca, hl, hs⟩ := hq
  have hle := h1.at
  rw [show L - c = (L - (c + 1)) + 1 by omega] at hs
  unfold b_X11_readAllOf_9
  rw [ka_bind2]
  refine gOk.mono (m_passes h1 wo_and hn) fun q hq => ?_
  obtain ⟨v, G2⟩ := q
  obtain ⟨⟨m2, -⟩, hq⟩ := hq
  have m2 : NK m G1 G2 := m2
  rcases hq with ⟨w1, e1, h2⟩ | ⟨w1, e1, h2⟩
  · have e1 : v = 1 := e1
    subst e1
    have h2 : NQ τ G2 m tb L D (.inl (bl tb L (a + 3), P ++ Q)) := h2
    have h0 : a + 3 ≤ L := wd_le w1 hle.1
    have hbl := bl_le (tb := tb) (L := L) (p := a + 3) (by omega)
    rw [if_neg ka_n10, ka_bind2]
    have hlen : (P ++ Q).length = P.length + Q.length := List.length_append
    refine gOk.mono (hA h2 (by omega)) fun q hq => ?_
    obtain ⟨v5, G6⟩ := q
    obtain ⟨m6, h6, e6⟩ := hq
    have m6 : NK m G2 G6 := m6
    have h6 : NQ τ G6 m tb L D (apR (P ++ Q) (A (bl tb L (a + 3)))) := h6
    have e6 : v5 = isL (plR (apR (P ++ Q) (A (bl tb L (a + 3))))) := e6
    show gOk (if v5 = 0 then _ else _) _
    cases hr : A (bl tb L (a + 3)) with
    | inr f =>
      rw [hr] at h6 e6
      rw [alL_f w1 hr] at hs
      rw [if_pos (show v5 = 0 from e6)]
      rw [← hs]
      exact ⟨_, rfl, Or.inr ⟨G6, f, rfl, rfl, (m1.tr m2).tr m6, h6⟩⟩
    | inl r =>
      rw [hr] at h6 e6
      rw [alL_r w1 hr] at hs
      obtain ⟨⟨k1, k2⟩, k3⟩ := hB _ r.1 r.2 hbl.2 hr
      have h6 : NQ τ G6 m tb L D (.inl (r.1, (P ++ Q) ++ r.2)) := h6
      have hl3 : ((P ++ Q) ++ r.2).length = P.length + Q.length + r.2.length := by rw [List.length_append, List.length_append]
      rw [if_neg (by rw [show v5 = 1 from e6]; exact ka_n10), ka_bind]
      refine gOk.mono (m_emits (s := (16, 0)) h6 (by omega)) fun G7 g7 => ?_
      refine ⟨_, rfl, by omega, ((m1.tr m2).tr m6).tr g7.1, r.1, Q ++ (r.2 ++ [(16, 0)]), ?_, by omega, ?_, hs⟩
      · have := g7.2
        rw [List.append_assoc, List.append_assoc] at this
        exact this
      · rw [List.length_append, List.length_append]
        show P.length + (Q.length + (r.2.length + 1)) + 7 ≤ r.1
        omega
  · have e1 : v = 0 := e1
    subst e1
    rw [if_pos rfl]
    rw [alL_0 w1] at hs
    rw [← hs]
    exact ⟨_, rfl, Or.inl ⟨G2, _, rfl, rfl, m1.tr m2, h2⟩⟩
theorem m_allOf (hA : ∀ {a : Nat} {P : List (Nat × Int32)} {G : gG}, NQ τ G m tb L D (.inl (a, P)) → P.length + 7 ≤ a → gOk (F 2 m G) (NO τ m tb L D G (apR P (A a)))) (hB : adR L (A)) (h : NQ τ G m tb L D (.inl (a, P))) (hc : P.length + 7 ≤ a) (hn : 500 < n) : gOk (e_X11_readAllOf τ n F m G) (NO τ m tb L D G (apR P (alP tb L A a))) := by
  have hle := h.at
  unfold e_X11_readAllOf
  rw [ka_bind2]
  refine gOk.mono (hA h hc) fun q hq => ?_
  obtain ⟨v1, G2⟩ := q
  obtain ⟨m2, h2, e2⟩ := hq
  have m2 : NK m G G2 := m2
  have h2 : NQ τ G2 m tb L D (apR P (A a)) := h2
  have e2 : v1 = isL (plR (apR P (A a))) := e2
  show gOk (if v1 = 0 then _ else _) _
  cases hr : A a with
  | inr f =>
    rw [hr] at h2 e2
    rw [if_pos (show v1 = 0 from e2), show alP tb L A a = .inr f by unfold alP; rw [hr]]
    exact ⟨_, rfl, m2, h2, rfl⟩
  | inl r =>
    rw [hr] at h2 e2
    obtain ⟨⟨k1, k2⟩, k3⟩ := hB a r.1 r.2 hle.1 hr
    rw [if_neg (by rw [show v1 = 1 from e2]; exact ka_n10), ka_bind, show alP tb L A a = alL tb L A L r.1 r.2 by unfold alP; rw [hr]]
    refine gOk.mono (m_andL hA hB (W := alL tb L A L r.1 r.2) h2 ⟨by omega, by omega⟩ rfl hn) fun q hq => ?_
    rcases hq with ⟨G', u, e1, ez, m3, h3⟩ | ⟨G', f, e1, ez, m3, h3⟩
    · subst e1
      refine ⟨(1, G'), rfl, m2.tr m3, h3, ?_⟩
      rw [ez]
      rfl
    · subst e1
      refine ⟨(0, G'), rfl, m2.tr m3, h3, ?_⟩
      rw [ez]
      rfl
theorem m_orL {W : (Nat × List (Nat × Int32)) ⊕ Nat} (hA : ∀ {a : Nat} {P : List (Nat × Int32)} {G : gG}, NQ τ G m tb L D (.inl (a, P)) → P.length + 7 ≤ a → gOk (F 1 m G) (NO τ m tb L D G (apR P (alP tb L A a)))) (hB : adR L (alP tb L A)) (h : NQ τ G m tb L D (.inl (b, P ++ Q))) (hb : 0 < b ∧ P.length + Q.length + 7 ≤ b) (hW : cdL tb L A L b Q = W) (hn : 500 < n) : gOk (l_X11_readCond_9 τ n F m G) (NE τ m tb L D G (apR P W)) := by
  unfold l_X11_readCond_9
  refine ka_loop 400 (fun c q => NK m G q ∧ ∃ a Q, NQ τ q m tb L D (.inl (a, P ++ Q)) ∧ c < a ∧ P.length + Q.length + 7 ≤ a ∧ cdL tb L A (L - c) a Q = W) (by omega) ⟨NK.rf, b, Q, h, hb.1, hb.2, hW⟩ (fun c G1 hc hq => ?_)
  obtain ⟨m1, a, Q, h1, hca, hl, hs⟩ := hq
  have hle := h1.at
  rw [show L - c = (L - (c + 1)) + 1 by omega] at hs
  unfold b_X11_readCond_9
  rw [ka_bind2]
  refine gOk.mono (m_passes h1 wo_or hn) fun q hq => ?_
  obtain ⟨v, G2⟩ := q
  obtain ⟨⟨m2, -⟩, hq⟩ := hq
  have m2 : NK m G1 G2 := m2
  rcases hq with ⟨w1, e1, h2⟩ | ⟨w1, e1, h2⟩
  · have e1 : v = 1 := e1
    subst e1
    have h2 : NQ τ G2 m tb L D (.inl (bl tb L (a + 2), P ++ Q)) := h2
    have h0 : a + 2 ≤ L := wd_le w1 hle.1
    have hbl := bl_le (tb := tb) (L := L) (p := a + 2) (by omega)
    rw [if_neg ka_n10, ka_bind2]
    have hlen : (P ++ Q).length = P.length + Q.length := List.length_append
    refine gOk.mono (hA h2 (by omega)) fun q hq => ?_
    obtain ⟨v5, G6⟩ := q
    obtain ⟨m6, h6, e6⟩ := hq
    have m6 : NK m G2 G6 := m6
    have h6 : NQ τ G6 m tb L D (apR (P ++ Q) (alP tb L A (bl tb L (a + 2)))) := h6
    have e6 : v5 = isL (plR (apR (P ++ Q) (alP tb L A (bl tb L (a + 2))))) := e6
    show gOk (if v5 = 0 then _ else _) _
    cases hr : alP tb L A (bl tb L (a + 2)) with
    | inr f =>
      rw [hr] at h6 e6
      rw [cdL_f w1 hr] at hs
      rw [if_pos (show v5 = 0 from e6)]
      rw [← hs]
      exact ⟨_, rfl, Or.inr ⟨G6, f, rfl, rfl, (m1.tr m2).tr m6, h6⟩⟩
    | inl r =>
      rw [hr] at h6 e6
      rw [cdL_r w1 hr] at hs
      obtain ⟨⟨k1, k2⟩, k3⟩ := hB _ r.1 r.2 hbl.2 hr
      have h6 : NQ τ G6 m tb L D (.inl (r.1, (P ++ Q) ++ r.2)) := h6
      have hl3 : ((P ++ Q) ++ r.2).length = P.length + Q.length + r.2.length := by rw [List.length_append, List.length_append]
      rw [if_neg (by rw [show v5 = 1 from e6]; exact ka_n10), ka_bind]
      refine gOk.mono (m_emits (s := (17, 0)) h6 (by omega)) fun G7 g7 => ?_
      refine ⟨_, rfl, by omega, ((m1.tr m2).tr m6).tr g7.1, r.1, Q ++ (r.2 ++ [(17, 0)]), ?_, by omega, ?_, hs⟩
      · have := g7.2
        rw [List.append_assoc, List.append_assoc] at this
        exact this
      · rw [List.length_append, List.length_append]
        show P.length + (Q.length + (r.2.length + 1)) + 7 ≤ r.1
        omega
  · have e1 : v = 0 := e1
    subst e1
    rw [if_pos rfl]
    rw [cdL_0 w1] at hs
    rw [← hs]
    exact ⟨_, rfl, Or.inl ⟨G2, _, rfl, rfl, m1.tr m2, h2⟩⟩
theorem m_condOf (hA : ∀ {a : Nat} {P : List (Nat × Int32)} {G : gG}, NQ τ G m tb L D (.inl (a, P)) → P.length + 7 ≤ a → gOk (F 1 m G) (NO τ m tb L D G (apR P (alP tb L A a)))) (hB : adR L (alP tb L A)) (h : NQ τ G m tb L D (.inl (a, P))) (hc : P.length + 7 ≤ a) (hn : 500 < n) : gOk (e_X11_readCond τ n F m G) (NO τ m tb L D G (apR P (cdP tb L A a))) := by
  have hle := h.at
  unfold e_X11_readCond
  rw [ka_bind2]
  refine gOk.mono (hA h hc) fun q hq => ?_
  obtain ⟨v1, G2⟩ := q
  obtain ⟨m2, h2, e2⟩ := hq
  have m2 : NK m G G2 := m2
  have h2 : NQ τ G2 m tb L D (apR P (alP tb L A a)) := h2
  have e2 : v1 = isL (plR (apR P (alP tb L A a))) := e2
  show gOk (if v1 = 0 then _ else _) _
  cases hr : alP tb L A a with
  | inr f =>
    rw [hr] at h2 e2
    rw [if_pos (show v1 = 0 from e2), show cdP tb L A a = .inr f by unfold cdP; rw [hr]]
    exact ⟨_, rfl, m2, h2, rfl⟩
  | inl r =>
    rw [hr] at h2 e2
    obtain ⟨⟨k1, k2⟩, k3⟩ := hB a r.1 r.2 hle.1 hr
    rw [if_neg (by rw [show v1 = 1 from e2]; exact ka_n10), ka_bind, show cdP tb L A a = cdL tb L A L r.1 r.2 by unfold cdP; rw [hr]]
    refine gOk.mono (m_orL hA hB (W := cdL tb L A L r.1 r.2) h2 ⟨by omega, by omega⟩ rfl hn) fun q hq => ?_
    rcases hq with ⟨G', u, e1, ez, m3, h3⟩ | ⟨G', f, e1, ez, m3, h3⟩
    · subst e1
      refine ⟨(1, G'), rfl, m2.tr m3, h3, ?_⟩
      rw [ez]
      rfl
    · subst e1
      refine ⟨(0, G'), rfl, m2.tr m3, h3, ?_⟩
      rw [ez]
      rfl
/-- the recursion -/
theorem m_rec (hn : 500 < n) : ∀ {k D d : Nat}, D + k = 6 → (3 * k + 1 ≤ d → ∀ {a : Nat} {P : List (Nat × Int32)} {G : gG}, NQ τ G m tb L D (.inl (a, P)) → P.length + 7 ≤ a → gOk (r_X11 τ n d 2 m G) (NO τ m tb L D G (apR P (atQ tb L (k + 1) a)))) ∧ (3 * k + 3 ≤ d → ∀ {a : Nat} {P : List (Nat × Int32)} {G : gG}, NQ τ G m tb L D (.inl (a, P)) → P.length + 7 ≤ a → gOk (r_X11 τ n d 0 m G) (NO τ m tb L D G (apR P (cdP tb L (atQ tb L (k + 1)) a)))) := by
  intro k
  induction k with
  | zero =>
    intro D d hD
    have hat : ∀ {d : Nat}, 1 ≤ d → ∀ {a : Nat} {P : List (Nat × Int32)} {G : gG}, NQ τ G m tb L D (.inl (a, P)) → P.length + 7 ≤ a → gOk (r_X11 τ n d 2 m G) (NO τ m tb L D G (apR P (atQ tb L (0 + 1) a))) := fun {d} hd {a P G} h hc => by
      rw [show d = (d - 1) + 1 by omega]
      exact m_atom (F := r_X11 τ n (d - 1)) h hc hn hD (fun h0 => absurd h0 (Nat.lt_irrefl 0)) (fun h0 => absurd h0 (Nat.lt_irrefl 0))
    have hal : ∀ {d : Nat}, 2 ≤ d → ∀ {a : Nat} {P : List (Nat × Int32)} {G : gG}, NQ τ G m tb L D (.inl (a, P)) → P.length + 7 ≤ a → gOk (r_X11 τ n d 1 m G) (NO τ m tb L D G (apR P (alP tb L (atQ tb L (0 + 1)) a))) := fun {d} hd {a P G} h hc => by
      rw [show d = (d - 1) + 1 by omega]
      exact m_allOf (F := r_X11 τ n (d - 1)) (fun {a P G} h hc => hat (by omega) h hc) atQ_ad h hc hn
    refine ⟨fun hd {a P G} h hc => hat (by omega) h hc, fun hd {a P G} h hc => ?_⟩
    rw [show d = (d - 1) + 1 by omega]
    exact m_condOf (F := r_X11 τ n (d - 1)) (fun {a P G} h hc => hal (by omega) h hc) (alP_ad atQ_ad) h hc hn
  | succ k ih =>
    intro D d hD
    have hat : ∀ {d : Nat}, 3 * (k + 1) + 1 ≤ d → ∀ {a : Nat} {P : List (Nat × Int32)} {G : gG}, NQ τ G m tb L D (.inl (a, P)) → P.length + 7 ≤ a → gOk (r_X11 τ n d 2 m G) (NO τ m tb L D G (apR P (atQ tb L (k + 1 + 1) a))) := fun {d} hd {a P G} h hc => by
      rw [show d = (d - 1) + 1 by omega]
      exact m_atom (F := r_X11 τ n (d - 1)) h hc hn hD (fun _ {a P G} h hc => (ih (D := D + 1) (d := d - 1) (by omega)).1 (by omega) h hc) (fun _ {a P G} h hc => (ih (D := D + 1) (d := d - 1) (by omega)).2 (by omega) h hc)
    have hal : ∀ {d : Nat}, 3 * (k + 1) + 2 ≤ d → ∀ {a : Nat} {P : List (Nat × Int32)} {G : gG}, NQ τ G m tb L D (.inl (a, P)) → P.length + 7 ≤ a → gOk (r_X11 τ n d 1 m G) (NO τ m tb L D G (apR P (alP tb L (atQ tb L (k + 1 + 1)) a))) := fun {d} hd {a P G} h hc => by
      rw [show d = (d - 1) + 1 by omega]
      exact m_allOf (F := r_X11 τ n (d - 1)) (fun {a P G} h hc => hat (by omega) h hc) atQ_ad h hc hn
    refine ⟨fun hd {a P G} h hc => hat (by omega) h hc, fun hd {a P G} h hc => ?_⟩
    rw [show d = (d - 1) + 1 by omega]
    exact m_condOf (F := r_X11 τ n (d - 1)) (fun {a P G} h hc => hal (by omega) h hc) (alP_ad atQ_ad) h hc hn
theorem m_condition (h : NQ τ G m tb L 0 (.inl (a, P))) (hc : P.length + 7 ≤ a) (hn : 500 < n) : gOk (f_X11_readCond τ n m G) (NO τ m tb L 0 G (apR P (cdP tb L (atQ tb L 7) a))) := (m_rec hn (k := 6) (D := 0) (d := 30) rfl).2 (by decide) h hc
end
