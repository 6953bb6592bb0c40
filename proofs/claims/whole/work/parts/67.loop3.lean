/-! THREE LOOPS within one another -/
def T3 {σ : Type} (f : Nat → Nat → Nat → σ → σ) (N : Nat) (s : σ) : σ := acc (fun a s => acc (fun d s => acc (fun e s => f a (a + 1 + d) (a + 1 + d + 1 + e) s) s (N - (a + 1 + d + 1))) s (N - (a + 1))) s N
theorem loop1 {σ Q R : Type} {n N lo : Nat} (hlo : lo ≤ N) (hn : N < n) (f : Nat → σ → σ) (p : Nat → σ → Q → Prop) (r : σ → R → Prop) (b : Q → Option (Q ⊕ R)) (h : ∀ c s q, lo ≤ c → c < N → p c s q → gOk (b q) (gKK (fun q' => p (c + 1) (f c s) q') (fun _ => False))) (he : ∀ s q, p N s q → gOk (b q) (gKK (fun _ => False) (r s))) {s : σ} {q : Q} (hq : p lo s q) : gOk (gIter b n q) (r (acc (fun e s => f (lo + e) s) s (N - lo))) := by
  refine ka_loop (N - lo) (fun k q => p (lo + k) (acc (fun e s => f (lo + e) s) s k) q) (by omega) hq (fun k q hk hp => ?_)
  by_cases hlt : k < N - lo
  · refine gOk.mono (h (lo + k) _ q (by omega) (by omega) hp) fun v hv => ?_
    cases v with
    | inl q' => exact ⟨hlt, hv⟩
    | inr r' => exact hv.elim
  · have hkN : k = N - lo := by omega
    subst hkN
    have hN : lo + (N - lo) = N := by omega
    have hp : p (lo + (N - lo)) (acc (fun e s => f (lo + e) s) s (N - lo)) q := hp
    rw [hN] at hp
    refine gOk.mono (he _ q hp) fun v hv => ?_
    cases v with
    | inl q' => exact hv.elim
    | inr r' => exact hv
theorem loop3 {σ QK RK QJ RJ QI RI : Type} {n N : Nat} (hn : N < n) (f : Nat → Nat → Nat → σ → σ)
    (pK : Nat → Nat → Nat → σ → QK → Prop) (rK : Nat → Nat → σ → RK → Prop) (bK : Nat → Nat → QK → Option (QK ⊕ RK))
    (hK : ∀ a b c s q, a < b → b < c → c < N → pK a b c s q → gOk (bK a b q) (gKK (fun q' => pK a b (c + 1) (f a b c s) q') (fun _ => False)))
    (hKe : ∀ a b s q, a < b → b < N → pK a b N s q → gOk (bK a b q) (gKK (fun _ => False) (rK a b s)))
    (pJ : Nat → Nat → σ → QJ → Prop) (rJ : Nat → σ → RJ → Prop) (bJ : Nat → QJ → Option (QJ ⊕ RJ))
    (hJ : ∀ a b s q, a < b → b < N → pJ a b s q → ∃ q0, pK a b (b + 1) s q0 ∧ ∀ s', gOk (gIter (bK a b) n q0) (rK a b s') → gOk (bJ a q) (gKK (fun q' => pJ a (b + 1) s' q') (fun _ => False)))
    (hJe : ∀ a s q, a < N → pJ a N s q → gOk (bJ a q) (gKK (fun _ => False) (rJ a s)))
    (pI : Nat → σ → QI → Prop) (rI : σ → RI → Prop) (bI : QI → Option (QI ⊕ RI))
    (hI : ∀ a s q, a < N → pI a s q → ∃ q0, pJ a (a + 1) s q0 ∧ ∀ s', gOk (gIter (bJ a) n q0) (rJ a s') → gOk (bI q) (gKK (fun q' => pI (a + 1) s' q') (fun _ => False)))
    (hIe : ∀ s q, pI N s q → gOk (bI q) (gKK (fun _ => False) (rI s)))
    {s : σ} {q : QI} (hq : pI 0 s q) : gOk (gIter bI n q) (rI (T3 f N s)) := by
  have e : T3 f N s = acc (fun e s => (fun a s => acc (fun d s => acc (fun e s => f a (a + 1 + d) (a + 1 + d + 1 + e) s) s (N - (a + 1 + d + 1))) s (N - (a + 1))) (0 + e) s) s (N - 0) := acc_congr fun i x _ => by rw [Nat.zero_add]
  rw [e]
  refine loop1 (Nat.zero_le _) hn (fun a s => acc (fun d s => acc (fun e s => f a (a + 1 + d) (a + 1 + d + 1 + e) s) s (N - (a + 1 + d + 1))) s (N - (a + 1))) pI rI bI (fun a s q _ ha hp => ?_) hIe hq
  obtain ⟨q0, h0, h1⟩ := hI a s q ha hp
  refine h1 _ (loop1 (lo := a + 1) (by omega) hn (fun b s => acc (fun e s => f a b (b + 1 + e) s) s (N - (b + 1))) (pJ a) (rJ a) (bJ a) (fun b s q hb hbN hp => ?_) (fun s q hp => hJe a s q ha hp) h0)
  obtain ⟨q0, h0, h1⟩ := hJ a b s q hb hbN hp
  exact h1 _ (loop1 (lo := b + 1) (by omega) hn (f a b) (pK a b) (rK a b) (bK a b) (fun c s q hc hcN hp => hK a b c s q hb hc hcN hp) (fun s q hp => hKe a b s q hb hbN hp) h0)
/-! BEST -/
section
variable {τ : gτ} {n : Nat} {G : gG} {x m s t l l' o : Nat} {ω : gW} {im : Option gW} {me : List gW} {ta : List Nat} {fa : Int32}
theorem gmin_lt (x y z v : Int32) : gmin (gmin x y) z < v ↔ (x < v ∨ y < v ∨ z < v) := by
  rw [Int32.lt_iff_toInt_lt, Int32.lt_iff_toInt_lt, Int32.lt_iff_toInt_lt, Int32.lt_iff_toInt_lt, gmin_i, gmin_i]
  omega
theorem m_haveLength (hM : FM τ G m) (hω : ge G (m + 1) = ω) {a b c : Nat} (ha : a < 10) (hb : b < 10) (hc : c < 10) {v : Int32} : f_X11_haveLength τ m (nI a) (nI b) (nI c) v G = some (if yv ω a 1 < v ∨ yv ω b 1 < v ∨ yv ω c 1 < v then 0 else 1) := by
  unfold f_X11_haveLength
  rw [hM.ofYarn (w := 1) a 1 rfl rfl (by omega), ka_bs, hω]
  by_cases h1 : yv ω a 1 < v
  · rw [if_pos h1, if_pos (Or.inl h1)]
  · rw [if_neg h1, hM.ofYarn (w := 1) b 1 rfl rfl (by omega), ka_bs, hω]
    by_cases h2 : yv ω b 1 < v
    · rw [if_pos h2, if_pos (Or.inr (Or.inl h2))]
    · rw [if_neg h2, hM.ofYarn (w := 1) c 1 rfl rfl (by omega), ka_bs, hω]
      by_cases h3 : yv ω c 1 < v
      · rw [if_pos h3, if_pos (Or.inr (Or.inr h3))]
      · rw [if_neg h3, if_neg (fun h => by rcases h with h | h | h <;> contradiction)]
def nmS (a b c : Nat) : Int32 := 100 * nI a + 10 * nI b + nI c
/-- a round of best: what is found, what it bears -/
def beF (ω : gW) (v : Int32) (a b c : Nat) (s : Int32 × Int32) : Int32 × Int32 := if yv ω a 1 < v ∨ yv ω b 1 < v ∨ yv ω c 1 < v then s else if beS (tr ω 8 (nI a) (nI b) (nI c) v) 8 ≤ s.2 then s else (nmS a b c, beS (tr ω 8 (nI a) (nI b) (nI c) v) 8)
theorem c_best (hC : CV τ G x s t l l' ω im me ta fa) (hI : IV ω im me ta) (hn : 500 < n) {v : Int32} (hv : bt v 1 200) : gOk (f_X10_best τ n x v G) (fun q => q.1 = .inr (T3 (beF ω v) (cY ω) (-1, -1)).1 ∧ QC τ x t G q.2) := by
  have hy := hI.1.y1
  have hv4 : bt v 1 400 := by obtain ⟨k, h1, h2, h3⟩ := hv; exact ⟨k, h1, by omega, h3⟩
  unfold f_X10_best
  rw [ka_bxr (c_withinO (fun h => by
    obtain ⟨k, h1, h2, rfl⟩ := hv
    rcases h with h | h
    · exact nI_nlt (b := 1) h1 (by omega) h
    · exact nI_nlt (a := 200) h2 (by decide) h)), ka_bind]
  have cnt : ∀ {G1 : gG}, QC τ x t G G1 → CV τ G1 x s t l l' ω im me ta fa := fun h => h.cv hC hI
  refine gOk.mono (loop3 (n := n) (N := cY ω) (by omega) (beF ω v)
    (fun a b c s q => (q.1, q.2.1) = s ∧ q.2.2.1 = nI c ∧ QC τ x t G q.2.2.2) (fun a b s r => (r.1, r.2.1) = s ∧ QC τ x t G r.2.2) (fun a b q => b_X10_best_51 τ n x v q.1 q.2.1 (nI a) (nI b) q.2.2.1 q.2.2.2)
    (fun a b c s q hab hbc hc hp => ?_) (fun a b s q hab hb hp => ?_)
    (fun a b s q => (q.1, q.2.1) = s ∧ q.2.2.1 = nI b ∧ QC τ x t G q.2.2.2) (fun a s r => (r.1, r.2.1) = s ∧ QC τ x t G r.2.2) (fun a q => b_X10_best_33 τ n x v q.1 q.2.1 (nI a) q.2.2.1 q.2.2.2)
    (fun a b s q hab hb hp => ?_) (fun a s q ha hp => ?_)
    (fun a s q => (q.1, q.2.1) = s ∧ q.2.2.1 = nI a ∧ QC τ x t G q.2.2.2) (fun s r => r.1 = s.1 ∧ QC τ x t G r.2) (fun q => b_X10_best_15 τ n x v q.1 q.2.1 q.2.2.1 q.2.2.2)
    (fun a s q ha hp => ?_) (fun s q hp => ?_) (s := (-1, -1)) (q := (-1, -1, 0, G)) ⟨rfl, rfl, QC.rf⟩) fun r hr => ?_
  · obtain ⟨p1, p2, p3, G1⟩ := q
    obtain ⟨rfl, rfl, h3⟩ := hp
    have h3 : QC τ x t G G1 := h3
    have hC1 := cnt h3
    show gOk (b_X10_best_51 τ n x v p1 p2 (nI a) (nI b) (nI c) G1) _
    unfold b_X10_best_51
    rw [hC1.rf.2.2.2.2.2.2.2.2.2.2.1, ka_bs, hC1.vs.cn.1, hI.1.y0, if_neg (nI_ge hc (by omega)), ka_bs, s_shortest hC1.fs.1 hC1.vs hI.1 (by omega) (by omega) hc, ka_bs]
    by_cases h1 : yv ω a 1 < v ∨ yv ω b 1 < v ∨ yv ω c 1 < v
    · rw [if_pos ((gmin_lt _ _ _ _).mpr h1), ka_letE, nI_1]
      refine ⟨_, rfl, ?_, rfl, h3⟩
      show (p1, p2) = beF ω v a b c (p1, p2)
      unfold beF
      rw [if_pos h1]
    · rw [if_neg (fun e => h1 ((gmin_lt _ _ _ _).mp e)), ka_bind2]
      refine gOk.mono (c_trialBearing hC1 hI hn (by omega) (by omega) hc (by omega) (by omega) (by omega) hv4) fun p hp => ?_
      obtain ⟨w, G2⟩ := p
      obtain ⟨hw, h4⟩ := hp
      have hw : w = _ := hw
      subst hw
      by_cases h2 : beS (tr ω 8 (nI a) (nI b) (nI c) v) 8 ≤ p2
      · rw [if_pos h2, ka_letE, nI_1]
        refine ⟨_, rfl, ?_, rfl, h3.tr h4⟩
        show (p1, p2) = beF ω v a b c (p1, p2)
        unfold beF
        rw [if_neg h1, if_pos h2]
      · rw [if_neg h2]
        unfold f_X10_nameOfThree
        rw [ka_bs, ka_letE, nI_1]
        refine ⟨_, rfl, ?_, rfl, h3.tr h4⟩
        show (_, _) = beF ω v a b c (p1, p2)
        unfold beF
        rw [if_neg h1, if_neg h2]
        rfl
  · obtain ⟨p1, p2, p3, G1⟩ := q
    obtain ⟨rfl, rfl, h3⟩ := hp
    have hC1 := cnt h3
    show gOk (b_X10_best_51 τ n x v p1 p2 (nI a) (nI b) (nI (cY ω)) G1) _
    unfold b_X10_best_51
    rw [hC1.rf.2.2.2.2.2.2.2.2.2.2.1, ka_bs, hC1.vs.cn.1, hI.1.y0, if_pos (nI_le (Nat.le_refl _) (by omega))]
    exact ⟨_, rfl, rfl, h3⟩
  · obtain ⟨p1, p2, p3, G1⟩ := q
    obtain ⟨rfl, rfl, h3⟩ := hp
    have hC1 := cnt h3
    refine ⟨(p1, p2, nI (b + 1), G1), ⟨rfl, rfl, h3⟩, fun s' hs => ?_⟩
    show gOk (b_X10_best_33 τ n x v p1 p2 (nI a) (nI b) G1) _
    unfold b_X10_best_33 l_X10_best_51
    rw [hC1.rf.2.2.2.2.2.2.2.2.2.2.1, ka_bs, hC1.vs.cn.1, hI.1.y0, if_neg (nI_ge hb (by omega)), ka_letE, nI_1, ka_bind]
    refine gOk.mono hs fun r hr => ⟨_, rfl, hr.1, rfl, hr.2⟩
  · obtain ⟨p1, p2, p3, G1⟩ := q
    obtain ⟨rfl, rfl, h3⟩ := hp
    have hC1 := cnt h3
    show gOk (b_X10_best_33 τ n x v p1 p2 (nI a) (nI (cY ω)) G1) _
    unfold b_X10_best_33
    rw [hC1.rf.2.2.2.2.2.2.2.2.2.2.1, ka_bs, hC1.vs.cn.1, hI.1.y0, if_pos (nI_le (Nat.le_refl _) (by omega))]
    exact ⟨_, rfl, rfl, h3⟩
  · obtain ⟨p1, p2, p3, G1⟩ := q
    obtain ⟨rfl, rfl, h3⟩ := hp
    have hC1 := cnt h3
    refine ⟨(p1, p2, nI (a + 1), G1), ⟨rfl, rfl, h3⟩, fun s' hs => ?_⟩
    show gOk (b_X10_best_15 τ n x v p1 p2 (nI a) G1) _
    unfold b_X10_best_15 l_X10_best_33
    rw [hC1.rf.2.2.2.2.2.2.2.2.2.2.1, ka_bs, hC1.vs.cn.1, hI.1.y0, if_neg (nI_ge ha (by omega)), ka_letE, nI_1, ka_bind]
    refine gOk.mono hs fun r hr => ⟨_, rfl, hr.1, rfl, hr.2⟩
  · obtain ⟨p1, p2, p3, G1⟩ := q
    obtain ⟨rfl, rfl, h3⟩ := hp
    have hC1 := cnt h3
    show gOk (b_X10_best_15 τ n x v p1 p2 (nI (cY ω)) G1) _
    unfold b_X10_best_15
    rw [hC1.rf.2.2.2.2.2.2.2.2.2.2.1, ka_bs, hC1.vs.cn.1, hI.1.y0, if_pos (nI_le (Nat.le_refl _) (by omega))]
    exact ⟨_, rfl, rfl, h3⟩
  · exact ⟨_, rfl, congrArg Sum.inr hr.1, hr.2⟩
end
