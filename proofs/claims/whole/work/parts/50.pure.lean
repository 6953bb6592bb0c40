/-! LEVEL 2, pure: what a pure run answers, forward -/
theorem ka_some {ρ : Type} {r : ρ} {K : ρ → Prop} : gOk (some r) K ↔ K r := ⟨gOk_some, fun h => ⟨r, rfl, h⟩⟩
theorem ka_bind {α ρ : Type} {o : Option α} {f : α → Option ρ} {K : ρ → Prop} : gOk (o.bind f) K ↔ gOk o (fun x => gOk (f x) K) := by
  constructor
  · exact gOk_bindK
  · intro h
    obtain ⟨x, h1, r, h2, h3⟩ := h
    exact ⟨r, by rw [h1]; exact h2, h3⟩
theorem ka_bind2 {α ρ : Type} {o : Option (α × gG)} {f : α → gG → Option ρ} {K : ρ → Prop} : gOk (gBind2 o f) K ↔ gOk o (fun q => gOk (f q.1 q.2) K) := ka_bind
theorem ka_chk {ρ : Type} {c : Prop} [Decidable c] {e : Option ρ} {K : ρ → Prop} : gOk (gchk c e) K ↔ c ∧ gOk e K := by
  constructor
  · exact gOk_chk
  · intro h
    unfold gchk
    rw [if_pos h.1]
    exact h.2
theorem ka_let {α ρ : Type} {x : α} {f : α → Option ρ} {K : ρ → Prop} : gOk (gLet x f) K ↔ gOk (f x) K := Iff.rfl
theorem ka_letE {α β : Type} {x : α} {f : α → β} : gLet x f = f x := rfl
theorem ka_ite {ρ : Type} {c : Prop} [Decidable c] {a b : Option ρ} {K : ρ → Prop} (ht : c → gOk a K) (hf : ¬ c → gOk b K) : gOk (if c then a else b) K := by
  by_cases h : c
  · rw [if_pos h]; exact ht h
  · rw [if_neg h]; exact hf h
theorem ka_chkT {ρ : Type} {c : Prop} [Decidable c] {e : Option ρ} (h : c) : gchk c e = e := by
  unfold gchk
  rw [if_pos h]
theorem gOk.mono {ρ : Type} {o : Option ρ} {K K' : ρ → Prop} (h : gOk o K) (hk : ∀ r, K r → K' r) : gOk o K' := by
  obtain ⟨r, h1, h2⟩ := h
  exact ⟨r, h1, hk r h2⟩
theorem ka_of {ρ : Type} {o : Option ρ} {r : ρ} {K : ρ → Prop} (h : o = some r) (hk : K r) : gOk o K := ⟨r, h, hk⟩
theorem ka_b2 {α ρ : Type} {o : Option (α × gG)} {f : α → gG → Option ρ} {v : α} {G : gG} (h : o = some (v, G)) : gBind2 o f = f v G := by
  rw [h]; rfl
theorem ka_bxr {α β : Type} {o : Option ((String ⊕ α) × gG)} {f : α → gG → Option ((String ⊕ β) × gG)} {v : α} {G : gG} (h : o = some (.inr v, G)) : gBindX o f = f v G := by
  rw [h]; rfl
theorem ka_bxl {α β : Type} {o : Option ((String ⊕ α) × gG)} {f : α → gG → Option ((String ⊕ β) × gG)} {e : String} {G : gG} (h : o = some (.inl e, G)) : gBindX o f = some (.inl e, G) := by
  rw [h]; rfl
/-- a loop, with an invariant; it may end at any round -/
theorem ka_loop {S ρ : Type} {body : S → Option (S ⊕ ρ)} {n : Nat} (N : Nat) (I : Nat → S → Prop) {K : ρ → Prop} (hN : N < n) {s0 : S} (h0 : I 0 s0) (hs : ∀ i s, i ≤ N → I i s → gOk (body s) (gKK (fun s' => i < N ∧ I (i + 1) s') K)) : gOk (gIter body n s0) K := by
  have H : ∀ j i s n, i + j = N → I i s → j < n → gOk (gIter body n s) K := by
    intro j
    induction j with
    | zero =>
      intro i s n hij hI hn
      obtain ⟨m, rfl⟩ : ∃ m, n = m + 1 := ⟨n - 1, by omega⟩
      obtain ⟨q, hq, hk⟩ := hs i s (by omega) hI
      cases q with
      | inl s' => exact absurd hk.1 (by omega)
      | inr r => exact ⟨r, by simp only [gIter, hq], hk⟩
    | succ j ih =>
      intro i s n hij hI hn
      obtain ⟨m, rfl⟩ : ∃ m, n = m + 1 := ⟨n - 1, by omega⟩
      obtain ⟨q, hq, hk⟩ := hs i s (by omega) hI
      cases q with
      | inl s' =>
        obtain ⟨r, hr, hK⟩ := ih (i + 1) s' m (by omega) hk.2 (by omega)
        exact ⟨r, by simp only [gIter, hq]; exact hr, hK⟩
      | inr r => exact ⟨r, by simp only [gIter, hq], hk⟩
  exact H N 0 s0 n (by omega) h0 hN
/-- a loop whose rounds are told one by one -/
theorem ka_up {S ρ : Type} {body : S → Option (S ⊕ ρ)} {n : Nat} (N : Nat) (st : Nat → S) {r : ρ} (hN : N < n) {s0 : S} (h0 : s0 = st 0) (hs : ∀ i, i < N → body (st i) = some (.inl (st (i + 1)))) (he : body (st N) = some (.inr r)) : gIter body n s0 = some r := by
  have h := ka_loop (body := body) (n := n) (K := fun q => q = r) N (fun i s => s = st i) hN h0 (fun i s hi hI => by
    subst hI
    by_cases hlt : i < N
    · exact ⟨_, hs i hlt, hlt, rfl⟩
    · have : i = N := by omega
      subst this
      exact ⟨_, he, rfl⟩)
  obtain ⟨q, h1, rfl⟩ := h
  exact h1
/-- what rounds heap up -/
def acc {α : Type} (f : Nat → α → α) (a : α) : Nat → α
  | 0 => a
  | i + 1 => f i (acc f a i)
theorem acc_congr {α : Type} {f g : Nat → α → α} {a : α} : ∀ {N : Nat}, (∀ i x, i < N → f i x = g i x) → acc f a N = acc g a N := by
  intro N
  induction N with
  | zero => intro _; rfl
  | succ N ih =>
    intro h
    show f N (acc f a N) = g N (acc g a N)
    rw [ih (fun i x hi => h i x (by omega)), h N _ (by omega)]
theorem acc_inv {α : Type} {f : Nat → α → α} {a : α} (P : Nat → α → Prop) (h0 : P 0 a) : ∀ {N : Nat}, (∀ i x, i < N → P i x → P (i + 1) (f i x)) → P N (acc f a N) := by
  intro N
  induction N with
  | zero => intro _; exact h0
  | succ N ih =>
    intro h
    exact h N _ (by omega) (ih (fun i x hi => h i x (by omega)))
/-! reading what was written -/
theorem ka_ii {G : gG} {c k a c' k' a' : Nat} {v : Int32} : gi (gsi G c k a v) c' k' a' = if c' = c ∧ k' = k ∧ a' = a then v else gi G c' k' a' := rfl
theorem ka_ir {G : gG} {c k a c' k' a' : Nat} {v : Option Nat} : gi (gsr G c k a v) c' k' a' = gi G c' k' a' := rfl
theorem ka_ie {G : gG} {a i c' k' a' : Nat} {v : Int32} : gi (gse G a i v) c' k' a' = gi G c' k' a' := rfl
theorem ka_iw {G : gG} {a c' k' a' : Nat} {f : Nat → Int32} : gi (gsw G a f) c' k' a' = gi G c' k' a' := rfl
theorem ka_iL {G : gG} {a i c' k' a' : Nat} {v : Int64} : gi (gsl G a i v) c' k' a' = gi G c' k' a' := rfl
theorem ka_rr {G : gG} {c k a c' k' a' : Nat} {v : Option Nat} : gr (gsr G c k a v) c' k' a' = if c' = c ∧ k' = k ∧ a' = a then v else gr G c' k' a' := rfl
theorem ka_ri {G : gG} {c k a c' k' a' : Nat} {v : Int32} : gr (gsi G c k a v) c' k' a' = gr G c' k' a' := rfl
theorem ka_re {G : gG} {a i c' k' a' : Nat} {v : Int32} : gr (gse G a i v) c' k' a' = gr G c' k' a' := rfl
theorem ka_rw {G : gG} {a c' k' a' : Nat} {f : Nat → Int32} : gr (gsw G a f) c' k' a' = gr G c' k' a' := rfl
theorem ka_rL {G : gG} {a i c' k' a' : Nat} {v : Int64} : gr (gsl G a i v) c' k' a' = gr G c' k' a' := rfl
theorem ka_ee {G : gG} {a i a' i' : Nat} {v : Int32} : ge (gse G a i v) a' i' = if a' = a ∧ i' = i then v else ge G a' i' := rfl
theorem ka_ei {G : gG} {c k a a' i' : Nat} {v : Int32} : ge (gsi G c k a v) a' i' = ge G a' i' := rfl
theorem ka_er {G : gG} {c k a a' i' : Nat} {v : Option Nat} : ge (gsr G c k a v) a' i' = ge G a' i' := rfl
theorem ka_ew {G : gG} {a a' i' : Nat} {f : Nat → Int32} : ge (gsw G a f) a' i' = if a' = a then f i' else ge G a' i' := by
  unfold ge gsw
  by_cases h : a' = a
  · simp [h]
  · simp [h]
theorem ka_eL {G : gG} {a i a' i' : Nat} {v : Int64} : ge (gsl G a i v) a' i' = ge G a' i' := rfl
theorem ka_qi {G : gG} {c k a a' i' : Nat} {v : Int32} : gq (gsi G c k a v) a' i' = gq G a' i' := rfl
theorem ka_qr {G : gG} {c k a a' i' : Nat} {v : Option Nat} : gq (gsr G c k a v) a' i' = gq G a' i' := rfl
theorem ka_qe {G : gG} {a i a' i' : Nat} {v : Int32} : gq (gse G a i v) a' i' = gq G a' i' := rfl
theorem ka_qw {G : gG} {a a' i' : Nat} {f : Nat → Int32} : gq (gsw G a f) a' i' = gq G a' i' := rfl
theorem ka_qL {G : gG} {a i a' i' : Nat} {v : Int64} : gq (gsl G a i v) a' i' = gq G a' i' := rfl
theorem ka_lt {n : Nat} : (OfNat.ofNat n : Int32) = nI n := rfl
theorem ka_in {i N : Nat} (h : i < N) (hN : N < 2 ^ 31) : gIn (nI i) N := nI_in h hN
/-- two pools are alike but for the cells of A -/
def Fr (A : Nat → Prop) (G G' : gG) : Prop := ∀ b, ¬ A b → gSame G G' b
theorem gSame.rf {G : gG} {b : Nat} : gSame G G b := ⟨fun _ _ => rfl, fun _ _ => rfl, rfl, rfl, rfl⟩
theorem gSame.tr {G G' G'' : gG} {b : Nat} (h : gSame G G' b) (h' : gSame G' G'' b) : gSame G G'' b := by
  obtain ⟨a1, a2, a3, a4, a5⟩ := h
  obtain ⟨b1, b2, b3, b4, b5⟩ := h'
  exact ⟨fun c k => (b1 c k).trans (a1 c k), fun c k => (b2 c k).trans (a2 c k), b3.trans a3, b4.trans a4, b5.trans a5⟩
theorem Fr.rf {A : Nat → Prop} {G : gG} : Fr A G G := fun _ _ => gSame.rf
theorem Fr.tr {A : Nat → Prop} {G G' G'' : gG} (h : Fr A G G') (h' : Fr A G' G'') : Fr A G G'' := fun b hb => (h b hb).tr (h' b hb)
theorem Fr.mono {A B : Nat → Prop} {G G' : gG} (h : Fr A G G') (hAB : ∀ b, A b → B b) : Fr B G G' := fun b hb => h b (fun ha => hb (hAB b ha))
theorem Fr.i {A : Nat → Prop} {G : gG} {c k a : Nat} {v : Int32} (h : A a) : Fr A G (gsi G c k a v) := fun b hb => gSame.i (fun e => hb (e ▸ h))
theorem Fr.r {A : Nat → Prop} {G : gG} {c k a : Nat} {v : Option Nat} (h : A a) : Fr A G (gsr G c k a v) := fun b hb => gSame.r (fun e => hb (e ▸ h))
theorem Fr.e {A : Nat → Prop} {G : gG} {a i : Nat} {v : Int32} (h : A a) : Fr A G (gse G a i v) := fun b hb => gSame.e (fun e => hb (e ▸ h))
theorem Fr.w {A : Nat → Prop} {G : gG} {a : Nat} {f : Nat → Int32} (h : A a) : Fr A G (gsw G a f) := fun b hb => gSame.w (fun e => hb (e ▸ h))
theorem gmax_c (x y : Int32) : gmax x y = gmax y x := by
  unfold gmax
  by_cases h : x < y
  · rw [if_pos h, if_neg (fun h' => absurd (Int32.lt_iff_toInt_lt.mp h) (by have := Int32.lt_iff_toInt_lt.mp h'; omega))]
  · by_cases h' : y < x
    · rw [if_neg h, if_pos h']
    · rw [if_neg h, if_neg h']
      refine Int32.toInt_inj.mp ?_
      have h1 : ¬ x.toInt < y.toInt := fun e => h (Int32.lt_iff_toInt_lt.mpr e)
      have h2 : ¬ y.toInt < x.toInt := fun e => h' (Int32.lt_iff_toInt_lt.mpr e)
      omega
theorem gmin_c (x y : Int32) : gmin x y = gmin y x := by
  unfold gmin
  by_cases h : y < x
  · rw [if_pos h, if_neg (fun h' => absurd (Int32.lt_iff_toInt_lt.mp h) (by have := Int32.lt_iff_toInt_lt.mp h'; omega))]
  · by_cases h' : x < y
    · rw [if_neg h, if_pos h']
    · rw [if_neg h, if_neg h']
      refine Int32.toInt_inj.mp ?_
      have h1 : ¬ y.toInt < x.toInt := fun e => h (Int32.lt_iff_toInt_lt.mpr e)
      have h2 : ¬ x.toInt < y.toInt := fun e => h' (Int32.lt_iff_toInt_lt.mpr e)
      omega
theorem ka_bs {α β : Type} {a : α} {f : α → Option β} : (some a).bind f = f a := rfl
theorem acc_s {α : Type} {f : Nat → α → α} {a : α} {i : Nat} : acc f a (i + 1) = f i (acc f a i) := rfl
theorem acc_0 {α : Type} {f : Nat → α → α} {a : α} : acc f a 0 = a := rfl
theorem ka_n10 : ¬ (1 : Int32) = 0 := by decide
theorem ka_n01 : ¬ (0 : Int32) = 1 := by decide
theorem ka_si {α : Type} {c : Prop} [Decidable c] {a b : α} : some (if c then a else b) = if c then some a else some b := by
  by_cases h : c
  · rw [if_pos h, if_pos h]
  · rw [if_neg h, if_neg h]
theorem ka_ix {a b : Nat} {x : Int32} (hx : x = nI b) : nI a + x = nI (a + b) := by rw [hx, nI_add]
