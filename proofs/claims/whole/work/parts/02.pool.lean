/-! THE POOL: what the cells hold, by class, field and address; a heap that holds it -/
abbrev gG : Type := (Nat → Nat → Nat → Int32) × (Nat → Nat → Nat → Option Nat) × (Nat → Nat → Int32) × (Nat → Nat → Option Nat) × (Nat → Nat → Int64)
/-- which cells there are: their kinds and lengths -/
abbrev gτ : Type := Nat → Option (Nat × Nat)
def gi (G : gG) (c k a : Nat) : Int32 := G.1 c k a
def gr (G : gG) (c k a : Nat) : Option Nat := G.2.1 c k a
def ge (G : gG) (a i : Nat) : Int32 := G.2.2.1 a i
def gq (G : gG) (a i : Nat) : Option Nat := G.2.2.2.1 a i
def gl (G : gG) (a i : Nat) : Int64 := G.2.2.2.2 a i
def gn (τ : gτ) (a : Nat) : Nat := match τ a with
  | some q => q.2
  | none => 0
def gsi (G : gG) (c k a : Nat) (v : Int32) : gG := ((fun c' k' a' => if c' = c ∧ k' = k ∧ a' = a then v else G.1 c' k' a'), G.2)
def gsr (G : gG) (c k a : Nat) (v : Option Nat) : gG := (G.1, (fun c' k' a' => if c' = c ∧ k' = k ∧ a' = a then v else G.2.1 c' k' a'), G.2.2)
def gse (G : gG) (a i : Nat) (v : Int32) : gG := (G.1, G.2.1, (fun a' i' => if a' = a ∧ i' = i then v else G.2.2.1 a' i'), G.2.2.2)
def gsq (G : gG) (a i : Nat) (v : Option Nat) : gG := (G.1, G.2.1, G.2.2.1, (fun a' i' => if a' = a ∧ i' = i then v else G.2.2.2.1 a' i'), G.2.2.2.2)
def gsl (G : gG) (a i : Nat) (v : Int64) : gG := (G.1, G.2.1, G.2.2.1, G.2.2.2.1, (fun a' i' => if a' = a ∧ i' = i then v else G.2.2.2.2 a' i'))
/-- a whole row of ints at once -/
def gsw (G : gG) (a : Nat) (f : Nat → Int32) : gG := (G.1, G.2.1, (fun a' => if a' = a then f else G.2.2.1 a'), G.2.2.2)
/-- a new cell, all of it empty -/
def gnw (G : gG) (a : Nat) : gG := ((fun c k b => if b = a then 0 else G.1 c k b), (fun c k b => if b = a then none else G.2.1 c k b), (fun b i => if b = a then 0 else G.2.2.1 b i), (fun b i => if b = a then none else G.2.2.2.1 b i), (fun b i => if b = a then 0 else G.2.2.2.2 b i))
def gnt (τ : gτ) (a κ n : Nat) : gτ := fun b => if b = a then some (κ, n) else τ b
/-- a field's kind, if it is a reference -/
def gFr : Nat → Nat → Option Nat := fun c k => match c, k with
  | 0, 0 => some 13
  | 1, 0 => some 13 | 1, 1 => some 13 | 1, 2 => some 13 | 1, 3 => some 13 | 1, 4 => some 13 | 1, 5 => some 13
  | 2, 0 => some 7 | 2, 1 => some 1
  | 3, 0 => some 16
  | 6, 0 => some 17 | 6, 1 => some 15 | 6, 2 => some 14 | 6, 3 => some 0
  | 7, 0 => some 13
  | 8, 0 => some 7 | 8, 1 => some 6
  | 10, 0 => some 7 | 10, 1 => some 8 | 10, 2 => some 2 | 10, 3 => some 3 | 10, 4 => some 6 | 10, 5 => some 1 | 10, 6 => some 5 | 10, 7 => some 13 | 10, 8 => some 13 | 10, 9 => some 13 | 10, 10 => some 6 | 10, 11 => some 6 | 10, 12 => some 1 | 10, 13 => some 1
  | 11, 1 => some 13 | 11, 2 => some 13 | 11, 3 => some 13 | 11, 4 => some 13 | 11, 5 => some 13 | 11, 8 => some 12 | 11, 15 => some 13 | 11, 17 => some 13 | 11, 18 => some 13 | 11, 19 => some 13
  | _, _ => none
/-- what a row of references holds -/
def gEl (κ : Nat) : Nat := if κ = 14 then 4 else if κ = 15 then 5 else if κ = 16 then 6 else 9
def gV (G : gG) (c a k : Nat) : Value := match gFr c k with
  | some _ => va_rf (gr G c k a)
  | none => .int (gi G c k a)
abbrev gX : Type := va_G × (Nat → ClassId) × State
def gTys (cy : Nat → ClassId) : List (ClassId × FieldType) := [(cy 12, .byte), (cy 13, .int), (cy 14, .object RX4), (cy 15, .object RX5), (cy 16, .object RX6), (cy 17, .object RX9), (cy 18, .long)]
def gAt (X : gX) (G : gG) (H : Heap) (a κ n : Nat) : Prop :=
  if κ < 12 then ∃ r : vw_C, vwCl[κ]? = some r ∧ t_OB a (X.1.1 κ) r.2.2 (X.1.2 κ) H (gV G κ a)
  else if κ < 14 then H[a]? = some (vp_cell (X.2.1 κ) (n, .inl (ge G a)))
  else if κ < 18 then H[a]? = some (vp_cell (X.2.1 κ) (n, .inr (.inr (.inr (.inr (gq G a))))))
  else H[a]? = some (vp_cell (X.2.1 κ) (n, .inr (.inl (gl G a))))
def gWT (τ : gτ) (G : gG) : Prop := (∀ a c n k b κ, τ a = some (c, n) → gFr c k = some κ → gr G c k a = some b → ∃ n', τ b = some (κ, n')) ∧ ∀ a κ n i b, τ a = some (κ, n) → gq G a i = some b → ∃ n', τ b = some (gEl κ, n')
def gInv (X : gX) (τ : gτ) (G : gG) (H : Heap) : Prop := (∀ a κ n, τ a = some (κ, n) → gAt X G H a κ n ∧ X.2.2.heap.size ≤ a) ∧ gWT τ G ∧ X.2.2.heap.size ≤ H.size ∧ ∀ q, q < X.2.2.heap.size → H[q]? = X.2.2.heap[q]?
def gK (τ : gτ) (a κ : Nat) : Prop := ∃ n, τ a = some (κ, n)
/-- the world as a method finds it -/
def gOK (X : gX) (τ : gτ) (G : gG) (U : State) : Prop := va_K X.1 vwCl (gTys X.2.1) U ∧ X.2.2.WarmedH U.vm ∧ gInv X τ G U.heap
def gHw (X : gX) (τ : gτ) (G : gG) (H : Heap) (locs : List Loc) : Prop := gInv X τ G H ∧ ∀ q ∈ locs, X.2.2.heap.size ≤ q.base
def gFx (X : gX) (p : Program) (s : State) (m : MethodId) (args : Array Value) (meth : Method) (c : Code) (cc : ByteArray) (nL : Nat) (own : String) : Prop :=
  p.tables.exec = Jvm.exec ∧ c.code = cc ∧ c.maxLocals = nL ∧ s.vm.findClass own = some m.cls ∧ (∀ w ∈ wA, w.before args s = true) ∧ va_K X.1 vwCl (gTys X.2.1) s ∧ X.2.2.WarmedH s.vm ∧ meth.locks = false
def gFree (X : gX) : Addr → Prop := fun q => X.2.2.heap.size ≤ q
/-- the pure run comes to an answer of which K holds -/
def gOk {ρ : Type} (o : Option ρ) (K : ρ → Prop) : Prop := ∃ r, o = some r ∧ K r
def gchk {ρ : Type} (c : Prop) [Decidable c] (e : Option ρ) : Option ρ := if c then e else none
theorem gOk_bind {α ρ : Type} {o : Option α} {f : α → Option ρ} {K : ρ → Prop} (h : gOk (o.bind f) K) : ∃ x, o = some x ∧ gOk (f x) K := by
  obtain ⟨r, h1, h2⟩ := h
  cases o with
  | none => cases h1
  | some x => exact ⟨x, rfl, r, h1, h2⟩
theorem gOk_chk {ρ : Type} {c : Prop} [Decidable c] {e : Option ρ} {K : ρ → Prop} (h : gOk (gchk c e) K) : c ∧ gOk e K := by
  unfold gchk at h
  by_cases hc : c
  · rw [if_pos hc] at h; exact ⟨hc, h⟩
  · rw [if_neg hc] at h; obtain ⟨r, h1, -⟩ := h; cases h1
theorem gOk_t {ρ : Type} {c : Prop} [Decidable c] {a b : Option ρ} {K : ρ → Prop} (h : gOk (if c then a else b) K) (hc : c) : gOk a K := by rwa [if_pos hc] at h
theorem gOk_f {ρ : Type} {c : Prop} [Decidable c] {a b : Option ρ} {K : ρ → Prop} (h : gOk (if c then a else b) K) (hc : ¬ c) : gOk b K := by rwa [if_neg hc] at h
theorem gOk_some {ρ : Type} {r : ρ} {K : ρ → Prop} (h : gOk (some r) K) : K r := by obtain ⟨r', h1, h2⟩ := h; cases h1; exact h2
def gIter {S ρ : Type} (body : S → Option (S ⊕ ρ)) : Nat → S → Option ρ
  | 0, _ => none
  | n + 1, s => match body s with
    | none => none
    | some (.inl s') => gIter body n s'
    | some (.inr r) => some r
def gKK {S ρ : Type} (K1 : S → Prop) (K : ρ → Prop) : S ⊕ ρ → Prop := fun q => match q with
  | .inl s => K1 s
  | .inr r => K r
theorem gOk_iter {S ρ : Type} {body : S → Option (S ⊕ ρ)} {n : Nat} {s : S} {K : ρ → Prop} (h : gOk (gIter body (n + 1) s) K) : gOk (body s) (gKK (fun s' => gOk (gIter body n s') K) K) := by
  obtain ⟨r, h1, h2⟩ := h
  unfold gIter at h1
  cases hb : body s with
  | none => rw [hb] at h1; cases h1
  | some q =>
    rw [hb] at h1
    refine ⟨q, rfl, ?_⟩
    cases q with
    | inl s' => exact ⟨r, h1, h2⟩
    | inr r' => cases h1; exact h2
theorem gOk_iter0 {S ρ : Type} {body : S → Option (S ⊕ ρ)} {s : S} {K : ρ → Prop} (h : gOk (gIter body 0 s) K) {P : Prop} : P := by
  obtain ⟨r, h1, h2⟩ := h
  cases h1
/-- what the pool says of an address -/
def gSame (G G' : gG) (b : Nat) : Prop := (∀ c k, gi G' c k b = gi G c k b) ∧ (∀ c k, gr G' c k b = gr G c k b) ∧ ge G' b = ge G b ∧ gq G' b = gq G b ∧ gl G' b = gl G b
theorem gAt.kept {X : gX} {G G' : gG} {H H' : Heap} {a κ n : Nat} (h : gAt X G H a κ n) (hs : gSame G G' a) (hq : H'[a]? = H[a]?) : gAt X G' H' a κ n := by
  obtain ⟨h1, h2, h3, h4, h5⟩ := hs
  unfold gAt at h ⊢
  split
  · rename_i hk
    rw [if_pos hk] at h
    obtain ⟨r, e, h⟩ := h
    refine ⟨r, e, (h.kept hq).to fun k _ => ?_⟩
    unfold gV
    rw [h1, h2]
  · rename_i hk
    rw [if_neg hk] at h
    split
    · rename_i hk2
      rw [if_pos hk2] at h
      rw [hq, h3]; exact h
    · rename_i hk2
      rw [if_neg hk2] at h
      split
      · rename_i hk3
        rw [if_pos hk3] at h
        rw [hq, h4]; exact h
      · rename_i hk3
        rw [if_neg hk3] at h
        rw [hq, h5]; exact h
theorem gAt.lt {X : gX} {G : gG} {H : Heap} {a κ n : Nat} (h : gAt X G H a κ n) : a < H.size := by
  unfold gAt at h
  split at h
  · obtain ⟨r, e, cell, h, -⟩ := h
    exact (Array.getElem?_eq_some_iff.mp h).1
  · split at h
    · exact (Array.getElem?_eq_some_iff.mp h).1
    · split at h
      · exact (Array.getElem?_eq_some_iff.mp h).1
      · exact (Array.getElem?_eq_some_iff.mp h).1
/-- one cell is written -/
theorem gInv.put {X : gX} {τ : gτ} {G G' : gG} {H H' : Heap} {a κ n : Nat} (h : gInv X τ G H) (hT : τ a = some (κ, n)) (hs : ∀ b, b ≠ a → gSame G G' b) (hz : H'.size = H.size) (hq : ∀ q, q ≠ a → H'[q]? = H[q]?) (hat : gAt X G' H' a κ n) (hW : gWT τ G') : gInv X τ G' H' := by
  obtain ⟨h1, h2, h3, h4⟩ := h
  refine ⟨fun b κ' n' hb => ?_, hW, by rw [hz]; exact h3, fun q hl => ?_⟩
  · by_cases hba : b = a
    · subst hba
      rw [hT] at hb
      cases hb
      exact ⟨hat, (h1 b κ n hT).2⟩
    · exact ⟨(h1 b κ' n' hb).1.kept (hs b hba) (hq b hba), (h1 b κ' n' hb).2⟩
  · rw [hq q (fun e => by have := (h1 a κ n hT).2; omega)]
    exact h4 q hl
theorem gWT.ints {τ : gτ} {G G' : gG} (h : gWT τ G) (hr : ∀ c k b, gr G' c k b = gr G c k b) (hq : ∀ b i, gq G' b i = gq G b i) : gWT τ G' := by
  refine ⟨fun a c n k b κ h1 h2 h3 => ?_, fun a κ n i b h1 h2 => ?_⟩
  · rw [hr] at h3
    exact h.1 a c n k b κ h1 h2 h3
  · rw [hq] at h2
    exact h.2 a κ n i b h1 h2
theorem gHw.put {X : gX} {τ : gτ} {G' : gG} {H : Heap} {locs : List Loc} {a k : Nat} (h : gInv X τ G' H) (hl : ∀ q ∈ locs, X.2.2.heap.size ≤ q.base) (ha : X.2.2.heap.size ≤ a) : gHw X τ G' H (locs ++ [⟨a, k⟩]) := by
  refine ⟨h, fun q hq => ?_⟩
  rcases List.mem_append.mp hq with h | h
  · exact hl q h
  · rw [List.mem_singleton.mp h]; exact ha
/-- a named part of a pure run -/
def gLet {α β : Type} (x : α) (f : α → β) : β := f x
theorem gOk_let {α ρ : Type} {x : α} {f : α → Option ρ} {K : ρ → Prop} (h : gOk (gLet x f) K) : ∃ v, v = x ∧ gOk (f v) K := ⟨x, rfl, h⟩
theorem gOk_bindK {α ρ : Type} {o : Option α} {f : α → Option ρ} {K : ρ → Prop} (h : gOk (o.bind f) K) : gOk o (fun q => gOk (f q) K) := by
  obtain ⟨x, h1, h2⟩ := gOk_bind h
  exact ⟨x, h1, h2⟩
theorem gSame.i {G : gG} {c k a b : Nat} {v : Int32} (h : b ≠ a) : gSame G (gsi G c k a v) b := ⟨fun c' k' => by simp [gi, gsi, h], fun _ _ => rfl, rfl, rfl, rfl⟩
theorem gSame.r {G : gG} {c k a b : Nat} {v : Option Nat} (h : b ≠ a) : gSame G (gsr G c k a v) b := ⟨fun _ _ => rfl, fun c' k' => by simp [gr, gsr, h], rfl, rfl, rfl⟩
theorem gSame.e {G : gG} {a i b : Nat} {v : Int32} (h : b ≠ a) : gSame G (gse G a i v) b := ⟨fun _ _ => rfl, fun _ _ => rfl, by funext j; simp [ge, gse, h], rfl, rfl⟩
theorem gSame.w {G : gG} {a b : Nat} {f : Nat → Int32} (h : b ≠ a) : gSame G (gsw G a f) b := ⟨fun _ _ => rfl, fun _ _ => rfl, by funext j; simp [ge, gsw, h], rfl, rfl⟩
theorem gSame.q {G : gG} {a i b : Nat} {v : Option Nat} (h : b ≠ a) : gSame G (gsq G a i v) b := ⟨fun _ _ => rfl, fun _ _ => rfl, rfl, by funext j; simp [gq, gsq, h], rfl⟩
theorem gSame.l {G : gG} {a i b : Nat} {v : Int64} (h : b ≠ a) : gSame G (gsl G a i v) b := ⟨fun _ _ => rfl, fun _ _ => rfl, rfl, rfl, by funext j; simp [gl, gsl, h]⟩
/-- fields' links: the word, and what it names -/
def gLf (own : String) (idx c k : Nat) : Prop := ∃ r : vw_C, vwCl[c]? = some r ∧ k < r.2.2 ∧ Cond.fieldLink own idx r.1 (r.2.1 k).2.1 (r.2.1 k).2.2.1 ∈ wA ∧ (r.2.1 k).1 = r.1
theorem gOut {x : Int32} (lo : Int32) (n : Nat) {a b : Int} (ha : lo.toInt = a) (hb : a + n - 1 = b) (h0 : 0 ≤ a) (hn : a + n < 2147483648) (h : ∀ j : Nat, j < n → ¬ x = lo + Int32.ofNat j) : x.toInt < a ∨ b < x.toInt := by
  subst ha; subst hb
  apply Classical.byContradiction
  intro hc
  have h1 : lo.toInt ≤ x.toInt := by omega
  have h2 : x.toInt < lo.toInt + n := by omega
  have hlo := lo.le_toInt
  have hlo2 := lo.toInt_lt
  refine h (x.toInt - lo.toInt).toNat (by omega) (Int32.toInt_inj.mp ?_)
  rw [Int32.toInt_add, Int32.toInt_ofNat_of_lt (by omega)]
  rw [Int.toNat_of_nonneg (by omega)]
  rw [show lo.toInt + (x.toInt - lo.toInt) = x.toInt by omega]
  have := x.le_toInt
  have := x.toInt_lt
  rw [Int.bmod_eq_of_le] <;> omega
abbrev gkd (τ : gτ) (a κ : Nat) : Prop := (τ a).map Prod.fst = some κ
theorem gkd_K {τ : gτ} {a κ : Nat} (h : gkd τ a κ) : gK τ a κ := by
  unfold gkd at h
  cases hq : τ a with
  | none => rw [hq] at h; cases h
  | some q => rw [hq] at h; cases h; exact ⟨q.2, hq⟩
def gBind2 {α ρ : Type} (o : Option (α × gG)) (f : α → gG → Option ρ) : Option ρ := o.bind fun q => f q.1 q.2
theorem gOk_bind2 {α ρ : Type} {o : Option (α × gG)} {f : α → gG → Option ρ} {K : ρ → Prop} (h : gOk (gBind2 o f) K) : ∃ x G1, o = some (x, G1) ∧ gOk (f x G1) K := by
  obtain ⟨⟨x, G1⟩, h1, h2⟩ := gOk_bind h
  exact ⟨x, G1, h1, h2⟩
