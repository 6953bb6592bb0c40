/-! THE VIEWS: what the class's things show of the reference's world ω -/
abbrev gW : Type := Nat → Int32
def yv (ω : gW) (i k : Nat) : Int32 := ω (13 + 4 * i + k)
def rv (ω : gW) (i k : Nat) : Int32 := ω (53 + 10 * i + k)
def ov (ω : gW) (i k : Nat) : Int32 := ω (143 + 3 * i + k)
def cY (ω : gW) : Nat := (ω 0).toNatClampNeg
def cR (ω : gW) : Nat := (ω 1).toNatClampNeg
def cO (ω : gW) : Nat := (ω 2).toNatClampNeg
def cL (ω : gW) : Nat := (ω 11).toNatClampNeg
def ry (ω : gW) (i j : Nat) : Nat := (rv ω i j).toNatClampNeg
/-- a number from lo to hi -/
def bt (x : Int32) (lo hi : Nat) : Prop := ∃ k : Nat, lo ≤ k ∧ k ≤ hi ∧ x = nI k
def YOK (ω : gW) (i : Nat) : Prop := bt (yv ω i 0) 1 30 ∧ bt (yv ω i 1) 0 200 ∧ bt (yv ω i 2) 0 9 ∧ bt (yv ω i 3) 0 5
def ROK (ω : gW) (i : Nat) : Prop :=
  ((rv ω i 0 = nI (ry ω i 0) ∧ ry ω i 0 < cY ω) ∧ (rv ω i 1 = nI (ry ω i 1) ∧ ry ω i 1 < cY ω) ∧ rv ω i 2 = nI (ry ω i 2) ∧ ry ω i 2 < cY ω) ∧
  (ry ω i 0 ≠ ry ω i 1 ∧ ry ω i 0 ≠ ry ω i 2 ∧ ry ω i 1 ≠ ry ω i 2) ∧
  (bt (rv ω i 3) 0 400 ∧ bt (rv ω i 4) 0 9 ∧ bt (rv ω i 5) 0 99 ∧ bt (rv ω i 6) 0 1 ∧ bt (rv ω i 8) 0 1 ∧ bt (rv ω i 9) 0 999) ∧
  (rv ω i 7 = nI 1 ∨ rv ω i 7 = nI 2 ∨ rv ω i 7 = nI 4 ∨ rv ω i 7 = nI 8) ∧ (rv ω i 8 = 0 → bt (rv ω i 3) 1 400)
def OOK (ω : gW) (i : Nat) : Prop := bt (ov ω i 0) 1 400 ∧ bt (ov ω i 1) 1 60 ∧ bt (ov ω i 2) 0 99
def WI (ω : gW) : Prop :=
  ((ω 0 = nI (cY ω) ∧ cY ω ≤ 10) ∧ (ω 1 = nI (cR ω) ∧ cR ω ≤ 8) ∧ ω 2 = nI (cO ω) ∧ cO ω ≤ 8) ∧
  (bt (ω 3) 0 12 ∧ bt (ω 4) 0 1 ∧ bt (ω 5) 0 9999 ∧ bt (ω 6) 0 100 ∧ bt (ω 7) 0 100 ∧ ω 11 = nI (cL ω) ∧ cL ω ≤ 60) ∧
  (∀ i, i < cY ω → YOK ω i) ∧ (∀ i, i < cR ω → ROK ω i) ∧ ∀ i, i < cO ω → OOK ω i
/-- where a Shed's parts lie -/
def FS (τ : gτ) (G : gG) (s : Nat) : Prop :=
  (gr G 6 0 s = some (s + 1) ∧ gr G 6 1 s = some (s + 2) ∧ gr G 6 2 s = some (s + 3) ∧ gr G 6 3 s = some (s + 4) ∧ gr G 0 0 (s + 4) = some (s + 5)) ∧
  (gn τ (s + 1) = 10 ∧ gn τ (s + 2) = 8 ∧ gn τ (s + 3) = 8 ∧ gn τ (s + 5) = 300) ∧
  (∀ i, i < 10 → gq G (s + 1) i = some (s + 6 + i) ∧ gkd τ (s + 6 + i) 9) ∧
  (∀ i, i < 8 → gq G (s + 2) i = some (s + 16 + i) ∧ gkd τ (s + 16 + i) 5) ∧
  ∀ i, i < 8 → gq G (s + 3) i = some (s + 24 + i) ∧ gkd τ (s + 24 + i) 4
/-- where a Law's parts lie -/
def FL (τ : gτ) (G : gG) (l : Nat) : Prop :=
  (gr G 1 0 l = some (l + 1) ∧ gr G 1 1 l = some (l + 2) ∧ gr G 1 2 l = some (l + 3) ∧ gr G 1 3 l = some (l + 4) ∧ gr G 1 4 l = some (l + 5) ∧ gr G 1 5 l = some (l + 6)) ∧
  gn τ (l + 1) = 12 ∧ gn τ (l + 2) = 12 ∧ gn τ (l + 3) = 12 ∧ gn τ (l + 4) = 400 ∧ gn τ (l + 5) = 11 ∧ gn τ (l + 6) = 32
/-- where the reference's parts lie -/
def FM (τ : gτ) (G : gG) (m : Nat) : Prop :=
  (gr G 11 1 m = some (m + 1) ∧ gr G 11 2 m = some (m + 2) ∧ gr G 11 3 m = some (m + 3) ∧ gr G 11 4 m = some (m + 4) ∧ gr G 11 5 m = some (m + 5) ∧ gr G 11 8 m = some (m + 6) ∧ gr G 11 15 m = some (m + 7) ∧ gr G 11 17 m = some (m + 8) ∧ gr G 11 18 m = some (m + 9) ∧ gr G 11 19 m = some (m + 10)) ∧
  gn τ (m + 1) = 2165 ∧ gn τ (m + 2) = 1316 ∧ gn τ (m + 3) = 1316 ∧ gn τ (m + 4) = 467 ∧ gn τ (m + 5) = 5604 ∧ gn τ (m + 6) = 400 ∧ gn τ (m + 7) = 5 ∧ gn τ (m + 8) = 400 ∧ gn τ (m + 9) = 256 ∧ gn τ (m + 10) = 10
/-- a Rope shows the reference's rope i -/
def RV (G : gG) (a : Nat) (ω : gW) (i : Nat) : Prop := gi G 5 0 a = rv ω i 0 ∧ gi G 5 1 a = rv ω i 1 ∧ gi G 5 2 a = rv ω i 2 ∧ gi G 5 3 a = rv ω i 3 ∧ gi G 5 4 a = rv ω i 4 ∧ gi G 5 5 a = rv ω i 5 ∧ gi G 5 6 a = rv ω i 7 ∧ gi G 5 7 a = rv ω i 9 ∧ gi G 5 8 a = rv ω i 6 ∧ gi G 5 9 a = rv ω i 8
def YV (G : gG) (a : Nat) (ω : gW) (i : Nat) : Prop := gi G 9 0 a = yv ω i 0 ∧ gi G 9 1 a = yv ω i 1 ∧ gi G 9 2 a = yv ω i 2 ∧ gi G 9 3 a = yv ω i 3
def OV (G : gG) (a : Nat) (ω : gW) (i : Nat) : Prop := gi G 4 0 a = ov ω i 0 ∧ gi G 4 1 a = ov ω i 1 ∧ gi G 4 2 a = ov ω i 2
/-- the log as a ring -/
def LG (G : gG) (s : Nat) (ω : gW) : Prop := gi G 0 1 (s + 4) = ω 11 ∧ ∃ nx : Nat, nx < 60 ∧ gi G 0 2 (s + 4) = nI nx ∧ ∀ q w, q < cL ω → w < 5 → ge G (s + 5) ((nx + 59 - q) % 60 * 5 + w) = ω (167 + 5 * q + w)
/-- a Shed shows the world -/
def VS (G : gG) (s : Nat) (ω : gW) : Prop :=
  (gi G 6 4 s = ω 0 ∧ gi G 6 5 s = ω 1 ∧ gi G 6 6 s = ω 2 ∧ gi G 6 7 s = ω 3 ∧ gi G 6 8 s = ω 6 ∧ gi G 6 9 s = ω 7 ∧ gi G 6 10 s = ω 5 ∧ gi G 6 11 s = ω 12 ∧ gi G 6 12 s = ω 10 ∧ gi G 6 13 s = ω 8 ∧ gi G 6 14 s = ω 9) ∧
  (∀ i, i < cY ω → YV G (s + 6 + i) ω i) ∧ (∀ i, i < cR ω → RV G (s + 16 + i) ω i) ∧ (∀ i, i < cO ω → OV G (s + 24 + i) ω i) ∧ LG G s ω
theorem FS.rf {τ : gτ} {G : gG} {s : Nat} (h : FS τ G s) : gr G 6 0 s = some (s + 1) ∧ gr G 6 1 s = some (s + 2) ∧ gr G 6 2 s = some (s + 3) ∧ gr G 6 3 s = some (s + 4) ∧ gr G 0 0 (s + 4) = some (s + 5) := h.1
theorem FS.ln {τ : gτ} {G : gG} {s : Nat} (h : FS τ G s) : gn τ (s + 1) = 10 ∧ gn τ (s + 2) = 8 ∧ gn τ (s + 3) = 8 ∧ gn τ (s + 5) = 300 := h.2.1
theorem FS.y {τ : gτ} {G : gG} {s i : Nat} (h : FS τ G s) (hi : i < 10) {ρ : Type} {f : Nat → Option ρ} : gchk (gIn (nI i) (gn τ (s + 1))) ((gq G (s + 1) (nI i).toNatClampNeg).bind f) = f (s + 6 + i) := by
  rw [ka_chkT (by rw [h.2.1.1]; exact ka_in hi (by decide)), nI_clamp (by omega), (h.2.2.1 i hi).1]; rfl
theorem FS.r {τ : gτ} {G : gG} {s i : Nat} (h : FS τ G s) (hi : i < 8) {ρ : Type} {f : Nat → Option ρ} : gchk (gIn (nI i) (gn τ (s + 2))) ((gq G (s + 2) (nI i).toNatClampNeg).bind f) = f (s + 16 + i) := by
  rw [ka_chkT (by rw [h.2.1.2.1]; exact ka_in hi (by decide)), nI_clamp (by omega), (h.2.2.2.1 i hi).1]; rfl
theorem FS.o {τ : gτ} {G : gG} {s i : Nat} (h : FS τ G s) (hi : i < 8) {ρ : Type} {f : Nat → Option ρ} : gchk (gIn (nI i) (gn τ (s + 3))) ((gq G (s + 3) (nI i).toNatClampNeg).bind f) = f (s + 24 + i) := by
  rw [ka_chkT (by rw [h.2.1.2.2.1]; exact ka_in hi (by decide)), nI_clamp (by omega), (h.2.2.2.2 i hi).1]; rfl
theorem FS.ky {τ : gτ} {G : gG} {s i : Nat} (h : FS τ G s) (hi : i < 10) {ρ : Type} {e : Option ρ} : gchk (gkd τ (s + 6 + i) 9) e = e := ka_chkT (h.2.2.1 i hi).2
theorem FS.kr {τ : gτ} {G : gG} {s i : Nat} (h : FS τ G s) (hi : i < 8) {ρ : Type} {e : Option ρ} : gchk (gkd τ (s + 16 + i) 5) e = e := ka_chkT (h.2.2.2.1 i hi).2
theorem FS.ko {τ : gτ} {G : gG} {s i : Nat} (h : FS τ G s) (hi : i < 8) {ρ : Type} {e : Option ρ} : gchk (gkd τ (s + 24 + i) 4) e = e := ka_chkT (h.2.2.2.2 i hi).2
theorem FS.yarnAt {τ : gτ} {G : gG} {s i : Nat} (h : FS τ G s) (hi : i < 10) : f_X6_yarnAt τ s (nI i) G = some (s + 6 + i) := by
  unfold f_X6_yarnAt
  have h1 : ¬ nI i < 0 := nI_pos (by omega)
  have h2 : ¬ (10 : Int32) ≤ nI i := nI_ge (b := 10) hi (by decide)
  rw [h.1.1]
  simp only [ka_bs]
  rw [if_neg h1, if_neg h2, h.y hi]
theorem FS.yarnAny {τ : gτ} {G : gG} {s : Nat} (h : FS τ G s) (x : Int32) : ∃ j, j < 10 ∧ f_X6_yarnAt τ s x G = some (s + 6 + j) := by
  rcases pk_ix x (n := 10) (by decide) with h1 | h1 | ⟨j, hj, rfl⟩
  · refine ⟨0, by decide, ?_⟩
    unfold f_X6_yarnAt
    rw [h.1.1]
    simp only [ka_bs]
    rw [if_pos h1]
    exact h.y (i := 0) (by decide)
  · refine ⟨0, by decide, ?_⟩
    have h1 : (10 : Int32) ≤ x := h1
    unfold f_X6_yarnAt
    rw [h.1.1]
    simp only [ka_bs]
    by_cases h0 : x < 0
    · rw [if_pos h0]; exact h.y (i := 0) (by decide)
    · rw [if_neg h0, if_pos h1]; exact h.y (i := 0) (by decide)
  · exact ⟨j, hj, h.yarnAt hj⟩
theorem VS.cn {G : gG} {s : Nat} {ω : gW} (h : VS G s ω) : gi G 6 4 s = ω 0 ∧ gi G 6 5 s = ω 1 ∧ gi G 6 6 s = ω 2 ∧ gi G 6 7 s = ω 3 ∧ gi G 6 8 s = ω 6 ∧ gi G 6 9 s = ω 7 ∧ gi G 6 10 s = ω 5 ∧ gi G 6 11 s = ω 12 ∧ gi G 6 12 s = ω 10 ∧ gi G 6 13 s = ω 8 ∧ gi G 6 14 s = ω 9 := h.1
theorem VS.y {G : gG} {s : Nat} {ω : gW} (h : VS G s ω) {i : Nat} (hi : i < cY ω) : gi G 9 0 (s + 6 + i) = yv ω i 0 ∧ gi G 9 1 (s + 6 + i) = yv ω i 1 ∧ gi G 9 2 (s + 6 + i) = yv ω i 2 ∧ gi G 9 3 (s + 6 + i) = yv ω i 3 := h.2.1 i hi
theorem VS.r {G : gG} {s : Nat} {ω : gW} (h : VS G s ω) {i : Nat} (hi : i < cR ω) : RV G (s + 16 + i) ω i := h.2.2.1 i hi
theorem VS.o {G : gG} {s : Nat} {ω : gW} (h : VS G s ω) {i : Nat} (hi : i < cO ω) : gi G 4 0 (s + 24 + i) = ov ω i 0 ∧ gi G 4 1 (s + 24 + i) = ov ω i 1 ∧ gi G 4 2 (s + 24 + i) = ov ω i 2 := h.2.2.2.1 i hi
theorem RV.f {G : gG} {a : Nat} {ω : gW} {i : Nat} (h : RV G a ω i) : gi G 5 0 a = rv ω i 0 ∧ gi G 5 1 a = rv ω i 1 ∧ gi G 5 2 a = rv ω i 2 ∧ gi G 5 3 a = rv ω i 3 ∧ gi G 5 4 a = rv ω i 4 ∧ gi G 5 5 a = rv ω i 5 ∧ gi G 5 6 a = rv ω i 7 ∧ gi G 5 7 a = rv ω i 9 ∧ gi G 5 8 a = rv ω i 6 ∧ gi G 5 9 a = rv ω i 8 := h
theorem gSame.fs {τ : gτ} {G G' : gG} {s : Nat} (h : FS τ G s) (hs : ∀ b, s ≤ b → b ≤ s + 31 → gSame G G' b) : FS τ G' s := by
  obtain ⟨⟨a1, a2, a3, a4, a5⟩, b, c, d, e⟩ := h
  refine ⟨⟨?_, ?_, ?_, ?_, ?_⟩, b, fun i hi => ⟨?_, (c i hi).2⟩, fun i hi => ⟨?_, (d i hi).2⟩, fun i hi => ⟨?_, (e i hi).2⟩⟩
  · rw [(hs s (by omega) (by omega)).2.1]; exact a1
  · rw [(hs s (by omega) (by omega)).2.1]; exact a2
  · rw [(hs s (by omega) (by omega)).2.1]; exact a3
  · rw [(hs s (by omega) (by omega)).2.1]; exact a4
  · rw [(hs (s + 4) (by omega) (by omega)).2.1]; exact a5
  · rw [(hs (s + 1) (by omega) (by omega)).2.2.2.1]; exact (c i hi).1
  · rw [(hs (s + 2) (by omega) (by omega)).2.2.2.1]; exact (d i hi).1
  · rw [(hs (s + 3) (by omega) (by omega)).2.2.2.1]; exact (e i hi).1
theorem gSame.vr {G G' : gG} {a : Nat} {ω : gW} {i : Nat} (h : RV G a ω i) (hs : gSame G G' a) : RV G' a ω i := by
  unfold RV
  simp only [hs.1]
  exact h
theorem gSame.vs {G G' : gG} {s : Nat} {ω : gW} (hI : WI ω) (h : VS G s ω) (hs : ∀ b, s ≤ b → b ≤ s + 31 → gSame G G' b) : VS G' s ω := by
  obtain ⟨a, b, c, d, ⟨l1, nx, l2, l3, l4⟩⟩ := h
  obtain ⟨⟨⟨-, hy⟩, ⟨-, hr⟩, -, ho⟩, -⟩ := hI
  refine ⟨?_, fun i hi => ?_, fun i hi => (hs _ (by omega) (by omega)).vr (c i hi), fun i hi => ?_, ?_, nx, l2, ?_, ?_⟩
  · simp only [(hs s (by omega) (by omega)).1]; exact a
  · unfold YV; simp only [(hs (s + 6 + i) (by omega) (by omega)).1]; exact b i hi
  · unfold OV; simp only [(hs (s + 24 + i) (by omega) (by omega)).1]; exact d i hi
  · rw [(hs (s + 4) (by omega) (by omega)).1]; exact l1
  · rw [(hs (s + 4) (by omega) (by omega)).1]; exact l3
  · intro q w hq hw
    rw [(hs (s + 5) (by omega) (by omega)).2.2.1]
    exact l4 q w hq hw
theorem Fr.fs {A : Nat → Prop} {τ : gτ} {G G' : gG} {s : Nat} (hf : Fr A G G') (h : FS τ G s) (hs : ∀ b, s ≤ b → b ≤ s + 31 → ¬ A b) : FS τ G' s := gSame.fs h fun b h1 h2 => hf b (hs b h1 h2)
theorem Fr.vs {A : Nat → Prop} {G G' : gG} {s : Nat} {ω : gW} (hf : Fr A G G') (hI : WI ω) (h : VS G s ω) (hs : ∀ b, s ≤ b → b ≤ s + 31 → ¬ A b) : VS G' s ω := gSame.vs hI h fun b h1 h2 => hf b (hs b h1 h2)
theorem Fr.fl {A : Nat → Prop} {τ : gτ} {G G' : gG} {l : Nat} (hf : Fr A G G') (h : FL τ G l) (hl : ¬ A l) : FL τ G' l := by
  unfold FL
  simp only [(hf l hl).2.1]
  exact h
theorem Fr.fm {A : Nat → Prop} {τ : gτ} {G G' : gG} {m : Nat} (hf : Fr A G G') (h : FM τ G m) (hm : ¬ A m) : FM τ G' m := by
  unfold FM
  simp only [(hf m hm).2.1]
  exact h
theorem FM.rf {τ : gτ} {G : gG} {m : Nat} (h : FM τ G m) : gr G 11 1 m = some (m + 1) ∧ gr G 11 2 m = some (m + 2) ∧ gr G 11 3 m = some (m + 3) ∧ gr G 11 4 m = some (m + 4) ∧ gr G 11 5 m = some (m + 5) ∧ gr G 11 8 m = some (m + 6) ∧ gr G 11 15 m = some (m + 7) ∧ gr G 11 17 m = some (m + 8) ∧ gr G 11 18 m = some (m + 9) ∧ gr G 11 19 m = some (m + 10) := h.1
theorem FL.rf {τ : gτ} {G : gG} {l : Nat} (h : FL τ G l) : gr G 1 0 l = some (l + 1) ∧ gr G 1 1 l = some (l + 2) ∧ gr G 1 2 l = some (l + 3) ∧ gr G 1 3 l = some (l + 4) ∧ gr G 1 4 l = some (l + 5) ∧ gr G 1 5 l = some (l + 6) := h.1
/-- reading the world -/
theorem FM.w {τ : gτ} {G : gG} {m : Nat} (h : FM τ G m) {x : Int32} (k : Nat) (hx : x = nI k) (hk : k < 2165) {ρ : Type} {e : Option ρ} : gchk (gIn x (gn τ (m + 1))) e = e := by
  subst hx
  exact ka_chkT (by rw [h.2.1]; exact ka_in hk (by decide))
theorem FM.cn {τ : gτ} {G : gG} {m : Nat} (h : FM τ G m) : f_X11_yarns τ m G = some (ge G (m + 1) 0) ∧ f_X11_ropes τ m G = some (ge G (m + 1) 1) ∧ f_X11_orders τ m G = some (ge G (m + 1) 2) := by
  refine ⟨?_, ?_, ?_⟩
  · unfold f_X11_yarns
    rw [h.rf.1]
    simp only [ka_bs]
    rw [h.w (x := 0) 0 rfl (by decide)]
    rfl
  · unfold f_X11_ropes
    rw [h.rf.1]
    simp only [ka_bs]
    rw [h.w (x := 1) 1 rfl (by decide)]
    rfl
  · unfold f_X11_orders
    rw [h.rf.1]
    simp only [ka_bs]
    rw [h.w (x := 2) 2 rfl (by decide)]
    rfl
theorem FM.of {τ : gτ} {G : gG} {m : Nat} (h : FM τ G m) {x w : Int32} (i k : Nat) (hx : x = nI i) (hw : w = nI k) (hb : 53 + 10 * i + k < 2165) : f_X11_of τ m x w G = some (rv (ge G (m + 1)) i k) := by
  subst hx; subst hw
  unfold f_X11_of f_X11_at
  rw [h.rf.1]
  simp only [ka_bs]
  have e : (53 : Int32) + 10 * nI i + nI k = nI (53 + 10 * i + k) := by
    rw [show (53 : Int32) = nI 53 from rfl, show (10 : Int32) = nI 10 from rfl, pk_mul, nI_add, nI_add]
  rw [e, h.w (53 + 10 * i + k) rfl hb, nI_clamp (by omega)]
  rfl
theorem FM.ofYarn {τ : gτ} {G : gG} {m : Nat} (h : FM τ G m) {x w : Int32} (i k : Nat) (hx : x = nI i) (hw : w = nI k) (hb : 13 + 4 * i + k < 2165) : f_X11_ofYarn τ m x w G = some (yv (ge G (m + 1)) i k) := by
  subst hx; subst hw
  unfold f_X11_ofYarn f_X11_yarnAt
  rw [h.rf.1]
  simp only [ka_bs]
  have e : (13 : Int32) + 4 * nI i + nI k = nI (13 + 4 * i + k) := by
    rw [show (13 : Int32) = nI 13 from rfl, show (4 : Int32) = nI 4 from rfl, pk_mul, nI_add, nI_add]
  rw [e, h.w (13 + 4 * i + k) rfl hb, nI_clamp (by omega)]
  rfl
theorem FM.ofOrder {τ : gτ} {G : gG} {m : Nat} (h : FM τ G m) {x w : Int32} (i k : Nat) (hx : x = nI i) (hw : w = nI k) (hb : 143 + 3 * i + k < 2165) : f_X11_ofOrder τ m x w G = some (ov (ge G (m + 1)) i k) := by
  subst hx; subst hw
  unfold f_X11_ofOrder
  rw [h.rf.1]
  simp only [ka_bs]
  have e : (143 : Int32) + 3 * nI i + nI k = nI (143 + 3 * i + k) := by
    rw [show (143 : Int32) = nI 143 from rfl, show (3 : Int32) = nI 3 from rfl, pk_mul, nI_add, nI_add]
  rw [e, h.w (143 + 3 * i + k) rfl hb, nI_clamp (by omega)]
  rfl
theorem FM.ofs {τ : gτ} {G : gG} {m : Nat} (h : FM τ G m) {i : Nat} (hi : i < 9) : f_X11_of τ m (nI i) 0 G = some (rv (ge G (m + 1)) i 0) ∧ f_X11_of τ m (nI i) 1 G = some (rv (ge G (m + 1)) i 1) ∧ f_X11_of τ m (nI i) 2 G = some (rv (ge G (m + 1)) i 2) ∧ f_X11_of τ m (nI i) 3 G = some (rv (ge G (m + 1)) i 3) ∧ f_X11_of τ m (nI i) 4 G = some (rv (ge G (m + 1)) i 4) ∧ f_X11_of τ m (nI i) 5 G = some (rv (ge G (m + 1)) i 5) ∧ f_X11_of τ m (nI i) 6 G = some (rv (ge G (m + 1)) i 6) ∧ f_X11_of τ m (nI i) 7 G = some (rv (ge G (m + 1)) i 7) ∧ f_X11_of τ m (nI i) 8 G = some (rv (ge G (m + 1)) i 8) ∧ f_X11_of τ m (nI i) 9 G = some (rv (ge G (m + 1)) i 9) :=
  ⟨h.of i 0 rfl rfl (by omega), h.of i 1 rfl rfl (by omega), h.of i 2 rfl rfl (by omega), h.of i 3 rfl rfl (by omega), h.of i 4 rfl rfl (by omega), h.of i 5 rfl rfl (by omega), h.of i 6 rfl rfl (by omega), h.of i 7 rfl rfl (by omega), h.of i 8 rfl rfl (by omega), h.of i 9 rfl rfl (by omega)⟩
theorem FM.ofYs {τ : gτ} {G : gG} {m : Nat} (h : FM τ G m) {i : Nat} (hi : i < 10) : f_X11_ofYarn τ m (nI i) 0 G = some (yv (ge G (m + 1)) i 0) ∧ f_X11_ofYarn τ m (nI i) 1 G = some (yv (ge G (m + 1)) i 1) ∧ f_X11_ofYarn τ m (nI i) 2 G = some (yv (ge G (m + 1)) i 2) ∧ f_X11_ofYarn τ m (nI i) 3 G = some (yv (ge G (m + 1)) i 3) :=
  ⟨h.ofYarn i 0 rfl rfl (by omega), h.ofYarn i 1 rfl rfl (by omega), h.ofYarn i 2 rfl rfl (by omega), h.ofYarn i 3 rfl rfl (by omega)⟩
theorem FM.ofOs {τ : gτ} {G : gG} {m : Nat} (h : FM τ G m) {i : Nat} (hi : i < 8) : f_X11_ofOrder τ m (nI i) 0 G = some (ov (ge G (m + 1)) i 0) ∧ f_X11_ofOrder τ m (nI i) 1 G = some (ov (ge G (m + 1)) i 1) ∧ f_X11_ofOrder τ m (nI i) 2 G = some (ov (ge G (m + 1)) i 2) :=
  ⟨h.ofOrder i 0 rfl rfl (by omega), h.ofOrder i 1 rfl rfl (by omega), h.ofOrder i 2 rfl rfl (by omega)⟩
