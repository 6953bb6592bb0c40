/-! CALLS: cut -/
section
variable {τ : gτ} {n : Nat} {G G' : gG} {x m s t l l' o : Nat} {ω ω' : gW} {im : Option gW} {me : List gW} {ta : List Nat} {fa : Int32}
def cpW (ω : gW) (k r : Nat) : gW := fun j => if 53 + 10 * r ≤ j ∧ j < 63 + 10 * r then ω (53 + 10 * k + (j - (53 + 10 * r))) else ω j
theorem cpW.xx {k r j : Nat} (h : j < 53 + 10 * r ∨ 63 + 10 * r ≤ j) : cpW ω k r j = ω j := if_neg (by omega)
theorem cpW.e {k r i j : Nat} (hj : j < 10) : rv (cpW ω k r) i j = if i = r then rv ω k j else rv ω i j := by
  unfold rv cpW
  by_cases h : i = r
  · rw [if_pos h, h, if_pos (by omega), Nat.add_sub_cancel_left]
  · rw [if_neg h, if_neg (by omega)]
def cutW (ω : gW) (k : Nat) (v : Int32) : gW := wSt (rS (rS (rS (rS (cpW ω k (cR ω)) (cR ω) 3 v) (cR ω) 6 0) (cR ω) 9 0) k 3 (rv ω k 3 - v)) 1 (nI (cR ω + 1))
theorem cutW.xx {k j : Nat} {v : Int32} (hk : k < 8) (h8 : cR ω < 8) (h1 : j ≠ 1) (h : j < 53 ∨ 133 ≤ j) : cutW ω k v j = ω j := by
  unfold cutW
  rw [wSt_ne h1, rS_x (by decide) (by omega), rS_x (by decide) (by omega), rS_x (by decide) (by omega), rS_x (by decide) (by omega), cpW.xx (by omega)]
theorem cutW.e {k i j : Nat} {v : Int32} (hi : i < 9) (hj : j < 10) : rv (cutW ω k v) i j = if i = k ∧ j = 3 then rv ω k 3 - v else if i = cR ω ∧ j = 9 then 0 else if i = cR ω ∧ j = 6 then 0 else if i = cR ω ∧ j = 3 then v else if i = cR ω then rv ω k j else rv ω i j := by
  unfold cutW
  rw [rv_lo (by decide) hi hj, rv_rS (by decide) hj, rv_rS (by decide) hj, rv_rS (by decide) hj, rv_rS (by decide) hj, cpW.e hj]
theorem cutW.nn {k j : Nat} {v : Int32} (hk : k < cR ω) (h8 : cR ω < 8) (hj : j < 10) : rv (cutW ω k v) (cR ω) j = if j = 9 then 0 else if j = 6 then 0 else if j = 3 then v else rv ω k j := by
  rw [cutW.e (by omega) hj, if_neg (by omega)]
  by_cases h9 : j = 9
  · rw [if_pos ⟨rfl, h9⟩, if_pos h9]
  · rw [if_neg (fun h => h9 h.2), if_neg h9]
    by_cases h6 : j = 6
    · rw [if_pos ⟨rfl, h6⟩, if_pos h6]
    · rw [if_neg (fun h => h6 h.2), if_neg h6]
      by_cases h3 : j = 3
      · rw [if_pos ⟨rfl, h3⟩, if_pos h3]
      · rw [if_neg (fun h => h3 h.2), if_neg h3, if_pos rfl]
theorem cutW.k {k j : Nat} {v : Int32} (hk : k < cR ω) (h8 : cR ω < 8) (hj : j < 10) : rv (cutW ω k v) k j = if j = 3 then rv ω k 3 - v else rv ω k j := by
  rw [cutW.e (by omega) hj]
  by_cases h3 : j = 3
  · rw [if_pos ⟨rfl, h3⟩, if_pos h3]
  · rw [if_neg (fun h => h3 h.2), if_neg h3, if_neg (fun h => by omega), if_neg (fun h => by omega), if_neg (fun h => by omega), if_neg (by omega)]
theorem cutW.oo {k i j : Nat} {v : Int32} (hi : i < 9) (hik : i ≠ k) (hir : i ≠ cR ω) (hj : j < 10) : rv (cutW ω k v) i j = rv ω i j := by
  rw [cutW.e hi hj, if_neg (fun h => hik h.1), if_neg (fun h => hir h.1), if_neg (fun h => hir h.1), if_neg (fun h => hir h.1), if_neg hir]
theorem cutW.c {k : Nat} {v : Int32} (h8 : cR ω < 8) : cR (cutW ω k v) = cR ω + 1 := by
  show (cutW ω k v 1).toNatClampNeg = _
  unfold cutW
  rw [wSt_eq, nI_clamp (by omega)]
theorem nI_sub {a b : Nat} (h : b ≤ a) : nI a - nI b = nI (a - b) := by
  obtain ⟨c, rfl⟩ : ∃ c, a = c + b := ⟨a - b, by omega⟩
  rw [← nI_add, Int32.add_sub_cancel, Nat.add_sub_cancel]
/-- a piece that can be cut -/
theorem cut_v {k : Nat} {v : Int32} (hK : ROK ω k) (h80 : rv ω k 8 = 0) (hv : ¬ (v < 1 ∨ rv ω k 3 - 1 < v)) : ∃ a b, v = nI a ∧ 1 ≤ a ∧ rv ω k 3 = nI b ∧ a < b ∧ b ≤ 400 := by
  obtain ⟨b, b1, b2, hb⟩ := hK.2.2.2.2 h80
  have h1 : ¬ v < nI 1 := fun h => hv (Or.inl h)
  have h2 : ¬ nI (b - 1) < v := fun h => hv (Or.inr (by rw [hb, show (1 : Int32) = nI 1 from rfl, nI_sub b1]; exact h))
  obtain ⟨a, a1, a2, ha⟩ := bt_of (lo := 1) (hi := b - 1) (by omega) (by decide) (fun h => h.elim h1 h2)
  exact ⟨a, b, ha, a1, hb, by omega, b2⟩
theorem cutW.wi {k : Nat} {v : Int32} (hI : WI ω) (hk : k < cR ω) (h8 : cR ω < 8) (h80 : rv ω k 8 = 0) (hv : ¬ (v < 1 ∨ rv ω k 3 - 1 < v)) : WI (cutW ω k v) := by
  have X : ∀ j, j ≠ 1 → (j < 53 ∨ 133 ≤ j) → cutW ω k v j = ω j := fun j h1 h => cutW.xx (by omega) h8 h1 h
  have cy : cY (cutW ω k v) = cY ω := by unfold cY; rw [X 0 (by decide) (by decide)]
  have co : cO (cutW ω k v) = cO ω := by unfold cO; rw [X 2 (by decide) (by decide)]
  obtain ⟨a, b, ha, a1, hb, hab, hb4⟩ := cut_v (hI.r hk) h80 hv
  obtain ⟨-, -, ⟨c3, c4, c5, c6, c8, c9⟩, c7, c38⟩ := id (hI.r hk)
  refine wi_acts hI ⟨?_, ?_⟩ ⟨?_, ?_⟩ ⟨?_, ?_⟩ (X 3 (by decide) (by decide)) (X 4 (by decide) (by decide)) (X 5 (by decide) (by decide)) (X 6 (by decide) (by decide)) (X 7 (by decide) (by decide)) (X 11 (by decide) (by decide)) (fun i hi => ?_) (fun i hi => ?_) (fun i hi => ?_)
  · rw [cy, X 0 (by decide) (by decide)]; exact hI.y0
  · rw [cy]; exact hI.y1
  · rw [cutW.c h8]
    exact wSt_eq
  · rw [cutW.c h8]; omega
  · rw [co, X 2 (by decide) (by decide)]; exact hI.o0
  · rw [co]; exact hI.o1
  · rw [cy] at hi
    have hy := hI.y1
    refine (hI.y hi).mv fun q hq => ?_
    exact X _ (by omega) (by omega)
  · rw [cutW.c h8] at hi
    by_cases hir : i = cR ω
    · subst hir
      refine rok_set2 (hI.r hk) cy (fun j hj => ?_) ?_ ?_ ?_ ?_ ?_ ?_ ?_ ?_
      · rw [cutW.nn hk h8 (by omega), if_neg (by omega), if_neg (by omega), if_neg (by omega)]
      · rw [cutW.nn hk h8 (by decide)]; exact ⟨a, by omega, by omega, ha⟩
      · rw [cutW.nn hk h8 (by decide)]; exact c4
      · rw [cutW.nn hk h8 (by decide)]; exact c5
      · rw [cutW.nn hk h8 (by decide)]; exact ⟨0, by decide, by decide, rfl⟩
      · rw [cutW.nn hk h8 (by decide)]; exact c8
      · rw [cutW.nn hk h8 (by decide)]; exact ⟨0, by decide, by decide, rfl⟩
      · rw [cutW.nn hk h8 (by decide)]; exact c7
      · rw [cutW.nn hk h8 (by decide), cutW.nn hk h8 (by decide)]; exact fun _ => ⟨a, by omega, by omega, ha⟩
    · by_cases hik : i = k
      · subst hik
        have e3 : rv ω i 3 - v = nI (b - a) := by rw [hb, ha, nI_sub (by omega)]
        refine rok_set2 (hI.r hk) cy (fun j hj => ?_) ?_ ?_ ?_ ?_ ?_ ?_ ?_ ?_
        · rw [cutW.k hk h8 (by omega), if_neg (by omega)]
        · rw [cutW.k hk h8 (by decide)]; exact ⟨b - a, by omega, by omega, e3⟩
        · rw [cutW.k hk h8 (by decide)]; exact c4
        · rw [cutW.k hk h8 (by decide)]; exact c5
        · rw [cutW.k hk h8 (by decide)]; exact c6
        · rw [cutW.k hk h8 (by decide)]; exact c8
        · rw [cutW.k hk h8 (by decide)]; exact c9
        · rw [cutW.k hk h8 (by decide)]; exact c7
        · rw [cutW.k hk h8 (by decide), cutW.k hk h8 (by decide)]; exact fun _ => ⟨b - a, by omega, by omega, e3⟩
      · exact rok_mv (hI.r (i := i) (by omega)) cy fun j hj => cutW.oo (by omega) hik hir hj
  · rw [co] at hi
    have hy := hI.o1
    refine (hI.o hi).mv fun q hq => ?_
    exact X _ (by omega) (by omega)
theorem cutW.iv {k : Nat} {v : Int32} (hI : IV ω im me ta) (hk : k < cR ω) (h8 : cR ω < 8) (h80 : rv ω k 8 = 0) (hv : ¬ (v < 1 ∨ rv ω k 3 - 1 < v)) : IV (cutW ω k v) im me ta :=
  iv_of hI (cutW.wi hI.1 hk h8 h80 hv) (cutW.xx (by omega) h8 (by decide) (by decide)) (fun j hj => cutW.xx (by omega) h8 (by omega) (by omega))
theorem s_addPiece (hF : FS τ G s) (hV : VS G s ω) (hI : WI ω) {k : Nat} (hk : k < cR ω) (h8 : cR ω < 8) {v : Int32} : gOk (f_X6_addPiece τ s (s + 16 + k) v G) (fun q => q.1 = nI (cR ω) ∧ VS q.2 s (cutW ω k v) ∧ FS τ q.2 s ∧ Fr (spn s) G q.2) := by
  obtain ⟨d0, d1, d2, d3, d4, d5, d6, d7, d8, d9, d10⟩ := hV.cn
  have hK := hI.r hk
  have b6 := bt01 hK.2.2.1.2.2.2.1
  have b8 := bt01 hK.2.2.1.2.2.2.2.1
  have hrk : ¬ cR ω = k := by omega
  have hkr : ¬ k = cR ω := by omega
  unfold f_X6_addPiece
  rw [d1, hI.r0, if_pos (show nI (cR ω) < 8 from nI_lt (b := 8) h8 (by decide)), hF.rf.2.1, ka_bs, hF.r h8]
  obtain ⟨G3, e3, hR3, f3⟩ := s_rb (p := s + 16 + cR ω) (q := s + 16 + k) (G := G) (by omega) (hV.r hk) b6 b8
  obtain ⟨q0, q1, q2, q3, q4, q5, q6, q7, q8, q9⟩ := hR3.f
  obtain ⟨p0, p1, p2, p3, p4, p5, p6, p7, p8, p9⟩ := ((f3 (s + 16 + k) (by omega)).vr (hV.r hk)).f
  have hs3 := (f3 s (by omega)).1
  rw [e3, ka_bs, ka_letE, ka_letE, ka_letE, ka_letE, ka_letE]
  have fA : ∀ {G : gG} {q : Nat} {w : Int32}, Fr (fun b => b = s ∨ b = s + 16 + cR ω ∨ b = s + 16 + k) G (gsi G 5 q (s + 16 + cR ω) w) := fun {G q w} => Fr.i (A := fun b => b = s ∨ b = s + 16 + cR ω ∨ b = s + 16 + k) (Or.inr (Or.inl rfl))
  have fB : ∀ {G : gG} {q : Nat} {w : Int32}, Fr (fun b => b = s ∨ b = s + 16 + cR ω ∨ b = s + 16 + k) G (gsi G 5 q (s + 16 + k) w) := fun {G q w} => Fr.i (A := fun b => b = s ∨ b = s + 16 + cR ω ∨ b = s + 16 + k) (Or.inr (Or.inr rfl))
  have fC : ∀ {G : gG} {q : Nat} {w : Int32}, Fr (fun b => b = s ∨ b = s + 16 + cR ω ∨ b = s + 16 + k) G (gsi G 6 q s w) := fun {G q w} => Fr.i (A := fun b => b = s ∨ b = s + 16 + cR ω ∨ b = s + 16 + k) (Or.inl rfl)
  refine ⟨_, rfl, ?_⟩
  show gi _ 6 5 s - 1 = nI (cR ω) ∧ VS _ s (cutW ω k v) ∧ FS τ _ s ∧ Fr (spn s) G _
  generalize hG8 : gsi (gsi (gsi (gsi (gsi G3 5 3 (s + 16 + cR ω) v) 5 8 (s + 16 + cR ω) 0) 5 7 (s + 16 + cR ω) 0) 5 3 (s + 16 + k) _) 6 5 s _ = G8
  have hf : Fr (fun b => b = s ∨ b = s + 16 + cR ω ∨ b = s + 16 + k) G G8 := by
    rw [← hG8]
    exact (((((f3.mono fun b hb => Or.inr (Or.inl hb)).tr fA).tr fA).tr fA).tr fB).tr fC
  have hn : gi G8 6 5 s = nI (cR ω + 1) := by
    rw [← hG8]
    simp only [ka_ii]
    simp [hs3, d1, hI.r0]
    exact nI_1 _
  have X : ∀ j, j ≠ 1 → (j < 53 ∨ 133 ≤ j) → cutW ω k v j = ω j := fun j h1 h => cutW.xx (by omega) h8 h1 h
  have hd : gi G8 6 4 s = ω 0 ∧ gi G8 6 6 s = ω 2 ∧ gi G8 6 7 s = ω 3 ∧ gi G8 6 8 s = ω 6 ∧ gi G8 6 9 s = ω 7 ∧ gi G8 6 10 s = ω 5 ∧ gi G8 6 11 s = ω 12 ∧ gi G8 6 12 s = ω 10 ∧ gi G8 6 13 s = ω 8 ∧ gi G8 6 14 s = ω 9 := by
    rw [← hG8]
    simp only [ka_ii]
    simp [hs3, d0, d2, d3, d4, d5, d6, d7, d8, d9, d10]
  have hRn : RV G8 (s + 16 + cR ω) (cutW ω k v) (cR ω) := by
    unfold RV
    simp only [cutW.nn hk h8 (show 0 < 10 by decide), cutW.nn hk h8 (show 1 < 10 by decide), cutW.nn hk h8 (show 2 < 10 by decide), cutW.nn hk h8 (show 3 < 10 by decide), cutW.nn hk h8 (show 4 < 10 by decide), cutW.nn hk h8 (show 5 < 10 by decide), cutW.nn hk h8 (show 6 < 10 by decide), cutW.nn hk h8 (show 7 < 10 by decide), cutW.nn hk h8 (show 8 < 10 by decide), cutW.nn hk h8 (show 9 < 10 by decide)]
    rw [← hG8]
    simp [ka_ii, q0, q1, q2, q4, q5, q6, q9, hrk]
  have hRk : RV G8 (s + 16 + k) (cutW ω k v) k := by
    unfold RV
    simp only [cutW.k hk h8 (show 0 < 10 by decide), cutW.k hk h8 (show 1 < 10 by decide), cutW.k hk h8 (show 2 < 10 by decide), cutW.k hk h8 (show 3 < 10 by decide), cutW.k hk h8 (show 4 < 10 by decide), cutW.k hk h8 (show 5 < 10 by decide), cutW.k hk h8 (show 6 < 10 by decide), cutW.k hk h8 (show 7 < 10 by decide), cutW.k hk h8 (show 8 < 10 by decide), cutW.k hk h8 (show 9 < 10 by decide)]
    rw [← hG8]
    simp [ka_ii, p0, p1, p2, p3, p4, p5, p6, p7, p8, p9, hkr]
  have hyy := hI.y1
  have hoo := hI.o1
  have hF3 : FS τ G3 s := hF.to f3 (fun c h1 h2 h3 => by have h3 : c = s + 16 + cR ω := h3; omega)
  have hF8 : FS τ G8 s := by rw [← hG8]; exact hF3
  refine ⟨?_, ?_, hF8, hf.mono fun b hb => by show s ≤ b ∧ b ≤ s + 31; omega⟩
  · show gi G8 6 5 s - 1 = nI (cR ω)
    rw [hn, nI_pred]
  · refine vs_acts hI hV ?_ (fun i hi => ?_) (fun i hi => ?_) (fun i hi => ?_) (X 11 (by decide) (by decide)) (fun j h1 h2 => X j (by omega) (by omega)) (hf (s + 4) (by omega)) (hf (s + 5) (by omega))
    · rw [X 0 (by decide) (by decide), X 2 (by decide) (by decide), X 3 (by decide) (by decide), X 6 (by decide) (by decide), X 7 (by decide) (by decide), X 5 (by decide) (by decide), X 12 (by decide) (by decide), X 10 (by decide) (by decide), X 8 (by decide) (by decide), X 9 (by decide) (by decide)]
      exact ⟨hd.1, hn.trans wSt_eq.symm, hd.2⟩
    · have e : cY (cutW ω k v) = cY ω := by unfold cY; rw [X 0 (by decide) (by decide)]
      rw [e] at hi
      exact (hV.yv hi).same (hf (s + 6 + i) (by omega)) fun q hq => X _ (by omega) (by omega)
    · rw [cutW.c h8] at hi
      by_cases hir : i = cR ω
      · rw [hir]; exact hRn
      · by_cases hik : i = k
        · rw [hik]; exact hRk
        · exact (hV.r (i := i) (by omega)).same (hf (s + 16 + i) (by omega)) fun j hj => cutW.oo (by omega) hik hir hj
    · have e : cO (cutW ω k v) = cO ω := by unfold cO; rw [X 2 (by decide) (by decide)]
      rw [e] at hi
      exact (hV.ov hi).same (hf (s + 24 + i) (by omega)) fun q hq => X _ (by omega) (by omega)
end
