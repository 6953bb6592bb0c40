/-! THE LAW in the class -/
/-- a step as the class has it -/
def cdS (c n : Int32) : Int32 := if c = 11 then n else if c ≤ 10 then 1000 + c else if c = 15 then 2000 else if c = 16 then 2001 else if c = 17 then 2002 else if c = 13 then 2003 else if c = 14 then 2004 else 2005
/-- a Law shows the world's law -/
def LV (G : gG) (l : Nat) (ω : gW) : Prop := gi G 1 8 l = ω 4 ∧ (¬ ω 4 = 1 → gi G 1 6 l = 0) ∧ (ω 4 = 1 → gi G 1 6 l = ω 467 ∧ ∀ ln, ln < cLn ω → ge G (l + 1) ln = (if lw ω ln 0 = 0 then 1 else 0) ∧ ge G (l + 2) ln = (if lw ω ln 0 = -1 then - lw ω ln 1 else lw ω ln 1) ∧ ge G (l + 3) ln = lw ω ln 3 ∧ ∀ k, lb ω ln ≤ k → k < le ω ln → ge G (l + 4) k = cdS (sc ω k) (sn ω k))
theorem gmin_i (x y : Int32) : (gmin x y).toInt = min x.toInt y.toInt := by
  unfold gmin
  by_cases h : y < x
  · rw [if_pos h]
    have := Int32.lt_iff_toInt_lt.mp h
    omega
  · rw [if_neg h]
    have : ¬ y.toInt < x.toInt := fun e => h (Int32.lt_iff_toInt_lt.mpr e)
    omega
theorem gmax_i (x y : Int32) : (gmax x y).toInt = max x.toInt y.toInt := by
  unfold gmax
  by_cases h : x < y
  · rw [if_pos h]
    have := Int32.lt_iff_toInt_lt.mp h
    omega
  · rw [if_neg h]
    have : ¬ x.toInt < y.toInt := fun e => h (Int32.lt_iff_toInt_lt.mpr e)
    omega
theorem gmin_a (x y z : Int32) : gmin (gmin x y) z = gmin x (gmin y z) := Int32.toInt_inj.mp (by simp only [gmin_i]; omega)
theorem gmax_a (x y z : Int32) : gmax (gmax x y) z = gmax x (gmax y z) := Int32.toInt_inj.mp (by simp only [gmax_i]; omega)
section
variable {τ : gτ} {n : Nat} {G : gG} {s l a i : Nat} {ω : gW}
theorem FL.f5 (h : FL τ G l) {x : Int32} (k : Nat) (hx : x = nI k) (hk : k < 11) {ρ : Type} {e : Option ρ} : gchk (gIn x (gn τ (l + 5))) e = e := by
  subst hx
  exact ka_chkT (by rw [h.2.2.2.2.2.1]; exact ka_in hk (by decide))
theorem FL.f6 (h : FL τ G l) {x : Int32} (k : Nat) (hx : x = nI k) (hk : k < 32) {ρ : Type} {e : Option ρ} : gchk (gIn x (gn τ (l + 6))) e = e := by
  subst hx
  exact ka_chkT (by rw [h.2.2.2.2.2.2]; exact ka_in hk (by decide))
theorem FL.f4 (h : FL τ G l) {x : Int32} (k : Nat) (hx : x = nI k) (hk : k < 400) {ρ : Type} {e : Option ρ} : gchk (gIn x (gn τ (l + 4))) e = e := by
  subst hx
  exact ka_chkT (by rw [h.2.2.2.2.1]; exact ka_in hk (by decide))
theorem FL.f3 (h : FL τ G l) {x : Int32} (k : Nat) (hx : x = nI k) (hk : k < 12) {ρ : Type} {e : Option ρ} : gchk (gIn x (gn τ (l + 3))) e = e := by
  subst hx
  exact ka_chkT (by rw [h.2.2.2.1]; exact ka_in hk (by decide))
theorem FL.f2 (h : FL τ G l) {x : Int32} (k : Nat) (hx : x = nI k) (hk : k < 12) {ρ : Type} {e : Option ρ} : gchk (gIn x (gn τ (l + 2))) e = e := by
  subst hx
  exact ka_chkT (by rw [h.2.2.1]; exact ka_in hk (by decide))
theorem FL.f1 (h : FL τ G l) {x : Int32} (k : Nat) (hx : x = nI k) (hk : k < 12) {ρ : Type} {e : Option ρ} : gchk (gIn x (gn τ (l + 1))) e = e := by
  subst hx
  exact ka_chkT (by rw [h.2.1]; exact ka_in hk (by decide))
theorem fcK0 (x : Int32) : fcS ω i (nI 0) x = gmin (yv ω (ry ω i 0) 0) (gmin (yv ω (ry ω i 1) 0) (yv ω (ry ω i 2) 0)) := by
  unfold fcS
  rw [if_pos (by decide)]
theorem fcK1 (x : Int32) : fcS ω i (nI 1) x = gmax (yv ω (ry ω i 0) 0) (gmax (yv ω (ry ω i 1) 0) (yv ω (ry ω i 2) 0)) := by
  unfold fcS
  rw [if_neg (by decide), if_pos (by decide)]
theorem fcK2 (x : Int32) : fcS ω i (nI 2) x = yv ω (ry ω i 0) 2 + yv ω (ry ω i 1) 2 + yv ω (ry ω i 2) 2 := by
  unfold fcS
  rw [if_neg (by decide), if_neg (by decide), if_pos (by decide)]
theorem fcK3 (x : Int32) : fcS ω i (nI 3) x = reS (yv ω (ry ω i 0) 3) (yv ω (ry ω i 1) 3) (yv ω (ry ω i 2) 3) := by
  unfold fcS
  rw [if_neg (by decide), if_neg (by decide), if_neg (by decide), if_pos (by decide)]
theorem fcK4 (x : Int32) : fcS ω i (nI 4) x = rv ω i 4 := by
  unfold fcS
  rw [if_neg (by decide), if_neg (by decide), if_neg (by decide), if_neg (by decide), if_pos (by decide)]
theorem fcK5 (x : Int32) : fcS ω i (nI 5) x = rv ω i 5 := by
  unfold fcS
  rw [if_neg (by decide), if_neg (by decide), if_neg (by decide), if_neg (by decide), if_neg (by decide), if_pos (by decide)]
theorem fcK6 (x : Int32) : fcS ω i (nI 6) x = rv ω i 3 := by
  unfold fcS
  rw [if_neg (by decide), if_neg (by decide), if_neg (by decide), if_neg (by decide), if_neg (by decide), if_neg (by decide), if_pos (by decide)]
theorem fcK7 (x : Int32) : fcS ω i (nI 7) x = rv ω i 7 := by
  unfold fcS
  rw [if_neg (by decide), if_neg (by decide), if_neg (by decide), if_neg (by decide), if_neg (by decide), if_neg (by decide), if_neg (by decide), if_pos (by decide)]
theorem fcK8 (x : Int32) : fcS ω i (nI 8) x = rv ω i 9 := by
  unfold fcS
  rw [if_neg (by decide), if_neg (by decide), if_neg (by decide), if_neg (by decide), if_neg (by decide), if_neg (by decide), if_neg (by decide), if_neg (by decide), if_pos (by decide)]
theorem fcK9 (x : Int32) : fcS ω i (nI 9) x = rv ω i 6 := by
  unfold fcS
  rw [if_neg (by decide), if_neg (by decide), if_neg (by decide), if_neg (by decide), if_neg (by decide), if_neg (by decide), if_neg (by decide), if_neg (by decide), if_neg (by decide), if_pos (by decide)]
theorem fcK10 (x : Int32) : fcS ω i (nI 10) x = wiS ω := by
  unfold fcS
  rw [if_neg (by decide), if_neg (by decide), if_neg (by decide), if_neg (by decide), if_neg (by decide), if_neg (by decide), if_neg (by decide), if_neg (by decide), if_neg (by decide), if_neg (by decide), if_pos (by decide)]
theorem fcK11 (x : Int32) : fcS ω i (nI 11) x = x := by
  unfold fcS
  rw [if_neg (by decide), if_neg (by decide), if_neg (by decide), if_neg (by decide), if_neg (by decide), if_neg (by decide), if_neg (by decide), if_neg (by decide), if_neg (by decide), if_neg (by decide), if_neg (by decide)]
/-- a row of writes -/
def wch (G : gG) (a : Nat) (v : Nat → Int32) : Nat → gG
  | 0 => G
  | k + 1 => gse (wch G a v k) a k (v k)
theorem wch_at {G : gG} {a : Nat} {v : Nat → Int32} : ∀ {N j : Nat}, j < N → ge (wch G a v N) a j = v j := by
  intro N
  induction N with
  | zero => intro j h; omega
  | succ N ih =>
    intro j h
    show ge (gse (wch G a v N) a N (v N)) a j = v j
    rw [ka_ee]
    by_cases hj : j = N
    · rw [if_pos ⟨rfl, hj⟩, hj]
    · rw [if_neg (fun e => hj e.2)]
      exact ih (by omega)
theorem wch_fr {G : gG} {a : Nat} {v : Nat → Int32} : ∀ {N : Nat}, Fr (fun b => b = a) G (wch G a v N) := by
  intro N
  induction N with
  | zero => exact Fr.rf
  | succ N ih => exact ih.tr (Fr.e rfl)
theorem s_regard (hL : FL τ G l) (hR : RV G a ω i) (hK : ROK ω i) {y1 y2 y3 : Nat} (h1 : YV G y1 ω (ry ω i 0)) (h2 : YV G y2 ω (ry ω i 1)) (h3 : YV G y3 ω (ry ω i 2)) : ∃ G', f_X1_regard τ l a y1 y2 y3 (wiS ω) G = some G' ∧ (∀ j, j ≤ 10 → ge G' (l + 5) j = fcS ω i (nI j) 0) ∧ Fr (fun b => b = l + 5) G G' := by
  have k189 : ∀ (v : Int32) (G : gG), k_X1_regard_189 τ (l + 5) 10 v G = some (gse G (l + 5) 10 v) := fun v G => by
    unfold k_X1_regard_189
    rw [hL.f5 (x := 10) 10 rfl (by decide)]; rfl
  have k172 : ∀ (v : Int32) (G1 : gG), gr G1 1 4 l = some (l + 5) → k_X1_regard_172 τ l (wiS ω) (l + 5) 9 v G1 = some (gse (gse G1 (l + 5) 9 v) (l + 5) 10 (wiS ω)) := fun v G1 hg => by
    unfold k_X1_regard_172
    rw [hL.f5 (x := 9) 9 rfl (by decide), ka_letE, ka_re, hg, ka_bs]
    rcases wiS01 ω with h | h
    · rw [h, if_pos rfl, k189]; rfl
    · rw [h, if_neg ka_n10, k189]; rfl
  have t : (0 : Int32).toNatClampNeg = 0 ∧ (1 : Int32).toNatClampNeg = 1 ∧ (2 : Int32).toNatClampNeg = 2 ∧ (3 : Int32).toNatClampNeg = 3 ∧ (4 : Int32).toNatClampNeg = 4 ∧ (5 : Int32).toNatClampNeg = 5 ∧ (6 : Int32).toNatClampNeg = 6 ∧ (7 : Int32).toNatClampNeg = 7 ∧ (8 : Int32).toNatClampNeg = 8 := ⟨rfl, rfl, rfl, rfl, rfl, rfl, rfl, rfl, rfl⟩
  refine ⟨wch G (l + 5) (fun j => fcS ω i (nI j) 0) 11, ?_, fun j hj => wch_at (by omega), wch_fr⟩
  simp only [wch, fcK0, fcK1, fcK2, fcK3, fcK4, fcK5, fcK6, fcK7, fcK8, fcK9, fcK10]
  unfold f_X1_regard
  simp only [hL.rf, ka_re, ka_ie, ka_bs, ka_letE, t, hL.f5 (x := 0) 0 rfl (by decide), hL.f5 (x := 1) 1 rfl (by decide), hL.f5 (x := 2) 2 rfl (by decide), hL.f5 (x := 3) 3 rfl (by decide), hL.f5 (x := 4) 4 rfl (by decide), hL.f5 (x := 5) 5 rfl (by decide), hL.f5 (x := 6) 6 rfl (by decide), hL.f5 (x := 7) 7 rfl (by decide), hL.f5 (x := 8) 8 rfl (by decide), h1.1, h1.2, h2.1, h2.2, h3.1, h3.2, hR.f, bcS_e, k172, gmin_a, gmax_a, reS]
  rcases bt01 hK.2.2.1.2.2.2.1 with h | h
  · rw [h, if_pos rfl]
  · rw [h, if_neg ka_n10]
theorem fcS_n {j : Nat} (hj : j ≤ 10) (x y : Int32) : fcS ω i (nI j) x = fcS ω i (nI j) y := by
  match j, hj with
  | 0, _ => rw [fcK0, fcK0]
  | 1, _ => rw [fcK1, fcK1]
  | 2, _ => rw [fcK2, fcK2]
  | 3, _ => rw [fcK3, fcK3]
  | 4, _ => rw [fcK4, fcK4]
  | 5, _ => rw [fcK5, fcK5]
  | 6, _ => rw [fcK6, fcK6]
  | 7, _ => rw [fcK7, fcK7]
  | 8, _ => rw [fcK8, fcK8]
  | 9, _ => rw [fcK9, fcK9]
  | 10, _ => rw [fcK10, fcK10]
/-- the codes of steps that push -/
theorem cd_push {k j : Nat} (hc : sc ω k = nI j) (hj : j ≤ 11) (hn : j = 11 → bt (sn ω k) 0 999) : ∃ q : Nat, q < 2000 ∧ cdS (sc ω k) (sn ω k) = nI q ∧ (j = 11 → q < 1000) ∧ (j ≤ 10 → q = 1000 + j) := by
  rw [hc]
  unfold cdS
  by_cases h : j = 11
  · obtain ⟨v, -, hv, e⟩ := hn h
    subst h
    refine ⟨v, by omega, ?_, fun _ => by omega, fun h => absurd h (by decide)⟩
    rw [if_pos (show nI 11 = (11 : Int32) from rfl), e]
  · refine ⟨1000 + j, by omega, ?_, fun e => absurd e h, fun _ => rfl⟩
    rw [if_neg (show ¬ nI j = (11 : Int32) from fun e => h ((nI_eq (b := 11) (by omega) (by decide)).mp e)), if_pos (show nI j ≤ (10 : Int32) from nI_le (b := 10) (by omega) (by decide))]
    rw [show (1000 : Int32) = nI 1000 from rfl, nI_add]
theorem s_valueOf (hL : FL τ G l) (hA : ∀ j, j ≤ 10 → ge G (l + 5) j = fcS ω i (nI j) 0) {k j : Nat} (hc : sc ω k = nI j) (hj : j ≤ 11) (hn : j = 11 → bt (sn ω k) 0 999) : f_X1_valueOf τ l (cdS (sc ω k) (sn ω k)) G = some (fcS ω i (sc ω k) (sn ω k)) := by
  obtain ⟨q, hq, e, q1, q2⟩ := cd_push hc hj hn
  rw [e, hc]
  unfold f_X1_valueOf
  rw [ka_letE]
  by_cases h : j = 11
  · have hq1 := q1 h
    rw [if_pos (show nI q - 1000 < 0 from pk_sneg (b := 1000) (by decide) hq1)]
    have e2 : cdS (sc ω k) (sn ω k) = sn ω k := by rw [hc, h]; rfl
    rw [← e, e2, h]
    rfl
  · have hq2 := q2 (by omega)
    subst hq2
    have e3 : nI (1000 + j) - 1000 = nI j := by rw [show (1000 : Int32) = nI 1000 from rfl, pk_sub (by omega), Nat.add_sub_cancel_left]
    rw [e3, if_neg (nI_pos (show j < 2 ^ 31 by omega)), if_neg (show ¬ (11 : Int32) ≤ nI j from nI_ge (b := 11) (by omega) (by decide)), hL.rf.2.2.2.2.1, ka_bs, hL.f5 j rfl (by omega), nI_clamp (by omega), hA j (by omega)]
    rw [fcS_n (by omega) (sn ω k) 0]
theorem s_joined {k j : Nat} {x y : Int32} (hc : sc ω k = nI j) (h : j = 12 ∨ j = 13 ∨ j = 14 ∨ ((j = 16 ∨ j = 17) ∧ (x = 0 ∨ x = 1) ∧ (y = 0 ∨ y = 1))) : f_X1_joined (cdS (sc ω k) (sn ω k)) x y = some (opS (sc ω k) x y) := by
  rw [hc]
  rcases h with rfl | rfl | rfl | ⟨rfl | rfl, hx, hy⟩
  · rfl
  · show (if y ≤ x then some (0 : Int32) else some 1) = some (if x < y then 1 else 0)
    by_cases hxy : y ≤ x
    · rw [if_pos hxy, if_neg (Int32.not_lt.mpr hxy)]
    · rw [if_neg hxy, if_pos (Int32.not_le.mp hxy)]
  · show (if x ≤ y then some (0 : Int32) else some 1) = some (if y < x then 1 else 0)
    by_cases hxy : x ≤ y
    · rw [if_pos hxy, if_neg (Int32.not_lt.mpr hxy)]
    · rw [if_neg hxy, if_pos (Int32.not_le.mp hxy)]
  · rcases hx with rfl | rfl <;> rcases hy with rfl | rfl <;> rfl
  · rcases hx with rfl | rfl <;> rcases hy with rfl | rfl <;> rfl
theorem cd_bin {k j : Nat} (hc : sc ω k = nI j) (h : j = 12 ∨ j = 13 ∨ j = 14 ∨ j = 16 ∨ j = 17) : ∃ q : Nat, 2000 < q ∧ q ≤ 2005 ∧ cdS (sc ω k) (sn ω k) = nI q := by
  rw [hc]
  rcases h with rfl | rfl | rfl | rfl | rfl
  · exact ⟨2005, by decide, by decide, rfl⟩
  · exact ⟨2003, by decide, by decide, rfl⟩
  · exact ⟨2004, by decide, by decide, rfl⟩
  · exact ⟨2001, by decide, by decide, rfl⟩
  · exact ⟨2002, by decide, by decide, rfl⟩
theorem s_stepP (hL : FL τ G l) (hA : ∀ j, j ≤ 10 → ge G (l + 5) j = fcS ω i (nI j) 0) {k e j : Nat} {L : List Int32} (hc : sc ω k = nI j) (h11 : j ≤ 11) (hn : j = 11 → bt (sn ω k) 0 999) (hlen : L.length ≤ 20) (hlt : k < e) (he : e ≤ 400) (hcd : ge G (l + 4) k = cdS (sc ω k) (sn ω k)) :
    b_X1_conditionHolds_5 τ n l (nI e) (nI L.length) (nI k) G = some (.inl (nI (L.length + 1), nI (k + 1), gse G (l + 6) L.length (fcS ω i (sc ω k) (sn ω k)))) := by
  obtain ⟨q, hq, e1, -, -⟩ := cd_push hc h11 hn
  unfold b_X1_conditionHolds_5
  rw [if_neg (nI_ge hlt (by omega)), hL.rf.2.2.2.1, ka_bs, hL.f4 k rfl (by omega), nI_clamp (show k < 2 ^ 31 by omega), hcd, ka_letE, if_neg (show ¬ (2000 : Int32) ≤ cdS (sc ω k) (sn ω k) by rw [e1]; exact nI_ge (b := 2000) hq (by decide)), if_neg (show ¬ (32 : Int32) ≤ nI L.length from nI_ge (b := 32) (by omega) (by decide))]
  rw [hL.rf.2.2.2.2.2, ka_bs, s_valueOf hL hA hc h11 hn, ka_bs, hL.f6 L.length rfl (by omega), nI_clamp (show L.length < 2 ^ 31 by omega), ka_letE, ka_letE, ka_letE, nI_1, nI_1]
theorem s_stepN (hL : FL τ G l) {k e : Nat} {x : Int32} {r : List Int32} (hc : sc ω k = 15) (hlen : r.length < 20) (hx : ge G (l + 6) r.length = x) (hlt : k < e) (he : e ≤ 400) (hcd : ge G (l + 4) k = cdS (sc ω k) (sn ω k)) :
    b_X1_conditionHolds_5 τ n l (nI e) (nI (r.length + 1)) (nI k) G = some (.inl (nI (r.length + 1), nI (k + 1), gse G (l + 6) r.length (1 - x))) := by
  have e0 : cdS (sc ω k) (sn ω k) = 2000 := by rw [hc]; rfl
  have e1 : nI (r.length + 1) - 1 = nI r.length := nI_pred _
  unfold b_X1_conditionHolds_5
  rw [if_neg (nI_ge hlt (by omega)), hL.rf.2.2.2.1, ka_bs, hL.f4 k rfl (by omega), nI_clamp (show k < 2 ^ 31 by omega), hcd, e0, ka_letE, if_pos (show (2000 : Int32) ≤ 2000 by decide), if_pos rfl, if_neg (show ¬ nI (r.length + 1) < 1 from nI_nlt (b := 1) (by omega) (by omega))]
  rw [hL.rf.2.2.2.2.2, ka_bs, ka_bs, e1, hL.f6 r.length rfl (by omega), hL.f6 r.length rfl (by omega), nI_clamp (show r.length < 2 ^ 31 by omega), hx, ka_letE, ka_letE, nI_1]
theorem s_stepB (hL : FL τ G l) {k e j : Nat} {a b : Int32} {r : List Int32} (hc : sc ω k = nI j) (hj : j = 12 ∨ j = 13 ∨ j = 14 ∨ j = 16 ∨ j = 17) (hjn : f_X1_joined (cdS (sc ω k) (sn ω k)) a b = some (opS (sc ω k) a b)) (hlen : r.length < 20) (hb : ge G (l + 6) (r.length + 1) = b) (ha : ge G (l + 6) r.length = a) (hlt : k < e) (he : e ≤ 400) (hcd : ge G (l + 4) k = cdS (sc ω k) (sn ω k)) :
    b_X1_conditionHolds_5 τ n l (nI e) (nI (r.length + 1 + 1)) (nI k) G = some (.inl (nI (r.length + 1), nI (k + 1), gse G (l + 6) r.length (opS (sc ω k) a b))) := by
  obtain ⟨q, hq, hq2, e0⟩ := cd_bin hc hj
  have e1 : nI (r.length + 1 + 1) + (-1) = nI (r.length + 1) := pk_m1 _
  have e2 : nI (r.length + 1) - 1 = nI r.length := nI_pred _
  have a1 : ge G (l + 6) (nI r.length).toNatClampNeg = a := by rw [nI_clamp (by omega)]; exact ha
  have b1 : ge G (l + 6) (nI (r.length + 1)).toNatClampNeg = b := by rw [nI_clamp (by omega)]; exact hb
  unfold b_X1_conditionHolds_5
  rw [if_neg (nI_ge hlt (by omega)), hL.rf.2.2.2.1, ka_bs, hL.f4 k rfl (by omega), nI_clamp (show k < 2 ^ 31 by omega), hcd, ka_letE, if_pos (show (2000 : Int32) ≤ cdS (sc ω k) (sn ω k) by rw [e0]; exact nI_le (a := 2000) (by omega) (by omega)), if_neg (show ¬ cdS (sc ω k) (sn ω k) = 2000 by rw [e0]; exact fun h => absurd ((nI_eq (b := 2000) (by omega) (by decide)).mp h) (by omega)), if_neg (show ¬ nI (r.length + 1 + 1) < 2 from nI_nlt (b := 2) (by omega) (by omega))]
  rw [e1, ka_letE, hL.rf.2.2.2.2.2, ka_bs, ka_bs, e2, hL.f6 r.length rfl (by omega), ka_bs, hL.f6 (r.length + 1) rfl (by omega), a1, b1, hjn, ka_bs, hL.f6 r.length rfl (by omega), nI_clamp (show r.length < 2 ^ 31 by omega), ka_letE, ka_letE, nI_1]
theorem ty_bin {ω : gW} {k j : Nat} {T T' : List Bool} {L : List Int32} (hT : TV T L) (hc : sc ω k = nI j) (hj : j ≤ 17) (hty : tyS (sc ω k) T = some T') (h11 : ¬ j ≤ 11) (h15 : ¬ j = 15) : ∃ b a r, L = b :: a :: r ∧ ((j = 16 ∨ j = 17) → (a = 0 ∨ a = 1) ∧ (b = 0 ∨ b = 1)) := by
  have c1 : ¬ sc ω k ≤ 11 := by rw [hc]; exact nI_ge (a := 11) (by omega) (by omega)
  have c2 : ∀ q : Nat, q < 100 → sc ω k = nI q → j = q := fun q hq h => (nI_eq (by omega) (by omega)).mp (hc.symm.trans h)
  have ht2 : ∃ t r, T = t :: t :: r ∧ ((j = 16 ∨ j = 17) → t = true) := by
    unfold tyS at hty
    rw [if_neg c1, if_neg (show ¬ sc ω k = 15 from fun h => h15 (c2 15 (by decide) h))] at hty
    split at hty
    · rename_i h12
      have := c2 12 (by decide) h12
      split at hty
      · exact ⟨false, _, rfl, fun h => by omega⟩
      · cases hty
    · split at hty
      · rename_i h1314
        have : j = 13 ∨ j = 14 := by
          rcases h1314 with h | h
          · exact Or.inl (c2 13 (by decide) h)
          · exact Or.inr (c2 14 (by decide) h)
        split at hty
        · exact ⟨false, _, rfl, fun h => by omega⟩
        · cases hty
      · split at hty
        · exact ⟨true, _, rfl, fun _ => rfl⟩
        · cases hty
  obtain ⟨t, r, rfl, ht⟩ := ht2
  match L, hT with
  | b :: a :: r, hT => exact ⟨b, a, r, rfl, fun h => ⟨hT.2.1 (ht h), hT.1 (ht h)⟩⟩
theorem s_step (hL : FL τ G l) (hA : ∀ j, j ≤ 10 → ge G (l + 5) j = fcS ω i (nI j) 0) {k e : Nat} {L : List Int32} {T T' : List Bool} (hT : TV T L) (hty : tyS (sc ω k) T = some T') (hst : stV ω k) (hlen : L.length ≤ 20) (hS : SK (ge G (l + 6)) L) (hlt : k < e) (he : e ≤ 400) (hcd : ge G (l + 4) k = cdS (sc ω k) (sn ω k)) :
    ∃ G', b_X1_conditionHolds_5 τ n l (nI e) (nI L.length) (nI k) G = some (.inl (nI (stepL ω i k L).length, nI (k + 1), G')) ∧ SK (ge G' (l + 6)) (stepL ω i k L) ∧ Fr (fun b => b = l + 6) G G' := by
  obtain ⟨j, hj, hc, hn⟩ := hst
  unfold stepL
  by_cases h11 : j ≤ 11
  · rw [if_pos (show sc ω k ≤ 11 by rw [hc]; exact nI_le (b := 11) h11 (by decide))]
    refine ⟨_, s_stepP hL hA hc h11 hn hlen hlt he hcd, ⟨?_, ?_⟩, Fr.e rfl⟩
    · rw [ka_ee, if_pos ⟨rfl, rfl⟩]
    · refine hS.keep fun q hq => ?_
      rw [ka_ee, if_neg (fun e => by omega)]
  · have c1 : ¬ sc ω k ≤ 11 := by rw [hc]; exact nI_ge (a := 11) (by omega) (by omega)
    rw [if_neg c1]
    by_cases h15 : j = 15
    · have h15 : sc ω k = 15 := by rw [hc, h15]; rfl
      rw [if_pos h15]
      obtain ⟨x, r, rfl⟩ := ty_not hT hty c1 h15
      have hr : r.length < 20 := by have : (x :: r).length = r.length + 1 := rfl; omega
      refine ⟨_, s_stepN hL h15 hr hS.1 hlt he hcd, ⟨?_, ?_⟩, Fr.e rfl⟩
      · rw [ka_ee, if_pos ⟨rfl, rfl⟩]
      · refine hS.2.keep fun q hq => ?_
        rw [ka_ee, if_neg (fun e => by omega)]
    · rw [if_neg (show ¬ sc ω k = 15 from fun h => h15 ((nI_eq (b := 15) (by omega) (by decide)).mp (hc.symm.trans h)))]
      obtain ⟨b, a, r, rfl, hab⟩ := ty_bin hT hc hj hty h11 h15
      have hr : r.length < 20 := by have : (b :: a :: r).length = r.length + 1 + 1 := rfl; omega
      have hjj : j = 12 ∨ j = 13 ∨ j = 14 ∨ j = 16 ∨ j = 17 := by omega
      have hjn : f_X1_joined (cdS (sc ω k) (sn ω k)) a b = some (opS (sc ω k) a b) := s_joined hc (by
        rcases hjj with h | h | h | h | h
        · exact Or.inl h
        · exact Or.inr (Or.inl h)
        · exact Or.inr (Or.inr (Or.inl h))
        · exact Or.inr (Or.inr (Or.inr ⟨Or.inl h, hab (Or.inl h)⟩))
        · exact Or.inr (Or.inr (Or.inr ⟨Or.inr h, hab (Or.inr h)⟩)))
      refine ⟨_, s_stepB hL hc hjj hjn hr hS.1 hS.2.1 hlt he hcd, ⟨?_, ?_⟩, Fr.e rfl⟩
      · rw [ka_ee, if_pos ⟨rfl, rfl⟩]
      · refine hS.2.2.keep fun q hq => ?_
        rw [ka_ee, if_neg (fun e => by omega)]
end
