/-! CALLS: oakum -/
section
variable {ω : gW}
abbrev oS : Type := Nat × (Nat → Nat) × Int32
def roY (ω : gW) (a b c : Nat) : Int32 := yv ω a 2 + yv ω b 2 + yv ω c 2
def oaN (a b c : Nat) (s : oS) : oS := (s.1 + 1, (fun y => if y = a ∨ y = b ∨ y = c then s.2.1 y + 1 else s.2.1 y), s.2.2 &&& ((b1 a ||| b1 b) ||| b1 c))
def oaF (ω : gW) (u v : Int32) (a b c : Nat) (s : oS) : oS := if stY ω a b c = u ∧ roY ω a b c = v then oaN a b c s else s
def oa0 (ω : gW) : oS := (0, (fun _ => 0), ((1 : Int32) <<< (nI (cY ω) &&& 31)) - 1)
def oaS (ω : gW) (u v : Int32) : oS := T3 (oaF ω u v) (cY ω) (oa0 ω)
theorem oa_le (a b c : Nat) (u v : Int32) (s : oS) : (oaF ω u v a b c s).1 ≤ s.1 + 1 := by
  unfold oaF
  split
  · exact Nat.le_refl _
  · exact Nat.le_succ _
theorem T3_cnt {f : Nat → Nat → Nat → oS → oS} (hf : ∀ a b c s, (f a b c s).1 ≤ s.1 + 1) {N : Nat} (hN : N ≤ 10) {s0 : oS} : (T3 f N s0).1 ≤ s0.1 + N * 100 := by
  unfold T3
  refine acc_inv (fun a (s : oS) => s.1 ≤ s0.1 + a * 100) (Nat.le_add_right _ _) fun a s ha hp => ?_
  have h1 : (acc (fun d s => acc (fun e s => f a (a + 1 + d) (a + 1 + d + 1 + e) s) s (N - (a + 1 + d + 1))) s (N - (a + 1))).1 ≤ s.1 + (N - (a + 1)) * 10 := by
    refine acc_inv (fun d (s' : oS) => s'.1 ≤ s.1 + d * 10) (Nat.le_add_right _ _) fun d s' hd hp' => ?_
    have h2 : (acc (fun e s => f a (a + 1 + d) (a + 1 + d + 1 + e) s) s' (N - (a + 1 + d + 1))).1 ≤ s'.1 + (N - (a + 1 + d + 1)) := by
      refine acc_inv (fun e (s'' : oS) => s''.1 ≤ s'.1 + e) (Nat.le_refl _) fun e s'' he hp'' => ?_
      have := hf a (a + 1 + d) (a + 1 + d + 1 + e) s''
      show (f a (a + 1 + d) (a + 1 + d + 1 + e) s'').1 ≤ s'.1 + (e + 1)
      omega
    show _ ≤ s.1 + (d + 1) * 10
    refine Nat.le_trans h2 ?_
    omega
  show _ ≤ s0.1 + (a + 1) * 100
  refine Nat.le_trans h1 ?_
  omega
def oaI (N : Nat) (s : oS) : Prop := (∀ y, y < N → (bb s.2.2 y = true ↔ s.2.1 y = s.1) ∧ s.2.1 y ≤ s.1) ∧ ∀ y, N ≤ y → y < 32 → bb s.2.2 y = false
theorem oaS_I (hI : WI ω) (u v : Int32) : oaI (cY ω) (oaS ω u v) := by
  have hy := hI.y1
  refine T3_inv (oaI (cY ω)) ⟨fun y hy' => ⟨?_, Nat.le_refl _⟩, fun y hy' h32 => ?_⟩ fun a b c s ha hb hc hab hbc hp => ?_
  · show bb (((1 : Int32) <<< (nI (cY ω) &&& 31)) - 1) y = true ↔ 0 = 0
    rw [bb_full _ hy y (by omega), decide_eq_true hy']
    exact ⟨fun _ => rfl, fun _ => rfl⟩
  · show bb (((1 : Int32) <<< (nI (cY ω) &&& 31)) - 1) y = false
    rw [bb_full _ hy y h32, decide_eq_false (by omega)]
  · obtain ⟨h1, h2⟩ := hp
    unfold oaF
    split
    · refine ⟨fun y hy' => ?_, fun y hy' h32 => ?_⟩
      · obtain ⟨i1, i2⟩ := h1 y hy'
        show (bb (s.2.2 &&& ((b1 a ||| b1 b) ||| b1 c)) y = true ↔ (if y = a ∨ y = b ∨ y = c then s.2.1 y + 1 else s.2.1 y) = s.1 + 1) ∧ (if y = a ∨ y = b ∨ y = c then s.2.1 y + 1 else s.2.1 y) ≤ s.1 + 1
        rw [b_and, b_or, b_or, bb_b1 (by omega) (by omega), bb_b1 (by omega) (by omega), bb_b1 (by omega) (by omega)]
        by_cases hm : y = a ∨ y = b ∨ y = c
        · rw [if_pos hm]
          have hm2 : (decide (y = a) || decide (y = b) || decide (y = c)) = true := by
            rcases hm with h | h | h <;> simp [h]
          rw [hm2, Bool.and_true]
          exact ⟨i1.trans ⟨fun h => by omega, fun h => by omega⟩, by omega⟩
        · rw [if_neg hm]
          have hm2 : (decide (y = a) || decide (y = b) || decide (y = c)) = false := by
            simp only [Bool.or_eq_false_iff, decide_eq_false_iff_not]
            exact ⟨⟨fun h => hm (Or.inl h), fun h => hm (Or.inr (Or.inl h))⟩, fun h => hm (Or.inr (Or.inr h))⟩
          rw [hm2, Bool.and_false]
          exact ⟨⟨fun h => absurd h (by decide), fun h => by omega⟩, by omega⟩
      · show bb (s.2.2 &&& ((b1 a ||| b1 b) ||| b1 c)) y = false
        rw [b_and, h2 y hy' h32, Bool.false_and]
    · exact ⟨h1, h2⟩
theorem oaS_n (hI : WI ω) (u v : Int32) : (oaS ω u v).1 ≤ 1000 := by
  have hy := hI.y1
  have := T3_cnt (f := oaF ω u v) (fun a b c s => oa_le a b c u v s) hy (s0 := oa0 ω)
  have h0 : (oa0 ω).1 = 0 := rfl
  unfold oaS
  omega
def suS (N : Nat) (s : oS) : Int32 := acc (fun i b => if 0 < s.1 ∧ s.2.1 i = s.1 then b ||| b1 i else b) 0 N
theorem suS_e {N : Nat} (hN : N ≤ 10) {s : oS} (h : oaI N s) : suS N s = if s.1 = 0 then 0 else s.2.2 := by
  refine b_ext fun i hi => ?_
  unfold suS
  rw [acc_bb hi (by omega)]
  by_cases h0 : s.1 = 0
  · rw [if_pos h0, b_0, decide_eq_false (show ¬ (0 < s.1 ∧ s.2.1 i = s.1) by omega), Bool.and_false]
  · rw [if_neg h0]
    by_cases hi' : i < N
    · have := (h.1 i hi').1
      rw [decide_eq_true hi', Bool.true_and]
      by_cases he : s.2.1 i = s.1
      · rw [decide_eq_true (show 0 < s.1 ∧ s.2.1 i = s.1 by omega), this.mpr he]
      · rw [decide_eq_false (fun h => he h.2)]
        cases hb : bb s.2.2 i with
        | false => rfl
        | true => exact absurd (this.mp hb) he
    · rw [decide_eq_false hi', Bool.false_and, h.2 i (by omega) hi]
def asV (s : oS) (i : Nat) : Nat := max (s.2.1 i) (s.1 - s.2.1 i)
def asF (s : oS) (i : Nat) (r : Int32 × Option Nat) : Int32 × Option Nat := match r.2 with
  | none => (nI i, some (asV s i))
  | some w => if asV s i < w then (nI i, some (asV s i)) else r
def asA (s : oS) (c : Nat) : Int32 × Option Nat := acc (asF s) (-1, none) c
def asR (N : Nat) (s : oS) : Int32 := if s.1 < 2 then -1 else (asA s N).1
def asL (z : Nat) : Option Nat → Nat
  | none => z
  | some w => w
theorem asA_b {N : Nat} {s : oS} (h : oaI N s) : ∀ {c : Nat}, c ≤ N → ∀ w, (asA s c).2 = some w → w ≤ s.1
  | 0, _, w, hw => by cases hw
  | c + 1, hc, w, hw => by
    have hv : asV s c ≤ s.1 := by
      have := (h.1 c (by omega)).2
      unfold asV
      omega
    have hw : (asF s c (asA s c)).2 = some w := hw
    unfold asF at hw
    cases hr : (asA s c).2 with
    | none =>
      rw [hr] at hw
      have hw : some (asV s c) = some w := hw
      cases hw
      exact hv
    | some w' =>
      rw [hr] at hw
      have ih := asA_b h (c := c) (by omega) w' hr
      have hw : (if asV s c < w' then ((nI c, some (asV s c)) : Int32 × Option Nat) else asA s c).2 = some w := hw
      by_cases hlt : asV s c < w'
      · rw [if_pos hlt] at hw
        have hw : some (asV s c) = some w := hw
        cases hw
        exact hv
      · rw [if_neg hlt, hr] at hw
        cases hw
        exact ih
/-- one step, with any number above all for 'none yet' -/
theorem asA_s {N z : Nat} {s : oS} (h : oaI N s) (hz : s.1 < z) {c : Nat} (hc : c < N) : asA s (c + 1) = if asV s c < asL z (asA s c).2 then (nI c, some (asV s c)) else asA s c := by
  have hv : asV s c ≤ s.1 := by
    have := (h.1 c hc).2
    unfold asV
    omega
  show asF s c (asA s c) = _
  unfold asF
  cases hr : (asA s c).2 with
  | none =>
    rw [if_pos (show asV s c < asL z none by show asV s c < z; omega)]
  | some w => rfl
end
section
variable {τ : gτ} {n : Nat} {G G' : gG} {x m s t l l' o : Nat} {ω : gW} {im : Option gW} {me : List gW} {ta : List Nat} {fa : Int32}
def tbG (a : Nat) (G : gG) (s : oS) : Prop := ∀ y, y < 10 → ge G a y = nI (s.2.1 y)
theorem tb_put {a p b c : Nat} {s : oS} (h : tbG a G s) (hp : p < 10) (hb : b < 10) (hc : c < 10) (h1 : p < b) (h2 : b < c) : tbG a (gse (gse (gse G a p (nI (s.2.1 p + 1))) a b (nI (s.2.1 b + 1))) a c (nI (s.2.1 c + 1))) (oaN p b c s) := fun y hy => by
  show _ = nI (if y = p ∨ y = b ∨ y = c then s.2.1 y + 1 else s.2.1 y)
  rw [ka_ee, ka_ee, ka_ee]
  by_cases hyc : y = c
  · rw [if_pos ⟨rfl, hyc⟩, if_pos (Or.inr (Or.inr hyc)), hyc]
  · rw [if_neg (fun h => hyc h.2)]
    by_cases hyb : y = b
    · rw [if_pos ⟨rfl, hyb⟩, if_pos (Or.inr (Or.inl hyb)), hyb]
    · rw [if_neg (fun h => hyb h.2)]
      by_cases hyp : y = p
      · rw [if_pos ⟨rfl, hyp⟩, if_pos (Or.inl hyp), hyp]
      · rw [if_neg (fun h => hyp h.2), if_neg (fun h => h.elim hyp (fun h => h.elim hyb hyc))]
        exact h y hy
theorem c_tally (hC : CV τ G x s t l l' ω im me ta fa) (hI : IV ω im me ta) (hn : 500 < n) {u v : Int32} : gOk (f_X10_tallyThrees τ n x u v G) (fun r => r.1 = nI (oaS ω u v).1 ∧ tbG (x + 433) r.2 (oaS ω u v) ∧ QC τ x t G r.2) := by
  have hy := hI.1.y1
  have hsl := hC.sl
  unfold f_X10_tallyThrees
  rw [ka_bind]
  unfold l_X10_tallyThrees_5
  refine gOk.mono (ka_loop 10 (fun c q => q.1 = nI c ∧ QC τ x t G q.2 ∧ ∀ j, j < c → ge q.2 (x + 433) j = 0) (K := fun G' => QC τ x t G G' ∧ ∀ j, j < 10 → ge G' (x + 433) j = 0) (by omega) ⟨rfl, QC.rf, fun j hj => by omega⟩ (fun c q hc hq => ?_)) (fun G1 h1 => ?_)
  · obtain ⟨x4, G1⟩ := q
    obtain ⟨b1', b2, b3⟩ := hq
    have e1 : x4 = nI c := b1'
    have q1 : QC τ x t G G1 := b2
    have t1 : ∀ j, j < c → ge G1 (x + 433) j = 0 := b3
    clear b1' b2 b3
    subst e1
    have hC1 := q1.cv hC hI
    obtain ⟨s1, s2, s3, s4, s5, s6⟩ := hC1.sum
    show gOk (b_X10_tallyThrees_5 τ n x u v 0 (nI c) G1) _
    unfold b_X10_tallyThrees_5
    by_cases hlt : c < 10
    · rw [if_neg (show ¬ (10 : Int32) ≤ nI c from nI_ge (b := 10) hlt (by decide)), s3, ka_bs, ka_chkT (show gIn (nI c) (gn τ (x + 433)) by rw [s6]; exact ka_in hlt (by decide)), nI_clamp (by omega), ka_letE, ka_letE, nI_1]
      have f2 : Fr (fun b => b = x + 433) G1 (gse G1 (x + 433) c 0) := Fr.e rfl
      refine ⟨_, rfl, hlt, rfl, q1.tr (QC.row (by omega) (by omega) hC1 f2), fun j hj => ?_⟩
      show ge (gse G1 (x + 433) c 0) (x + 433) j = 0
      rw [ka_ee]
      by_cases hjc : j = c
      · rw [if_pos ⟨rfl, hjc⟩]
      · rw [if_neg (fun h => hjc h.2)]
        exact t1 j (by omega)
    · have hcN : c = 10 := by omega
      subst hcN
      rw [if_pos (show (10 : Int32) ≤ nI 10 from nI_le (Nat.le_refl 10) (by decide))]
      exact ⟨_, rfl, q1, t1⟩
  · obtain ⟨q1, t1⟩ := h1
    rw [ka_letE]
    unfold k_X10_tallyThrees_26
    rw [ka_bind]
    unfold l_X10_tallyThrees_29
    have cnt : ∀ {G1 : gG}, QC τ x t G G1 → CV τ G1 x s t l l' ω im me ta fa := fun h => h.cv hC hI
    refine gOk.mono (loop3 (n := n) (N := cY ω) (by omega) (oaF ω u v)
      (fun a b c s q => q.1 = nI s.1 ∧ tbG (x + 433) q.2.2 s ∧ q.2.1 = nI c ∧ QC τ x t G q.2.2) (fun a b s r => r.1 = nI s.1 ∧ tbG (x + 433) r.2 s ∧ QC τ x t G r.2) (fun a b q => b_X10_tallyThrees_65 τ n x u v q.1 (nI a) (nI b) q.2.1 q.2.2)
      (fun a b c s q hab hbc hc hp => ?_) (fun a b s q hab hb hp => ?_)
      (fun a b s q => q.1 = nI s.1 ∧ tbG (x + 433) q.2.2 s ∧ q.2.1 = nI b ∧ QC τ x t G q.2.2) (fun a s r => r.1 = nI s.1 ∧ tbG (x + 433) r.2 s ∧ QC τ x t G r.2) (fun a q => b_X10_tallyThrees_47 τ n x u v q.1 (nI a) q.2.1 q.2.2)
      (fun a b s q hab hb hp => ?_) (fun a s q ha hp => ?_)
      (fun a s q => q.1 = nI s.1 ∧ tbG (x + 433) q.2.2 s ∧ q.2.1 = nI a ∧ QC τ x t G q.2.2) (fun s r => r.1 = nI s.1 ∧ tbG (x + 433) r.2 s ∧ QC τ x t G r.2) (fun q => b_X10_tallyThrees_29 τ n x u v q.1 q.2.1 q.2.2)
      (fun a s q ha hp => ?_) (fun s q hp => ?_) (s := oa0 ω) (q := (0, 0, G1)) ⟨rfl, fun y hy => t1 y hy, rfl, q1⟩) fun r hr => by rw [ka_letE, ka_letE]; exact ⟨_, rfl, hr⟩
    · obtain ⟨p1, p2, G1⟩ := q
      obtain ⟨b1', b2, b3, b4⟩ := hp
      have e1 : p1 = nI s.1 := b1'
      have t2 : tbG (x + 433) G1 s := b2
      have e2 : p2 = nI c := b3
      have q2 : QC τ x t G G1 := b4
      clear b1' b2 b3 b4
      subst e1; subst e2
      have hC1 := cnt q2
      obtain ⟨s1, s2, s3, s4, s5, s6⟩ := hC1.sum
      have hix : ∀ {j : Nat}, j < 10 → ∀ {ρ : Type} {e : Option ρ}, gchk (gIn (nI j) (gn τ (x + 433))) e = e := fun {j} hj {ρ e} => ka_chkT (by rw [s6]; exact ka_in hj (by decide))
      show gOk (b_X10_tallyThrees_65 τ n x u v (nI s.1) (nI a) (nI b) (nI c) G1) _
      unfold b_X10_tallyThrees_65
      rw [hC1.rf.2.2.2.2.2.2.2.2.2.2.1, ka_bs, hC1.vs.cn.1, hI.1.y0, if_neg (nI_ge hc (by omega)), ka_bs, s_strengthOf hC1.fs.1 hC1.vs hI.1 (by omega) (by omega) hc, ka_bs]
      by_cases h1 : yv ω a 0 + yv ω b 0 + yv ω c 0 = u
      · rw [if_pos h1, ka_bs, s_rotOf hC1.fs.1 hC1.vs hI.1 (by omega) (by omega) hc, ka_bs]
        by_cases h2 : yv ω a 2 + yv ω b 2 + yv ω c 2 = v
        · have ef : oaF ω u v a b c s = oaN a b c s := if_pos ⟨h1, h2⟩
          have f3 : Fr (fun b => b = x + 433) G1 (gse G1 (x + 433) a (nI (s.2.1 a + 1))) := Fr.e rfl
          have q3 := q2.tr (QC.row (by omega) (by omega) hC1 f3)
          have hC3 := cnt q3
          have f4 : Fr (fun b => b = x + 433) (gse G1 (x + 433) a (nI (s.2.1 a + 1))) (gse (gse G1 (x + 433) a (nI (s.2.1 a + 1))) (x + 433) b (nI (s.2.1 b + 1))) := Fr.e rfl
          have q4 := q3.tr (QC.row (by omega) (by omega) hC3 f4)
          have hC4 := cnt q4
          have f5 : Fr (fun b => b = x + 433) (gse (gse G1 (x + 433) a (nI (s.2.1 a + 1))) (x + 433) b (nI (s.2.1 b + 1))) (gse (gse (gse G1 (x + 433) a (nI (s.2.1 a + 1))) (x + 433) b (nI (s.2.1 b + 1))) (x + 433) c (nI (s.2.1 c + 1))) := Fr.e rfl
          have q5 := q4.tr (QC.row (by omega) (by omega) hC4 f5)
          have g0 : ge G1 (x + 433) a + 1 = nI (s.2.1 a + 1) := by rw [t2 a (by omega), nI_1]
          have g1 : ge (gse G1 (x + 433) a (nI (s.2.1 a + 1))) (x + 433) b + 1 = nI (s.2.1 b + 1) := by rw [ka_ee, if_neg (fun h => by omega), t2 b (by omega), nI_1]
          have g2 : ge (gse (gse G1 (x + 433) a (nI (s.2.1 a + 1))) (x + 433) b (nI (s.2.1 b + 1))) (x + 433) c + 1 = nI (s.2.1 c + 1) := by rw [ka_ee, if_neg (fun h => by omega), ka_ee, if_neg (fun h => by omega), t2 c (by omega), nI_1]
          rw [if_pos h2, ka_letE, s3, ka_bs, hix (by omega), hix (by omega), nI_clamp (show a < 2 ^ 31 by omega), g0, ka_letE, hC3.sum.2.2.1, ka_bs, hix (by omega), hix (by omega), nI_clamp (show b < 2 ^ 31 by omega), g1, ka_letE, hC4.sum.2.2.1, ka_bs, hix (by omega), hix (by omega), nI_clamp (show c < 2 ^ 31 by omega), g2, ka_letE, ka_letE, nI_1, nI_1]
          rw [ef]
          exact ⟨_, rfl, rfl, tb_put t2 (by omega) (by omega) (by omega) hab hbc, rfl, q5⟩
        · have ef : oaF ω u v a b c s = s := if_neg (fun h => h2 h.2)
          rw [if_neg h2, ka_letE, nI_1, ef]
          exact ⟨_, rfl, rfl, t2, rfl, q2⟩
      · have ef : oaF ω u v a b c s = s := if_neg (fun h => h1 h.1)
        rw [if_neg h1, ka_letE, nI_1, ef]
        exact ⟨_, rfl, rfl, t2, rfl, q2⟩
    · obtain ⟨p1, p2, G1⟩ := q
      obtain ⟨e1, t2, rfl, q2⟩ := hp
      have hC1 := cnt q2
      show gOk (b_X10_tallyThrees_65 τ n x u v p1 (nI a) (nI b) (nI (cY ω)) G1) _
      unfold b_X10_tallyThrees_65
      rw [hC1.rf.2.2.2.2.2.2.2.2.2.2.1, ka_bs, hC1.vs.cn.1, hI.1.y0, if_pos (nI_le (Nat.le_refl _) (by omega))]
      exact ⟨_, rfl, e1, t2, q2⟩
    · obtain ⟨p1, p2, G1⟩ := q
      obtain ⟨e1, t2, rfl, q2⟩ := hp
      have hC1 := cnt q2
      refine ⟨(p1, nI (b + 1), G1), ⟨e1, t2, rfl, q2⟩, fun s' hs => ?_⟩
      show gOk (b_X10_tallyThrees_47 τ n x u v p1 (nI a) (nI b) G1) _
      unfold b_X10_tallyThrees_47 l_X10_tallyThrees_65
      rw [hC1.rf.2.2.2.2.2.2.2.2.2.2.1, ka_bs, hC1.vs.cn.1, hI.1.y0, if_neg (nI_ge hb (by omega)), ka_letE, nI_1, ka_bind]
      refine gOk.mono hs fun r hr => ?_
      rw [ka_letE, ka_letE, ka_letE]
      exact ⟨_, rfl, hr.1, hr.2.1, rfl, hr.2.2⟩
    · obtain ⟨p1, p2, G1⟩ := q
      obtain ⟨e1, t2, rfl, q2⟩ := hp
      have hC1 := cnt q2
      show gOk (b_X10_tallyThrees_47 τ n x u v p1 (nI a) (nI (cY ω)) G1) _
      unfold b_X10_tallyThrees_47
      rw [hC1.rf.2.2.2.2.2.2.2.2.2.2.1, ka_bs, hC1.vs.cn.1, hI.1.y0, if_pos (nI_le (Nat.le_refl _) (by omega))]
      exact ⟨_, rfl, e1, t2, q2⟩
    · obtain ⟨p1, p2, G1⟩ := q
      obtain ⟨e1, t2, rfl, q2⟩ := hp
      have hC1 := cnt q2
      refine ⟨(p1, nI (a + 1), G1), ⟨e1, t2, rfl, q2⟩, fun s' hs => ?_⟩
      show gOk (b_X10_tallyThrees_29 τ n x u v p1 (nI a) G1) _
      unfold b_X10_tallyThrees_29 l_X10_tallyThrees_47
      rw [hC1.rf.2.2.2.2.2.2.2.2.2.2.1, ka_bs, hC1.vs.cn.1, hI.1.y0, if_neg (nI_ge ha (by omega)), ka_letE, nI_1, ka_bind]
      refine gOk.mono hs fun r hr => ?_
      rw [ka_letE, ka_letE, ka_letE]
      exact ⟨_, rfl, hr.1, hr.2.1, rfl, hr.2.2⟩
    · obtain ⟨p1, p2, G1⟩ := q
      obtain ⟨e1, t2, rfl, q2⟩ := hp
      have hC1 := cnt q2
      show gOk (b_X10_tallyThrees_29 τ n x u v p1 (nI (cY ω)) G1) _
      unfold b_X10_tallyThrees_29
      rw [hC1.rf.2.2.2.2.2.2.2.2.2.2.1, ka_bs, hC1.vs.cn.1, hI.1.y0, if_pos (nI_le (Nat.le_refl _) (by omega))]
      exact ⟨_, rfl, e1, t2, q2⟩
def oaR (ω : gW) (u v : Int32) : Nat → Int32
  | 0 => nI (oaS ω u v).1
  | 1 => suS (cY ω) (oaS ω u v)
  | _ => asR (cY ω) (oaS ω u v)
theorem c_sure (hC : CV τ G x s t l l' ω im me ta fa) (hI : WI ω) (hn : 500 < n) {z : oS} (hz : z.1 ≤ 1000) (hz2 : ∀ y, y < cY ω → z.2.1 y ≤ z.1) (ht : tbG (x + 433) G z) : f_X10_sureYarns τ n x (nI z.1) G = some (suS (cY ω) z) := by
  have hy := hI.y1
  obtain ⟨s1, s2, s3, s4, s5, s6⟩ := hC.sum
  have e : l_X10_sureYarns_4 τ n x (nI z.1) 0 0 G = some (suS (cY ω) z) := by
    unfold l_X10_sureYarns_4
    refine ka_up (cY ω) (fun c => (suS c z, nI c)) (by omega) rfl (fun c hc => ?_) ?_
    · show b_X10_sureYarns_4 τ n x (nI z.1) (suS c z) (nI c) G = some (.inl (suS (c + 1) z, nI (c + 1)))
      have hnx : suS (c + 1) z = if 0 < z.1 ∧ z.2.1 c = z.1 then suS c z ||| b1 c else suS c z := rfl
      unfold b_X10_sureYarns_4
      rw [hC.rf.2.2.2.2.2.2.2.2.2.2.1, ka_bs, hC.vs.cn.1, hI.y0, if_neg (nI_ge hc (by omega)), hnx]
      rcases Nat.eq_zero_or_pos z.1 with h0 | h0
      · rw [h0, if_pos (show nI 0 ≤ 0 by decide), ka_letE, nI_1, if_neg (by omega)]
      · rw [if_neg (nI_nle h0 (by omega)), s3, ka_bs, ka_chkT (show gIn (nI c) (gn τ (x + 433)) by rw [s6]; exact ka_in (by omega) (by decide)), nI_clamp (by omega), ht c (by omega)]
        have := hz2 c hc
        by_cases h1 : z.2.1 c = z.1
        · rw [if_pos (show nI (z.2.1 c) = nI z.1 by rw [h1]), if_pos ⟨h0, h1⟩, ka_letE, ka_letE, nI_1]
          rfl
        · rw [if_neg (fun e => h1 ((nI_eq (by omega) (by omega)).mp e)), if_neg (fun h => h1 h.2), ka_letE, nI_1]
    · show b_X10_sureYarns_4 τ n x (nI z.1) (suS (cY ω) z) (nI (cY ω)) G = _
      unfold b_X10_sureYarns_4
      rw [hC.rf.2.2.2.2.2.2.2.2.2.2.1, ka_bs, hC.vs.cn.1, hI.y0, if_pos (nI_le (Nat.le_refl _) (by omega))]
  unfold f_X10_sureYarns
  rw [e, ka_bs, ka_letE]
theorem c_ask (hC : CV τ G x s t l l' ω im me ta fa) (hI : WI ω) (hn : 500 < n) {z : oS} (hz : z.1 ≤ 1000) (hzI : oaI (cY ω) z) (ht : tbG (x + 433) G z) : f_X10_yarnToAsk τ n x (nI z.1) G = some (asR (cY ω) z) := by
  have hy := hI.y1
  obtain ⟨s1, s2, s3, s4, s5, s6⟩ := hC.sum
  have e : l_X10_yarnToAsk_9 τ n x (nI z.1) (-1) (nI (z.1 + 1)) 0 G = some (asR (cY ω) z) := by
    unfold l_X10_yarnToAsk_9
    have := ka_loop (body := fun (q : Int32 × Int32 × Int32) => b_X10_yarnToAsk_9 τ n x (nI z.1) q.1 q.2.1 q.2.2 G) (n := n) (cY ω) (fun c q => q.1 = (asA z c).1 ∧ q.2.1 = nI (asL (z.1 + 1) (asA z c).2) ∧ q.2.2 = nI c ∧ (z.1 < 2 → c = 0)) (K := fun r => r = asR (cY ω) z) (by omega) (s0 := (-1, nI (z.1 + 1), 0)) ⟨rfl, rfl, rfl, fun _ => rfl⟩ (fun c q hc hq => ?_)
    · obtain ⟨r, h1, h2'⟩ := this
      rw [h1, h2']
    · obtain ⟨x2, x3, x4⟩ := q
      obtain ⟨b1', b2, b3, b4⟩ := hq
      have e1 : x2 = (asA z c).1 := b1'
      have e2 : x3 = nI (asL (z.1 + 1) (asA z c).2) := b2
      have e3 : x4 = nI c := b3
      clear b1' b2 b3
      subst e3
      show gOk (b_X10_yarnToAsk_9 τ n x (nI z.1) x2 x3 (nI c) G) _
      unfold b_X10_yarnToAsk_9
      rw [hC.rf.2.2.2.2.2.2.2.2.2.2.1, ka_bs, hC.vs.cn.1, hI.y0]
      by_cases hlt : c < cY ω
      · rw [if_neg (nI_ge hlt (by omega))]
        by_cases h2 : z.1 < 2
        · rw [if_pos (show nI z.1 < (2 : Int32) from nI_lt (b := 2) h2 (by decide))]
          refine ⟨_, rfl, ?_⟩
          unfold asR
          rw [if_pos h2, e1, b4 h2]
          rfl
        · have hle := (hzI.1 c hlt).2
          have hL : asL (z.1 + 1) (asA z c).2 ≤ z.1 + 1 := by
            cases hr : (asA z c).2 with
            | none => exact Nat.le_refl _
            | some w => have := asA_b hzI (c := c) (by omega) w hr; show w ≤ z.1 + 1; omega
          have hs := asA_s hzI (z := z.1 + 1) (by omega) hlt
          have hV : gmax (nI (z.2.1 c)) (nI z.1 - nI (z.2.1 c)) = nI (asV z c) := by
            rw [nI_sub hle]
            exact gmax_nI (by omega) (by omega)
          have hVl : asV z c ≤ z.1 := by unfold asV; omega
          rw [if_neg (show ¬ nI z.1 < (2 : Int32) from nI_nlt (b := 2) (by omega) (by omega)), s3, ka_bs, ka_chkT (show gIn (nI c) (gn τ (x + 433)) by rw [s6]; exact ka_in (by omega) (by decide)), ka_bs, ka_chkT (show gIn (nI c) (gn τ (x + 433)) by rw [s6]; exact ka_in (by omega) (by decide)), nI_clamp (by omega), ht c (by omega), hV, ka_letE, e2]
          by_cases h3 : asV z c < asL (z.1 + 1) (asA z c).2
          · rw [if_pos h3] at hs
            rw [if_neg (nI_ge h3 (by omega)), ka_letE, nI_1]
            exact ⟨_, rfl, hlt, by rw [hs], by rw [hs]; rfl, rfl, fun h => absurd h h2⟩
          · rw [if_neg h3] at hs
            rw [if_pos (nI_le (by omega) (by omega)), ka_letE, nI_1]
            exact ⟨_, rfl, hlt, by rw [hs]; exact e1, by rw [hs], rfl, fun h => absurd h h2⟩
      · have hcN : c = cY ω := by omega
        rw [if_pos (nI_le (by omega) (by omega))]
        refine ⟨_, rfl, ?_⟩
        show x2 = asR (cY ω) z
        unfold asR
        by_cases h2 : z.1 < 2
        · rw [if_pos h2, e1, b4 h2]; rfl
        · rw [if_neg h2, e1, hcN]
  unfold f_X10_yarnToAsk
  rw [show nI z.1 + (1 : Int32) = nI (z.1 + 1) from nI_1 _, ka_letE, e, ka_bs, ka_letE]
theorem c_oakum (hC : CV τ G x s t l l' ω im me ta fa) (hI : IV ω im me ta) (hn : 500 < n) {u v : Int32} {j : Nat} (hj : j < 3) : gOk (f_X10_oakum τ n x u v (nI j) G) (fun q => q.1 = .inr (oaR ω u v j) ∧ QC τ x t G q.2) := by
  unfold f_X10_oakum
  rw [if_neg (nI_pos (by omega)), if_pos (show nI j ≤ (2 : Int32) from nI_le (b := 2) (by omega) (by decide)), ka_bind2]
  refine gOk.mono (c_tally hC hI hn (u := u) (v := v)) fun r hr => ?_
  obtain ⟨r1, r2, r3⟩ := hr
  have hC2 := r3.cv hC hI
  have hz := oaS_n hI.1 u v
  have hzI := oaS_I hI.1 u v
  rw [r1]
  match j, hj with
  | 0, _ =>
    rw [if_pos (show nI 0 = 0 from rfl)]
    exact ⟨_, rfl, rfl, r3⟩
  | 1, _ =>
    rw [if_neg (show ¬ nI 1 = 0 by decide), if_pos (show nI 1 = 1 from rfl), c_sure hC2 hI.1 hn hz (fun y hy => (hzI.1 y hy).2) r2, ka_bs]
    exact ⟨_, rfl, rfl, r3⟩
  | 2, _ =>
    rw [if_neg (show ¬ nI 2 = 0 by decide), if_neg (show ¬ nI 2 = 1 by decide), c_ask hC2 hI.1 hn hz hzI r2, ka_bs]
    exact ⟨_, rfl, rfl, r3⟩
end
