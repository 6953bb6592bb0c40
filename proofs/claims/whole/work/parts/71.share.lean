/-! CALLS: share, shared -/
theorem i3_s (a b c : Int32) : a - b - c = a - (b + c) := by grind
section
variable {τ : gτ} {n : Nat} {G : gG} {x m s t l l' o : Nat} {ω ω' : gW} {im : Option gW} {me : List gW} {ta : List Nat} {fa : Int32}
theorem nI_gmax0 {p q : Nat} (hp : p < 2 ^ 30) (hq : q < 2 ^ 30) : gmax 0 (nI p - nI q) = nI (p - q) := by
  refine Int32.toInt_inj.mp ?_
  rw [gmax_i, pk_sub_toInt hp hq, nI_toInt (by omega)]
  show max 0 _ = _
  omega
theorem smS_bt (hLI : LI ω) (i : Nat) (w : Int32) : bt (smS ω i w) 0 1188 := by
  unfold smS
  by_cases h1 : ω 4 = 1
  · rw [if_pos h1]
    obtain ⟨-, h12, hls⟩ := hLI h1
    have H : ∀ k, k ≤ cLn ω → bt (acc (fun ln b => if lw ω ln 0 = w ∧ ¬ cnS ω i ln = 0 then b + lw ω ln 1 else b) 0 k) 0 (99 * k) := by
      intro k
      induction k with
      | zero => intro _; exact ⟨0, by omega, by omega, rfl⟩
      | succ k ih =>
        intro hk
        obtain ⟨q, -, q2, q3⟩ := ih (by omega)
        rw [acc_s]
        by_cases hc : lw ω k 0 = w ∧ ¬ cnS ω i k = 0
        · obtain ⟨r, -, r2, r3⟩ := (hls k (by omega)).2.2.2.2.2
          rw [if_pos hc, q3, r3, nI_add]
          exact ⟨q + r, by omega, by omega, rfl⟩
        · rw [if_neg hc]
          exact ⟨q, by omega, by omega, q3⟩
    exact bt_w (H _ (Nat.le_refl _)) (Nat.le_refl _) (by omega)
  · rw [if_neg h1]
    exact ⟨0, by omega, by omega, rfl⟩
theorem soS_bt (hI : WI ω) {y : Nat} (hy : y < cY ω) : bt (soS ω y) 0 30 := by
  obtain ⟨p, -, p2, p3⟩ := (hI.y hy).1
  obtain ⟨q, -, q2, q3⟩ := (hI.y hy).2.2.1
  unfold soS
  rw [p3, q3, nI_gmax0 (by omega) (by omega)]
  exact ⟨p - q, by omega, by omega, rfl⟩
theorem beS_bt (hI : WI ω) (hLI : LI ω) {i : Nat} (hK : ROK ω i) : bt (beS ω i) 0 10224 := by
  obtain ⟨-, l0, l1, l2⟩ := hK.y
  obtain ⟨a, -, a2, a3⟩ := soS_bt hI l0
  obtain ⟨b, -, b2, b3⟩ := soS_bt hI l1
  obtain ⟨c, -, c2, c3⟩ := soS_bt hI l2
  obtain ⟨p, -, p2, p3⟩ := smS_bt hLI i 1
  obtain ⟨q, -, q2, q3⟩ := smS_bt hLI i (-1)
  obtain ⟨w, -, w2, w3⟩ := hK.2.2.1.2.2.1
  unfold beS
  by_cases h : rv ω i 8 = 0
  · rw [if_pos h, a3, b3, c3, p3, q3, w3, show (10 : Int32) = nI 10 from rfl, pk_div (by omega) (by decide) (by decide), nI_add, nI_add, nI_add]
    rw [i3_s, nI_add, nI_gmax0 (by omega) (by omega)]
    have hX : a + b + c + p - (q + w / 10) ≤ 1278 := by omega
    generalize a + b + c + p - (q + w / 10) = X at hX
    rcases hK.2.2.2.1 with h | h | h | h <;> rw [h, pk_mul]
    · exact ⟨X * 1, by omega, by omega, rfl⟩
    · exact ⟨X * 2, by omega, by omega, rfl⟩
    · exact ⟨X * 4, by omega, by omega, rfl⟩
    · exact ⟨X * 8, by omega, by omega, rfl⟩
  · rw [if_neg h]
    exact ⟨0, by omega, by omega, rfl⟩
theorem weS_bt (hLI : LI ω) (i : Nat) : bt (weS ω i) 0 1188 := by
  unfold weS
  by_cases h : ω 4 = 1
  · rw [if_pos h]; exact smS_bt hLI i 0
  · rw [if_neg h]; exact ⟨1, by omega, by omega, rfl⟩
/-- the first one's share -/
def shS (a b v : Int32) : Int32 := if a + b ≤ 0 then 0 else v * a / (a + b)
theorem c_firstShare (a b v : Int32) : f_X10_firstShare a b v = some (shS a b v) := by
  unfold f_X10_firstShare shS
  rw [ka_letE]
  by_cases h : a + b ≤ 0
  · rw [if_pos h, if_pos h]
  · have hne : ¬ a + b = 0 := fun e => h (by rw [e]; decide)
    rw [if_neg h, if_neg h, ka_chkT hne]
theorem m_long {a b v : Nat} (ha : a ≤ 10224) (hb : b ≤ 10224) (hv : v ≤ 9999) : (if lg_cmp ((nI a).toInt64 + (nI b).toInt64) 0 = 0 then some (0 : Int32) else gchk (¬ (nI a).toInt64 + (nI b).toInt64 = 0) (some (((nI v).toInt64 * (nI a).toInt64) / ((nI a).toInt64 + (nI b).toInt64)).toInt32)) = some (shS (nI a) (nI b) (nI v)) := by
  rw [nI_l (by omega), nI_l (by omega), nI_l (by omega), lN_add, lN_mul]
  unfold shS
  rw [nI_add, pk_mul]
  by_cases h : a + b = 0
  · rw [if_pos ((lg_cmp_eq _ _).mpr (by rw [h]; rfl)), if_pos (by rw [h]; decide)]
  · have hne : ¬ lN (a + b) = 0 := fun e => h ((lN_eq (b := 0) (by omega) (by decide)).mp e)
    rw [if_neg (fun e => hne ((lg_cmp_eq _ _).mp e)), ka_chkT hne, if_neg (nI_nle (by omega) (by omega))]
    have hva : v * a ≤ 9999 * 10224 := Nat.mul_le_mul hv ha
    rw [pk_lDiv (by omega) (by omega) (by omega), lN_i, pk_div (by omega) (by omega) (by omega)]
theorem ka_bindx {α β : Type} {o : Option ((String ⊕ α) × gG)} {f : α → gG → Option ((String ⊕ β) × gG)} {K : (String ⊕ β) × gG → Prop} (h : gOk o (fun q => ∃ v, q.1 = .inr v ∧ gOk (f v q.2) K)) : gOk (gBindX o f) K := by
  obtain ⟨⟨a, G1⟩, h1, v, h2, h3⟩ := h
  have h2 : a = .inr v := h2
  subst h2
  rw [ka_bxr h1]
  exact h3
theorem c_bearingOf (hC : CV τ G x s t l l' ω im me ta fa) (hI : IV ω im me ta) (hn : 500 < n) {k : Nat} (hk : k < cR ω) : gOk (f_X10_bearingOf τ n x (nI k) G) (fun q => q.1 = .inr (beS ω k) ∧ QC τ x t G q.2) := by
  have hr := hI.1.r1
  have hsl := hC.sl
  unfold f_X10_bearingOf
  rw [hC.rf.2.2.2.2.2.2.2.2.2.2.1, ka_bs, ka_bxr (c_ropeOf hC hI.1 hk), hC.fs.1.kr (by omega), hC.rf.2.2.2.2.2.2.2.2.2.2.2.2.1, ka_bs, ka_bind2]
  exact gOk.mono (s_bearing hC.fs.1 hC.vs hI.1 hC.fl.1 hC.lv hI.2.1 (hC.vs.r hk) (hI.1.r hk) (by omega) (by omega) hn) fun p hp => ⟨_, rfl, congrArg Sum.inr hp.1, QC.scr hC hp.2⟩
theorem c_needShareN (hC : CV τ G x s t l l' ω im me ta fa) (hI : WI ω) {p q v : Int32} (h : (p < 0 ∨ nI (cR ω) ≤ p) ∨ (q < 0 ∨ nI (cR ω) ≤ q)) : f_X10_needShare τ x p q v G = some (.inl x_IOE, G) := by
  have hy := hI.r1
  unfold f_X10_needShare
  rcases arg_ix p (N := cR ω) (by omega) with ⟨a, ha, rfl⟩ | ⟨hp, -⟩
  · rw [ka_bxr (c_ropeOf hC hI ha), hC.fs.1.kr (by omega)]
    exact ka_bxl (c_ropeNo hC hI (h.resolve_left (no_k ha (by omega))))
  · exact ka_bxl (c_ropeNo hC hI hp)
theorem c_needShare (hC : CV τ G x s t l l' ω im me ta fa) (hI : WI ω) {a b : Nat} (ha : a < cR ω) (hb : b < cR ω) {v : Int32} : f_X10_needShare τ x (nI a) (nI b) v G = some (if a = b ∨ (v < 0 ∨ 9999 < v) then .inl x_IAE else .inr (), G) := by
  have hy := hI.r1
  unfold f_X10_needShare
  rw [ka_bxr (c_ropeOf hC hI ha), hC.fs.1.kr (by omega), ka_bxr (c_ropeOf hC hI hb), hC.fs.1.kr (by omega)]
  by_cases h1 : a = b
  · rw [if_pos ((nI_eq (by omega) (by omega)).mpr h1), if_pos (Or.inl h1)]
  · rw [if_neg (fun e => h1 ((nI_eq (by omega) (by omega)).mp e))]
    by_cases h2 : v < 0 ∨ 9999 < v
    · rw [ka_bxl (c_withinN h2), if_pos (Or.inr h2)]
    · rw [ka_bxr (c_withinO h2), if_neg (fun e => e.elim h1 h2)]
theorem m_noShare {a b : Nat} (ha : a < 100) (hb : b < 100) {v : Int32} : f_X11_noShare m (nI a) (nI b) v = some (if a = b ∨ (v < 0 ∨ 9999 < v) then 1 else 0) := by
  unfold f_X11_noShare
  by_cases h1 : a = b
  · rw [if_pos ((nI_eq (by omega) (by omega)).mpr h1), if_pos (Or.inl h1)]
  · rw [if_neg (fun e => h1 ((nI_eq (by omega) (by omega)).mp e)), m_in0, ka_bs]
    by_cases h2 : v < 0 ∨ 9999 < v
    · rw [if_pos h2, if_pos rfl, if_pos (Or.inr h2)]
    · rw [if_neg h2, if_neg ka_n10, if_neg (fun e => e.elim h1 h2)]
theorem m_shareOf (hM : FM τ G m) (hω : ge G (m + 1) = ω) (hI : WI ω) (hLI : LI ω) (hn : 500 < n) {a b : Nat} (ha : a < cR ω) (hb : b < cR ω) {v : Int32} (hv : bt v 0 9999) : gOk (f_X11_shareOf τ n m (nI a) (nI b) v G) (fun p => p.1 = shS (beS ω a) (beS ω b) v ∧ Fr (fun b => b = m + 8) G p.2) := by
  have hr := hI.r1
  obtain ⟨p, -, p2, p3⟩ := beS_bt hI hLI (hI.r ha)
  obtain ⟨q, -, q2, q3⟩ := beS_bt hI hLI (hI.r hb)
  obtain ⟨w, -, w2, rfl⟩ := hv
  unfold f_X11_shareOf
  rw [ka_bind2]
  refine gOk.mono (m_bearsOf hM hω (by omega) hI.y1 (hI.r ha) hLI hn) fun r hr => ?_
  obtain ⟨u, G1⟩ := r
  obtain ⟨e1, f1⟩ := hr
  have e1 : u = beS ω a := e1
  subst e1
  have f1 : Fr (fun b => b = m + 8) G G1 := f1
  show gOk (gLet (beS ω a).toInt64 _) _
  rw [ka_letE, ka_bind2]
  refine gOk.mono (m_bearsOf (f1.fm hM (by omega)) ((f1 (m + 1) (by omega)).2.2.1.trans hω) (by omega) hI.y1 (hI.r hb) hLI hn) fun r hr => ?_
  obtain ⟨u, G2⟩ := r
  obtain ⟨e2, f2⟩ := hr
  have e2 : u = beS ω b := e2
  subst e2
  have f2 : Fr (fun b => b = m + 8) G1 G2 := f2
  show gOk (gLet ((beS ω a).toInt64 + (beS ω b).toInt64) _) _
  rw [ka_letE, p3, q3]
  have h := m_long p2 q2 w2
  by_cases hc : lg_cmp ((nI p).toInt64 + (nI q).toInt64) 0 = 0
  · rw [if_pos hc] at h ⊢
    exact ⟨_, rfl, Option.some.inj h, f1.tr f2⟩
  · rw [if_neg hc] at h ⊢
    have hne : ¬ (nI p).toInt64 + (nI q).toInt64 = 0 := fun e => hc ((lg_cmp_eq _ _).mpr e)
    rw [ka_chkT hne] at h ⊢
    exact ⟨_, rfl, Option.some.inj h, f1.tr f2⟩
theorem op_share (hm : m = x + 512) (ho : o = m + 11) (hτ : gn τ o = 1) (hn : 500 < n) (hC : CV τ G x s t l l' ω im me ta fa) (hM : MV τ G m ω im me ta fa) (hI : IV ω im me ta) (p q v : Int32) : gOk (f_L_share τ n x p q v o G) (fun u => gOk (f_X11_share τ n m p q v u.2) (fun p => u.1 = gi p.2 11 0 m ∧ (u.1 = 0 → gl p.2 o 0 = p.1.toInt64) ∧ ST τ x m p.2)) := by
  have hr := hI.1.r1
  unfold f_L_share
  by_cases hno : (p < 0 ∨ nI (cR ω) ≤ p) ∨ (q < 0 ∨ nI (cR ω) ≤ q)
  · refine join_q (ans := .inl x_IOE) hm ho hτ (by decide) hC hM hI ⟨_, (by unfold f_X10_share; exact ka_bxl (c_needShareN hC hI.1 hno)), rfl, QC.rf⟩ (fun G1 hM1 => ?_)
    have hM2 : FM τ (gsi G1 11 0 m 0) m := QM.th.fm hM1.1
    have hω2 : ge (gsi G1 11 0 m 0) (m + 1) = ω := hM1.2.1
    have k27 : gOk (k_X11_share_27 τ n m p q v m 1 (gsi G1 11 0 m 0)) (fun p => Th [x_IOE, x_IAE] (.inl x_IOE) p.1 (gi p.2 11 0 m) ∧ QM m G1 p.2) := by
      unfold k_X11_share_27
      rw [ka_b2 m_thIf1, if_neg ka_n10]
      refine ⟨_, rfl, ?_, QM.th.tr QM.th⟩
      show gCode [x_IOE, x_IAE] x_IOE 1 = some _
      rw [th_set]
      rfl
    unfold f_X11_share k_X11_share_22
    rw [ka_letE, (m_no hM2 hω2 hI.1 _).2.1, ka_bs]
    by_cases h1 : p < 0 ∨ nI (cR ω) ≤ p
    · rw [if_pos h1, if_neg ka_n10]; exact k27
    · rw [if_neg h1, if_pos rfl, (m_no hM2 hω2 hI.1 _).2.1, ka_bs, if_pos (hno.resolve_left h1), if_neg ka_n10]; exact k27
  · obtain ⟨a, ha, rfl⟩ := (arg_ix p (N := cR ω) (by omega)).resolve_right (fun h => hno (Or.inl h.1))
    obtain ⟨b, hb, rfl⟩ := (arg_ix q (N := cR ω) (by omega)).resolve_right (fun h => hno (Or.inr h.1))
    have pre : ∀ {G1 : gG}, MV τ G1 m ω im me ta fa → f_X11_share τ n m (nI a) (nI b) v G1 = k_X11_share_27 τ n m (nI a) (nI b) v m 0 (gsi G1 11 0 m 0) := fun {G1} hM1 => by
      have hM2 : FM τ (gsi G1 11 0 m 0) m := QM.th.fm hM1.1
      have hω2 : ge (gsi G1 11 0 m 0) (m + 1) = ω := hM1.2.1
      unfold f_X11_share
      rw [ka_letE, (m_no hM2 hω2 hI.1 _).2.1, ka_bs, if_neg (no_k ha (by omega)), if_pos rfl, (m_no hM2 hω2 hI.1 _).2.1, ka_bs, if_neg (no_k hb (by omega)), if_pos rfl]
    by_cases hbad : a = b ∨ (v < 0 ∨ 9999 < v)
    · refine join_q (ans := .inl x_IAE) hm ho hτ (by decide) hC hM hI ⟨_, (by unfold f_X10_share; exact ka_bxl (by rw [c_needShare hC hI.1 ha hb, if_pos hbad])), rfl, QC.rf⟩ (fun G1 hM1 => ?_)
      rw [pre hM1]
      unfold k_X11_share_27
      rw [ka_b2 m_thIf0, if_pos rfl, m_noShare (by omega) (by omega), ka_bs, if_pos hbad, ka_b2 m_thIf1, if_neg ka_n10]
      refine ⟨_, rfl, ?_, QM.th.tr QM.th⟩
      show gCode [x_IOE, x_IAE] x_IAE 1 = some _
      rw [th_set]
      rfl
    · have hbt : bt v 0 9999 := bt_of (lo := 0) (hi := 9999) (by decide) (by decide) (fun h => hbad (Or.inr h))
      refine join_q (ans := .inr (shS (beS ω a) (beS ω b) v)) hm ho hτ (by decide) hC hM hI ?_ (fun G1 hM1 => ?_)
      · unfold f_X10_share
        rw [ka_bxr (by rw [c_needShare hC hI.1 ha hb, if_neg hbad])]
        refine ka_bindx (gOk.mono (c_bearingOf hC hI hn ha) fun u hu => ⟨_, hu.1, ?_⟩)
        have hC1 := hu.2.cv hC hI
        refine ka_bindx (gOk.mono (c_bearingOf hC1 hI hn hb) fun w hw => ⟨_, hw.1, ?_⟩)
        rw [c_firstShare, ka_bs]
        exact ⟨_, rfl, rfl, hu.2.tr hw.2⟩
      · rw [pre hM1]
        have hM2 : FM τ (gsi G1 11 0 m 0) m := QM.th.fm hM1.1
        have hω2 : ge (gsi G1 11 0 m 0) (m + 1) = ω := hM1.2.1
        unfold k_X11_share_27
        rw [ka_b2 m_thIf0, if_pos rfl, m_noShare (by omega) (by omega), ka_bs, if_neg hbad, ka_b2 m_thIf0, if_pos rfl, ka_bind2]
        exact gOk.mono (m_shareOf hM2 hω2 hI.1 hI.2.1 hn ha hb hbt) fun r hr => ⟨_, rfl, ⟨((hr.2 m (by omega)).1 11 0).trans th_set, hr.1⟩, QM.th.tr (QM.v hr.2)⟩
theorem op_shared (hm : m = x + 512) (ho : o = m + 11) (hτ : gn τ o = 1) (hn : 500 < n) (hC : CV τ G x s t l l' ω im me ta fa) (hM : MV τ G m ω im me ta fa) (hI : IV ω im me ta) (p q v : Int32) : gOk (f_L_shared τ n x p q v o G) (fun u => gOk (f_X11_shared τ n m p q v u.2) (fun p => u.1 = gi p.2 11 0 m ∧ (u.1 = 0 → gl p.2 o 0 = if p.1 = 0 then (0 : Int64) else 1) ∧ ST τ x m p.2)) := by
  have hr := hI.1.r1
  unfold f_L_shared
  by_cases hno : (p < 0 ∨ nI (cR ω) ≤ p) ∨ (q < 0 ∨ nI (cR ω) ≤ q)
  · refine join_q (Kx := fun v => if v = 0 then (0 : Int64) else 1) (ans := .inl x_IOE) hm ho hτ (by decide) hC hM hI ⟨_, (by unfold f_X10_shared; exact ka_bxl (c_needShareN hC hI.1 hno)), rfl, QC.rf⟩ (fun G1 hM1 => ?_)
    have hM2 : FM τ (gsi G1 11 0 m 0) m := QM.th.fm hM1.1
    have hω2 : ge (gsi G1 11 0 m 0) (m + 1) = ω := hM1.2.1
    have k27 : gOk (k_X11_shared_27 τ n m p q v m 1 (gsi G1 11 0 m 0)) (fun p => Th [x_IOE, x_IAE] (.inl x_IOE) p.1 (gi p.2 11 0 m) ∧ QM m G1 p.2) := by
      unfold k_X11_shared_27
      rw [ka_b2 m_thIf1, if_neg ka_n10]
      refine ⟨_, rfl, ?_, QM.th.tr QM.th⟩
      show gCode [x_IOE, x_IAE] x_IOE 1 = some _
      rw [th_set]
      rfl
    unfold f_X11_shared k_X11_shared_22
    rw [ka_letE, (m_no hM2 hω2 hI.1 _).2.1, ka_bs]
    by_cases h1 : p < 0 ∨ nI (cR ω) ≤ p
    · rw [if_pos h1, if_neg ka_n10]; exact k27
    · rw [if_neg h1, if_pos rfl, (m_no hM2 hω2 hI.1 _).2.1, ka_bs, if_pos (hno.resolve_left h1), if_neg ka_n10]; exact k27
  · obtain ⟨a, ha, rfl⟩ := (arg_ix p (N := cR ω) (by omega)).resolve_right (fun h => hno (Or.inl h.1))
    obtain ⟨b, hb, rfl⟩ := (arg_ix q (N := cR ω) (by omega)).resolve_right (fun h => hno (Or.inr h.1))
    have pre : ∀ {G1 : gG}, MV τ G1 m ω im me ta fa → f_X11_shared τ n m (nI a) (nI b) v G1 = k_X11_shared_27 τ n m (nI a) (nI b) v m 0 (gsi G1 11 0 m 0) := fun {G1} hM1 => by
      have hM2 : FM τ (gsi G1 11 0 m 0) m := QM.th.fm hM1.1
      have hω2 : ge (gsi G1 11 0 m 0) (m + 1) = ω := hM1.2.1
      unfold f_X11_shared
      rw [ka_letE, (m_no hM2 hω2 hI.1 _).2.1, ka_bs, if_neg (no_k ha (by omega)), if_pos rfl, (m_no hM2 hω2 hI.1 _).2.1, ka_bs, if_neg (no_k hb (by omega)), if_pos rfl]
    by_cases hbad : a = b ∨ (v < 0 ∨ 9999 < v)
    · refine join_q (Kx := fun v => if v = 0 then (0 : Int64) else 1) (ans := .inl x_IAE) hm ho hτ (by decide) hC hM hI ⟨_, (by unfold f_X10_shared; exact ka_bxl (by rw [c_needShare hC hI.1 ha hb, if_pos hbad])), rfl, QC.rf⟩ (fun G1 hM1 => ?_)
      rw [pre hM1]
      unfold k_X11_shared_27
      rw [ka_b2 m_thIf0, if_pos rfl, m_noShare (by omega) (by omega), ka_bs, if_pos hbad, ka_b2 m_thIf1, if_neg ka_n10]
      refine ⟨_, rfl, ?_, QM.th.tr QM.th⟩
      show gCode [x_IOE, x_IAE] x_IAE 1 = some _
      rw [th_set]
      rfl
    · have hbt : bt v 0 9999 := bt_of (lo := 0) (hi := 9999) (by decide) (by decide) (fun h => hbad (Or.inr h))
      refine join_q (Kx := fun v => if v = 0 then (0 : Int64) else 1) (ans := .inr (if beS ω a < shS (beS ω a) (beS ω b) v then 0 else if beS ω b < v - shS (beS ω a) (beS ω b) v then 0 else 1)) hm ho hτ (by decide) hC hM hI ?_ (fun G1 hM1 => ?_)
      · unfold f_X10_shared
        rw [ka_bxr (by rw [c_needShare hC hI.1 ha hb, if_neg hbad])]
        refine ka_bindx (gOk.mono (c_bearingOf hC hI hn ha) fun u hu => ⟨_, hu.1, ?_⟩)
        have hC1 := hu.2.cv hC hI
        refine ka_bindx (gOk.mono (c_bearingOf hC1 hI hn hb) fun w hw => ⟨_, hw.1, ?_⟩)
        rw [c_firstShare, ka_bs]
        by_cases h1 : beS ω a < shS (beS ω a) (beS ω b) v
        · rw [if_pos h1, if_pos h1]; exact ⟨_, rfl, rfl, hu.2.tr hw.2⟩
        · rw [if_neg h1, if_neg h1]
          by_cases h2 : beS ω b < v - shS (beS ω a) (beS ω b) v
          · rw [if_pos h2, if_pos h2]; exact ⟨_, rfl, rfl, hu.2.tr hw.2⟩
          · rw [if_neg h2, if_neg h2]; exact ⟨_, rfl, rfl, hu.2.tr hw.2⟩
      · rw [pre hM1]
        have hM2 : FM τ (gsi G1 11 0 m 0) m := QM.th.fm hM1.1
        have hω2 : ge (gsi G1 11 0 m 0) (m + 1) = ω := hM1.2.1
        unfold k_X11_shared_27
        rw [ka_b2 m_thIf0, if_pos rfl, m_noShare (by omega) (by omega), ka_bs, if_neg hbad, ka_b2 m_thIf0, if_pos rfl, ka_bind2]
        refine gOk.mono (m_shareOf hM2 hω2 hI.1 hI.2.1 hn ha hb hbt) fun r hr => ?_
        obtain ⟨u, G3⟩ := r
        obtain ⟨e1, f1⟩ := hr
        have e1 : u = _ := e1
        subst e1
        have f1 : Fr (fun b => b = m + 8) (gsi G1 11 0 m 0) G3 := f1
        rw [ka_bind2]
        refine gOk.mono (m_bearsOf (f1.fm hM2 (by omega)) ((f1 (m + 1) (by omega)).2.2.1.trans hω2) (by omega) hI.1.y1 (hI.1.r ha) hI.2.1 hn) fun r hr => ?_
        obtain ⟨u, G4⟩ := r
        obtain ⟨e2, f2⟩ := hr
        have e2 : u = beS ω a := e2
        subst e2
        have f2 : Fr (fun b => b = m + 8) (gsi G1 11 0 m 0) G4 := f1.tr f2
        show gOk (if beS ω a < shS (beS ω a) (beS ω b) v then some ((0 : Int32), G4) else _) _
        by_cases h1 : beS ω a < shS (beS ω a) (beS ω b) v
        · rw [if_pos h1, if_pos h1]
          exact ⟨_, rfl, ⟨((f2 m (by omega)).1 11 0).trans th_set, rfl⟩, QM.th.tr (QM.v f2)⟩
        · rw [if_neg h1, if_neg h1, ka_bind2]
          refine gOk.mono (m_bearsOf (f2.fm hM2 (by omega)) ((f2 (m + 1) (by omega)).2.2.1.trans hω2) (by omega) hI.1.y1 (hI.1.r hb) hI.2.1 hn) fun r hr => ?_
          obtain ⟨u, G5⟩ := r
          obtain ⟨e3, f3⟩ := hr
          have e3 : u = beS ω b := e3
          subst e3
          have f3 : Fr (fun b => b = m + 8) (gsi G1 11 0 m 0) G5 := f2.tr f3
          show gOk (if beS ω b < v - shS (beS ω a) (beS ω b) v then some ((0 : Int32), G5) else some (1, G5)) _
          by_cases h2 : beS ω b < v - shS (beS ω a) (beS ω b) v
          · rw [if_pos h2, if_pos h2]
            exact ⟨_, rfl, ⟨((f3 m (by omega)).1 11 0).trans th_set, rfl⟩, QM.th.tr (QM.v f3)⟩
          · rw [if_neg h2, if_neg h2]
            exact ⟨_, rfl, ⟨((f3 m (by omega)).1 11 0).trans th_set, rfl⟩, QM.th.tr (QM.v f3)⟩
end
