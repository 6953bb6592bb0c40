/-! A TRIAL ROPE -/
/-- the world with a rope laid at r -/
def tr (ω : gW) (r : Nat) (a b c len : Int32) : gW := fun j => if 53 + 10 * r ≤ j ∧ j < 63 + 10 * r then (if j = 53 + 10 * r then a else if j = 54 + 10 * r then b else if j = 55 + 10 * r then c else if j = 56 + 10 * r then len else if j = 60 + 10 * r then 1 else 0) else ω j
section
variable {τ : gτ} {n : Nat} {G : gG} {x m s t l l' o : Nat} {ω : gW} {im : Option gW} {me : List gW} {ta : List Nat} {fa : Int32}
theorem at_e (r k : Nat) : f_X11_at (nI r) (nI k) = some (nI (53 + 10 * r + k)) := by
  unfold f_X11_at
  rw [show (53 : Int32) = nI 53 from rfl, show (10 : Int32) = nI 10 from rfl, pk_mul, nI_add, nI_add]
theorem m_lays (hM : FM τ G m) (hω : ge G (m + 1) = ω) (hn : 20 < n) {r : Nat} (hr : r ≤ 8) {a b c len : Int32} : gOk (f_X11_lays τ n m (nI r) a b c len G) (fun G' => ge G' (m + 1) = tr ω r a b c len ∧ Fr (fun b => b = m + 1) G G') := by
  unfold f_X11_lays
  rw [ka_bind]
  unfold l_X11_lays_3
  refine gOk.mono (ka_loop 10 (fun k q => q.1 = nI k ∧ (∀ j, ge q.2 (m + 1) j = if 53 + 10 * r ≤ j ∧ j < 53 + 10 * r + k then 0 else ω j) ∧ Fr (fun b => b = m + 1) G q.2) (K := fun G' => (∀ j, ge G' (m + 1) j = if 53 + 10 * r ≤ j ∧ j < 53 + 10 * r + 10 then 0 else ω j) ∧ Fr (fun b => b = m + 1) G G') (by omega) ⟨rfl, fun j => by rw [if_neg (by omega)]; exact congrFun hω j, Fr.rf⟩ (fun k q hk hI => ?_)) (fun G1 hG => ?_)
  · obtain ⟨x6, G1⟩ := q
    obtain ⟨e1, e2, e3⟩ := hI
    have e1 : x6 = nI k := e1
    have e3 : Fr (fun b => b = m + 1) G G1 := e3
    subst e1
    have hM1 : FM τ G1 m := e3.fm hM (by omega)
    show gOk (b_X11_lays_3 τ n m (nI r) a b c len (nI k) G1) _
    unfold b_X11_lays_3
    by_cases hlt : k < 10
    · rw [if_neg (show ¬ (10 : Int32) ≤ nI k from nI_ge (b := 10) hlt (by decide)), hM1.rf.1, ka_bs, at_e, ka_bs, hM1.w (53 + 10 * r + k) rfl (by omega), nI_clamp (by omega), ka_letE, ka_letE, nI_1]
      refine ⟨_, rfl, hlt, rfl, fun j => ?_, e3.tr (Fr.e rfl)⟩
      show ge (gse G1 (m + 1) _ 0) (m + 1) j = _
      rw [ka_ee, e2 j]
      by_cases hj : j = 53 + 10 * r + k
      · rw [if_pos ⟨rfl, hj⟩, if_pos (by omega)]
      · rw [if_neg (fun e => hj e.2)]
        by_cases h2 : 53 + 10 * r ≤ j ∧ j < 53 + 10 * r + k
        · rw [if_pos h2, if_pos (by omega)]
        · rw [if_neg h2, if_neg (by omega)]
    · have hkN : k = 10 := by omega
      subst hkN
      rw [if_pos (show (10 : Int32) ≤ nI 10 from nI_le (Nat.le_refl 10) (by decide))]
      exact ⟨_, rfl, e2, e3⟩
  · obtain ⟨e2, e3⟩ := hG
    have hM1 : FM τ G1 m := e3.fm hM (by omega)
    rw [ka_letE]
    unfold k_X11_lays_28
    simp only [ka_re, hM1.rf, ka_bs, show f_X11_at (nI r) 0 = some (nI (53 + 10 * r)) from at_e r 0, show f_X11_at (nI r) 1 = some (nI (53 + 10 * r + 1)) from at_e r 1, show f_X11_at (nI r) 2 = some (nI (53 + 10 * r + 2)) from at_e r 2, show f_X11_at (nI r) 3 = some (nI (53 + 10 * r + 3)) from at_e r 3, show f_X11_at (nI r) 7 = some (nI (53 + 10 * r + 7)) from at_e r 7, hM1.w (53 + 10 * r) rfl (by omega), hM1.w (53 + 10 * r + 1) rfl (by omega), hM1.w (53 + 10 * r + 2) rfl (by omega), hM1.w (53 + 10 * r + 3) rfl (by omega), hM1.w (53 + 10 * r + 7) rfl (by omega), ka_letE]
    refine ⟨_, rfl, ?_, (((((e3.tr (Fr.e rfl)).tr (Fr.e rfl)).tr (Fr.e rfl)).tr (Fr.e rfl)).tr (Fr.e rfl))⟩
    funext j
    rw [nI_clamp (show 53 + 10 * r < 2 ^ 31 by omega), nI_clamp (show 53 + 10 * r + 1 < 2 ^ 31 by omega), nI_clamp (show 53 + 10 * r + 2 < 2 ^ 31 by omega), nI_clamp (show 53 + 10 * r + 3 < 2 ^ 31 by omega), nI_clamp (show 53 + 10 * r + 7 < 2 ^ 31 by omega)]
    simp only [ka_ee, e2 j, true_and]
    unfold tr
    by_cases hj : 53 + 10 * r ≤ j ∧ j < 63 + 10 * r
    · rw [if_pos hj, if_pos (show 53 + 10 * r ≤ j ∧ j < 53 + 10 * r + 10 by omega)]
      obtain ⟨d, rfl⟩ : ∃ d, j = 53 + 10 * r + d := ⟨j - (53 + 10 * r), by omega⟩
      have hd : d < 10 := by omega
      match d, hd with
      | 0, _ => rw [if_neg (by omega), if_neg (by omega), if_neg (by omega), if_neg (by omega), if_pos (by omega), if_pos (by omega)]
      | 1, _ => rw [if_neg (by omega), if_neg (by omega), if_neg (by omega), if_pos (by omega), if_neg (by omega), if_pos (by omega)]
      | 2, _ => rw [if_neg (by omega), if_neg (by omega), if_pos (by omega), if_neg (by omega), if_neg (by omega), if_pos (by omega)]
      | 3, _ => rw [if_neg (by omega), if_pos (by omega), if_neg (by omega), if_neg (by omega), if_neg (by omega), if_pos (by omega)]
      | 4, _ => rw [if_neg (by omega), if_neg (by omega), if_neg (by omega), if_neg (by omega), if_neg (by omega), if_neg (by omega), if_neg (by omega), if_neg (by omega), if_neg (by omega), if_neg (by omega)]
      | 5, _ => rw [if_neg (by omega), if_neg (by omega), if_neg (by omega), if_neg (by omega), if_neg (by omega), if_neg (by omega), if_neg (by omega), if_neg (by omega), if_neg (by omega), if_neg (by omega)]
      | 6, _ => rw [if_neg (by omega), if_neg (by omega), if_neg (by omega), if_neg (by omega), if_neg (by omega), if_neg (by omega), if_neg (by omega), if_neg (by omega), if_neg (by omega), if_neg (by omega)]
      | 7, _ => rw [if_pos (by omega), if_neg (by omega), if_neg (by omega), if_neg (by omega), if_neg (by omega), if_pos (by omega)]
      | 8, _ => rw [if_neg (by omega), if_neg (by omega), if_neg (by omega), if_neg (by omega), if_neg (by omega), if_neg (by omega), if_neg (by omega), if_neg (by omega), if_neg (by omega), if_neg (by omega)]
      | 9, _ => rw [if_neg (by omega), if_neg (by omega), if_neg (by omega), if_neg (by omega), if_neg (by omega), if_neg (by omega), if_neg (by omega), if_neg (by omega), if_neg (by omega), if_neg (by omega)]
    · rw [if_neg hj, if_neg (by omega), if_neg (by omega), if_neg (by omega), if_neg (by omega), if_neg (by omega), if_neg (by omega)]
theorem tr_we {a b c len : Int32} : WE ω (tr ω 8 a b c len) := fun j hj => by
  unfold tr
  rw [if_neg (by omega)]
theorem tr_rv {r : Nat} {a b c len : Int32} : rv (tr ω r a b c len) r 0 = a ∧ rv (tr ω r a b c len) r 1 = b ∧ rv (tr ω r a b c len) r 2 = c ∧ rv (tr ω r a b c len) r 3 = len ∧ rv (tr ω r a b c len) r 4 = 0 ∧ rv (tr ω r a b c len) r 5 = 0 ∧ rv (tr ω r a b c len) r 6 = 0 ∧ rv (tr ω r a b c len) r 7 = 1 ∧ rv (tr ω r a b c len) r 8 = 0 ∧ rv (tr ω r a b c len) r 9 = 0 := by
  unfold rv tr
  refine ⟨?_, ?_, ?_, ?_, ?_, ?_, ?_, ?_, ?_, ?_⟩
  · rw [if_pos (by omega), if_pos (by omega)]
  · rw [if_pos (by omega), if_neg (by omega), if_pos (by omega)]
  · rw [if_pos (by omega), if_neg (by omega), if_neg (by omega), if_pos (by omega)]
  · rw [if_pos (by omega), if_neg (by omega), if_neg (by omega), if_neg (by omega), if_pos (by omega)]
  · rw [if_pos (by omega), if_neg (by omega), if_neg (by omega), if_neg (by omega), if_neg (by omega), if_neg (by omega)]
  · rw [if_pos (by omega), if_neg (by omega), if_neg (by omega), if_neg (by omega), if_neg (by omega), if_neg (by omega)]
  · rw [if_pos (by omega), if_neg (by omega), if_neg (by omega), if_neg (by omega), if_neg (by omega), if_neg (by omega)]
  · rw [if_pos (by omega), if_neg (by omega), if_neg (by omega), if_neg (by omega), if_neg (by omega), if_pos (by omega)]
  · rw [if_pos (by omega), if_neg (by omega), if_neg (by omega), if_neg (by omega), if_neg (by omega), if_neg (by omega)]
  · rw [if_pos (by omega), if_neg (by omega), if_neg (by omega), if_neg (by omega), if_neg (by omega), if_neg (by omega)]
theorem bt_k {k lo hi : Nat} (h1 : lo ≤ k) (h2 : k ≤ hi) {x : Int32} (hx : x = nI k) : bt x lo hi := ⟨k, h1, h2, hx⟩
theorem tr_ok (hI : WI ω) {a b c : Nat} (ha : a < cY ω) (hb : b < cY ω) (hc : c < cY ω) (hab : a ≠ b) (hac : a ≠ c) (hbc : b ≠ c) {len : Int32} (hl : bt len 1 400) {r : Nat} (hr : 53 + 10 * r ≠ 0) (ω' : gW) (hw : ω' = tr ω r (nI a) (nI b) (nI c) len) (hcy : cY ω' = cY ω) : ROK ω' r := by
  have hy := hI.y1
  obtain ⟨t0, t1, t2, t3, t4, t5, t6, t7, t8, t9⟩ := tr_rv (ω := ω) (r := r) (a := nI a) (b := nI b) (c := nI c) (len := len)
  rw [← hw] at t0 t1 t2 t3 t4 t5 t6 t7 t8 t9
  have r0 : ry ω' r 0 = a := by unfold ry; rw [t0, nI_clamp (by omega)]
  have r1 : ry ω' r 1 = b := by unfold ry; rw [t1, nI_clamp (by omega)]
  have r2 : ry ω' r 2 = c := by unfold ry; rw [t2, nI_clamp (by omega)]
  unfold ROK
  rw [r0, r1, r2, t0, t1, t2, t3, t4, t5, t6, t7, t8, t9, hcy]
  obtain ⟨k, k1, k2, k3⟩ := hl
  exact ⟨⟨⟨rfl, ha⟩, ⟨rfl, hb⟩, rfl, hc⟩, ⟨hab, hac, hbc⟩, ⟨bt_k (Nat.zero_le _) k2 k3, bt_k (Nat.le_refl 0) (by decide) rfl, bt_k (Nat.le_refl 0) (by decide) rfl, bt_k (Nat.le_refl 0) (by decide) rfl, bt_k (Nat.le_refl 0) (by decide) rfl, bt_k (Nat.le_refl 0) (by decide) rfl⟩, Or.inl rfl, fun _ => ⟨k, k1, k2, k3⟩⟩
theorem m_bearsBy (hM : FM τ G m) (hω : ge G (m + 1) = ω) (hI : WI ω) (hLI : LI ω) (hn : 500 < n) {a b c : Nat} (ha : a < cY ω) (hb : b < cY ω) (hc : c < cY ω) (hab : a ≠ b) (hac : a ≠ c) (hbc : b ≠ c) {len : Int32} (hl : bt len 1 400) : gOk (f_X11_bearsBy τ n m (nI a) (nI b) (nI c) len G) (fun p => p.1 = beS (tr ω 8 (nI a) (nI b) (nI c) len) 8 ∧ QM m G p.2 ∧ gi p.2 11 0 m = gi G 11 0 m) := by
  unfold f_X11_bearsBy
  rw [ka_bind]
  refine gOk.mono (m_lays hM hω (by omega) (r := 8) (by decide)) fun G1 h1 => ?_
  obtain ⟨h1, h2⟩ := h1
  have hM1 : FM τ G1 m := h2.fm hM (by omega)
  have hwe : WE ω (tr ω 8 (nI a) (nI b) (nI c) len) := tr_we
  have hcy := hwe.cs.1
  have hK := tr_ok hI ha hb hc hab hac hbc hl (r := 8) (by decide) _ rfl hcy
  rw [ka_bind2]
  refine gOk.mono (m_bearsOf hM1 h1 (i := 8) (by decide) (by rw [hcy]; exact hI.y1) hK (hwe.li hLI) hn) fun p hp => ?_
  refine ⟨_, rfl, hp.1, QM.tr (G' := G1) ⟨h2.mono fun b hb => by omega, fun c k _ => (h2 m (by omega)).1 c k, (h2 m (by omega)).2.1, by rw [h1, hω]; exact hwe⟩ (QM.v hp.2), by rw [(hp.2 m (by omega)).1, (h2 m (by omega)).1]⟩
theorem s_beLaid {a : Nat} {p q r : Int32} {len : Int32} {G : gG} : ∃ G', f_X5_beLaid a p q r len G = some G' ∧ RV G' a (tr ω 8 p q r len) 8 ∧ Fr (fun b => b = a) G G' := by
  obtain ⟨t0, t1, t2, t3, t4, t5, t6, t7, t8, t9⟩ := tr_rv (ω := ω) (r := 8) (a := p) (b := q) (c := r) (len := len)
  have fi : ∀ {G : gG} {c k : Nat} {v : Int32}, Fr (fun b => b = a) G (gsi G c k a v) := fun {G c k v} => Fr.i (A := fun b => b = a) rfl
  refine ⟨_, rfl, ?_, ((((((((fi.tr fi).tr fi).tr fi).tr fi).tr fi).tr fi).tr fi).tr fi).tr fi⟩
  unfold RV
  rw [t0, t1, t2, t3, t4, t5, t6, t7, t8, t9]
  refine ⟨?_, ?_, ?_, ?_, ?_, ?_, ?_, ?_, ?_, ?_⟩ <;> simp [ka_ii]
theorem c_trialBearing (hC : CV τ G x s t l l' ω im me ta fa) (hI : IV ω im me ta) (hn : 500 < n) {a b c : Nat} (ha : a < cY ω) (hb : b < cY ω) (hc : c < cY ω) (hab : a ≠ b) (hac : a ≠ c) (hbc : b ≠ c) {len : Int32} (hl : bt len 1 400) : gOk (f_X10_trialBearing τ n x (nI a) (nI b) (nI c) len G) (fun p => p.1 = beS (tr ω 8 (nI a) (nI b) (nI c) len) 8 ∧ QC τ x t G p.2) := by
  have hsl := hC.sl
  unfold f_X10_trialBearing
  rw [hC.rf.2.2.2.2.2.2.1, ka_bs]
  obtain ⟨G1, h1, hR, h2⟩ := s_beLaid (ω := ω) (a := x + 430) (p := nI a) (q := nI b) (r := nI c) (len := len) (G := G)
  have q1 : QC τ x t G G1 := ⟨h2.mono fun b hb => by unfold scC; omega, fun f => h2.fs f fun b h1 h2 => by omega⟩
  have hC1 := q1.cv hC hI
  have hwe : WE ω (tr ω 8 (nI a) (nI b) (nI c) len) := tr_we
  have hcy := hwe.cs.1
  have hK := tr_ok hI.1 ha hb hc hab hac hbc hl (r := 8) (by decide) _ rfl hcy
  rw [h1, ka_bs, hC1.rf.2.2.2.2.2.2.2.2.2.2.1, ka_bs, hC1.rf.2.2.2.2.2.2.1, ka_bs, hC1.rf.2.2.2.2.2.2.2.2.2.2.2.2.1, ka_bs, ka_bind2]
  refine gOk.mono (s_bearing hC1.fs.1 (hwe.vs hI.1 hC1.vs) (hwe.wi hI.1) hC1.fl.1 (hwe.lv hC1.lv) (hwe.li hI.2.1) hR hK (by omega) (by omega) hn) fun p hp => ?_
  exact ⟨_, rfl, hp.1, q1.tr (QC.scr hC1 hp.2)⟩
end
