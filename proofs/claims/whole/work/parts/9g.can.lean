/-! CALLS: can -/
section
variable {ω : gW}
theorem acc_id {α : Type} {f : Nat → α → α} {a : α} : ∀ {N : Nat}, (∀ i x, i < N → f i x = x) → acc f a N = a
  | 0, _ => rfl
  | N + 1, h => by rw [acc_s, acc_id (N := N) (fun i x hi => h i x (by omega)), h N _ (by omega)]
def mtS (ω : gW) (k : Nat) : Int32 := acc (fun q b => if cmS ω q k then b ||| b1 q else b) 0 (cO ω)
theorem T3_inv {σ : Type} {f : Nat → Nat → Nat → σ → σ} {N : Nat} {s : σ} (P : σ → Prop) (h0 : P s) (hs : ∀ a b c s, a < N → b < N → c < N → a < b → b < c → P s → P (f a b c s)) : P (T3 f N s) := by
  unfold T3
  refine acc_inv (fun _ s => P s) h0 fun a s ha hp => ?_
  refine acc_inv (fun _ s => P s) hp fun d s hd hp => ?_
  exact acc_inv (fun _ s => P s) hp fun e s he hp => hs a (a + 1 + d) (a + 1 + d + 1 + e) s ha (by omega) (by omega) (by omega) (by omega) hp
theorem T3_congr {σ : Type} {f g : Nat → Nat → Nat → σ → σ} {N : Nat} {s : σ} (h : ∀ a b c s, a < N → b < N → c < N → f a b c s = g a b c s) : T3 f N s = T3 g N s := by
  unfold T3
  refine acc_congr fun a s ha => ?_
  refine acc_congr fun d s hd => ?_
  exact acc_congr fun e s he => h _ _ _ _ ha (by omega) (by omega)
theorem nmS_nI {a b c : Nat} : nmS a b c = nI (100 * a + 10 * b + c) := by
  unfold nmS
  rw [show (100 : Int32) = nI 100 from rfl, show (10 : Int32) = nI 10 from rfl, pk_mul, pk_mul, nI_add, nI_add]
theorem ch_neg (hI : WI ω) {k : Nat} : (T3 (chF ω k) (cY ω) (-1, none)).1 = -1 ∨ ∃ j, j < 2000 ∧ (T3 (chF ω k) (cY ω) (-1, none)).1 = nI j := by
  have hy := hI.y1
  refine T3_inv (fun (s : Int32 × Option Int32) => s.1 = -1 ∨ ∃ j, j < 2000 ∧ s.1 = nI j) (Or.inl rfl) fun a b c s ha hb hc _ _ hp => ?_
  unfold chF
  split
  · exact hp
  · exact Or.inr ⟨_, by omega, nmS_nI⟩
def caS (ω : gW) (b : Int32) : Int32 := if b = 0 then acc (fun k b => b ||| mtS ω k) 0 (cR ω) else acc (fun q b => if (T3 (chF ω q) (cY ω) (-1, none)).1 = -1 then b else b ||| b1 q) 0 (cO ω)
end
section
variable {τ : gτ} {n : Nat} {G G' : gG} {x m s t l l' o : Nat} {ω : gW} {im : Option gW} {me : List gW} {ta : List Nat} {fa : Int32}
theorem m_metBy (hM : FM τ G m) (hω : ge G (m + 1) = ω) (hI : WI ω) (hLI : LI ω) (hn : 500 < n) {k : Nat} (hk : k < cR ω) : gOk (f_X11_metBy τ n m (nI k) G) (fun p => p.1 = mtS ω k ∧ Fr (fun b => b = m + 8) G p.2) := by
  have ho := hI.o1
  unfold f_X11_metBy
  rw [ka_bind]
  unfold l_X11_metBy_4
  refine gOk.mono (ka_loop (cO ω) (fun c q => q.1 = acc (fun q b => if cmS ω q k then b ||| b1 q else b) 0 c ∧ q.2.1 = nI c ∧ Fr (fun b => b = m + 8) G q.2.2) (K := fun r => r.1 = mtS ω k ∧ Fr (fun b => b = m + 8) G r.2) (by omega) ⟨rfl, rfl, Fr.rf⟩ (fun c q hc hq => ?_)) (fun r hr => by rw [ka_letE, ka_letE]; exact ⟨_, rfl, hr⟩)
  obtain ⟨x2, x3, G1⟩ := q
  obtain ⟨b1', b2, b3⟩ := hq
  have e1 : x2 = acc (fun q b => if cmS ω q k then b ||| b1 q else b) 0 c := b1'
  have e2 : x3 = nI c := b2
  have f1 : Fr (fun b => b = m + 8) G G1 := b3
  clear b1' b2 b3
  subst e2
  have hM1 : FM τ G1 m := f1.fm hM (by omega)
  have w1 : ge G1 (m + 1) = ω := (f1 (m + 1) (by omega)).2.2.1.trans hω
  show gOk (b_X11_metBy_4 τ n m (nI k) x2 (nI c) G1) _
  unfold b_X11_metBy_4
  rw [hM1.cn.2.2, ka_bs, w1, hI.o0]
  by_cases hlt : c < cO ω
  · rw [if_neg (nI_ge hlt (by omega)), ka_bind2]
    refine gOk.mono (m_canMeet hM1 w1 hI hLI hn hlt hk) fun p hp => ?_
    obtain ⟨p1, p2⟩ := hp
    rw [p1]
    unfold k_X11_metBy_29
    by_cases h : cmS ω c k
    · rw [if_pos h, if_neg ka_n10, ka_letE, ka_letE, nI_1]
      refine ⟨_, rfl, hlt, ?_, rfl, f1.tr p2⟩
      show x2 ||| b1 c = _
      rw [acc_s, if_pos h, e1]
    · rw [if_neg h, if_pos rfl, ka_letE, ka_letE, nI_1, i3_o0]
      refine ⟨_, rfl, hlt, ?_, rfl, f1.tr p2⟩
      show x2 = _
      rw [acc_s, if_neg h, e1]
  · have hcN : c = cO ω := by omega
    rw [if_pos (nI_le (by omega) (by omega))]
    refine ⟨_, rfl, ?_, f1⟩
    show x2 = _
    rw [e1, hcN]
    rfl
theorem c_metBy (hC : CV τ G x s t l l' ω im me ta fa) (hI : IV ω im me ta) (hn : 500 < n) {k : Nat} (hk : k < cR ω) : gOk (f_X10_ordersMetBy τ n x (s + 16 + k) G) (fun p => p.1 = mtS ω k ∧ QC τ x t G p.2) := by
  have hr := hI.1.r1
  have ho := hI.1.o1
  have hsl := hC.sl
  unfold f_X10_ordersMetBy
  rw [s_isFree (hC.vs.r hk), ka_bs]
  by_cases hf : rv ω k 8 = 0 ∧ rv ω k 9 = 0
  · rw [if_pos hf, if_neg ka_n10, hC.rf.2.2.2.2.2.2.2.2.2.2.1, ka_bs, hC.rf.2.2.2.2.2.2.2.2.2.2.2.2.1, ka_bs, ka_bind2]
    refine gOk.mono (s_bearing hC.fs.1 hC.vs hI.1 hC.fl.1 hC.lv hI.2.1 (hC.vs.r hk) (hI.1.r hk) (by omega) (by omega) hn) fun p hp => ?_
    obtain ⟨p1, p2⟩ := hp
    have q2 := QC.scr hC p2
    have hC2 := q2.cv hC hI
    rw [ka_bind, p1]
    unfold l_X10_ordersMetBy_27
    refine gOk.mono (ka_loop (cO ω) (fun c q => q.1 = acc (fun q b => if cmS ω q k then b ||| b1 q else b) 0 c ∧ q.2 = nI c) (K := fun r => r = mtS ω k) (by omega) ⟨rfl, rfl⟩ (fun c q hc hq => ?_)) (fun r hr => by rw [ka_letE]; exact ⟨_, rfl, hr, q2⟩)
    obtain ⟨x3, x4⟩ := q
    obtain ⟨b1', b2⟩ := hq
    have e1 : x3 = acc (fun q b => if cmS ω q k then b ||| b1 q else b) 0 c := b1'
    have e2 : x4 = nI c := b2
    clear b1' b2
    subst e2
    show gOk (b_X10_ordersMetBy_27 τ n x (s + 16 + k) (beS ω k) x3 (nI c) p.2) _
    unfold b_X10_ordersMetBy_27
    rw [hC2.rf.2.2.2.2.2.2.2.2.2.2.1, ka_bs, hC2.vs.cn.2.2.1, hI.1.o0]
    by_cases hlt : c < cO ω
    · rw [if_neg (nI_ge hlt (by omega)), ka_bs, hC2.fs.1.rf.2.2.1, ka_bs, hC2.fs.1.o (i := c) (by omega), (hC2.vs.r hk).f.2.2.2.1, s_isFilledBy (hC2.vs.ov hlt), ka_bs]
      by_cases h0 : beS ω k < ov ω c 0
      · rw [if_pos h0, if_pos rfl, ka_letE, nI_1]
        refine ⟨_, rfl, hlt, ?_, rfl⟩
        show x3 = _
        rw [acc_s, if_neg (fun h => h.2.2 h0), e1]
      · by_cases h3 : rv ω k 3 < ov ω c 1
        · rw [if_neg h0, if_pos h3, if_pos rfl, ka_letE, nI_1]
          refine ⟨_, rfl, hlt, ?_, rfl⟩
          show x3 = _
          rw [acc_s, if_neg (fun h => h.2.1 h3), e1]
        · rw [if_neg h0, if_neg h3, if_neg ka_n10, ka_letE, ka_letE, nI_1]
          refine ⟨_, rfl, hlt, ?_, rfl⟩
          show x3 ||| b1 c = _
          rw [acc_s, if_pos ⟨hf, h3, h0⟩, e1]
    · have hcN : c = cO ω := by omega
      rw [if_pos (nI_le (by omega) (by omega))]
      refine ⟨_, rfl, ?_⟩
      show x3 = _
      rw [e1, hcN]
      rfl
  · rw [if_neg hf, if_pos rfl]
    refine ⟨_, rfl, ?_, QC.rf⟩
    exact (acc_id fun i b _ => if_neg fun h => hf h.1).symm
theorem c_can (hC : CV τ G x s t l l' ω im me ta fa) (hI : IV ω im me ta) (hn : 500 < n) {b : Int32} : gOk (f_X10_can τ n x b G) (fun p => p.1 = caS ω b ∧ QC τ x t G p.2) := by
  have hr := hI.1.r1
  have ho := hI.1.o1
  unfold f_X10_can caS
  by_cases hb : b = 0
  · rw [if_pos hb, if_pos hb, ka_bind]
    unfold l_X10_can_8
    refine gOk.mono (ka_loop (cR ω) (fun c q => q.1 = acc (fun k b => b ||| mtS ω k) 0 c ∧ q.2.1 = nI c ∧ QC τ x t G q.2.2) (K := fun r => r.1 = acc (fun k b => b ||| mtS ω k) 0 (cR ω) ∧ QC τ x t G r.2) (by omega) ⟨rfl, rfl, QC.rf⟩ (fun c q hc hq => ?_)) (fun r hr => by rw [ka_letE, ka_letE]; exact ⟨_, rfl, hr⟩)
    obtain ⟨x2, x3, G1⟩ := q
    obtain ⟨b1', b2, b3⟩ := hq
    have e1 : x2 = acc (fun k b => b ||| mtS ω k) 0 c := b1'
    have e2 : x3 = nI c := b2
    have q1 : QC τ x t G G1 := b3
    clear b1' b2 b3
    subst e2
    have hC1 := q1.cv hC hI
    show gOk (b_X10_can_8 τ n x x2 (nI c) G1) _
    unfold b_X10_can_8
    rw [hC1.rf.2.2.2.2.2.2.2.2.2.2.1, ka_bs, hC1.vs.cn.2.1, hI.1.r0]
    by_cases hlt : c < cR ω
    · rw [if_neg (nI_ge hlt (by omega)), ka_bs, hC1.fs.1.rf.2.1, ka_bs, hC1.fs.1.r (i := c) (by omega), ka_bind2]
      refine gOk.mono (c_metBy hC1 hI hn hlt) fun p hp => ?_
      obtain ⟨p1, p2⟩ := hp
      rw [ka_letE, ka_letE, nI_1, p1]
      refine ⟨_, rfl, hlt, ?_, rfl, q1.tr p2⟩
      show x2 ||| mtS ω c = _
      rw [acc_s, e1]
    · have hcN : c = cR ω := by omega
      rw [if_pos (nI_le (by omega) (by omega))]
      refine ⟨_, rfl, ?_, q1⟩
      show x2 = _
      rw [e1, hcN]
  · rw [if_neg hb, if_neg hb, ka_bind]
    unfold l_X10_can_45
    refine gOk.mono (ka_loop (cO ω) (fun c q => q.1 = acc (fun q b => if (T3 (chF ω q) (cY ω) (-1, none)).1 = -1 then b else b ||| b1 q) 0 c ∧ q.2.1 = nI c ∧ QC τ x t G q.2.2) (K := fun r => r.1 = acc (fun q b => if (T3 (chF ω q) (cY ω) (-1, none)).1 = -1 then b else b ||| b1 q) 0 (cO ω) ∧ QC τ x t G r.2) (by omega) ⟨rfl, rfl, QC.rf⟩ (fun c q hc hq => ?_)) (fun r hr => by rw [ka_letE, ka_letE]; exact ⟨_, rfl, hr⟩)
    obtain ⟨x2, x3, G1⟩ := q
    obtain ⟨b1', b2, b3⟩ := hq
    have e1 : x2 = acc (fun q b => if (T3 (chF ω q) (cY ω) (-1, none)).1 = -1 then b else b ||| b1 q) 0 c := b1'
    have e2 : x3 = nI c := b2
    have q1 : QC τ x t G G1 := b3
    clear b1' b2 b3
    subst e2
    have hC1 := q1.cv hC hI
    show gOk (b_X10_can_45 τ n x x2 (nI c) G1) _
    unfold b_X10_can_45
    rw [hC1.rf.2.2.2.2.2.2.2.2.2.2.1, ka_bs, hC1.vs.cn.2.2.1, hI.1.o0]
    by_cases hlt : c < cO ω
    · rw [if_neg (nI_ge hlt (by omega)), ka_bs, hC1.fs.1.rf.2.2.1, ka_bs, hC1.fs.1.o (i := c) (by omega), ka_bind2]
      refine gOk.mono (c_cheapestFor hC1 hI hn hlt) fun p hp => ?_
      obtain ⟨p1, p2⟩ := hp
      rw [p1]
      by_cases h : (T3 (chF ω c) (cY ω) (-1, none)).1 = -1
      · rw [if_pos h, ka_letE, nI_1]
        refine ⟨_, rfl, hlt, ?_, rfl, q1.tr p2⟩
        show x2 = _
        rw [acc_s, if_pos h, e1]
      · rw [if_neg h, ka_letE, ka_letE, nI_1]
        refine ⟨_, rfl, hlt, ?_, rfl, q1.tr p2⟩
        show x2 ||| b1 c = _
        rw [acc_s, if_neg h, e1]
    · have hcN : c = cO ω := by omega
      rw [if_pos (nI_le (by omega) (by omega))]
      refine ⟨_, rfl, ?_, q1⟩
      show x2 = _
      rw [e1, hcN]
theorem m_can (hM : FM τ G m) (hω : ge G (m + 1) = ω) (hI : WI ω) (hLI : LI ω) (hn : 500 < n) {b : Int32} : gOk (f_X11_can τ n m b G) (fun p => p.1 = caS ω b ∧ QM m G p.2) := by
  have hr := hI.r1
  have ho := hI.o1
  have hM0 : FM τ (gsi G 11 0 m 0) m := QM.th.fm hM
  have w0 : ge (gsi G 11 0 m 0) (m + 1) = ω := hω
  unfold f_X11_can caS
  rw [ka_letE, ka_bind]
  by_cases hb : b = 0
  · unfold l_X11_can_9
    refine gOk.mono (ka_loop 0 (fun c q => q.1 = 0 ∧ q.2.1 = nI 0 ∧ q.2.2 = gsi G 11 0 m 0) (K := fun r => r.1 = 0 ∧ r.2 = gsi G 11 0 m 0) (by omega) ⟨rfl, rfl, rfl⟩ (fun c q hc hq => ?_)) (fun r hr => ?_)
    · obtain ⟨x2, x3, G1⟩ := q
      obtain ⟨b1', b2, b3⟩ := hq
      have e1 : x2 = 0 := b1'
      have e2 : x3 = nI 0 := b2
      have e3 : G1 = gsi G 11 0 m 0 := b3
      subst e2; subst e3
      show gOk (b_X11_can_9 τ n m b x2 (nI 0) (gsi G 11 0 m 0)) _
      unfold b_X11_can_9
      rw [hM0.cn.2.2, ka_bs, if_pos hb]
      by_cases hlt : ge (gsi G 11 0 m 0) (m + 1) 2 ≤ nI 0
      · rw [if_pos hlt]; exact ⟨_, rfl, e1, rfl⟩
      · rw [if_neg hlt]; exact ⟨_, rfl, e1, rfl⟩
    · obtain ⟨z, G1⟩ := r
      obtain ⟨r1, r2⟩ := hr
      have r1 : z = 0 := r1
      have r2 : G1 = gsi G 11 0 m 0 := r2
      subst r1; subst r2
      rw [ka_letE, ka_letE, if_pos hb]
      unfold k_X11_can_45
      rw [ka_bind]
      unfold l_X11_can_47
      refine gOk.mono (ka_loop (cR ω) (fun c q => q.1 = acc (fun k b => b ||| mtS ω k) 0 c ∧ q.2.1 = nI c ∧ Fr (fun b => b = m + 8) (gsi G 11 0 m 0) q.2.2) (K := fun r => r.1 = acc (fun k b => b ||| mtS ω k) 0 (cR ω) ∧ Fr (fun b => b = m + 8) (gsi G 11 0 m 0) r.2) (by omega) ⟨rfl, rfl, Fr.rf⟩ (fun c q hc hq => ?_)) (fun r hr => by rw [ka_letE, ka_letE]; exact ⟨_, rfl, hr.1, QM.th.tr (QM.v hr.2)⟩)
      obtain ⟨x2, x3, G1⟩ := q
      obtain ⟨b1', b2, b3⟩ := hq
      have e1 : x2 = acc (fun k b => b ||| mtS ω k) 0 c := b1'
      have e2 : x3 = nI c := b2
      have f1 : Fr (fun b => b = m + 8) (gsi G 11 0 m 0) G1 := b3
      clear b1' b2 b3
      subst e2
      have hM1 : FM τ G1 m := f1.fm hM0 (by omega)
      have w1 : ge G1 (m + 1) = ω := (f1 (m + 1) (by omega)).2.2.1.trans w0
      show gOk (b_X11_can_47 τ n m b x2 (nI c) G1) _
      unfold b_X11_can_47
      rw [hM1.cn.2.1, ka_bs, w1, hI.r0]
      by_cases hlt : c < cR ω
      · rw [if_neg (nI_ge hlt (by omega)), if_pos hb, ka_bind2]
        refine gOk.mono (m_metBy hM1 w1 hI hLI hn hlt) fun p hp => ?_
        obtain ⟨p1, p2⟩ := hp
        rw [ka_letE, ka_letE, nI_1, p1]
        refine ⟨_, rfl, hlt, ?_, rfl, f1.tr p2⟩
        show x2 ||| mtS ω c = _
        rw [acc_s, e1]
      · have hcN : c = cR ω := by omega
        rw [if_pos (nI_le (by omega) (by omega))]
        refine ⟨_, rfl, ?_, f1⟩
        show x2 = _
        rw [e1, hcN]
  · unfold l_X11_can_9
    refine gOk.mono (ka_loop (cO ω) (fun c q => q.1 = acc (fun q b => if (T3 (chF ω q) (cY ω) (-1, none)).1 = -1 then b else b ||| b1 q) 0 c ∧ q.2.1 = nI c ∧ QM m G q.2.2 ∧ FM τ q.2.2 m ∧ WE ω (ge q.2.2 (m + 1))) (K := fun r => r.1 = acc (fun q b => if (T3 (chF ω q) (cY ω) (-1, none)).1 = -1 then b else b ||| b1 q) 0 (cO ω) ∧ QM m G r.2 ∧ FM τ r.2 m) (by omega) ⟨rfl, rfl, QM.th, hM0, by rw [w0]; exact WE.rf⟩ (fun c q hc hq => ?_)) (fun r hr => ?_)
    · obtain ⟨x2, x3, G1⟩ := q
      obtain ⟨b1', b2, b3, b4, b5⟩ := hq
      have e1 : x2 = acc (fun q b => if (T3 (chF ω q) (cY ω) (-1, none)).1 = -1 then b else b ||| b1 q) 0 c := b1'
      have e2 : x3 = nI c := b2
      have f1 : QM m G G1 := b3
      have hM1 : FM τ G1 m := b4
      have we1 : WE ω (ge G1 (m + 1)) := b5
      clear b1' b2 b3 b4 b5
      subst e2
      have hI1 := we1.wi hI
      have hL1 := we1.li hLI
      have hc1 := we1.cs
      show gOk (b_X11_can_9 τ n m b x2 (nI c) G1) _
      unfold b_X11_can_9
      rw [hM1.cn.2.2, ka_bs, hI1.o0, hc1.2.2.1]
      by_cases hlt : c < cO ω
      · rw [if_neg (nI_ge hlt (by omega)), if_neg hb, ka_bind2]
        refine gOk.mono (m_cheapestOf hM1 rfl hI1 hL1 hn (k := c) (by rw [hc1.2.2.1]; exact hlt)) fun p hp => ?_
        obtain ⟨p1, p2⟩ := hp
        have hy := hI.y1
        have hv : (T3 (chF (ge G1 (m + 1)) c) (cY (ge G1 (m + 1))) (-1, none)).1 = (T3 (chF ω c) (cY ω) (-1, none)).1 := by
          rw [hc1.1]
          refine congrArg Prod.fst (T3_congr fun a b d s h1 h2 h3 => ?_)
          unfold chF stY
          rw [we1.y (show a < 10 by omega) (show 0 < 4 by decide), we1.y (show a < 10 by omega) (show 1 < 4 by decide), we1.y (show b < 10 by omega) (show 0 < 4 by decide), we1.y (show b < 10 by omega) (show 1 < 4 by decide), we1.y (show d < 10 by omega) (show 0 < 4 by decide), we1.y (show d < 10 by omega) (show 1 < 4 by decide), we1.o, we1.o, tr_eq we1]
        rw [p1, hv]
        unfold k_X11_can_37
        rcases ch_neg hI (k := c) with h | ⟨j, hj, h⟩
        · rw [h, if_pos (by decide), ka_letE, ka_letE, nI_1, i3_o0]
          refine ⟨_, rfl, hlt, ?_, rfl, f1.tr p2.1, p2.1.fm hM1, we1.tr p2.1.2.2.2⟩
          show x2 = _
          rw [acc_s, if_pos h, e1]
        · rw [h, if_neg (nI_pos (by omega)), ka_letE, ka_letE, nI_1]
          refine ⟨_, rfl, hlt, ?_, rfl, f1.tr p2.1, p2.1.fm hM1, we1.tr p2.1.2.2.2⟩
          show x2 ||| b1 c = _
          rw [acc_s, if_neg (fun e => by rw [h] at e; have := congrArg Int32.toInt e; rw [nI_toInt (by omega)] at this; exact absurd this (by rw [show (-1 : Int32).toInt = -1 from rfl]; omega)), e1]
      · have hcN : c = cO ω := by omega
        rw [if_pos (nI_le (by omega) (by omega))]
        refine ⟨_, rfl, ?_, f1, hM1⟩
        show x2 = _
        rw [e1, hcN]
    · obtain ⟨z, G1⟩ := r
      obtain ⟨r1, r2, r3⟩ := hr
      rw [ka_letE, ka_letE, if_neg hb]
      have r3 : FM τ G1 m := r3
      have r1 : z = _ := r1
      unfold k_X11_can_45
      rw [ka_bind]
      unfold l_X11_can_47
      refine gOk.mono (ka_loop 0 (fun c q => q.1 = z ∧ q.2.1 = nI 0 ∧ q.2.2 = G1) (K := fun r => r.1 = z ∧ r.2 = G1) (by omega) ⟨rfl, rfl, rfl⟩ (fun c q hc hq => ?_)) (fun r hr => by rw [ka_letE, ka_letE]; exact ⟨_, rfl, hr.1.trans r1, by rw [hr.2]; exact r2⟩)
      obtain ⟨x2, x3, G2⟩ := q
      obtain ⟨b1', b2, b3⟩ := hq
      have e1 : x2 = z := b1'
      have e2 : x3 = nI 0 := b2
      have e3 : G2 = G1 := b3
      subst e2; subst e3
      show gOk (b_X11_can_47 τ n m b x2 (nI 0) G2) _
      unfold b_X11_can_47
      rw [r3.cn.2.1, ka_bs, if_neg hb]
      by_cases hlt : ge G2 (m + 1) 1 ≤ nI 0
      · rw [if_pos hlt]; exact ⟨_, rfl, e1, rfl⟩
      · rw [if_neg hlt]; exact ⟨_, rfl, e1, rfl⟩
theorem op_can (hm : m = x + 512) (hn : 500 < n) (hC : CV τ G x s t l l' ω im me ta fa) (hM : MV τ G m ω im me ta fa) (hI : IV ω im me ta) (b : Int32) : gOk (f_X10_can τ n x b G) (fun q => gOk (f_X11_can τ n m b q.2) (fun p => q.1 = p.1 ∧ ST τ x m p.2)) :=
  join_p (ans := caS ω b) hm hC hM hI (c_can hC hI hn) (fun G1 hM1 => m_can hM1.1 hM1.2.1 hI.1 hI.2.1 hn)
end
