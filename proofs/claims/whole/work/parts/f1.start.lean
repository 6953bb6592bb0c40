/-! THE START of the law -/
theorem ln_RL_8 : gLn RL 8 10 15 := ⟨(RX10, TX10, 15), rfl, rfl, wA_t (wt1 (List.mem_of_getElem? (i := 28) (by decide +kernel))) (by decide +kernel), wA_t (wt1 (List.mem_of_getElem? (i := 29) (by decide +kernel))) (by decide +kernel), wA_t (wt1 (List.mem_of_getElem? (i := 1) (by decide +kernel))) (by decide +kernel)⟩
theorem ln_RL_118 : gLn RL 118 11 20 := ⟨(RX11, TX11, 20), rfl, rfl, wA_t (wt6 (List.mem_of_getElem? (i := 207) (by decide +kernel))) (by decide +kernel), wA_t (wt6 (List.mem_of_getElem? (i := 208) (by decide +kernel))) (by decide +kernel), wA_t (wt1 (List.mem_of_getElem? (i := 12) (by decide +kernel))) (by decide +kernel)⟩
theorem li_X10_init : gLi yX10_init cX10_init 1 0 := ⟨wA_t (wt1 (List.mem_of_getElem? (i := 32) (by decide +kernel))) (by decide +kernel), wA_t (wt1 (List.mem_of_getElem? (i := 1) (by decide +kernel))) (by decide +kernel), wA_t (wt1 (List.mem_of_getElem? (i := 31) (by decide +kernel))) (by decide +kernel), rfl, by decide +kernel, by decide +kernel, by decide +kernel⟩
theorem li_X11_init : gLi yX11_init cX11_init 1 0 := ⟨wA_t (wt6 (List.mem_of_getElem? (i := 211) (by decide +kernel))) (by decide +kernel), wA_t (wt1 (List.mem_of_getElem? (i := 12) (by decide +kernel))) (by decide +kernel), wA_t (wt6 (List.mem_of_getElem? (i := 210) (by decide +kernel))) (by decide +kernel), rfl, by decide +kernel, by decide +kernel, by decide +kernel⟩
theorem lmi_RL_117 : Cond.methodLink RL 117 yX10_init ∈ wA := wA_t (wt1 (List.mem_of_getElem? (i := 30) (by decide +kernel))) (by decide +kernel)
theorem lmi_RL_120 : Cond.methodLink RL 120 yX11_init ∈ wA := wA_t (wt6 (List.mem_of_getElem? (i := 209) (by decide +kernel))) (by decide +kernel)
/-- the kinds behind the constructors -/
theorem bo_gne {τ : gτ} {a z κ n : Nat} (h : a ≠ z) : gnt τ z κ n a = τ a := by unfold gnt; rw [if_neg h]
theorem bo_geq {τ : gτ} {z κ n : Nat} : gnt τ z κ n z = some (κ, n) := by unfold gnt; rw [if_pos rfl]
theorem bo_tx {τ : gτ} {G : gG} {x : Nat} : iT_X10_init (x + 1) τ x = τ x := by
  have e7 : ∀ (t : gτ) (a : Nat), x < a → iT_X7_init (a + 1) (gnt t a 7 0) x = t x := fun t a h => (bo_X7 (τ := t) (G := G) (a := a)).1.2 x (by omega)
  have e8 : ∀ (t : gτ) (a : Nat), x < a → iT_X8_init (a + 1) (gnt t a 8 0) x = t x := fun t a h => (bo_X8 (τ := t) (G := G) (a := a) (y := 0)).1.2 x (by omega)
  have e2 : ∀ (t : gτ) (a : Nat), x < a → iT_X2_init (a + 1) (gnt t a 2 0) x = t x := fun t a h => (bo_X2 (τ := t) (G := G) (a := a) (y := 0)).1.2 x (by omega)
  have e3 : ∀ (t : gτ) (a : Nat), x < a → iT_X3_init (a + 1) (gnt t a 3 0) x = t x := fun t a h => (bo_X3 (τ := t) (G := G) (a := a)).1.2 x (by omega)
  have e6 : ∀ (t : gτ) (a : Nat), x < a → iT_X6_init (a + 1) (gnt t a 6 0) x = t x := fun t a h => (bo_X6 (τ := t) (G := G) (s := a)).1.2 x (by omega)
  have e1 : ∀ (t : gτ) (a : Nat), x < a → iT_X1_init (a + 1) (gnt t a 1 0) x = t x := fun t a h => (bo_X1 (τ := t) (G := G) (l := a)).1.2 x (by omega)
  have e5 : ∀ (t : gτ) (a : Nat), x < a → iT_X5_init (a + 1) (gnt t a 5 0) x = t x := fun t a h => (bo_X5 (τ := t) (G := G) (a := a)).2 x (by omega)
  refine (e1 (iT10_13 (x + 1) τ) (x + 1 + 504) (by omega)).trans ?_
  refine (e1 (iT10_12 (x + 1) τ) (x + 1 + 497) (by omega)).trans ?_
  refine (e6 (iT10_11 (x + 1) τ) (x + 1 + 465) (by omega)).trans ?_
  refine (e6 (iT10_10 (x + 1) τ) (x + 1 + 433) (by omega)).trans ?_
  refine (bo_gne (τ := iT10_9 (x + 1) τ) (z := x + 1 + 432) (κ := 13) (n := 10) (by omega)).trans ?_
  refine (bo_gne (τ := iT10_8 (x + 1) τ) (z := x + 1 + 431) (κ := 13) (n := 256) (by omega)).trans ?_
  refine (bo_gne (τ := iT10_7 (x + 1) τ) (z := x + 1 + 430) (κ := 13) (n := 256) (by omega)).trans ?_
  refine (e5 (iT10_6 (x + 1) τ) (x + 1 + 429) (by omega)).trans ?_
  refine (e1 (iT10_5 (x + 1) τ) (x + 1 + 422) (by omega)).trans ?_
  refine (e6 (iT10_4 (x + 1) τ) (x + 1 + 390) (by omega)).trans ?_
  refine (e3 (iT10_3 (x + 1) τ) (x + 1 + 4) (by omega)).trans ?_
  refine (e2 (iT10_2 (x + 1) τ) (x + 1 + 3) (by omega)).trans ?_
  refine (e8 (iT10_1 (x + 1) τ) (x + 1 + 2) (by omega)).trans ?_
  exact e7 τ (x + 1) (by omega)
def lz_G0 : gG := ((fun _ _ _ => 0), (fun _ _ _ => none), (fun _ _ => 0), (fun _ _ => none), fun _ _ => 0)
theorem bo_gk {τ : gτ} {G : gG} {x : Nat} : gK (bT x τ) x 10 ∧ gK (bT x τ) (x + 512) 11 ∧ gK (bT x τ) (x + 523) 18 := by
  unfold bT
  refine ⟨⟨0, ?_⟩, ⟨0, ?_⟩, ⟨1, bo_geq⟩⟩
  · unfold iT_X11_init
    rw [bo_gne (by omega), bo_gne (by omega), bo_gne (by omega), bo_gne (by omega), bo_gne (by omega), bo_gne (by omega), bo_gne (by omega), bo_gne (by omega), bo_gne (by omega), bo_gne (by omega), bo_gne (by omega), bo_gne (by omega), bo_tx (G := G), bo_geq]
  · unfold iT_X11_init
    rw [bo_gne (by omega), bo_gne (by omega), bo_gne (by omega), bo_gne (by omega), bo_gne (by omega), bo_gne (by omega), bo_gne (by omega), bo_gne (by omega), bo_gne (by omega), bo_gne (by omega), bo_gne (by omega), bo_geq]
set_option maxHeartbeats 4000000 in
set_option maxRecDepth 100000 in
theorem whole_start {p : Program} {e : Env} {s : State} {m : MethodId} {below : List Frame} {meth : Method} {c : Code} (l : Launch) (hflags : l.flags = flags0) {b L : Nat} {xs : Nat → Int32} (hL : L ≤ 3072) (C0 : lw_At p s m meth c b L xs) : W p l e room_1 s m #[Value.ref b] below meth c s.heap [] 0 0 (lw_Z below #[Value.ref b] s) (entryFrame m ([Value.ref b] : List Value).toArray 7) := by
  obtain ⟨hx, hb, hr, hml, hown, hts, hX, hbl, hlocks, hgv⟩ := id C0
  obtain ⟨D, cy, hK⟩ := lz_K hts
  obtain ⟨hS, hN⟩ := lz_S0 (D := D) (cy := cy) hflags hts hgv
  have fx : gFx (D, cy, s) p s m #[Value.ref b] meth c cL_law_ 7 RL := ⟨hx, hb, hml, hown, fun w hw => hts w (List.mem_filter.mp hw).1, hK, State.WarmedH.refl s, hlocks⟩
  have hl := lv_entry ([.ref b]) (n := 7) (Nat.le_of_ble_eq_true rfl)
  rw [lg_entry_eq]
  generalize (lg_sl ([.ref b]) ++ List.replicate (7 - (lg_sl ([.ref b])).length) Slot.unset).toArray = ls at hl ⊢
  have hl : lv_has ls 7 [(0, .ref b)] := hl
  have hw : gHw (D, cy, s) (fun _ => none) lz_G0 s.heap [] := ⟨⟨fun a κ n h => (by cases h), ⟨fun a c n k b κ h => (by cases h), fun a κ n i b h => (by cases h)⟩, Nat.le_refl _, fun q _ => rfl⟩, fun q h => (by cases h)⟩
  obtain ⟨x, ex⟩ : ∃ x : Nat, s.heap.size = x := ⟨_, rfl⟩
  have hz : s.heap.size = x := ex
  refine gc_new fx hw hz ln_RL_8 ⟨Nat.le_of_ble_eq_true rfl, Nat.le_of_ble_eq_true rfl⟩ dL_law__0 (fun H _ hw hz => ?_)
  refine lv_dup fx.1 fx.2.1 dL_law__3 rfl ?_
  refine gc_callI (As := []) (rest := [.ref x]) fx hw hz (c_X10_init l (D, cy, s) hS x _ _ (x + 1) gnt_new) li_X10_init lmi_RL_117 rfl hl.1 rfl ⟨Nat.le_of_ble_eq_true rfl, Nat.le_of_ble_eq_true rfl⟩ (Nat.le_of_ble_eq_true rfl) ⟨Nat.le_of_ble_eq_true rfl, Nat.le_of_ble_eq_true rfl⟩ dL_law__4 (fun H locs hw hz => ?_)
  have hz : H.size = x + 512 := by omega
  refine lv_astore_n (lv' := [(1, .ref x), (0, .ref b)]) fx.1 fx.2.1 dL_law__7 rfl hl (by decide) rfl (fun ls hl => ?_)
  refine gc_new fx hw hz ln_RL_118 ⟨Nat.le_of_ble_eq_true rfl, Nat.le_of_ble_eq_true rfl⟩ dL_law__8 (fun H _ hw hz => ?_)
  have hz : H.size = x + 513 := hz
  refine lv_dup fx.1 fx.2.1 dL_law__11 rfl ?_
  refine gc_callI (As := []) (rest := [.ref (x + 512)]) fx hw hz (c_X11_init l (D, cy, s) hS (x + 512) _ _ (x + 513) gnt_new) li_X11_init lmi_RL_120 rfl hl.1 rfl ⟨Nat.le_of_ble_eq_true rfl, Nat.le_of_ble_eq_true rfl⟩ (Nat.le_of_ble_eq_true rfl) ⟨Nat.le_of_ble_eq_true rfl, Nat.le_of_ble_eq_true rfl⟩ dL_law__12 (fun H locs hw hz => ?_)
  have hz : H.size = x + 523 := by omega
  refine lv_astore_n (lv' := [(2, .ref (x + 512)), (1, .ref x), (0, .ref b)]) fx.1 fx.2.1 dL_law__15 rfl hl (by decide) rfl (fun ls hl => ?_)
  refine lv_iconst (v := 1) fx.1 fx.2.1 dL_law__16 (by decide) ?_
  refine gc_newL fx hw hz (wA_of lz_ac18 (by decide +kernel)) (N := 1) (by decide) (by decide) (Nat.le_of_ble_eq_true rfl) ⟨Nat.le_of_ble_eq_true rfl, Nat.le_of_ble_eq_true rfl⟩ dL_law__17 (fun H _ hw hz => ?_)
  refine lv_astore_n (lv' := [(3, .ref (x + 523)), (2, .ref (x + 512)), (1, .ref x), (0, .ref b)]) fx.1 fx.2.1 dL_law__19 rfl hl (by decide) rfl (fun ls hl => ?_)
  refine lv_iconst (v := 0) fx.1 fx.2.1 dL_law__20 (by decide) ?_
  refine lv_istore (lv' := [(4, .int 0), (3, .ref (x + 523)), (2, .ref (x + 512)), (1, .ref x), (0, .ref b)]) fx.1 fx.2.1 dL_law__21 hl (by decide) rfl (fun ls hl => ?_)
  obtain ⟨hST, hτ⟩ := bo_ST (τ := fun _ => none) (G := lz_G0) (x := x)
  obtain ⟨k1, k2, k3⟩ := bo_gk (τ := fun _ => none) (G := lz_G0) (x := x)
  have hw : gHw (D, cy, s) (bT x (fun _ => none)) (bG x lz_G0) H locs := hw
  have F : lz_F D cy p l s m meth c b L xs (bT x (fun _ => none)) 10000 x (x + 512) (x + 523) := ⟨fx, ⟨hS, hN⟩, ⟨hX, hbl⟩, ⟨k1, k2, k3, hτ⟩, rfl, rfl, Nat.le_of_ble_eq_true rfl⟩
  refine W.widen (k := 600) (n := 30000) (Nat.le_of_ble_eq_true rfl) (Nat.le_of_ble_eq_true rfl) ?_
  exact lz_loop F hL hr hlocks 513 0 rfl (Nat.zero_le _) 600 30000 (Nat.le_of_ble_eq_true rfl) (Nat.le_of_ble_eq_true rfl) _ H locs ls hw hST (lv_sub hl [4, 3, 2, 1, 0] rfl)
set_option maxHeartbeats 4000000 in
theorem lw_walk (l : Launch) (hflags : l.flags = flags0) (b : Addr) (xs : List Int32) : MetFree l x (headSpec (Jvm.Cond.code x code maxLocals ret :: tables_1) room_1) (lw_P b xs) (fun _ _ _ _ _ => True) lw_Q := by
  refine MetFree.of_bodyS (code := code) (maxLocals := maxLocals) (ret := ret) (by decide) ?_ ?_
  · intro args s m h hn
    obtain ⟨meth, c, h1, h2, h3, h4, h5, h6, -, -⟩ := Cond.code_spec hn (atoms_spec (ws := Jvm.Cond.code x code maxLocals ret :: tables_1) h _ List.mem_cons_self)
    exact ⟨meth, c, h1, h2, h3, h4, h5, h6⟩
  · intro p e s m args below meth c s₁ B hml0 hP _
    obtain ⟨rfl, hx, hbd, hgv⟩ := hP
    obtain ⟨scr, harrAt, hlist, hof, hsmall⟩ := hx
    obtain ⟨hcb, hkn, -, -⟩ := State.arrayAt?_spec harrAt
    have hown : s.vm.findClass R_law = some m.cls := findClass_of_methodNamed B.named
    have hts0 : ∀ c ∈ (Jvm.Cond.code x code maxLocals ret :: tables_1), c.before #[Value.ref b] s = true := atoms_spec (ws := Jvm.Cond.code x code maxLocals ret :: tables_1) B.pre
    have hts : ∀ w ∈ lw_tbl, w.before #[Value.ref b] s = true := k2_hts_sels lw_privs (fun w hw => hts0 w (List.mem_cons_of_mem _ hw)) lw_privs_ok
    have hml : c.maxLocals = 7 := B.maxLocals_eq (hts0 _ List.mem_cons_self)
    have X₀ : Stand p l e room_1 s m #[Value.ref b] below meth c s₁ [] 0 0 := Stand.of_body B
    have hh0 : s₁.heap = s.heap := by rw [B.state]; rfl
    have hsz : scr.slots.size = xs.length := by rw [← Array.length_toList, hlist, List.length_map]
    have hval : ∀ j : Nat, j < xs.length → scr.slots[j]? = some (.int (xs.getD j 0)) := fun j hj => by
      rw [← Array.getElem?_toList, hlist]
      simp [hj]
    have hbl : b < s.heap.size := (Array.getElem?_eq_some_iff.mp hcb).1
    have hX : va_X b xs.length (fun j => xs.getD j 0) s s.heap := ⟨scr, hcb, hof, hkn, hsz, hval⟩
    have K : W p l e room_1 s m #[Value.ref b] below meth c s₁.heap [] 0 0 (lw_Z below #[Value.ref b] s) (entryFrame m ([Value.ref b] : List Value).toArray 7) := by
      rw [hh0]
      exact whole_start l hflags hbd ⟨B.exec, B.bytes, B.returns, hml, hown, hts, hX, hbl, B.notSynchronized, hgv⟩
    obtain ⟨t, a1, o, b1, b2, b3⟩ := K s₁ rfl X₀
    exact ⟨t, o, a1, b1, b2, b3⟩
theorem lw_pre_spec {args : Array Value} {s : State} (h : (Jvm.Cond.and given_1 narrow_1).before args s = true) (hr : rest_1_c.before args s = true) : ∃ (b : Addr) (xs : List Int32), lw_P b xs args s := by
  have hs := flat_of_before _ h
  have hq := flat_of_before _ hr
  have hc : (Cond.count 1).before args s = true := hs _ (by decide +kernel)
  have harr : (Cond.arrayOf (.arg 0) .int).before args s = true := hs _ (by decide +kernel)
  have hle : (Cond.le (.length (.arg 0)) (.int 3072)).before args s = true := hs _ (by decide +kernel)
  have hlen : (Cond.isInt (.length (.arg 0))).before args s = true := hq _ (by decide +kernel)
  have hall : (Cond.all (.arg 0) (.isInt (.elem (.arg 0) (.index 0)))).before args s = true := hq _ (by decide +kernel)
  obtain ⟨b, xs, hb, hx⟩ := State.ints_of_pre rfl harr hlen hall
  have hsm : xs.length < 2 ^ 31 := hx.choose_spec.2.2.2
  have hev : (Term.length (.arg 0)).eval args s none [] s = some (.int xs.length.toInt32) := hx.length_eval hb
  have hv := Cond.le_ints hev (show (Term.int 3072).eval args s none [] s = some (.int 3072) from rfl)
  have hd : xs.length.toInt32 ≤ 3072 := by
    simpa [Cond.before, Cond.holds, hv] using hle
  have hN : xs.length ≤ 3072 := (Int32.ofNat_le_ofNat hsm (by decide)).mp (show Int32.ofNat xs.length ≤ Int32.ofNat 3072 from hd)
  exact ⟨b, xs, Cond.one_arg hc (show args[0]? = some (.ref b) from hb), hx, hN, h⟩
theorem lw_comes (l : Launch) (hflags : l.flags = flags0) : Comes l x (Jvm.Cond.code x code maxLocals ret :: tables_1) room_1 (fun tb e args s => Calls_1 tb e args s ∧ rest_1 tb e args s ∧ Pre_1 tb e args s)
    (fun _ _ args s o t => lw_Q args s o t) := by
  intro p e ha hc hk s m args below hf hfit hheap happ hpre
  obtain ⟨b, xs, hP⟩ := lw_pre_spec hpre.2.2 hpre.2.1
  obtain ⟨k, o, h1, h2, h3, hQ⟩ := lw_walk l hflags b xs p e ha hc hk s m args below hf ((Spec.applies_iff_loose hf).mp happ).1 hP trivial
  exact ⟨k, o, h1, h2, h3, hQ⟩
theorem lw_frame {s t : State} {o : Outcome} {args : Array Value} (h : Framed s o t [] 601024 7293034) :
    Framed s o t (fieldLocs frame_1_writes args s ++ arrayLocs frame_1_arrays args s ++ staticLocs frame_1_statics s) 601024 7293034 := h
theorem lw_limb (L : Cond) (hL : ∀ (args : Array Value) (s t : State), L.after args s (.returned (some (.int 1))) t = true) :
    ArmFor flags0 classFile x code maxLocals ret World_1 tables_1 room_1 Calls_1 rest_1 Pre_1
      (fun tb e a s o t => postC L tb e a s o t ∧ Framed s o t (fieldLocs frame_1_writes a s ++ arrayLocs frame_1_arrays a s ++ staticLocs frame_1_statics s) 601024 7293034) := by
  intro l hflags _ _ p e ha hc hk s m args below hf hfit hheap happ hpre
  obtain ⟨k, o, h1, h2, h3, rfl, hF⟩ := lw_comes l hflags p e ha hc hk s m args below hf hfit hheap happ hpre
  exact ⟨k, _, h1, h2, h3, hL args s _, lw_frame hF⟩
theorem i_vc : Claimed_1_1 ∧ Claimed_1_2 := ⟨lw_limb limb_1_1 (fun args s t => by simp [limb_1_1, Cond.after, Cond.holds, Cond.value]), lw_limb limb_1_2 (fun args s t => Cond.after_iff.mpr (by
  first | (rw [show limb_1_2 = Cond.eq .result (.int 1) from rfl, Cond.eq_ints (x := 1) (y := 1) rfl rfl]; simp; done) | (simp [limb_1_2, Cond.value, Term.eval]; done)))⟩
