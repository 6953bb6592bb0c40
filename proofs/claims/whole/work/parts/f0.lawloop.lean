/-! THE CLAIM OUT OF ONE WALK OF THE LAW'S BODY. Your part is whole_start (and what it stands on); all else here is the same for every law, but numbers. -/
def R_law : String := "YearRopeLaw"
def lw_P (b : Addr) (xs : List Int32) (args : Array Value) (s : State) : Prop := args = #[.ref b] ∧ s.IntsAt b xs ∧ xs.length ≤ 3072 ∧ (Jvm.Cond.and given_1 narrow_1).before args s = true
def lw_Q (_ : Array Value) (s : State) (o : Outcome) (t : State) : Prop := o = .returned (some (.int 1)) ∧ Framed s o t [] 601024 7293034
def lw_Z (below : List Frame) (a : Array Value) (s : State) : State → Prop := fun t => ∃ o, t.status = .running ∧ Ended t below o ∧ lw_Q a s o t
/-- the law's own end, with 1 on the stack, nothing written that was there before, its room as the claim has it -/
theorem lw_ret {p : Program} {l : Launch} {e : Env} {s : State} {m : MethodId} {below : List Frame} {meth : Method} {c : Code} {b : Nat} (hx : p.tables.exec = Jvm.exec) (hb : c.code = code) (hr : meth.sig.returnType = ret) (hlocks : meth.locks = false) {pc : Nat} {H : Heap} {ls : Array Slot} (hdg : decode code pc = .ok (.ireturn, 1)) : W p l e room_1 s m #[Value.ref b] below meth c H [] 601024 7293034 (lw_Z below #[Value.ref b] s) (F0 m pc ls [.int 1]) := by
  intro T hT X
  obtain ⟨fs, hret, hrun, hended, hW, hframe⟩ := X.leave (v := some (.int 1)) (hlocks := hlocks) (fun h => by rw [hr] at h; cases h)
  have hmeth' : T.vm.method? m = some meth := X.method'
  refine ⟨T.setFrames fs, ?_, .returned (some (.int 1)), hrun, hended, rfl, ⟨_, rfl⟩, hW, hframe⟩
  jvm_step X.here [X.here.top, hx, hb, hdg, hmeth', hr, ret, narrow_b1]
  (try refine ⟨rfl, ?_⟩); (try refine ⟨rfl, ?_⟩)
  first | (intro acts; rw [hret _ acts rfl rfl rfl]) | rw [hret _ _ rfl rfl rfl]
  exact Steps.refl _
/-- what holds at the law's entry: the machine, the code, the tables' words (any of lw_tbl by 'hts w (by decide +kernel)'), the script of L ints xs at the cell b, what the Statement gives of the start (any of its parts by flat_of_before) -/
def lw_At (p : Program) (s : State) (m : MethodId) (meth : Method) (c : Code) (b L : Nat) (xs : Nat → Int32) : Prop :=
  p.tables.exec = Jvm.exec ∧ c.code = code ∧ meth.sig.returnType = ret ∧ c.maxLocals = 7 ∧ s.vm.findClass R_law = some m.cls ∧ (∀ w ∈ lw_tbl, w.before #[Value.ref b] s = true) ∧ va_X b L xs s s.heap ∧ b < s.heap.size ∧ meth.locks = false ∧ (Jvm.Cond.and given_1 narrow_1).before #[Value.ref b] s = true
/-! THE LOOP of the law, and its start -/
theorem lz_le {a L : Nat} (ha : a < 2 ^ 20) (hL : L < 2 ^ 20) (h : ¬ Int32.ofNat L - 6 < nI a) : a + 6 ≤ L := by
  have h1 : (Int32.ofNat L).toInt = (L : Int) := nI_toInt (n := L) (by omega)
  have h2 : (nI a).toInt = (a : Int) := nI_toInt (by omega)
  have h6 : (6 : Int32).toInt = 6 := by decide
  rw [Int32.lt_iff_toInt_lt, Int32.toInt_sub, h1, h2, h6, Int.bmod_eq_of_le (by omega) (by omega)] at h
  omega
theorem lz_ad {L a j : Nat} {xs : Nat → Int32} (h : a + j < L) (hL : L < 2 ^ 20) : lz_A L xs (nI a) (nI j) (xs (a + j)) := by
  unfold lz_A
  rw [nI_add]
  exact ⟨vp_in_nI h (by omega), by rw [nI_clamp (by omega)]⟩
section
variable {D : va_G} {cy : Nat → ClassId} {p : Program} {l : Launch} {e : Env} {s : State} {m : MethodId} {below : List Frame} {meth : Method} {c : Code} {b L : Nat} {xs : Nat → Int32} {τ : gτ} {n x y o : Nat} {G : gG} {H : Heap} {locs : List Loc} {ls : Array Slot} {cells slots : Nat} {Q : State → Prop} {i : Int32}
set_option maxHeartbeats 4000000 in
set_option maxRecDepth 100000 in
/-- one round of the loop, from the switch on -/
theorem lz_sw (F : lz_F D cy p l s m meth c b L xs τ n x y o) {a1 a2 a3 a4 a5 : Int32} (A1 : lz_A L xs i 1 a1) (A2 : lz_A L xs i 2 a2) (A3 : lz_A L xs i 3 a3) (A4 : lz_A L xs i 4 a4) (A5 : lz_A L xs i 5 a5) (hw : gHw (D, cy, s) τ G H locs) (hST : ST τ x y G) (hl : lv_has ls 7 [(0, .ref b), (1, .ref x), (2, .ref y), (3, .ref o), (4, .int i)]) (hf : cells + 8 ≤ room_1.cells ∧ slots + 48 ≤ room_1.slots) (kk : ∀ (G : gG) (H : Heap) (locs : List Loc) (ls : Array Slot), gHw (D, cy, s) τ G H locs → ST τ x y G → lv_has ls 7 [(0, .ref b), (1, .ref x), (2, .ref y), (3, .ref o), (4, .int i)] → W p l e room_1 s m #[Value.ref b] below meth c H locs (cells + 8) (slots + 48) Q (F0 m 2614 ls [])) (a : Int32) : W p l e room_1 s m #[Value.ref b] below meth c H locs cells slots Q (F0 m 40 ls [.int a]) := by
  have fx := F.1
  by_cases hc0 : a = 0
  · refine lv_tableIn (tgt := 232) fx.1 fx.2.1 dL_law__40 (by rw [hc0]; decide) (by rw [hc0]; decide) (by rw [hc0]; rfl) (by decide) ?_
    exact lz_0 F A1 A2 A3 A4 A5 hw hST hl hf kk
  by_cases hc1 : a = 1
  · refine lv_tableIn (tgt := 305) fx.1 fx.2.1 dL_law__40 (by rw [hc1]; decide) (by rw [hc1]; decide) (by rw [hc1]; rfl) (by decide) ?_
    exact lz_1 F A1 A2 A3 A4 A5 hw hST hl hf kk
  by_cases hc2 : a = 2
  · refine lv_tableIn (tgt := 330) fx.1 fx.2.1 dL_law__40 (by rw [hc2]; decide) (by rw [hc2]; decide) (by rw [hc2]; rfl) (by decide) ?_
    exact lz_2 F A1 A2 A3 A4 A5 hw hST hl hf kk
  by_cases hc3 : a = 3
  · refine lv_tableIn (tgt := 374) fx.1 fx.2.1 dL_law__40 (by rw [hc3]; decide) (by rw [hc3]; decide) (by rw [hc3]; rfl) (by decide) ?_
    exact lz_3 F A1 A2 A3 A4 A5 hw hST hl hf kk
  by_cases hc4 : a = 4
  · refine lv_tableIn (tgt := 418) fx.1 fx.2.1 dL_law__40 (by rw [hc4]; decide) (by rw [hc4]; decide) (by rw [hc4]; rfl) (by decide) ?_
    exact lz_4 F A1 A2 A3 A4 A5 hw hST hl hf kk
  by_cases hc5 : a = 5
  · refine lv_tableIn (tgt := 431) fx.1 fx.2.1 dL_law__40 (by rw [hc5]; decide) (by rw [hc5]; decide) (by rw [hc5]; rfl) (by decide) ?_
    exact lz_5 F A1 A2 A3 A4 A5 hw hST hl hf kk
  by_cases hc6 : a = 6
  · refine lv_tableIn (tgt := 499) fx.1 fx.2.1 dL_law__40 (by rw [hc6]; decide) (by rw [hc6]; decide) (by rw [hc6]; rfl) (by decide) ?_
    exact lz_6 F A1 A2 A3 A4 A5 hw hST hl hf kk
  by_cases hc7 : a = 7
  · refine lv_tableIn (tgt := 567) fx.1 fx.2.1 dL_law__40 (by rw [hc7]; decide) (by rw [hc7]; decide) (by rw [hc7]; rfl) (by decide) ?_
    exact lz_7 F A1 A2 A3 A4 A5 hw hST hl hf kk
  by_cases hc8 : a = 8
  · refine lv_tableIn (tgt := 635) fx.1 fx.2.1 dL_law__40 (by rw [hc8]; decide) (by rw [hc8]; decide) (by rw [hc8]; rfl) (by decide) ?_
    exact lz_8 F A1 A2 A3 A4 A5 hw hST hl hf kk
  by_cases hc9 : a = 9
  · refine lv_tableIn (tgt := 727) fx.1 fx.2.1 dL_law__40 (by rw [hc9]; decide) (by rw [hc9]; decide) (by rw [hc9]; rfl) (by decide) ?_
    exact lz_9 F A1 A2 A3 A4 A5 hw hST hl hf kk
  by_cases hc10 : a = 10
  · refine lv_tableIn (tgt := 819) fx.1 fx.2.1 dL_law__40 (by rw [hc10]; decide) (by rw [hc10]; decide) (by rw [hc10]; rfl) (by decide) ?_
    exact lz_10 F A1 A2 A3 A4 A5 hw hST hl hf kk
  by_cases hc11 : a = 11
  · refine lv_tableIn (tgt := 875) fx.1 fx.2.1 dL_law__40 (by rw [hc11]; decide) (by rw [hc11]; decide) (by rw [hc11]; rfl) (by decide) ?_
    exact lz_11 F A1 A2 A3 A4 A5 hw hST hl hf kk
  by_cases hc12 : a = 12
  · refine lv_tableIn (tgt := 938) fx.1 fx.2.1 dL_law__40 (by rw [hc12]; decide) (by rw [hc12]; decide) (by rw [hc12]; rfl) (by decide) ?_
    exact lz_12 F A1 A2 A3 A4 A5 hw hST hl hf kk
  by_cases hc13 : a = 13
  · refine lv_tableIn (tgt := 994) fx.1 fx.2.1 dL_law__40 (by rw [hc13]; decide) (by rw [hc13]; decide) (by rw [hc13]; rfl) (by decide) ?_
    exact lz_13 F A1 A2 A3 A4 A5 hw hST hl hf kk
  by_cases hc14 : a = 14
  · refine lv_tableIn (tgt := 1062) fx.1 fx.2.1 dL_law__40 (by rw [hc14]; decide) (by rw [hc14]; decide) (by rw [hc14]; rfl) (by decide) ?_
    exact lz_14 F A1 A2 A3 A4 A5 hw hST hl hf kk
  by_cases hc15 : a = 15
  · refine lv_tableIn (tgt := 1130) fx.1 fx.2.1 dL_law__40 (by rw [hc15]; decide) (by rw [hc15]; decide) (by rw [hc15]; rfl) (by decide) ?_
    exact lz_15 F A1 A2 A3 A4 A5 hw hST hl hf kk
  by_cases hc16 : a = 16
  · refine lv_tableIn (tgt := 1198) fx.1 fx.2.1 dL_law__40 (by rw [hc16]; decide) (by rw [hc16]; decide) (by rw [hc16]; rfl) (by decide) ?_
    exact lz_16 F A1 A2 A3 A4 A5 hw hST hl hf kk
  by_cases hc17 : a = 17
  · refine lv_tableIn (tgt := 1254) fx.1 fx.2.1 dL_law__40 (by rw [hc17]; decide) (by rw [hc17]; decide) (by rw [hc17]; rfl) (by decide) ?_
    exact lz_17 F A1 A2 A3 A4 A5 hw hST hl hf kk
  by_cases hc18 : a = 18
  · refine lv_tableIn (tgt := 1310) fx.1 fx.2.1 dL_law__40 (by rw [hc18]; decide) (by rw [hc18]; decide) (by rw [hc18]; rfl) (by decide) ?_
    exact lz_18 F A1 A2 A3 A4 A5 hw hST hl hf kk
  by_cases hc19 : a = 19
  · refine lv_tableIn (tgt := 1366) fx.1 fx.2.1 dL_law__40 (by rw [hc19]; decide) (by rw [hc19]; decide) (by rw [hc19]; rfl) (by decide) ?_
    exact lz_19 F A1 A2 A3 A4 A5 hw hST hl hf kk
  by_cases hc20 : a = 20
  · refine lv_tableIn (tgt := 1422) fx.1 fx.2.1 dL_law__40 (by rw [hc20]; decide) (by rw [hc20]; decide) (by rw [hc20]; rfl) (by decide) ?_
    exact lz_20 F A1 A2 A3 A4 A5 hw hST hl hf kk
  by_cases hc21 : a = 21
  · refine lv_tableIn (tgt := 1463) fx.1 fx.2.1 dL_law__40 (by rw [hc21]; decide) (by rw [hc21]; decide) (by rw [hc21]; rfl) (by decide) ?_
    exact lz_21 F A1 A2 A3 A4 A5 hw hST hl hf kk
  by_cases hc22 : a = 22
  · refine lv_tableIn (tgt := 1504) fx.1 fx.2.1 dL_law__40 (by rw [hc22]; decide) (by rw [hc22]; decide) (by rw [hc22]; rfl) (by decide) ?_
    exact lz_22 F A1 A2 A3 A4 A5 hw hST hl hf kk
  by_cases hc23 : a = 23
  · refine lv_tableIn (tgt := 1588) fx.1 fx.2.1 dL_law__40 (by rw [hc23]; decide) (by rw [hc23]; decide) (by rw [hc23]; rfl) (by decide) ?_
    exact lz_23 F A1 A2 A3 A4 A5 hw hST hl hf kk
  by_cases hc24 : a = 24
  · refine lv_tableIn (tgt := 1644) fx.1 fx.2.1 dL_law__40 (by rw [hc24]; decide) (by rw [hc24]; decide) (by rw [hc24]; rfl) (by decide) ?_
    exact lz_24 F A1 A2 A3 A4 A5 hw hST hl hf kk
  by_cases hc25 : a = 25
  · refine lv_tableIn (tgt := 1724) fx.1 fx.2.1 dL_law__40 (by rw [hc25]; decide) (by rw [hc25]; decide) (by rw [hc25]; rfl) (by decide) ?_
    exact lz_25 F A1 A2 A3 A4 A5 hw hST hl hf kk
  by_cases hc26 : a = 26
  · refine lv_tableIn (tgt := 1811) fx.1 fx.2.1 dL_law__40 (by rw [hc26]; decide) (by rw [hc26]; decide) (by rw [hc26]; rfl) (by decide) ?_
    exact lz_26 F A1 A2 A3 A4 A5 hw hST hl hf kk
  by_cases hc27 : a = 27
  · refine lv_tableIn (tgt := 1891) fx.1 fx.2.1 dL_law__40 (by rw [hc27]; decide) (by rw [hc27]; decide) (by rw [hc27]; rfl) (by decide) ?_
    exact lz_27 F A1 A2 A3 A4 A5 hw hST hl hf kk
  by_cases hc28 : a = 28
  · refine lv_tableIn (tgt := 1975) fx.1 fx.2.1 dL_law__40 (by rw [hc28]; decide) (by rw [hc28]; decide) (by rw [hc28]; rfl) (by decide) ?_
    exact lz_28 F A1 A2 A3 A4 A5 hw hST hl hf kk
  by_cases hc29 : a = 29
  · refine lv_tableIn (tgt := 2043) fx.1 fx.2.1 dL_law__40 (by rw [hc29]; decide) (by rw [hc29]; decide) (by rw [hc29]; rfl) (by decide) ?_
    exact lz_29 F A1 A2 A3 A4 A5 hw hST hl hf kk
  by_cases hc30 : a = 30
  · refine lv_tableIn (tgt := 2056) fx.1 fx.2.1 dL_law__40 (by rw [hc30]; decide) (by rw [hc30]; decide) (by rw [hc30]; rfl) (by decide) ?_
    exact lz_30 F A1 A2 A3 A4 A5 hw hST hl hf kk
  by_cases hc31 : a = 31
  · refine lv_tableIn (tgt := 2069) fx.1 fx.2.1 dL_law__40 (by rw [hc31]; decide) (by rw [hc31]; decide) (by rw [hc31]; rfl) (by decide) ?_
    exact lz_31 F A1 A2 A3 A4 A5 hw hST hl hf kk
  by_cases hc32 : a = 32
  · refine lv_tableIn (tgt := 2125) fx.1 fx.2.1 dL_law__40 (by rw [hc32]; decide) (by rw [hc32]; decide) (by rw [hc32]; rfl) (by decide) ?_
    exact lz_32 F A1 A2 A3 A4 A5 hw hST hl hf kk
  by_cases hc33 : a = 33
  · refine lv_tableIn (tgt := 2138) fx.1 fx.2.1 dL_law__40 (by rw [hc33]; decide) (by rw [hc33]; decide) (by rw [hc33]; rfl) (by decide) ?_
    exact lz_33 F A1 A2 A3 A4 A5 hw hST hl hf kk
  by_cases hc34 : a = 34
  · refine lv_tableIn (tgt := 2151) fx.1 fx.2.1 dL_law__40 (by rw [hc34]; decide) (by rw [hc34]; decide) (by rw [hc34]; rfl) (by decide) ?_
    exact lz_34 F A1 A2 A3 A4 A5 hw hST hl hf kk
  by_cases hc35 : a = 35
  · refine lv_tableIn (tgt := 2207) fx.1 fx.2.1 dL_law__40 (by rw [hc35]; decide) (by rw [hc35]; decide) (by rw [hc35]; rfl) (by decide) ?_
    exact lz_35 F A1 A2 A3 A4 A5 hw hST hl hf kk
  by_cases hc36 : a = 36
  · refine lv_tableIn (tgt := 2291) fx.1 fx.2.1 dL_law__40 (by rw [hc36]; decide) (by rw [hc36]; decide) (by rw [hc36]; rfl) (by decide) ?_
    exact lz_36 F A1 A2 A3 A4 A5 hw hST hl hf kk
  by_cases hc37 : a = 37
  · refine lv_tableIn (tgt := 2375) fx.1 fx.2.1 dL_law__40 (by rw [hc37]; decide) (by rw [hc37]; decide) (by rw [hc37]; rfl) (by decide) ?_
    exact lz_37 F A1 A2 A3 A4 A5 hw hST hl hf kk
  by_cases hc38 : a = 38
  · refine lv_tableIn (tgt := 2459) fx.1 fx.2.1 dL_law__40 (by rw [hc38]; decide) (by rw [hc38]; decide) (by rw [hc38]; rfl) (by decide) ?_
    exact lz_38 F A1 A2 A3 A4 A5 hw hST hl hf kk
  by_cases hc39 : a = 39
  · refine lv_tableIn (tgt := 2527) fx.1 fx.2.1 dL_law__40 (by rw [hc39]; decide) (by rw [hc39]; decide) (by rw [hc39]; rfl) (by decide) ?_
    exact lz_39 F A1 A2 A3 A4 A5 hw hST hl hf kk
  by_cases hc40 : a = 40
  · refine lv_tableIn (tgt := 2552) fx.1 fx.2.1 dL_law__40 (by rw [hc40]; decide) (by rw [hc40]; decide) (by rw [hc40]; rfl) (by decide) ?_
    exact lz_40 F A1 A2 A3 A4 A5 hw hST hl hf kk
  by_cases hc41 : a = 41
  · refine lv_tableIn (tgt := 2565) fx.1 fx.2.1 dL_law__40 (by rw [hc41]; decide) (by rw [hc41]; decide) (by rw [hc41]; rfl) (by decide) ?_
    exact lz_41 F A1 A2 A3 A4 A5 hw hST hl hf kk
  by_cases hc42 : a = 42
  · refine lv_tableIn (tgt := 2576) fx.1 fx.2.1 dL_law__40 (by rw [hc42]; decide) (by rw [hc42]; decide) (by rw [hc42]; rfl) (by decide) ?_
    exact lz_42 F A1 A2 A3 A4 A5 hw hST hl hf kk
  by_cases hc43 : a = 43
  · refine lv_tableIn (tgt := 2589) fx.1 fx.2.1 dL_law__40 (by rw [hc43]; decide) (by rw [hc43]; decide) (by rw [hc43]; rfl) (by decide) ?_
    exact lz_43 F A1 A2 A3 A4 A5 hw hST hl hf kk
  refine lv_tableOut (tgt := 2614) fx.1 fx.2.1 dL_law__40 (gOut 0 44 (by decide) (by decide) (by decide) (by decide) (fun j hj => ?_)) (by decide) ?_
  · match j, hj with
    | 0, _ => exact hc0
    | 1, _ => exact hc1
    | 2, _ => exact hc2
    | 3, _ => exact hc3
    | 4, _ => exact hc4
    | 5, _ => exact hc5
    | 6, _ => exact hc6
    | 7, _ => exact hc7
    | 8, _ => exact hc8
    | 9, _ => exact hc9
    | 10, _ => exact hc10
    | 11, _ => exact hc11
    | 12, _ => exact hc12
    | 13, _ => exact hc13
    | 14, _ => exact hc14
    | 15, _ => exact hc15
    | 16, _ => exact hc16
    | 17, _ => exact hc17
    | 18, _ => exact hc18
    | 19, _ => exact hc19
    | 20, _ => exact hc20
    | 21, _ => exact hc21
    | 22, _ => exact hc22
    | 23, _ => exact hc23
    | 24, _ => exact hc24
    | 25, _ => exact hc25
    | 26, _ => exact hc26
    | 27, _ => exact hc27
    | 28, _ => exact hc28
    | 29, _ => exact hc29
    | 30, _ => exact hc30
    | 31, _ => exact hc31
    | 32, _ => exact hc32
    | 33, _ => exact hc33
    | 34, _ => exact hc34
    | 35, _ => exact hc35
    | 36, _ => exact hc36
    | 37, _ => exact hc37
    | 38, _ => exact hc38
    | 39, _ => exact hc39
    | 40, _ => exact hc40
    | 41, _ => exact hc41
    | 42, _ => exact hc42
    | 43, _ => exact hc43
    | j + 44, hj => exact absurd hj (by omega)
  · refine W.widen (k := cells + 8) (n := slots + 48) (Nat.le_add_right _ _) (Nat.le_add_right _ _) ?_
    exact kk _ _ _ _ hw hST hl
set_option maxHeartbeats 4000000 in
set_option maxRecDepth 100000 in
theorem lz_loop (F : lz_F D cy p l s m meth c b L xs τ n x y o) (hL : L ≤ 3072) (hr : meth.sig.returnType = ret) (hlocks : meth.locks = false) : ∀ (k j : Nat), j + k = 513 → 6 * j ≤ L → ∀ (cells slots : Nat), cells + 8 * k ≤ 601024 → slots + 48 * k ≤ 7293034 → ∀ (G : gG) (H : Heap) (locs : List Loc) (ls : Array Slot), gHw (D, cy, s) τ G H locs → ST τ x y G → lv_has ls 7 [(0, .ref b), (1, .ref x), (2, .ref y), (3, .ref o), (4, .int (nI (6 * j)))] → W p l e room_1 s m #[Value.ref b] below meth c H locs cells slots (lw_Z below #[Value.ref b] s) (F0 m 23 ls []) := by
  intro k
  induction k with
  | zero =>
    intro j h1 h2
    exact absurd h2 (by omega)
  | succ k ih =>
    intro j h1 h2 cells slots h3 h4 G H locs ls hw hST hl
    obtain ⟨fx, hS, ⟨hX, hbl⟩, hk⟩ := id F
    have hvS : va_S (fun q : Nat => s.heap.size ≤ q) s.heap H locs := ⟨hw.1.2.2.1, fun q hq _ => hw.1.2.2.2 q hq, hw.2⟩
    refine lv_iload fx.1 fx.2.1 dL_law__23 (lv_at hl 4 rfl) ?_
    refine lv_aload_n fx.1 fx.2.1 dL_law__25 rfl (lv_at hl 0 rfl) ?_
    refine va_slen fx.1 fx.2.1 (A := fun q : Nat => s.heap.size ≤ q) hX hbl (Nat.not_le.mpr hbl) hvS dL_law__26 ?_
    refine lv_bipush (v := 6) fx.1 fx.2.1 dL_law__27 (by decide) ?_
    refine lv_isub fx.1 fx.2.1 dL_law__29 ?_
    refine lv_icmp_gt (tgt := 2620) fx.1 fx.2.1 dL_law__30 (by decide) (fun hc => ?_) (fun hc => ?_)
    · refine lv_iconst (v := 1) fx.1 fx.2.1 dL_law__2620 (by decide) ?_
      refine va_forget (fun q hq => hw.2 q hq) ?_
      refine W.widen (k := 601024) (n := 7293034) (by omega) (by omega) ?_
      exact lw_ret fx.1 fx.2.1 hr hlocks dL_law__2621
    · have h6 : 6 * j + 6 ≤ L := lz_le (by omega) (by omega) hc
      have e0 : lz_A L xs (nI (6 * j)) (nI 0) (xs (6 * j + 0)) := lz_ad (by omega) (by omega)
      refine lv_aload_n fx.1 fx.2.1 dL_law__33 rfl (lv_at hl 0 rfl) ?_
      refine lv_iload fx.1 fx.2.1 dL_law__34 (lv_at hl 4 rfl) ?_
      refine va_sld fx.1 fx.2.1 (A := fun q : Nat => s.heap.size ≤ q) hX hbl (Nat.not_le.mpr hbl) hvS (vp_in_nI (by omega) (by omega)) dL_law__36 ?_
      refine lv_bipush (v := 63) fx.1 fx.2.1 dL_law__37 (by decide) ?_
      refine lv_iand fx.1 fx.2.1 dL_law__39 ?_
      refine lz_sw F (lz_ad (j := 1) (by omega) (by omega)) (lz_ad (j := 2) (by omega) (by omega)) (lz_ad (j := 3) (by omega) (by omega)) (lz_ad (j := 4) (by omega) (by omega)) (lz_ad (j := 5) (by omega) (by omega)) hw hST hl ⟨Nat.le_trans (by omega) h3, Nat.le_trans (by omega) h4⟩ (fun G H locs ls hw hST hl => ?_) _
      refine lv_iinc (v := nI (6 * (j + 1))) (lv' := [(4, .int (nI (6 * (j + 1)))), (0, .ref b), (1, .ref x), (2, .ref y), (3, .ref o)]) fx.1 fx.2.1 dL_law__2614 hl (k := 4) rfl (by rw [show Int32.ofInt 6 = nI 6 from rfl, nI_add]; rfl) (by decide) rfl (fun ls hl => ?_)
      refine lv_goto (tgt := 23) fx.1 fx.2.1 dL_law__2617 (by decide) ?_
      exact ih (j + 1) (by omega) (by omega) (cells + 8) (slots + 48) (by omega) (by omega) G H locs ls hw hST (lv_sub hl [1, 2, 3, 4, 0] rfl)
end
