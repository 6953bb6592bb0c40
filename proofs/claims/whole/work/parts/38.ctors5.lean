theorem gnt_leB {τ : gτ} {z κ n : Nat} (h : gBd τ z) : gLe τ (gnt τ z κ n) := fun a q ha => by
  have := h a q ha
  unfold gnt
  rw [if_neg (by omega)]
  exact ha
theorem gBd.new {τ : gτ} {z κ n : Nat} (h : gBd τ z) : gBd (gnt τ z κ n) (z + 1) := fun a q ha => by
  unfold gnt at ha
  by_cases hz : a = z
  · omega
  · rw [if_neg hz] at ha
    have := h a q ha
    omega
theorem iT1_le {τ : gτ} {z : Nat} (h : gBd τ z) : gLe τ (iT_X1_init z τ) := by
  have h1 := h.new (κ := 13) (n := 12)
  have h2 := h1.new (κ := 13) (n := 12)
  have h3 := h2.new (κ := 13) (n := 12)
  have h4 := h3.new (κ := 13) (n := 400)
  have h5 := h4.new (κ := 13) (n := 11)
  exact (gnt_leB h).tr ((gnt_leB h1).tr ((gnt_leB h2).tr ((gnt_leB h3).tr ((gnt_leB h4).tr (gnt_leB h5)))))
theorem iT3_le {τ : gτ} {z : Nat} (h : gBd τ z) : gLe τ (iT_X3_init z τ) := (gnt_leB h).tr (mT_le h.new 12)
theorem dX10_init_0 : decode cX10_init 0 = .ok (.aload_n 0, 1) := by decide +kernel
theorem dX10_init_1 : decode cX10_init 1 = .ok (.invokespecial 1, 3) := by decide +kernel
theorem dX10_init_4 : decode cX10_init 4 = .ok (.aload_n 0, 1) := by decide +kernel
theorem dX10_init_5 : decode cX10_init 5 = .ok (.new 7, 3) := by decide +kernel
theorem dX10_init_8 : decode cX10_init 8 = .ok (.dup, 1) := by decide +kernel
theorem dX10_init_9 : decode cX10_init 9 = .ok (.invokespecial 9, 3) := by decide +kernel
theorem dX10_init_12 : decode cX10_init 12 = .ok (.putfield 10, 3) := by decide +kernel
theorem dX10_init_15 : decode cX10_init 15 = .ok (.aload_n 0, 1) := by decide +kernel
theorem dX10_init_16 : decode cX10_init 16 = .ok (.new 16, 3) := by decide +kernel
theorem dX10_init_19 : decode cX10_init 19 = .ok (.dup, 1) := by decide +kernel
theorem dX10_init_20 : decode cX10_init 20 = .ok (.aload_n 0, 1) := by decide +kernel
theorem dX10_init_21 : decode cX10_init 21 = .ok (.getfield 10, 3) := by decide +kernel
theorem dX10_init_24 : decode cX10_init 24 = .ok (.invokespecial 18, 3) := by decide +kernel
theorem dX10_init_27 : decode cX10_init 27 = .ok (.putfield 21, 3) := by decide +kernel
theorem dX10_init_30 : decode cX10_init 30 = .ok (.aload_n 0, 1) := by decide +kernel
theorem dX10_init_31 : decode cX10_init 31 = .ok (.new 25, 3) := by decide +kernel
theorem dX10_init_34 : decode cX10_init 34 = .ok (.dup, 1) := by decide +kernel
theorem dX10_init_35 : decode cX10_init 35 = .ok (.aload_n 0, 1) := by decide +kernel
theorem dX10_init_36 : decode cX10_init 36 = .ok (.getfield 10, 3) := by decide +kernel
theorem dX10_init_39 : decode cX10_init 39 = .ok (.invokespecial 27, 3) := by decide +kernel
theorem dX10_init_42 : decode cX10_init 42 = .ok (.putfield 28, 3) := by decide +kernel
theorem dX10_init_45 : decode cX10_init 45 = .ok (.aload_n 0, 1) := by decide +kernel
theorem dX10_init_46 : decode cX10_init 46 = .ok (.new 32, 3) := by decide +kernel
theorem dX10_init_49 : decode cX10_init 49 = .ok (.dup, 1) := by decide +kernel
theorem dX10_init_50 : decode cX10_init 50 = .ok (.invokespecial 34, 3) := by decide +kernel
theorem dX10_init_53 : decode cX10_init 53 = .ok (.putfield 35, 3) := by decide +kernel
theorem dX10_init_56 : decode cX10_init 56 = .ok (.aload_n 0, 1) := by decide +kernel
theorem dX10_init_57 : decode cX10_init 57 = .ok (.new 39, 3) := by decide +kernel
theorem dX10_init_60 : decode cX10_init 60 = .ok (.dup, 1) := by decide +kernel
theorem dX10_init_61 : decode cX10_init 61 = .ok (.invokespecial 41, 3) := by decide +kernel
theorem dX10_init_64 : decode cX10_init 64 = .ok (.putfield 42, 3) := by decide +kernel
theorem dX10_init_67 : decode cX10_init 67 = .ok (.aload_n 0, 1) := by decide +kernel
theorem dX10_init_68 : decode cX10_init 68 = .ok (.new 46, 3) := by decide +kernel
theorem dX10_init_71 : decode cX10_init 71 = .ok (.dup, 1) := by decide +kernel
theorem dX10_init_72 : decode cX10_init 72 = .ok (.invokespecial 48, 3) := by decide +kernel
theorem dX10_init_75 : decode cX10_init 75 = .ok (.putfield 49, 3) := by decide +kernel
theorem dX10_init_78 : decode cX10_init 78 = .ok (.aload_n 0, 1) := by decide +kernel
theorem dX10_init_79 : decode cX10_init 79 = .ok (.new 53, 3) := by decide +kernel
theorem dX10_init_82 : decode cX10_init 82 = .ok (.dup, 1) := by decide +kernel
theorem dX10_init_83 : decode cX10_init 83 = .ok (.invokespecial 55, 3) := by decide +kernel
theorem dX10_init_86 : decode cX10_init 86 = .ok (.putfield 56, 3) := by decide +kernel
theorem dX10_init_89 : decode cX10_init 89 = .ok (.aload_n 0, 1) := by decide +kernel
theorem dX10_init_90 : decode cX10_init 90 = .ok (.sipush 256, 3) := by decide +kernel
theorem dX10_init_93 : decode cX10_init 93 = .ok (.newarray .int, 2) := by decide +kernel
theorem dX10_init_95 : decode cX10_init 95 = .ok (.putfield 60, 3) := by decide +kernel
theorem dX10_init_98 : decode cX10_init 98 = .ok (.aload_n 0, 1) := by decide +kernel
theorem dX10_init_99 : decode cX10_init 99 = .ok (.sipush 256, 3) := by decide +kernel
theorem dX10_init_102 : decode cX10_init 102 = .ok (.newarray .int, 2) := by decide +kernel
theorem dX10_init_104 : decode cX10_init 104 = .ok (.putfield 64, 3) := by decide +kernel
theorem dX10_init_107 : decode cX10_init 107 = .ok (.aload_n 0, 1) := by decide +kernel
theorem dX10_init_108 : decode cX10_init 108 = .ok (.bipush 10, 2) := by decide +kernel
theorem dX10_init_110 : decode cX10_init 110 = .ok (.newarray .int, 2) := by decide +kernel
theorem dX10_init_112 : decode cX10_init 112 = .ok (.putfield 67, 3) := by decide +kernel
theorem dX10_init_115 : decode cX10_init 115 = .ok (.aload_n 0, 1) := by decide +kernel
theorem dX10_init_116 : decode cX10_init 116 = .ok (.new 39, 3) := by decide +kernel
theorem dX10_init_119 : decode cX10_init 119 = .ok (.dup, 1) := by decide +kernel
theorem dX10_init_120 : decode cX10_init 120 = .ok (.invokespecial 41, 3) := by decide +kernel
theorem dX10_init_123 : decode cX10_init 123 = .ok (.putfield 70, 3) := by decide +kernel
theorem dX10_init_126 : decode cX10_init 126 = .ok (.aload_n 0, 1) := by decide +kernel
theorem dX10_init_127 : decode cX10_init 127 = .ok (.new 39, 3) := by decide +kernel
theorem dX10_init_130 : decode cX10_init 130 = .ok (.dup, 1) := by decide +kernel
theorem dX10_init_131 : decode cX10_init 131 = .ok (.invokespecial 41, 3) := by decide +kernel
theorem dX10_init_134 : decode cX10_init 134 = .ok (.putfield 73, 3) := by decide +kernel
theorem dX10_init_137 : decode cX10_init 137 = .ok (.aload_n 0, 1) := by decide +kernel
theorem dX10_init_138 : decode cX10_init 138 = .ok (.new 46, 3) := by decide +kernel
theorem dX10_init_141 : decode cX10_init 141 = .ok (.dup, 1) := by decide +kernel
theorem dX10_init_142 : decode cX10_init 142 = .ok (.invokespecial 48, 3) := by decide +kernel
theorem dX10_init_145 : decode cX10_init 145 = .ok (.putfield 76, 3) := by decide +kernel
theorem dX10_init_148 : decode cX10_init 148 = .ok (.aload_n 0, 1) := by decide +kernel
theorem dX10_init_149 : decode cX10_init 149 = .ok (.new 46, 3) := by decide +kernel
theorem dX10_init_152 : decode cX10_init 152 = .ok (.dup, 1) := by decide +kernel
theorem dX10_init_153 : decode cX10_init 153 = .ok (.invokespecial 48, 3) := by decide +kernel
theorem dX10_init_156 : decode cX10_init 156 = .ok (.putfield 79, 3) := by decide +kernel
theorem dX10_init_159 : decode cX10_init 159 = .ok (.return_, 1) := by decide +kernel
theorem lo_RX10_1 : Cond.methodLink RX10 1 Lib.objectInit ∈ wA := wA_t (wt1 (List.mem_of_getElem? (i := 33) (by decide +kernel))) (by decide +kernel)
theorem ln_RX10_7 : gLn RX10 7 7 6 := ⟨(RX7, TX7, 6), rfl, rfl, wA_t (wt1 (List.mem_of_getElem? (i := 36) (by decide +kernel))) (by decide +kernel), wA_t (wt1 (List.mem_of_getElem? (i := 37) (by decide +kernel))) (by decide +kernel), wA_t (wt1 (List.mem_of_getElem? (i := 2) (by decide +kernel))) (by decide +kernel)⟩
theorem li_X7_init : gLi yX7_init cX7_init 1 0 := ⟨wA_t (wt1 (List.mem_of_getElem? (i := 40) (by decide +kernel))) (by decide +kernel), wA_t (wt1 (List.mem_of_getElem? (i := 2) (by decide +kernel))) (by decide +kernel), wA_t (wt1 (List.mem_of_getElem? (i := 39) (by decide +kernel))) (by decide +kernel), rfl, by decide +kernel, by decide +kernel, by decide +kernel⟩
theorem lmn_RX10_9 : Cond.methodLinkNest RX10 9 yX7_init RX10 ∈ lw_tbl := List.mem_append_right _ (wt1 (List.mem_of_getElem? (i := 38) (by decide +kernel)))
theorem lq_RX10_10 : gLq RX10 10 10 0 := ⟨(RX10, TX10, 15), rfl, by decide, wA_t (wt2 (List.mem_of_getElem? (i := 126) (by decide +kernel))) (by decide +kernel), rfl, rfl, rfl⟩
theorem ln_RX10_16 : gLn RX10 16 8 2 := ⟨(RX8, TX8, 2), rfl, rfl, wA_t (wt1 (List.mem_of_getElem? (i := 66) (by decide +kernel))) (by decide +kernel), wA_t (wt1 (List.mem_of_getElem? (i := 67) (by decide +kernel))) (by decide +kernel), wA_t (wt1 (List.mem_of_getElem? (i := 3) (by decide +kernel))) (by decide +kernel)⟩
theorem li_X8_init : gLi yX8_init cX8_init 2 1 := ⟨wA_t (wt1 (List.mem_of_getElem? (i := 70) (by decide +kernel))) (by decide +kernel), wA_t (wt1 (List.mem_of_getElem? (i := 3) (by decide +kernel))) (by decide +kernel), wA_t (wt1 (List.mem_of_getElem? (i := 69) (by decide +kernel))) (by decide +kernel), rfl, by decide +kernel, by decide +kernel, by decide +kernel⟩
theorem lml_RX10_18 : Cond.methodLink RX10 18 yX8_init ∈ wA := wA_t (wt1 (List.mem_of_getElem? (i := 68) (by decide +kernel))) (by decide +kernel)
theorem lq_RX10_21 : gLq RX10 21 10 1 := ⟨(RX10, TX10, 15), rfl, by decide, wA_t (wt2 (List.mem_of_getElem? (i := 127) (by decide +kernel))) (by decide +kernel), rfl, rfl, rfl⟩
theorem ln_RX10_25 : gLn RX10 25 2 2 := ⟨(RX2, TX2, 2), rfl, rfl, wA_t (wt1 (List.mem_of_getElem? (i := 79) (by decide +kernel))) (by decide +kernel), wA_t (wt1 (List.mem_of_getElem? (i := 80) (by decide +kernel))) (by decide +kernel), wA_t (wt1 (List.mem_of_getElem? (i := 4) (by decide +kernel))) (by decide +kernel)⟩
theorem li_X2_init : gLi yX2_init cX2_init 2 1 := ⟨wA_t (wt1 (List.mem_of_getElem? (i := 83) (by decide +kernel))) (by decide +kernel), wA_t (wt1 (List.mem_of_getElem? (i := 4) (by decide +kernel))) (by decide +kernel), wA_t (wt1 (List.mem_of_getElem? (i := 82) (by decide +kernel))) (by decide +kernel), rfl, by decide +kernel, by decide +kernel, by decide +kernel⟩
theorem lml_RX10_27 : Cond.methodLink RX10 27 yX2_init ∈ wA := wA_t (wt1 (List.mem_of_getElem? (i := 81) (by decide +kernel))) (by decide +kernel)
theorem lq_RX10_28 : gLq RX10 28 10 2 := ⟨(RX10, TX10, 15), rfl, by decide, wA_t (wt2 (List.mem_of_getElem? (i := 128) (by decide +kernel))) (by decide +kernel), rfl, rfl, rfl⟩
theorem ln_RX10_32 : gLn RX10 32 3 3 := ⟨(RX3, TX3, 3), rfl, rfl, wA_t (wt1 (List.mem_of_getElem? (i := 92) (by decide +kernel))) (by decide +kernel), wA_t (wt1 (List.mem_of_getElem? (i := 93) (by decide +kernel))) (by decide +kernel), wA_t (wt1 (List.mem_of_getElem? (i := 5) (by decide +kernel))) (by decide +kernel)⟩
theorem li_X3_init : gLi yX3_init cX3_init 2 0 := ⟨wA_t (wt1 (List.mem_of_getElem? (i := 96) (by decide +kernel))) (by decide +kernel), wA_t (wt1 (List.mem_of_getElem? (i := 5) (by decide +kernel))) (by decide +kernel), wA_t (wt1 (List.mem_of_getElem? (i := 95) (by decide +kernel))) (by decide +kernel), rfl, by decide +kernel, by decide +kernel, by decide +kernel⟩
theorem lml_RX10_34 : Cond.methodLink RX10 34 yX3_init ∈ wA := wA_t (wt1 (List.mem_of_getElem? (i := 94) (by decide +kernel))) (by decide +kernel)
theorem lq_RX10_35 : gLq RX10 35 10 3 := ⟨(RX10, TX10, 15), rfl, by decide, wA_t (wt2 (List.mem_of_getElem? (i := 129) (by decide +kernel))) (by decide +kernel), rfl, rfl, rfl⟩
theorem ln_RX10_39 : gLn RX10 39 6 15 := ⟨(RX6, TX6, 15), rfl, rfl, wA_t (wt2 (List.mem_of_getElem? (i := 85) (by decide +kernel))) (by decide +kernel), wA_t (wt1 (List.mem_of_getElem? (i := 100) (by decide +kernel))) (by decide +kernel), wA_t (wt1 (List.mem_of_getElem? (i := 6) (by decide +kernel))) (by decide +kernel)⟩
theorem lml_RX10_41 : Cond.methodLink RX10 41 yX6_init ∈ wA := wA_t (wt2 (List.mem_of_getElem? (i := 86) (by decide +kernel))) (by decide +kernel)
theorem lq_RX10_42 : gLq RX10 42 10 4 := ⟨(RX10, TX10, 15), rfl, by decide, wA_t (wt2 (List.mem_of_getElem? (i := 130) (by decide +kernel))) (by decide +kernel), rfl, rfl, rfl⟩
theorem ln_RX10_46 : gLn RX10 46 1 9 := ⟨(RX1, TX1, 9), rfl, rfl, wA_t (wt2 (List.mem_of_getElem? (i := 87) (by decide +kernel))) (by decide +kernel), wA_t (wt2 (List.mem_of_getElem? (i := 88) (by decide +kernel))) (by decide +kernel), wA_t (wt1 (List.mem_of_getElem? (i := 11) (by decide +kernel))) (by decide +kernel)⟩
theorem li_X1_init : gLi yX1_init cX1_init 1 0 := ⟨wA_t (wt2 (List.mem_of_getElem? (i := 91) (by decide +kernel))) (by decide +kernel), wA_t (wt1 (List.mem_of_getElem? (i := 11) (by decide +kernel))) (by decide +kernel), wA_t (wt2 (List.mem_of_getElem? (i := 90) (by decide +kernel))) (by decide +kernel), rfl, by decide +kernel, by decide +kernel, by decide +kernel⟩
theorem lmn_RX10_48 : Cond.methodLinkNest RX10 48 yX1_init RX10 ∈ lw_tbl := List.mem_append_right _ (wt2 (List.mem_of_getElem? (i := 89) (by decide +kernel)))
theorem lq_RX10_49 : gLq RX10 49 10 5 := ⟨(RX10, TX10, 15), rfl, by decide, wA_t (wt2 (List.mem_of_getElem? (i := 131) (by decide +kernel))) (by decide +kernel), rfl, rfl, rfl⟩
theorem ln_RX10_53 : gLn RX10 53 5 10 := ⟨(RX5, TX5, 10), rfl, rfl, wA_t (wt2 (List.mem_of_getElem? (i := 124) (by decide +kernel))) (by decide +kernel), wA_t (wt1 (List.mem_of_getElem? (i := 157) (by decide +kernel))) (by decide +kernel), wA_t (wt1 (List.mem_of_getElem? (i := 9) (by decide +kernel))) (by decide +kernel)⟩
theorem lmn_RX10_55 : Cond.methodLinkNest RX10 55 yX5_init RX10 ∈ lw_tbl := List.mem_append_right _ (wt2 (List.mem_of_getElem? (i := 125) (by decide +kernel)))
theorem lq_RX10_56 : gLq RX10 56 10 6 := ⟨(RX10, TX10, 15), rfl, by decide, wA_t (wt2 (List.mem_of_getElem? (i := 132) (by decide +kernel))) (by decide +kernel), rfl, rfl, rfl⟩
theorem lq_RX10_60 : gLq RX10 60 10 7 := ⟨(RX10, TX10, 15), rfl, by decide, wA_t (wt2 (List.mem_of_getElem? (i := 133) (by decide +kernel))) (by decide +kernel), rfl, rfl, rfl⟩
theorem lq_RX10_64 : gLq RX10 64 10 8 := ⟨(RX10, TX10, 15), rfl, by decide, wA_t (wt2 (List.mem_of_getElem? (i := 134) (by decide +kernel))) (by decide +kernel), rfl, rfl, rfl⟩
theorem lq_RX10_67 : gLq RX10 67 10 9 := ⟨(RX10, TX10, 15), rfl, by decide, wA_t (wt2 (List.mem_of_getElem? (i := 135) (by decide +kernel))) (by decide +kernel), rfl, rfl, rfl⟩
def rm_X10_init : Room := { frames := 4, cells := 511, slots := 9741, locals := 200 }
def iT10_1 (z : Nat) (τ : gτ) : gτ := iT_X7_init (z + 1) (gnt (τ) z 7 0)
def iG10_1 (z x0 : Nat) (G : gG) : gG := gsr (iG_X7_init (z + 1) z  (gnw (G) z)) 10 0 x0 (some z)
def iT10_2 (z : Nat) (τ : gτ) : gτ := iT_X8_init (z + 3) (gnt (iT10_1 z τ) (z + 2) 8 0)
def iG10_2 (z x0 : Nat) (G : gG) : gG := gsr (iG_X8_init (z + 3) (z + 2) z (gnw (iG10_1 z x0 G) (z + 2))) 10 1 x0 (some (z + 2))
def iT10_3 (z : Nat) (τ : gτ) : gτ := iT_X2_init (z + 4) (gnt (iT10_2 z τ) (z + 3) 2 0)
def iG10_3 (z x0 : Nat) (G : gG) : gG := gsr (iG_X2_init (z + 4) (z + 3) z (gnw (iG10_2 z x0 G) (z + 3))) 10 2 x0 (some (z + 3))
def iT10_4 (z : Nat) (τ : gτ) : gτ := iT_X3_init (z + 5) (gnt (iT10_3 z τ) (z + 4) 3 0)
def iG10_4 (z x0 : Nat) (G : gG) : gG := gsr (iG_X3_init (z + 5) (z + 4)  (gnw (iG10_3 z x0 G) (z + 4))) 10 3 x0 (some (z + 4))
def iT10_5 (z : Nat) (τ : gτ) : gτ := iT_X6_init (z + 391) (gnt (iT10_4 z τ) (z + 390) 6 0)
def iG10_5 (z x0 : Nat) (G : gG) : gG := gsr (iG_X6_init (z + 391) (z + 390)  (gnw (iG10_4 z x0 G) (z + 390))) 10 4 x0 (some (z + 390))
def iT10_6 (z : Nat) (τ : gτ) : gτ := iT_X1_init (z + 423) (gnt (iT10_5 z τ) (z + 422) 1 0)
def iG10_6 (z x0 : Nat) (G : gG) : gG := gsr (iG_X1_init (z + 423) (z + 422)  (gnw (iG10_5 z x0 G) (z + 422))) 10 5 x0 (some (z + 422))
def iT10_7 (z : Nat) (τ : gτ) : gτ := iT_X5_init (z + 430) (gnt (iT10_6 z τ) (z + 429) 5 0)
def iG10_7 (z x0 : Nat) (G : gG) : gG := gsr (iG_X5_init (z + 430) (z + 429)  (gnw (iG10_6 z x0 G) (z + 429))) 10 6 x0 (some (z + 429))
def iT10_8 (z : Nat) (τ : gτ) : gτ := gnt (iT10_7 z τ) (z + 430) 13 256
def iG10_8 (z x0 : Nat) (G : gG) : gG := gsr (gnw (iG10_7 z x0 G) (z + 430)) 10 7 x0 (some (z + 430))
def iT10_9 (z : Nat) (τ : gτ) : gτ := gnt (iT10_8 z τ) (z + 431) 13 256
def iG10_9 (z x0 : Nat) (G : gG) : gG := gsr (gnw (iG10_8 z x0 G) (z + 431)) 10 8 x0 (some (z + 431))
def iT10_10 (z : Nat) (τ : gτ) : gτ := gnt (iT10_9 z τ) (z + 432) 13 10
def iG10_10 (z x0 : Nat) (G : gG) : gG := gsr (gnw (iG10_9 z x0 G) (z + 432)) 10 9 x0 (some (z + 432))
def iT10_11 (z : Nat) (τ : gτ) : gτ := iT_X6_init (z + 434) (gnt (iT10_10 z τ) (z + 433) 6 0)
def iG10_11 (z x0 : Nat) (G : gG) : gG := gsr (iG_X6_init (z + 434) (z + 433)  (gnw (iG10_10 z x0 G) (z + 433))) 10 10 x0 (some (z + 433))
def iT10_12 (z : Nat) (τ : gτ) : gτ := iT_X6_init (z + 466) (gnt (iT10_11 z τ) (z + 465) 6 0)
def iG10_12 (z x0 : Nat) (G : gG) : gG := gsr (iG_X6_init (z + 466) (z + 465)  (gnw (iG10_11 z x0 G) (z + 465))) 10 11 x0 (some (z + 465))
def iT10_13 (z : Nat) (τ : gτ) : gτ := iT_X1_init (z + 498) (gnt (iT10_12 z τ) (z + 497) 1 0)
def iG10_13 (z x0 : Nat) (G : gG) : gG := gsr (iG_X1_init (z + 498) (z + 497)  (gnw (iG10_12 z x0 G) (z + 497))) 10 12 x0 (some (z + 497))
def iT10_14 (z : Nat) (τ : gτ) : gτ := iT_X1_init (z + 505) (gnt (iT10_13 z τ) (z + 504) 1 0)
def iG10_14 (z x0 : Nat) (G : gG) : gG := gsr (iG_X1_init (z + 505) (z + 504)  (gnw (iG10_13 z x0 G) (z + 504))) 10 13 x0 (some (z + 504))
def iT_X10_init (z : Nat) (τ : gτ) : gτ := iT10_14 z τ
def iG_X10_init (z x0 : Nat) (G : gG) : gG := iG10_14 z x0 G
set_option maxHeartbeats 4000000 in
set_option maxRecDepth 100000 in
theorem c_X10_init (l : Launch) (X : gX) (hS : gS0 l X) (x0 : Nat) (τ : gτ) (G : gG) (z : Nat) (h0 : gK τ x0 10) : gMC l X yX10_init cX10_init 1 rm_X10_init [.ref x0] τ G z (iT_X10_init z τ) (iG_X10_init z x0 G) (z + 511) := by
  refine g_bodyC (by decide +kernel) (Nat.le_of_ble_eq_true rfl) ?_
  intro p e s m args below meth c ls fx hr hin hw hz hl
  have fx : gFx X p s m args meth c cX10_init 1 RX10 := fx
  have hl : lv_has ls 1 [(0, .ref x0)] := hl
  have hlt : x0 < z := by obtain ⟨n, hn⟩ := h0; have := hw.1.lt hn; omega
  have hne : ∀ k, x0 ≠ z + k := fun k => by omega
  have hne0 : x0 ≠ z := by omega
  show W p l e rm_X10_init s m args below meth c s.heap [] 0 0 (MQ below (gQC X (iT_X10_init z τ) (iG_X10_init z x0 G) (z + 511)) args s 511 9741 (gFree X)) _
  refine lv_aload_n fx.1 fx.2.1 dX10_init_0 rfl (lv_at hl 0 rfl) ?_
  refine W.objInit fx.1 fx.2.1 fx.2.2.2.1 (fx.2.2.2.2.1 _ lo_RX10_1) (fx.2.2.2.2.1 _ lo_inst) (fx.2.2.2.2.1 _ lo_code) rfl (hl.1.trans fx.2.2.1.symm) rfl dX10_init_1 (Nat.le_of_ble_eq_true rfl) (Nat.le_of_ble_eq_true rfl) ?_
  refine W.eq (g2 := F0 m 4 ls []) rfl ?_
  refine lv_aload_n fx.1 fx.2.1 dX10_init_4 rfl (lv_at hl 0 rfl) ?_
  refine gc_new fx hw hz ln_RX10_7 ⟨Nat.le_of_ble_eq_true rfl, Nat.le_of_ble_eq_true rfl⟩ dX10_init_5 (fun H hle hw hz => ?_)
  have hz : H.size = z + 1 := hz
  have h0 := gK.up hle h0
  have hbd := gBd.of hw hz
  refine lv_dup fx.1 fx.2.1 dX10_init_8 rfl ?_
  refine gc_callIN (As := []) (rest := [.ref z, .ref x0]) fx hS hw hz (c_X7_init l X hS z  _ _ (z + 1) gnt_new) li_X7_init lmn_RX10_9 rfl hl.1 rfl ⟨Nat.le_of_ble_eq_true rfl, Nat.le_of_ble_eq_true rfl⟩ (Nat.le_of_ble_eq_true rfl) ⟨Nat.le_of_ble_eq_true rfl, Nat.le_of_ble_eq_true rfl⟩ dX10_init_9 (fun H locs hw hz => ?_)
  have hz : H.size = z + 2 := hz
  have hle2 : gLe (gnt (τ) z 7 0) (iT_X7_init (z + 1) (gnt (τ) z 7 0)) := gnt_leB hbd
  have h0 := gK.up hle2 h0
  have hk := gK.up hle2 (gnt_new (τ := τ) (z := z) (κ := 7) (n := 0))
  refine gc_putF fx hin hw hz h0 lq_RX10_10 rfl ⟨rfl, rfl⟩ hk dX10_init_12 (fun H locs hw hz => ?_)
  have hw : gHw X (iT10_1 z τ) (iG10_1 z x0 G) H locs := hw
  have h0 : gK (iT10_1 z τ) x0 10 := h0
  have hk7 : gK (iT10_1 z τ) z 7 := hk
  refine lv_aload_n fx.1 fx.2.1 dX10_init_15 rfl (lv_at hl 0 rfl) ?_
  refine gc_new fx hw hz ln_RX10_16 ⟨Nat.le_of_ble_eq_true rfl, Nat.le_of_ble_eq_true rfl⟩ dX10_init_16 (fun H hle hw hz => ?_)
  have hz : H.size = z + 3 := hz
  have h0 := gK.up hle h0
  have hbd := gBd.of hw hz
  refine lv_dup fx.1 fx.2.1 dX10_init_19 rfl ?_
  refine lv_aload_n fx.1 fx.2.1 dX10_init_20 rfl (lv_at hl 0 rfl) ?_
  refine gc_getk fx hw h0 lf_RX10_10 rfl (b := z) (by simp [iG10_1, iG_X7_init, iG_X8_init, gr, gsr, gnw, gsi, gse, hne, hne0]) dX10_init_21 ?_
  have hk7 := gK.up hle hk7
  refine gc_callI (As := [.ref z]) (rest := [.ref (z + 2), .ref x0]) fx hw hz (c_X8_init l X hS (z + 2) z _ _ (z + 3) gnt_new hk7) li_X8_init lml_RX10_18 rfl hl.1 rfl ⟨Nat.le_of_ble_eq_true rfl, Nat.le_of_ble_eq_true rfl⟩ (Nat.le_of_ble_eq_true rfl) ⟨Nat.le_of_ble_eq_true rfl, Nat.le_of_ble_eq_true rfl⟩ dX10_init_24 (fun H locs hw hz => ?_)
  have hz : H.size = z + 3 := hz
  have hle2 : gLe (gnt (iT10_1 z τ) (z + 2) 8 0) (iT_X8_init (z + 3) (gnt (iT10_1 z τ) (z + 2) 8 0)) := gLe.rf
  have h0 := gK.up hle2 h0
  have hk := gK.up hle2 (gnt_new (τ := iT10_1 z τ) (z := (z + 2)) (κ := 8) (n := 0))
  have hk7 := gK.up hle2 hk7
  refine gc_putF fx hin hw hz h0 lq_RX10_21 rfl ⟨rfl, rfl⟩ hk dX10_init_27 (fun H locs hw hz => ?_)
  have hw : gHw X (iT10_2 z τ) (iG10_2 z x0 G) H locs := hw
  have h0 : gK (iT10_2 z τ) x0 10 := h0
  have hk7 : gK (iT10_2 z τ) z 7 := hk7
  refine lv_aload_n fx.1 fx.2.1 dX10_init_30 rfl (lv_at hl 0 rfl) ?_
  refine gc_new fx hw hz ln_RX10_25 ⟨Nat.le_of_ble_eq_true rfl, Nat.le_of_ble_eq_true rfl⟩ dX10_init_31 (fun H hle hw hz => ?_)
  have hz : H.size = z + 4 := hz
  have h0 := gK.up hle h0
  have hbd := gBd.of hw hz
  refine lv_dup fx.1 fx.2.1 dX10_init_34 rfl ?_
  refine lv_aload_n fx.1 fx.2.1 dX10_init_35 rfl (lv_at hl 0 rfl) ?_
  refine gc_getk fx hw h0 lf_RX10_10 rfl (b := z) (by simp [iG10_2, iG10_1, iG_X7_init, iG_X8_init, gr, gsr, gnw, gsi, gse, hne, hne0]) dX10_init_36 ?_
  have hk7 := gK.up hle hk7
  refine gc_callI (As := [.ref z]) (rest := [.ref (z + 3), .ref x0]) fx hw hz (c_X2_init l X hS (z + 3) z _ _ (z + 4) gnt_new hk7) li_X2_init lml_RX10_27 rfl hl.1 rfl ⟨Nat.le_of_ble_eq_true rfl, Nat.le_of_ble_eq_true rfl⟩ (Nat.le_of_ble_eq_true rfl) ⟨Nat.le_of_ble_eq_true rfl, Nat.le_of_ble_eq_true rfl⟩ dX10_init_39 (fun H locs hw hz => ?_)
  have hz : H.size = z + 4 := hz
  have hle2 : gLe (gnt (iT10_2 z τ) (z + 3) 2 0) (iT_X2_init (z + 4) (gnt (iT10_2 z τ) (z + 3) 2 0)) := gLe.rf
  have h0 := gK.up hle2 h0
  have hk := gK.up hle2 (gnt_new (τ := iT10_2 z τ) (z := (z + 3)) (κ := 2) (n := 0))
  have hk7 := gK.up hle2 hk7
  refine gc_putF fx hin hw hz h0 lq_RX10_28 rfl ⟨rfl, rfl⟩ hk dX10_init_42 (fun H locs hw hz => ?_)
  have hw : gHw X (iT10_3 z τ) (iG10_3 z x0 G) H locs := hw
  have h0 : gK (iT10_3 z τ) x0 10 := h0
  have hk7 : gK (iT10_3 z τ) z 7 := hk7
  refine lv_aload_n fx.1 fx.2.1 dX10_init_45 rfl (lv_at hl 0 rfl) ?_
  refine gc_new fx hw hz ln_RX10_32 ⟨Nat.le_of_ble_eq_true rfl, Nat.le_of_ble_eq_true rfl⟩ dX10_init_46 (fun H hle hw hz => ?_)
  have hz : H.size = z + 5 := hz
  have h0 := gK.up hle h0
  have hbd := gBd.of hw hz
  refine lv_dup fx.1 fx.2.1 dX10_init_49 rfl ?_
  refine gc_callI (As := []) (rest := [.ref (z + 4), .ref x0]) fx hw hz (c_X3_init l X hS (z + 4)  _ _ (z + 5) gnt_new) li_X3_init lml_RX10_34 rfl hl.1 rfl ⟨Nat.le_of_ble_eq_true rfl, Nat.le_of_ble_eq_true rfl⟩ (Nat.le_of_ble_eq_true rfl) ⟨Nat.le_of_ble_eq_true rfl, Nat.le_of_ble_eq_true rfl⟩ dX10_init_50 (fun H locs hw hz => ?_)
  have hz : H.size = z + 390 := hz
  have hle2 : gLe (gnt (iT10_3 z τ) (z + 4) 3 0) (iT_X3_init (z + 5) (gnt (iT10_3 z τ) (z + 4) 3 0)) := iT3_le hbd
  have h0 := gK.up hle2 h0
  have hk := gK.up hle2 (gnt_new (τ := iT10_3 z τ) (z := (z + 4)) (κ := 3) (n := 0))
  refine gc_putF fx hin hw hz h0 lq_RX10_35 rfl ⟨rfl, rfl⟩ hk dX10_init_53 (fun H locs hw hz => ?_)
  have hw : gHw X (iT10_4 z τ) (iG10_4 z x0 G) H locs := hw
  have h0 : gK (iT10_4 z τ) x0 10 := h0
  refine lv_aload_n fx.1 fx.2.1 dX10_init_56 rfl (lv_at hl 0 rfl) ?_
  refine gc_new fx hw hz ln_RX10_39 ⟨Nat.le_of_ble_eq_true rfl, Nat.le_of_ble_eq_true rfl⟩ dX10_init_57 (fun H hle hw hz => ?_)
  have hz : H.size = z + 391 := hz
  have h0 := gK.up hle h0
  have hbd := gBd.of hw hz
  refine lv_dup fx.1 fx.2.1 dX10_init_60 rfl ?_
  refine gc_callI (As := []) (rest := [.ref (z + 390), .ref x0]) fx hw hz (c_X6_init l X hS (z + 390)  _ _ (z + 391) gnt_new) li_X6_init lml_RX10_41 rfl hl.1 rfl ⟨Nat.le_of_ble_eq_true rfl, Nat.le_of_ble_eq_true rfl⟩ (Nat.le_of_ble_eq_true rfl) ⟨Nat.le_of_ble_eq_true rfl, Nat.le_of_ble_eq_true rfl⟩ dX10_init_61 (fun H locs hw hz => ?_)
  have hz : H.size = z + 422 := hz
  have hle2 : gLe (gnt (iT10_4 z τ) (z + 390) 6 0) (iT_X6_init (z + 391) (gnt (iT10_4 z τ) (z + 390) 6 0)) := iT6_le hbd
  have h0 := gK.up hle2 h0
  have hk := gK.up hle2 (gnt_new (τ := iT10_4 z τ) (z := (z + 390)) (κ := 6) (n := 0))
  refine gc_putF fx hin hw hz h0 lq_RX10_42 rfl ⟨rfl, rfl⟩ hk dX10_init_64 (fun H locs hw hz => ?_)
  have hw : gHw X (iT10_5 z τ) (iG10_5 z x0 G) H locs := hw
  have h0 : gK (iT10_5 z τ) x0 10 := h0
  refine lv_aload_n fx.1 fx.2.1 dX10_init_67 rfl (lv_at hl 0 rfl) ?_
  refine gc_new fx hw hz ln_RX10_46 ⟨Nat.le_of_ble_eq_true rfl, Nat.le_of_ble_eq_true rfl⟩ dX10_init_68 (fun H hle hw hz => ?_)
  have hz : H.size = z + 423 := hz
  have h0 := gK.up hle h0
  have hbd := gBd.of hw hz
  refine lv_dup fx.1 fx.2.1 dX10_init_71 rfl ?_
  refine gc_callIN (As := []) (rest := [.ref (z + 422), .ref x0]) fx hS hw hz (c_X1_init l X hS (z + 422)  _ _ (z + 423) gnt_new) li_X1_init lmn_RX10_48 rfl hl.1 rfl ⟨Nat.le_of_ble_eq_true rfl, Nat.le_of_ble_eq_true rfl⟩ (Nat.le_of_ble_eq_true rfl) ⟨Nat.le_of_ble_eq_true rfl, Nat.le_of_ble_eq_true rfl⟩ dX10_init_72 (fun H locs hw hz => ?_)
  have hz : H.size = z + 429 := hz
  have hle2 : gLe (gnt (iT10_5 z τ) (z + 422) 1 0) (iT_X1_init (z + 423) (gnt (iT10_5 z τ) (z + 422) 1 0)) := iT1_le hbd
  have h0 := gK.up hle2 h0
  have hk := gK.up hle2 (gnt_new (τ := iT10_5 z τ) (z := (z + 422)) (κ := 1) (n := 0))
  refine gc_putF fx hin hw hz h0 lq_RX10_49 rfl ⟨rfl, rfl⟩ hk dX10_init_75 (fun H locs hw hz => ?_)
  have hw : gHw X (iT10_6 z τ) (iG10_6 z x0 G) H locs := hw
  have h0 : gK (iT10_6 z τ) x0 10 := h0
  refine lv_aload_n fx.1 fx.2.1 dX10_init_78 rfl (lv_at hl 0 rfl) ?_
  refine gc_new fx hw hz ln_RX10_53 ⟨Nat.le_of_ble_eq_true rfl, Nat.le_of_ble_eq_true rfl⟩ dX10_init_79 (fun H hle hw hz => ?_)
  have hz : H.size = z + 430 := hz
  have h0 := gK.up hle h0
  have hbd := gBd.of hw hz
  refine lv_dup fx.1 fx.2.1 dX10_init_82 rfl ?_
  refine gc_callIN (As := []) (rest := [.ref (z + 429), .ref x0]) fx hS hw hz (c_X5_init l X hS (z + 429)  _ _ (z + 430) gnt_new) li_X5_init lmn_RX10_55 rfl hl.1 rfl ⟨Nat.le_of_ble_eq_true rfl, Nat.le_of_ble_eq_true rfl⟩ (Nat.le_of_ble_eq_true rfl) ⟨Nat.le_of_ble_eq_true rfl, Nat.le_of_ble_eq_true rfl⟩ dX10_init_83 (fun H locs hw hz => ?_)
  have hz : H.size = z + 430 := hz
  have hle2 : gLe (gnt (iT10_6 z τ) (z + 429) 5 0) (iT_X5_init (z + 430) (gnt (iT10_6 z τ) (z + 429) 5 0)) := gLe.rf
  have h0 := gK.up hle2 h0
  have hk := gK.up hle2 (gnt_new (τ := iT10_6 z τ) (z := (z + 429)) (κ := 5) (n := 0))
  refine gc_putF fx hin hw hz h0 lq_RX10_56 rfl ⟨rfl, rfl⟩ hk dX10_init_86 (fun H locs hw hz => ?_)
  have hw : gHw X (iT10_7 z τ) (iG10_7 z x0 G) H locs := hw
  have h0 : gK (iT10_7 z τ) x0 10 := h0
  refine lv_aload_n fx.1 fx.2.1 dX10_init_89 rfl (lv_at hl 0 rfl) ?_
  refine lv_sipush (v := 256) fx.1 fx.2.1 dX10_init_90 (by decide) ?_
  refine gc_newI fx hw hz lac_int (N := 256) (by decide) (by decide) (by decide) ⟨Nat.le_of_ble_eq_true rfl, Nat.le_of_ble_eq_true rfl⟩ dX10_init_93 (fun H hle hw hz => ?_)
  have hz : H.size = z + 431 := hz
  have h0 := gK.up hle h0
  have hk := gnt_new (τ := iT10_7 z τ) (z := (z + 430)) (κ := 13) (n := 256)
  refine gc_putF fx hin hw hz h0 lq_RX10_60 rfl ⟨rfl, rfl⟩ hk dX10_init_95 (fun H locs hw hz => ?_)
  have hw : gHw X (iT10_8 z τ) (iG10_8 z x0 G) H locs := hw
  have h0 : gK (iT10_8 z τ) x0 10 := h0
  refine lv_aload_n fx.1 fx.2.1 dX10_init_98 rfl (lv_at hl 0 rfl) ?_
  refine lv_sipush (v := 256) fx.1 fx.2.1 dX10_init_99 (by decide) ?_
  refine gc_newI fx hw hz lac_int (N := 256) (by decide) (by decide) (by decide) ⟨Nat.le_of_ble_eq_true rfl, Nat.le_of_ble_eq_true rfl⟩ dX10_init_102 (fun H hle hw hz => ?_)
  have hz : H.size = z + 432 := hz
  have h0 := gK.up hle h0
  have hk := gnt_new (τ := iT10_8 z τ) (z := (z + 431)) (κ := 13) (n := 256)
  refine gc_putF fx hin hw hz h0 lq_RX10_64 rfl ⟨rfl, rfl⟩ hk dX10_init_104 (fun H locs hw hz => ?_)
  have hw : gHw X (iT10_9 z τ) (iG10_9 z x0 G) H locs := hw
  have h0 : gK (iT10_9 z τ) x0 10 := h0
  refine lv_aload_n fx.1 fx.2.1 dX10_init_107 rfl (lv_at hl 0 rfl) ?_
  refine lv_bipush (v := 10) fx.1 fx.2.1 dX10_init_108 (by decide) ?_
  refine gc_newI fx hw hz lac_int (N := 10) (by decide) (by decide) (by decide) ⟨Nat.le_of_ble_eq_true rfl, Nat.le_of_ble_eq_true rfl⟩ dX10_init_110 (fun H hle hw hz => ?_)
  have hz : H.size = z + 433 := hz
  have h0 := gK.up hle h0
  have hk := gnt_new (τ := iT10_9 z τ) (z := (z + 432)) (κ := 13) (n := 10)
  refine gc_putF fx hin hw hz h0 lq_RX10_67 rfl ⟨rfl, rfl⟩ hk dX10_init_112 (fun H locs hw hz => ?_)
  have hw : gHw X (iT10_10 z τ) (iG10_10 z x0 G) H locs := hw
  have h0 : gK (iT10_10 z τ) x0 10 := h0
  refine lv_aload_n fx.1 fx.2.1 dX10_init_115 rfl (lv_at hl 0 rfl) ?_
  refine gc_new fx hw hz ln_RX10_39 ⟨Nat.le_of_ble_eq_true rfl, Nat.le_of_ble_eq_true rfl⟩ dX10_init_116 (fun H hle hw hz => ?_)
  have hz : H.size = z + 434 := hz
  have h0 := gK.up hle h0
  have hbd := gBd.of hw hz
  refine lv_dup fx.1 fx.2.1 dX10_init_119 rfl ?_
  refine gc_callI (As := []) (rest := [.ref (z + 433), .ref x0]) fx hw hz (c_X6_init l X hS (z + 433)  _ _ (z + 434) gnt_new) li_X6_init lml_RX10_41 rfl hl.1 rfl ⟨Nat.le_of_ble_eq_true rfl, Nat.le_of_ble_eq_true rfl⟩ (Nat.le_of_ble_eq_true rfl) ⟨Nat.le_of_ble_eq_true rfl, Nat.le_of_ble_eq_true rfl⟩ dX10_init_120 (fun H locs hw hz => ?_)
  have hz : H.size = z + 465 := hz
  have hle2 : gLe (gnt (iT10_10 z τ) (z + 433) 6 0) (iT_X6_init (z + 434) (gnt (iT10_10 z τ) (z + 433) 6 0)) := iT6_le hbd
  have h0 := gK.up hle2 h0
  have hk := gK.up hle2 (gnt_new (τ := iT10_10 z τ) (z := (z + 433)) (κ := 6) (n := 0))
  refine gc_putr fx hw hz h0 lp_RX10_70 rfl ⟨rfl, rfl⟩ hk dX10_init_123 (fun H locs hw hz => ?_)
  have hw : gHw X (iT10_11 z τ) (iG10_11 z x0 G) H locs := hw
  have h0 : gK (iT10_11 z τ) x0 10 := h0
  refine lv_aload_n fx.1 fx.2.1 dX10_init_126 rfl (lv_at hl 0 rfl) ?_
  refine gc_new fx hw hz ln_RX10_39 ⟨Nat.le_of_ble_eq_true rfl, Nat.le_of_ble_eq_true rfl⟩ dX10_init_127 (fun H hle hw hz => ?_)
  have hz : H.size = z + 466 := hz
  have h0 := gK.up hle h0
  have hbd := gBd.of hw hz
  refine lv_dup fx.1 fx.2.1 dX10_init_130 rfl ?_
  refine gc_callI (As := []) (rest := [.ref (z + 465), .ref x0]) fx hw hz (c_X6_init l X hS (z + 465)  _ _ (z + 466) gnt_new) li_X6_init lml_RX10_41 rfl hl.1 rfl ⟨Nat.le_of_ble_eq_true rfl, Nat.le_of_ble_eq_true rfl⟩ (Nat.le_of_ble_eq_true rfl) ⟨Nat.le_of_ble_eq_true rfl, Nat.le_of_ble_eq_true rfl⟩ dX10_init_131 (fun H locs hw hz => ?_)
  have hz : H.size = z + 497 := hz
  have hle2 : gLe (gnt (iT10_11 z τ) (z + 465) 6 0) (iT_X6_init (z + 466) (gnt (iT10_11 z τ) (z + 465) 6 0)) := iT6_le hbd
  have h0 := gK.up hle2 h0
  have hk := gK.up hle2 (gnt_new (τ := iT10_11 z τ) (z := (z + 465)) (κ := 6) (n := 0))
  refine gc_putr fx hw hz h0 lp_RX10_73 rfl ⟨rfl, rfl⟩ hk dX10_init_134 (fun H locs hw hz => ?_)
  have hw : gHw X (iT10_12 z τ) (iG10_12 z x0 G) H locs := hw
  have h0 : gK (iT10_12 z τ) x0 10 := h0
  refine lv_aload_n fx.1 fx.2.1 dX10_init_137 rfl (lv_at hl 0 rfl) ?_
  refine gc_new fx hw hz ln_RX10_46 ⟨Nat.le_of_ble_eq_true rfl, Nat.le_of_ble_eq_true rfl⟩ dX10_init_138 (fun H hle hw hz => ?_)
  have hz : H.size = z + 498 := hz
  have h0 := gK.up hle h0
  have hbd := gBd.of hw hz
  refine lv_dup fx.1 fx.2.1 dX10_init_141 rfl ?_
  refine gc_callIN (As := []) (rest := [.ref (z + 497), .ref x0]) fx hS hw hz (c_X1_init l X hS (z + 497)  _ _ (z + 498) gnt_new) li_X1_init lmn_RX10_48 rfl hl.1 rfl ⟨Nat.le_of_ble_eq_true rfl, Nat.le_of_ble_eq_true rfl⟩ (Nat.le_of_ble_eq_true rfl) ⟨Nat.le_of_ble_eq_true rfl, Nat.le_of_ble_eq_true rfl⟩ dX10_init_142 (fun H locs hw hz => ?_)
  have hz : H.size = z + 504 := hz
  have hle2 : gLe (gnt (iT10_12 z τ) (z + 497) 1 0) (iT_X1_init (z + 498) (gnt (iT10_12 z τ) (z + 497) 1 0)) := iT1_le hbd
  have h0 := gK.up hle2 h0
  have hk := gK.up hle2 (gnt_new (τ := iT10_12 z τ) (z := (z + 497)) (κ := 1) (n := 0))
  refine gc_putr fx hw hz h0 lp_RX10_76 rfl ⟨rfl, rfl⟩ hk dX10_init_145 (fun H locs hw hz => ?_)
  have hw : gHw X (iT10_13 z τ) (iG10_13 z x0 G) H locs := hw
  have h0 : gK (iT10_13 z τ) x0 10 := h0
  refine lv_aload_n fx.1 fx.2.1 dX10_init_148 rfl (lv_at hl 0 rfl) ?_
  refine gc_new fx hw hz ln_RX10_46 ⟨Nat.le_of_ble_eq_true rfl, Nat.le_of_ble_eq_true rfl⟩ dX10_init_149 (fun H hle hw hz => ?_)
  have hz : H.size = z + 505 := hz
  have h0 := gK.up hle h0
  have hbd := gBd.of hw hz
  refine lv_dup fx.1 fx.2.1 dX10_init_152 rfl ?_
  refine gc_callIN (As := []) (rest := [.ref (z + 504), .ref x0]) fx hS hw hz (c_X1_init l X hS (z + 504)  _ _ (z + 505) gnt_new) li_X1_init lmn_RX10_48 rfl hl.1 rfl ⟨Nat.le_of_ble_eq_true rfl, Nat.le_of_ble_eq_true rfl⟩ (Nat.le_of_ble_eq_true rfl) ⟨Nat.le_of_ble_eq_true rfl, Nat.le_of_ble_eq_true rfl⟩ dX10_init_153 (fun H locs hw hz => ?_)
  have hz : H.size = z + 511 := hz
  have hle2 : gLe (gnt (iT10_13 z τ) (z + 504) 1 0) (iT_X1_init (z + 505) (gnt (iT10_13 z τ) (z + 504) 1 0)) := iT1_le hbd
  have h0 := gK.up hle2 h0
  have hk := gK.up hle2 (gnt_new (τ := iT10_13 z τ) (z := (z + 504)) (κ := 1) (n := 0))
  refine gc_putr fx hw hz h0 lp_RX10_79 rfl ⟨rfl, rfl⟩ hk dX10_init_156 (fun H locs hw hz => ?_)
  have hw : gHw X (iT10_14 z τ) (iG10_14 z x0 G) H locs := hw
  have h0 : gK (iT10_14 z τ) x0 10 := h0
  exact gc_vret fx hw hz hr dX10_init_159
