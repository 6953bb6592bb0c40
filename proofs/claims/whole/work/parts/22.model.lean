theorem dX11_count_0 : decode cX11_count 0 = .ok (.aload_n 0, 1) := by decide +kernel
theorem dX11_count_1 : decode cX11_count 1 = .ok (.iconst 0, 1) := by decide +kernel
theorem dX11_count_2 : decode cX11_count 2 = .ok (.putfield 3, 3) := by decide +kernel
theorem dX11_count_5 : decode cX11_count 5 = .ok (.iload_n 1, 1) := by decide +kernel
theorem dX11_count_6 : decode cX11_count 6 = .ok (.tableswitch 128 4 14 #[58, 128, 128, 128, 81, 86, 94, 102, 110, 115, 123], 58) := by decide +kernel
theorem dX11_count_64 : decode cX11_count 64 = .ok (.aload_n 0, 1) := by decide +kernel
theorem dX11_count_65 : decode cX11_count 65 = .ok (.getfield 13, 3) := by decide +kernel
theorem dX11_count_68 : decode cX11_count 68 = .ok (.iconst 4, 1) := by decide +kernel
theorem dX11_count_69 : decode cX11_count 69 = .ok (.iaload, 1) := by decide +kernel
theorem dX11_count_70 : decode cX11_count 70 = .ok (.iconst 1, 1) := by decide +kernel
theorem dX11_count_71 : decode cX11_count 71 = .ok (.if_icmp .ne 14, 3) := by decide +kernel
theorem dX11_count_74 : decode cX11_count 74 = .ok (.aload_n 0, 1) := by decide +kernel
theorem dX11_count_75 : decode cX11_count 75 = .ok (.getfield 13, 3) := by decide +kernel
theorem dX11_count_78 : decode cX11_count 78 = .ok (.sipush 467, 3) := by decide +kernel
theorem dX11_count_81 : decode cX11_count 81 = .ok (.iaload, 1) := by decide +kernel
theorem dX11_count_82 : decode cX11_count 82 = .ok (.goto 4, 3) := by decide +kernel
theorem dX11_count_85 : decode cX11_count 85 = .ok (.iconst (-1), 1) := by decide +kernel
theorem dX11_count_86 : decode cX11_count 86 = .ok (.ireturn, 1) := by decide +kernel
theorem dX11_count_87 : decode cX11_count 87 = .ok (.aload_n 0, 1) := by decide +kernel
theorem dX11_count_88 : decode cX11_count 88 = .ok (.invokevirtual 420, 3) := by decide +kernel
theorem dX11_count_91 : decode cX11_count 91 = .ok (.ireturn, 1) := by decide +kernel
theorem dX11_count_92 : decode cX11_count 92 = .ok (.aload_n 0, 1) := by decide +kernel
theorem dX11_count_93 : decode cX11_count 93 = .ok (.getfield 13, 3) := by decide +kernel
theorem dX11_count_96 : decode cX11_count 96 = .ok (.bipush 8, 2) := by decide +kernel
theorem dX11_count_98 : decode cX11_count 98 = .ok (.iaload, 1) := by decide +kernel
theorem dX11_count_99 : decode cX11_count 99 = .ok (.ireturn, 1) := by decide +kernel
theorem dX11_count_100 : decode cX11_count 100 = .ok (.aload_n 0, 1) := by decide +kernel
theorem dX11_count_101 : decode cX11_count 101 = .ok (.getfield 13, 3) := by decide +kernel
theorem dX11_count_104 : decode cX11_count 104 = .ok (.bipush 9, 2) := by decide +kernel
theorem dX11_count_106 : decode cX11_count 106 = .ok (.iaload, 1) := by decide +kernel
theorem dX11_count_107 : decode cX11_count 107 = .ok (.ireturn, 1) := by decide +kernel
theorem dX11_count_108 : decode cX11_count 108 = .ok (.aload_n 0, 1) := by decide +kernel
theorem dX11_count_109 : decode cX11_count 109 = .ok (.getfield 13, 3) := by decide +kernel
theorem dX11_count_112 : decode cX11_count 112 = .ok (.bipush 10, 2) := by decide +kernel
theorem dX11_count_114 : decode cX11_count 114 = .ok (.iaload, 1) := by decide +kernel
theorem dX11_count_115 : decode cX11_count 115 = .ok (.ireturn, 1) := by decide +kernel
theorem dX11_count_116 : decode cX11_count 116 = .ok (.aload_n 0, 1) := by decide +kernel
theorem dX11_count_117 : decode cX11_count 117 = .ok (.invokevirtual 429, 3) := by decide +kernel
theorem dX11_count_120 : decode cX11_count 120 = .ok (.ireturn, 1) := by decide +kernel
theorem dX11_count_121 : decode cX11_count 121 = .ok (.aload_n 0, 1) := by decide +kernel
theorem dX11_count_122 : decode cX11_count 122 = .ok (.getfield 13, 3) := by decide +kernel
theorem dX11_count_125 : decode cX11_count 125 = .ok (.bipush 11, 2) := by decide +kernel
theorem dX11_count_127 : decode cX11_count 127 = .ok (.iaload, 1) := by decide +kernel
theorem dX11_count_128 : decode cX11_count 128 = .ok (.ireturn, 1) := by decide +kernel
theorem dX11_count_129 : decode cX11_count 129 = .ok (.aload_n 0, 1) := by decide +kernel
theorem dX11_count_130 : decode cX11_count 130 = .ok (.getfield 52, 3) := by decide +kernel
theorem dX11_count_133 : decode cX11_count 133 = .ok (.ireturn, 1) := by decide +kernel
theorem dX11_count_134 : decode cX11_count 134 = .ok (.iload_n 1, 1) := by decide +kernel
theorem dX11_count_135 : decode cX11_count 135 = .ok (.iconst 0, 1) := by decide +kernel
theorem dX11_count_136 : decode cX11_count 136 = .ok (.bipush 7, 2) := by decide +kernel
theorem dX11_count_138 : decode cX11_count 138 = .ok (.invokestatic 69, 3) := by decide +kernel
theorem dX11_count_141 : decode cX11_count 141 = .ok (.ifCond .eq 12, 3) := by decide +kernel
theorem dX11_count_144 : decode cX11_count 144 = .ok (.aload_n 0, 1) := by decide +kernel
theorem dX11_count_145 : decode cX11_count 145 = .ok (.getfield 13, 3) := by decide +kernel
theorem dX11_count_148 : decode cX11_count 148 = .ok (.iload_n 1, 1) := by decide +kernel
theorem dX11_count_149 : decode cX11_count 149 = .ok (.iaload, 1) := by decide +kernel
theorem dX11_count_150 : decode cX11_count 150 = .ok (.goto 4, 3) := by decide +kernel
theorem dX11_count_153 : decode cX11_count 153 = .ok (.iconst (-1), 1) := by decide +kernel
theorem dX11_count_154 : decode cX11_count 154 = .ok (.ireturn, 1) := by decide +kernel
def rm_X11_count : Room := { frames := 5, cells := 0, slots := 0, locals := 106 }
def f_X11_count (τ : gτ) (n : Nat) (x0 : Nat) (x1 : Int32) (G : gG) : Option (Int32 × gG) :=
  gLet (gsi G 11 0 x0 (0 : Int32)) fun G1 =>
  if x1 = 4 then ((gr G1 11 1 x0).bind fun a2 =>
  gchk (gIn (4 : Int32) (gn τ a2)) <|
  if (ge G1 a2 (Int32.toNatClampNeg (4 : Int32))) = (1 : Int32) then ((gr G1 11 1 x0).bind fun a3 =>
  gchk (gIn (467 : Int32) (gn τ a3)) <|
  some (ge G1 a3 (Int32.toNatClampNeg (467 : Int32)), G1))
  else (some ((-1), G1)))
  else if x1 = 5 then ((f_X11_in x1 (0 : Int32) (7 : Int32)).bind fun v4 =>
  if v4 = 0 then (some ((-1), G1))
  else ((gr G1 11 1 x0).bind fun a5 =>
  gchk (gIn x1 (gn τ a5)) <|
  some (ge G1 a5 (Int32.toNatClampNeg x1), G1)))
  else if x1 = 6 then ((f_X11_in x1 (0 : Int32) (7 : Int32)).bind fun v6 =>
  if v6 = 0 then (some ((-1), G1))
  else ((gr G1 11 1 x0).bind fun a7 =>
  gchk (gIn x1 (gn τ a7)) <|
  some (ge G1 a7 (Int32.toNatClampNeg x1), G1)))
  else if x1 = 7 then ((f_X11_in x1 (0 : Int32) (7 : Int32)).bind fun v8 =>
  if v8 = 0 then (some ((-1), G1))
  else ((gr G1 11 1 x0).bind fun a9 =>
  gchk (gIn x1 (gn τ a9)) <|
  some (ge G1 a9 (Int32.toNatClampNeg x1), G1)))
  else if x1 = 8 then ((f_X11_allLoads τ n x0 G1).bind fun v10 =>
  some (v10, G1))
  else if x1 = 9 then ((gr G1 11 1 x0).bind fun a11 =>
  gchk (gIn (8 : Int32) (gn τ a11)) <|
  some (ge G1 a11 (Int32.toNatClampNeg (8 : Int32)), G1))
  else if x1 = 10 then ((gr G1 11 1 x0).bind fun a12 =>
  gchk (gIn (9 : Int32) (gn τ a12)) <|
  some (ge G1 a12 (Int32.toNatClampNeg (9 : Int32)), G1))
  else if x1 = 11 then ((gr G1 11 1 x0).bind fun a13 =>
  gchk (gIn (10 : Int32) (gn τ a13)) <|
  some (ge G1 a13 (Int32.toNatClampNeg (10 : Int32)), G1))
  else if x1 = 12 then ((f_X11_brokenOnes τ n x0 G1).bind fun v14 =>
  some (v14, G1))
  else if x1 = 13 then ((gr G1 11 1 x0).bind fun a15 =>
  gchk (gIn (11 : Int32) (gn τ a15)) <|
  some (ge G1 a15 (Int32.toNatClampNeg (11 : Int32)), G1))
  else if x1 = 14 then (some (gi G1 11 7 x0, G1))
  else ((f_X11_in x1 (0 : Int32) (7 : Int32)).bind fun v16 =>
  if v16 = 0 then (some ((-1), G1))
  else ((gr G1 11 1 x0).bind fun a17 =>
  gchk (gIn x1 (gn τ a17)) <|
  some (ge G1 a17 (Int32.toNatClampNeg x1), G1)))
set_option maxHeartbeats 4000000 in
set_option maxRecDepth 100000 in
theorem c_X11_count (l : Launch) (X : gX) (τ : gτ) (n : Nat) (x0 : Nat) (x1 : Int32) (G : gG) (h0 : gK τ x0 11) {r : Int32} {G' : gG} (h : f_X11_count τ n x0 x1 G = some (r, G')) : gM l X τ yX11_count cX11_count 2 (some .int) rm_X11_count [.ref x0, .int x1] G (some (.int r)) G' := by
  refine g_body (by decide +kernel) (Nat.le_of_ble_eq_true rfl) ?_
  intro p e s m args below meth c ls fx hr hw hl
  have fx : gFx X p s m args meth c cX11_count 2 RX11 := fx
  have hl : lv_has ls 2 [(0, .ref x0), (1, .int x1)] := hl
  have hok : gOk (f_X11_count τ n x0 x1 G) (fun q => q = (r, G')) := ⟨_, h, rfl⟩
  unfold f_X11_count at hok
  show W p l e rm_X11_count s m args below meth c s.heap [] 0 0 (MQ below (gQ X τ (some (.int r)) G') args s 0 0 (gFree X)) _
  refine lv_aload_n fx.1 fx.2.1 dX11_count_0 rfl (lv_at hl 0 rfl) ?_
  refine lv_iconst (v := 0) fx.1 fx.2.1 dX11_count_1 (by decide) ?_
  refine g_puti fx hw h0 lp_RX11_3 rfl rfl dX11_count_2 hok (fun G1 H locs hw hok => ?_)
  refine lv_iload_n fx.1 fx.2.1 dX11_count_5 rfl (lv_at hl 1 rfl) ?_
  by_cases hc0 : x1 = 4
  · have hok := gOk_t hok hc0
    refine lv_tableIn (tgt := 64) fx.1 fx.2.1 dX11_count_6 (by rw [hc0]; decide) (by rw [hc0]; decide) (by rw [hc0]; rfl) (by decide) ?_
    refine lv_aload_n fx.1 fx.2.1 dX11_count_64 rfl (lv_at hl 0 rfl) ?_
    refine g_getr fx hw h0 lf_RX11_13 rfl dX11_count_65 hok (fun a2 h_a2 hok => ?_)
    refine lv_iconst (v := 4) fx.1 fx.2.1 dX11_count_68 (by decide) ?_
    refine g_iald fx hw h_a2 dX11_count_69 hok (fun hok => ?_)
    refine lv_iconst (v := 1) fx.1 fx.2.1 dX11_count_70 (by decide) ?_
    refine g_icmp_ne (tgt := 85) fx dX11_count_71 (by decide) hok (fun hok => ?_) (fun hok => ?_)
    · refine lv_aload_n fx.1 fx.2.1 dX11_count_74 rfl (lv_at hl 0 rfl) ?_
      refine g_getr fx hw h0 lf_RX11_13 rfl dX11_count_75 hok (fun a3 h_a3 hok => ?_)
      refine lv_sipush (v := 467) fx.1 fx.2.1 dX11_count_78 (by decide) ?_
      refine g_iald fx hw h_a3 dX11_count_81 hok (fun hok => ?_)
      refine lv_goto (tgt := 86) fx.1 fx.2.1 dX11_count_82 (by decide) ?_
      cases gOk_some hok
      exact g_iret fx hw hr dX11_count_86
    · refine lv_iconst (v := (-1)) fx.1 fx.2.1 dX11_count_85 (by decide) ?_
      cases gOk_some hok
      exact g_iret fx hw hr dX11_count_86
  have hok := gOk_f hok hc0
  by_cases hc1 : x1 = 5
  · have hok := gOk_t hok hc1
    refine lv_tableIn (tgt := 134) fx.1 fx.2.1 dX11_count_6 (by rw [hc1]; decide) (by rw [hc1]; decide) (by rw [hc1]; rfl) (by decide) ?_
    refine lv_iload_n fx.1 fx.2.1 dX11_count_134 rfl (lv_at hl 1 rfl) ?_
    refine lv_iconst (v := 0) fx.1 fx.2.1 dX11_count_135 (by decide) ?_
    refine lv_bipush (v := 7) fx.1 fx.2.1 dX11_count_136 (by decide) ?_
    obtain ⟨v4, hf, hok⟩ := gOk_bind hok
    refine g_callS0 fx hw (c_X11_in l X τ x1 (0 : Int32) (7 : Int32) G1  hf) ls_RX11_69 ⟨rfl, rfl⟩ rfl hl.1 rfl ⟨Nat.le_of_ble_eq_true rfl, Nat.le_of_ble_eq_true rfl⟩ (Nat.le_of_ble_eq_true rfl) ⟨Nat.le_of_ble_eq_true rfl, Nat.le_of_ble_eq_true rfl⟩ dX11_count_138 (fun H locs hw => ?_)
    refine g_if_eq (tgt := 153) fx dX11_count_141 (by decide) hok (fun hok => ?_) (fun hok => ?_)
    · refine lv_iconst (v := (-1)) fx.1 fx.2.1 dX11_count_153 (by decide) ?_
      cases gOk_some hok
      exact g_iret fx hw hr dX11_count_154
    · refine lv_aload_n fx.1 fx.2.1 dX11_count_144 rfl (lv_at hl 0 rfl) ?_
      refine g_getr fx hw h0 lf_RX11_13 rfl dX11_count_145 hok (fun a5 h_a5 hok => ?_)
      refine lv_iload_n fx.1 fx.2.1 dX11_count_148 rfl (lv_at hl 1 rfl) ?_
      refine g_iald fx hw h_a5 dX11_count_149 hok (fun hok => ?_)
      refine lv_goto (tgt := 154) fx.1 fx.2.1 dX11_count_150 (by decide) ?_
      cases gOk_some hok
      exact g_iret fx hw hr dX11_count_154
  have hok := gOk_f hok hc1
  by_cases hc2 : x1 = 6
  · have hok := gOk_t hok hc2
    refine lv_tableIn (tgt := 134) fx.1 fx.2.1 dX11_count_6 (by rw [hc2]; decide) (by rw [hc2]; decide) (by rw [hc2]; rfl) (by decide) ?_
    refine lv_iload_n fx.1 fx.2.1 dX11_count_134 rfl (lv_at hl 1 rfl) ?_
    refine lv_iconst (v := 0) fx.1 fx.2.1 dX11_count_135 (by decide) ?_
    refine lv_bipush (v := 7) fx.1 fx.2.1 dX11_count_136 (by decide) ?_
    obtain ⟨v6, hf, hok⟩ := gOk_bind hok
    refine g_callS0 fx hw (c_X11_in l X τ x1 (0 : Int32) (7 : Int32) G1  hf) ls_RX11_69 ⟨rfl, rfl⟩ rfl hl.1 rfl ⟨Nat.le_of_ble_eq_true rfl, Nat.le_of_ble_eq_true rfl⟩ (Nat.le_of_ble_eq_true rfl) ⟨Nat.le_of_ble_eq_true rfl, Nat.le_of_ble_eq_true rfl⟩ dX11_count_138 (fun H locs hw => ?_)
    refine g_if_eq (tgt := 153) fx dX11_count_141 (by decide) hok (fun hok => ?_) (fun hok => ?_)
    · refine lv_iconst (v := (-1)) fx.1 fx.2.1 dX11_count_153 (by decide) ?_
      cases gOk_some hok
      exact g_iret fx hw hr dX11_count_154
    · refine lv_aload_n fx.1 fx.2.1 dX11_count_144 rfl (lv_at hl 0 rfl) ?_
      refine g_getr fx hw h0 lf_RX11_13 rfl dX11_count_145 hok (fun a7 h_a7 hok => ?_)
      refine lv_iload_n fx.1 fx.2.1 dX11_count_148 rfl (lv_at hl 1 rfl) ?_
      refine g_iald fx hw h_a7 dX11_count_149 hok (fun hok => ?_)
      refine lv_goto (tgt := 154) fx.1 fx.2.1 dX11_count_150 (by decide) ?_
      cases gOk_some hok
      exact g_iret fx hw hr dX11_count_154
  have hok := gOk_f hok hc2
  by_cases hc3 : x1 = 7
  · have hok := gOk_t hok hc3
    refine lv_tableIn (tgt := 134) fx.1 fx.2.1 dX11_count_6 (by rw [hc3]; decide) (by rw [hc3]; decide) (by rw [hc3]; rfl) (by decide) ?_
    refine lv_iload_n fx.1 fx.2.1 dX11_count_134 rfl (lv_at hl 1 rfl) ?_
    refine lv_iconst (v := 0) fx.1 fx.2.1 dX11_count_135 (by decide) ?_
    refine lv_bipush (v := 7) fx.1 fx.2.1 dX11_count_136 (by decide) ?_
    obtain ⟨v8, hf, hok⟩ := gOk_bind hok
    refine g_callS0 fx hw (c_X11_in l X τ x1 (0 : Int32) (7 : Int32) G1  hf) ls_RX11_69 ⟨rfl, rfl⟩ rfl hl.1 rfl ⟨Nat.le_of_ble_eq_true rfl, Nat.le_of_ble_eq_true rfl⟩ (Nat.le_of_ble_eq_true rfl) ⟨Nat.le_of_ble_eq_true rfl, Nat.le_of_ble_eq_true rfl⟩ dX11_count_138 (fun H locs hw => ?_)
    refine g_if_eq (tgt := 153) fx dX11_count_141 (by decide) hok (fun hok => ?_) (fun hok => ?_)
    · refine lv_iconst (v := (-1)) fx.1 fx.2.1 dX11_count_153 (by decide) ?_
      cases gOk_some hok
      exact g_iret fx hw hr dX11_count_154
    · refine lv_aload_n fx.1 fx.2.1 dX11_count_144 rfl (lv_at hl 0 rfl) ?_
      refine g_getr fx hw h0 lf_RX11_13 rfl dX11_count_145 hok (fun a9 h_a9 hok => ?_)
      refine lv_iload_n fx.1 fx.2.1 dX11_count_148 rfl (lv_at hl 1 rfl) ?_
      refine g_iald fx hw h_a9 dX11_count_149 hok (fun hok => ?_)
      refine lv_goto (tgt := 154) fx.1 fx.2.1 dX11_count_150 (by decide) ?_
      cases gOk_some hok
      exact g_iret fx hw hr dX11_count_154
  have hok := gOk_f hok hc3
  by_cases hc4 : x1 = 8
  · have hok := gOk_t hok hc4
    refine lv_tableIn (tgt := 87) fx.1 fx.2.1 dX11_count_6 (by rw [hc4]; decide) (by rw [hc4]; decide) (by rw [hc4]; rfl) (by decide) ?_
    refine lv_aload_n fx.1 fx.2.1 dX11_count_87 rfl (lv_at hl 0 rfl) ?_
    obtain ⟨v10, hf, hok⟩ := gOk_bind hok
    refine g_callV0 (κ := 11) fx hw (c_X11_allLoads l X τ n x0 G1 h0 hf) lv_RX11_420 ⟨rfl, rfl⟩ rfl rfl h0 rfl hl.1 rfl ⟨Nat.le_of_ble_eq_true rfl, Nat.le_of_ble_eq_true rfl⟩ (Nat.le_of_ble_eq_true rfl) ⟨Nat.le_of_ble_eq_true rfl, Nat.le_of_ble_eq_true rfl⟩ dX11_count_88 (fun H locs hw => ?_)
    cases gOk_some hok
    exact g_iret fx hw hr dX11_count_91
  have hok := gOk_f hok hc4
  by_cases hc5 : x1 = 9
  · have hok := gOk_t hok hc5
    refine lv_tableIn (tgt := 92) fx.1 fx.2.1 dX11_count_6 (by rw [hc5]; decide) (by rw [hc5]; decide) (by rw [hc5]; rfl) (by decide) ?_
    refine lv_aload_n fx.1 fx.2.1 dX11_count_92 rfl (lv_at hl 0 rfl) ?_
    refine g_getr fx hw h0 lf_RX11_13 rfl dX11_count_93 hok (fun a11 h_a11 hok => ?_)
    refine lv_bipush (v := 8) fx.1 fx.2.1 dX11_count_96 (by decide) ?_
    refine g_iald fx hw h_a11 dX11_count_98 hok (fun hok => ?_)
    cases gOk_some hok
    exact g_iret fx hw hr dX11_count_99
  have hok := gOk_f hok hc5
  by_cases hc6 : x1 = 10
  · have hok := gOk_t hok hc6
    refine lv_tableIn (tgt := 100) fx.1 fx.2.1 dX11_count_6 (by rw [hc6]; decide) (by rw [hc6]; decide) (by rw [hc6]; rfl) (by decide) ?_
    refine lv_aload_n fx.1 fx.2.1 dX11_count_100 rfl (lv_at hl 0 rfl) ?_
    refine g_getr fx hw h0 lf_RX11_13 rfl dX11_count_101 hok (fun a12 h_a12 hok => ?_)
    refine lv_bipush (v := 9) fx.1 fx.2.1 dX11_count_104 (by decide) ?_
    refine g_iald fx hw h_a12 dX11_count_106 hok (fun hok => ?_)
    cases gOk_some hok
    exact g_iret fx hw hr dX11_count_107
  have hok := gOk_f hok hc6
  by_cases hc7 : x1 = 11
  · have hok := gOk_t hok hc7
    refine lv_tableIn (tgt := 108) fx.1 fx.2.1 dX11_count_6 (by rw [hc7]; decide) (by rw [hc7]; decide) (by rw [hc7]; rfl) (by decide) ?_
    refine lv_aload_n fx.1 fx.2.1 dX11_count_108 rfl (lv_at hl 0 rfl) ?_
    refine g_getr fx hw h0 lf_RX11_13 rfl dX11_count_109 hok (fun a13 h_a13 hok => ?_)
    refine lv_bipush (v := 10) fx.1 fx.2.1 dX11_count_112 (by decide) ?_
    refine g_iald fx hw h_a13 dX11_count_114 hok (fun hok => ?_)
    cases gOk_some hok
    exact g_iret fx hw hr dX11_count_115
  have hok := gOk_f hok hc7
  by_cases hc8 : x1 = 12
  · have hok := gOk_t hok hc8
    refine lv_tableIn (tgt := 116) fx.1 fx.2.1 dX11_count_6 (by rw [hc8]; decide) (by rw [hc8]; decide) (by rw [hc8]; rfl) (by decide) ?_
    refine lv_aload_n fx.1 fx.2.1 dX11_count_116 rfl (lv_at hl 0 rfl) ?_
    obtain ⟨v14, hf, hok⟩ := gOk_bind hok
    refine g_callV0 (κ := 11) fx hw (c_X11_brokenOnes l X τ n x0 G1 h0 hf) lv_RX11_429 ⟨rfl, rfl⟩ rfl rfl h0 rfl hl.1 rfl ⟨Nat.le_of_ble_eq_true rfl, Nat.le_of_ble_eq_true rfl⟩ (Nat.le_of_ble_eq_true rfl) ⟨Nat.le_of_ble_eq_true rfl, Nat.le_of_ble_eq_true rfl⟩ dX11_count_117 (fun H locs hw => ?_)
    cases gOk_some hok
    exact g_iret fx hw hr dX11_count_120
  have hok := gOk_f hok hc8
  by_cases hc9 : x1 = 13
  · have hok := gOk_t hok hc9
    refine lv_tableIn (tgt := 121) fx.1 fx.2.1 dX11_count_6 (by rw [hc9]; decide) (by rw [hc9]; decide) (by rw [hc9]; rfl) (by decide) ?_
    refine lv_aload_n fx.1 fx.2.1 dX11_count_121 rfl (lv_at hl 0 rfl) ?_
    refine g_getr fx hw h0 lf_RX11_13 rfl dX11_count_122 hok (fun a15 h_a15 hok => ?_)
    refine lv_bipush (v := 11) fx.1 fx.2.1 dX11_count_125 (by decide) ?_
    refine g_iald fx hw h_a15 dX11_count_127 hok (fun hok => ?_)
    cases gOk_some hok
    exact g_iret fx hw hr dX11_count_128
  have hok := gOk_f hok hc9
  by_cases hc10 : x1 = 14
  · have hok := gOk_t hok hc10
    refine lv_tableIn (tgt := 129) fx.1 fx.2.1 dX11_count_6 (by rw [hc10]; decide) (by rw [hc10]; decide) (by rw [hc10]; rfl) (by decide) ?_
    refine lv_aload_n fx.1 fx.2.1 dX11_count_129 rfl (lv_at hl 0 rfl) ?_
    refine g_geti fx hw h0 lf_RX11_52 rfl dX11_count_130 ?_
    cases gOk_some hok
    exact g_iret fx hw hr dX11_count_133
  have hok := gOk_f hok hc10
  refine lv_tableOut (tgt := 134) fx.1 fx.2.1 dX11_count_6 (gOut 4 11 (by decide) (by decide) (by decide) (by decide) (fun j hj => ?_)) (by decide) ?_
  · match j, hj with
    | 0, _ => exact hc0
    | 1, _ => exact hc1
    | 2, _ => exact hc2
    | 3, _ => exact hc3
    | 4, _ => exact hc4
    | 5, _ => exact hc5
    | 6, _ => exact hc6
    | 7, _ => exact hc7
    | 8, _ => exact hc8
    | 9, _ => exact hc9
    | 10, _ => exact hc10
  · refine lv_iload_n fx.1 fx.2.1 dX11_count_134 rfl (lv_at hl 1 rfl) ?_
    refine lv_iconst (v := 0) fx.1 fx.2.1 dX11_count_135 (by decide) ?_
    refine lv_bipush (v := 7) fx.1 fx.2.1 dX11_count_136 (by decide) ?_
    obtain ⟨v16, hf, hok⟩ := gOk_bind hok
    refine g_callS0 fx hw (c_X11_in l X τ x1 (0 : Int32) (7 : Int32) G1  hf) ls_RX11_69 ⟨rfl, rfl⟩ rfl hl.1 rfl ⟨Nat.le_of_ble_eq_true rfl, Nat.le_of_ble_eq_true rfl⟩ (Nat.le_of_ble_eq_true rfl) ⟨Nat.le_of_ble_eq_true rfl, Nat.le_of_ble_eq_true rfl⟩ dX11_count_138 (fun H locs hw => ?_)
    refine g_if_eq (tgt := 153) fx dX11_count_141 (by decide) hok (fun hok => ?_) (fun hok => ?_)
    · refine lv_iconst (v := (-1)) fx.1 fx.2.1 dX11_count_153 (by decide) ?_
      cases gOk_some hok
      exact g_iret fx hw hr dX11_count_154
    · refine lv_aload_n fx.1 fx.2.1 dX11_count_144 rfl (lv_at hl 0 rfl) ?_
      refine g_getr fx hw h0 lf_RX11_13 rfl dX11_count_145 hok (fun a17 h_a17 hok => ?_)
      refine lv_iload_n fx.1 fx.2.1 dX11_count_148 rfl (lv_at hl 1 rfl) ?_
      refine g_iald fx hw h_a17 dX11_count_149 hok (fun hok => ?_)
      refine lv_goto (tgt := 154) fx.1 fx.2.1 dX11_count_150 (by decide) ?_
      cases gOk_some hok
      exact g_iret fx hw hr dX11_count_154
