/-! THE START of the law: what the contracts of all methods ask of it -/
def lz_T (q : String × Nat × String × List Int32) : Jvm.Term := .field (.string q.1 q.2.1) "java/lang/String" "value" "[B"
/-- what is given of a text -/
def lz_W (q : String × Nat × String × List Int32) : List Jvm.Cond := [.exactly (.string q.1 q.2.1) "java/lang/String", .eq (.field (.string q.1 q.2.1) "java/lang/String" "coder" "B") (.int 0), .arrayOf (lz_T q) .byte, .eq (.length (lz_T q)) (.int (Int32.ofNat q.2.2.2.length))] ++ (List.range q.2.2.2.length).map (fun j => .eq (.elem (lz_T q) (.int (Int32.ofNat j))) (.int (q.2.2.2.getD j 0)))
def lz_L : List (String × Nat × String × List Int32) := ([38, 46, 47, 48, 39, 40, 49, 41, 42, 43, 44, 45, 0, 1, 20, 22, 23, 21, 24, 26, 27, 28, 29, 30, 31, 32, 33, 34, 35, 36, 37, 25, 2, 12, 3, 13, 4, 15, 5, 16, 19, 6, 18, 14, 7, 8, 17, 9, 10, 11, 54, 50, 51, 52, 55, 56, 53, 57, 58, 59, 60, 61, 73, 74, 75, 76, 70, 68, 69, 62, 63, 64, 65, 66, 67, 71, 72] : List Nat).filterMap fun i => gTexts[i]?
def lz_M : List (String × Nat × String × List Int32) := ([38, 46, 47, 48, 39, 40, 49, 41, 42, 43, 44, 45, 0, 1, 20, 22, 23, 21, 24, 26, 27, 28, 29, 30, 31, 32, 33, 34, 35, 36, 37, 25, 2, 12, 3, 13, 4, 15, 5, 16, 19, 6, 18, 14, 7, 8, 17, 9, 10, 11, 54, 50, 51, 52, 55, 56, 53, 57, 58, 59, 60, 61, 73, 74, 75, 76, 70, 68, 69, 62, 63, 64, 65, 66, 67, 71, 72] : List Nat).filterMap fun i => gTexts[i]?
def lz_N : List (String × String) := [(x_UOE, x_IAE), (x_IOE, x_IAE), (x_NSE, x_IAE), (x_ISE, x_IAE), (x_IAE, x_UOE), (x_IOE, x_UOE), (x_NSE, x_UOE), (x_ISE, x_UOE), (x_IAE, x_IOE), (x_UOE, x_IOE), (x_NSE, x_IOE), (x_ISE, x_IOE), (x_IAE, x_NSE), (x_UOE, x_NSE), (x_IOE, x_NSE), (x_ISE, x_NSE), (x_IAE, x_ISE), (x_UOE, x_ISE), (x_IOE, x_ISE), (x_NSE, x_ISE)]
def lz_S : List Jvm.Cond := [.eq (.static "java/lang/String" "COMPACT_STRINGS" "Z") (.int 1), .isRef (.static "jdk/internal/util/Preconditions" "SIOOBE_FORMATTER" "Ljava/util/function/BiFunction;"), .isRef (.static "java/lang/Throwable" "UNASSIGNED_STACK" "[Ljava/lang/StackTraceElement;"), .isRef (.static "java/lang/Throwable" "SUPPRESSED_SENTINEL" "Ljava/util/List;")]
/-- all of a row lies in another, in its order -/
def lz_sq : List Jvm.Cond → List Jvm.Cond → Bool
  | l, [] => l.isEmpty
  | l, b :: r => match l with
    | [] => true
    | a :: l' => if a = b then lz_sq l' r else lz_sq (a :: l') r
theorem lz_sq_in : ∀ (r l : List Jvm.Cond), lz_sq l r = true → ∀ w ∈ l, w ∈ r := by
  intro r
  induction r with
  | nil =>
    intro l h w hw
    cases l with
    | nil => exact hw
    | cons a l => exact absurd h (by simp [lz_sq])
  | cons b r ih =>
    intro l h w hw
    cases l with
    | nil => cases hw
    | cons a l =>
      have h : (if a = b then lz_sq l r else lz_sq (a :: l) r) = true := h
      by_cases hab : a = b
      · rw [if_pos hab] at h
        rcases List.mem_cons.mp hw with e | hw
        · rw [e, hab]; exact List.mem_cons_self
        · exact List.mem_cons_of_mem _ (ih l h w hw)
      · rw [if_neg hab] at h
        exact List.mem_cons_of_mem _ (ih (a :: l) h w hw)
set_option maxRecDepth 100000 in
theorem lz_all : lz_sq (lz_S ++ (lz_N.map (fun q => .not (.castable q.1 q.2)) ++ lz_L.flatMap lz_W)) (flatC narrow_1) = true := by decide +kernel
set_option maxRecDepth 100000 in
theorem lz_ref : lz_sq (lz_M.map (fun q => .stringRef q.1 q.2.1 q.2.2.1)) tables_1 = true := by decide +kernel
theorem lz_perm : ∀ q ∈ gTexts, q ∈ lz_L ∧ q ∈ lz_M ∧ q.2.2.2.length < 2 ^ 31 := by decide +kernel
theorem lz_nc : ∀ q ∈ gNcs, q ∈ lz_N := by decide +kernel
theorem lz_inst {κ : Nat} {r : vw_C} (h : vwCl[κ]? = some r) : Cond.instantiable r.1 r.2.2 ∈ tables_1 := by
  match κ, h with
  | 0, h => cases h; exact wt1 (List.mem_of_getElem? (i := 112) (by decide +kernel))
  | 1, h => cases h; exact wt2 (List.mem_of_getElem? (i := 88) (by decide +kernel))
  | 2, h => cases h; exact wt1 (List.mem_of_getElem? (i := 80) (by decide +kernel))
  | 3, h => cases h; exact wt1 (List.mem_of_getElem? (i := 93) (by decide +kernel))
  | 4, h => cases h; exact wt1 (List.mem_of_getElem? (i := 226) (by decide +kernel))
  | 5, h => cases h; exact wt1 (List.mem_of_getElem? (i := 157) (by decide +kernel))
  | 6, h => cases h; exact wt1 (List.mem_of_getElem? (i := 100) (by decide +kernel))
  | 7, h => cases h; exact wt1 (List.mem_of_getElem? (i := 37) (by decide +kernel))
  | 8, h => cases h; exact wt1 (List.mem_of_getElem? (i := 67) (by decide +kernel))
  | 9, h => cases h; exact wt1 (List.mem_of_getElem? (i := 128) (by decide +kernel))
  | 10, h => cases h; exact wt1 (List.mem_of_getElem? (i := 29) (by decide +kernel))
  | 11, h => cases h; exact wt6 (List.mem_of_getElem? (i := 208) (by decide +kernel))
  | k + 12, h => simp [vwCl] at h
theorem lz_ls0 : Cond.laysStatic "java/lang/String" "COMPACT_STRINGS" "Z" ∈ lw_tbl := List.mem_append_right _ (wt3 (List.mem_of_getElem? (i := 183) (by decide +kernel)))
theorem lz_li0 : Cond.initialized "java/lang/String" ∈ lw_tbl := List.mem_append_right _ (wt1 (List.mem_of_getElem? (i := 14) (by decide +kernel)))
theorem lz_ls1 : Cond.laysStatic "jdk/internal/util/Preconditions" "SIOOBE_FORMATTER" "Ljava/util/function/BiFunction;" ∈ lw_tbl := List.mem_append_right _ (wt3 (List.mem_of_getElem? (i := 199) (by decide +kernel)))
theorem lz_li1 : Cond.initialized "jdk/internal/util/Preconditions" ∈ lw_tbl := List.mem_append_right _ (wt1 (List.mem_of_getElem? (i := 16) (by decide +kernel)))
theorem lz_ls2 : Cond.laysStatic "java/lang/Throwable" "UNASSIGNED_STACK" "[Ljava/lang/StackTraceElement;" ∈ lw_tbl := List.mem_append_right _ (wt4 (List.mem_of_getElem? (i := 98) (by decide +kernel)))
theorem lz_li2 : Cond.initialized "java/lang/Throwable" ∈ lw_tbl := List.mem_append_right _ (wt1 (List.mem_of_getElem? (i := 19) (by decide +kernel)))
theorem lz_ls3 : Cond.laysStatic "java/lang/Throwable" "SUPPRESSED_SENTINEL" "Ljava/util/List;" ∈ lw_tbl := List.mem_append_right _ (wt4 (List.mem_of_getElem? (i := 100) (by decide +kernel)))
theorem lz_li3 : Cond.initialized "java/lang/Throwable" ∈ lw_tbl := List.mem_append_right _ (wt1 (List.mem_of_getElem? (i := 19) (by decide +kernel)))
theorem lz_ac12 : Cond.arrayClass .byte ∈ lw_tbl := List.mem_append_right _ (wt4 (List.mem_of_getElem? (i := 140) (by decide +kernel)))
theorem lz_ac13 : Cond.arrayClass .int ∈ lw_tbl := List.mem_append_right _ (wt1 (List.mem_of_getElem? (i := 65) (by decide +kernel)))
theorem lz_ac18 : Cond.arrayClass .long ∈ lw_tbl := List.mem_append_right _ (wt9 (List.mem_of_getElem? (i := 115) (by decide +kernel)))
theorem lz_ac14 : Cond.arrayOver (.object RX4) ∈ lw_tbl := List.mem_append_right _ (wt1 (List.mem_of_getElem? (i := 110) (by decide +kernel)))
theorem lz_ac15 : Cond.arrayOver (.object RX5) ∈ lw_tbl := List.mem_append_right _ (wt1 (List.mem_of_getElem? (i := 108) (by decide +kernel)))
theorem lz_ac16 : Cond.arrayOver (.object RX6) ∈ lw_tbl := List.mem_append_right _ (wt1 (List.mem_of_getElem? (i := 99) (by decide +kernel)))
theorem lz_ac17 : Cond.arrayOver (.object RX9) ∈ lw_tbl := List.mem_append_right _ (wt1 (List.mem_of_getElem? (i := 106) (by decide +kernel)))
section
variable {s : State} {args : Array Value}
theorem lz_str {D : va_G} {cy : Nat → ClassId} {q : String × Nat × String × List Int32} (h0 : (Cond.stringRef q.1 q.2.1 q.2.2.1).before args s = true) (hW : ∀ w ∈ lz_W q, w.before args s = true) (hlen : q.2.2.2.length < 2 ^ 31) : ∃ w, vk_R q.1 q.2.1 q.2.2.1 w s ∧ gStr (D, cy, s) w q.2.2.2 := by
  have hA : ∀ a : Nat, a < s.heap.size → ¬ gFree (D, cy, s) a := fun a ha h => absurd (show s.heap.size ≤ a from h) (Nat.not_le.mpr ha)
  have hex : (Cond.exactly (.string q.1 q.2.1) "java/lang/String").before args s = true := hW _ (List.mem_append_left _ List.mem_cons_self)
  have hco : (Cond.eq (.field (.string q.1 q.2.1) "java/lang/String" "coder" "B") (.int 0)).before args s = true := hW _ (List.mem_append_left _ (List.mem_cons_of_mem _ List.mem_cons_self))
  have har : (Cond.arrayOf (lz_T q) .byte).before args s = true := hW _ (List.mem_append_left _ (List.mem_cons_of_mem _ (List.mem_cons_of_mem _ List.mem_cons_self)))
  have hle : (Cond.eq (.length (lz_T q)) (.int (Int32.ofNat q.2.2.2.length))).before args s = true := hW _ (List.mem_append_left _ (List.mem_cons_of_mem _ (List.mem_cons_of_mem _ (List.mem_cons_of_mem _ List.mem_cons_self))))
  have hel : ∀ j, j < q.2.2.2.length → (Cond.eq (.elem (lz_T q) (.int (Int32.ofNat j))) (.int (q.2.2.2.getD j 0))).before args s = true := fun j hj => hW _ (List.mem_append_right _ (List.mem_map.mpr ⟨j, List.mem_range.mpr hj, rfl⟩))
  obtain ⟨a, c, cA, kA, q1, q2, q3, q4, q5, q6, -⟩ := Cond.exactly_spec (args := args) (first := s) (o := none) (s := s) (idx := []) (t := .string q.1 q.2.1) (cls := "java/lang/String") hex
  obtain ⟨t, ht, hT⟩ := va_Tof (f := fun j => .int (q.2.2.2.getD j 0)) (A := gFree (D, cy, s)) hlen har (va_eqt hle) (fun j hj => va_eqt (hel j hj)) hA
  exact ⟨a, vk_R.of h0 q1, ⟨cA, q3, q5, by rw [q6]; exact q2, hA a (Array.getElem?_eq_some_iff.mp q3).1⟩, vk_OFof q1 (va_eqt hco) hA, hlen, t, vk_OFof q1 ht hA, hT⟩
theorem lz_S0 {l : Launch} (hflags : l.flags = flags0) {D : va_G} {cy : Nat → ClassId} (hts : ∀ w ∈ lw_tbl, w.before args s = true) (hgv : (Jvm.Cond.and given_1 narrow_1).before args s = true) : gS0 l (D, cy, s) ∧ gS1 (D, cy, s) := by
  have hn0 : ∀ w ∈ flatC narrow_1, w.before args s = true := fun w hw => flat_of_before _ hgv w (List.mem_append_right _ hw)
  have hn : ∀ w ∈ lz_S ++ (lz_N.map (fun q => .not (.castable q.1 q.2)) ++ lz_L.flatMap lz_W), w.before args s = true := fun w hw => hn0 w (lz_sq_in _ _ lz_all w hw)
  have hA : ∀ a : Nat, a < s.heap.size → ¬ gFree (D, cy, s) a := fun a ha h => absurd (show s.heap.size ≤ a from h) (Nat.not_le.mpr ha)
  have hr : ∀ q ∈ gTexts, (Cond.stringRef q.1 q.2.1 q.2.2.1).before args s = true := fun q hq => hts _ (List.mem_append_right _ (lz_sq_in _ _ lz_ref _ (List.mem_map.mpr ⟨q, (lz_perm q hq).2.1, rfl⟩)))
  refine ⟨⟨⟨?_, args, hts⟩, fun q hq => lz_str (hr q hq) (fun w hw => hn w (List.mem_append_right _ (List.mem_append_right _ (List.mem_flatMap.mpr ⟨q, (lz_perm q hq).1, hw⟩)))) (lz_perm q hq).2.2, va_Zof (hts _ lz_ls0) (hts _ lz_li0) (va_eqi (hn _ (List.mem_append_left _ List.mem_cons_self))) hA, va_Zqof (hts _ lz_ls1) (hts _ lz_li1) (hn _ (List.mem_append_left _ (List.mem_cons_of_mem _ List.mem_cons_self))) hA, vx_Zqof (hts _ lz_ls2) (hts _ lz_li2) (hn _ (List.mem_append_left _ (List.mem_cons_of_mem _ (List.mem_cons_of_mem _ List.mem_cons_self)))) hA, vx_Zqof (hts _ lz_ls3) (hts _ lz_li3) (hn _ (List.mem_append_left _ (List.mem_cons_of_mem _ (List.mem_cons_of_mem _ (List.mem_cons_of_mem _ List.mem_cons_self))))) hA⟩, fun q hq => va_Nc.of (hn (.not (.castable q.1 q.2)) (List.mem_append_right _ (List.mem_append_left _ (List.mem_map.mpr ⟨q, lz_nc q hq, rfl⟩))))⟩
  unfold Launch.stackTraces
  rw [hflags]
  decide +kernel
theorem lz_arr {ty : FieldType} (h : (Cond.arrayClass ty).before args s = true) : ∃ cA : ClassId, ArrOfT s cA ty ∧ s.vm.findClass ("[" ++ ty.toString) = some cA := by
  obtain ⟨cA, kA, comp, h1, h2, h3⟩ := Cond.arrayClass_spec h
  exact ⟨cA, fun n z => ⟨fun k h => (by cases h), kA, h2, comp, h3⟩, h1⟩
theorem lz_arq {C : String} (h : (Cond.arrayOver (.object C)).before args s = true) : ∃ cA : ClassId, ArrOfT s cA (.object C) ∧ va_RA s cA (.object C) := by
  obtain ⟨comp, c, k, h1, h2, h3, h4, h5⟩ := Cond.arrayOver_spec h
  exact ⟨c, fun n z => ⟨fun k h => (by cases h), k, h3, comp, h4⟩, k, comp, h3, h4, h1, h5⟩
theorem lz_K (hts : ∀ w ∈ lw_tbl, w.before args s = true) : ∃ (D : va_G) (cy : Nat → ClassId), va_K D vwCl (gTys cy) s := by
  have hA : ∀ w ∈ wA, w.before args s = true := fun w hw => hts w (List.mem_filter.mp hw).1
  obtain ⟨c0, i0, -⟩ := u_known (C := RX0) (T := TX0) (N := 3) hA (gHin (κ := 0) (r := (RX0, TX0, 3)) rfl) (hts _ (List.mem_append_right _ (lz_inst (κ := 0) (r := (RX0, TX0, 3)) rfl)))
  have h1 : ∀ κ : Nat, ∃ q : ClassId × (Nat → Nat), ∀ r : vw_C, vwCl[κ]? = some r → u_Kn s r.1 r.2.1 r.2.2 q.1 q.2 := by
    intro κ
    cases hr : vwCl[κ]? with
    | none => exact ⟨(c0, i0), fun r h => by cases h⟩
    | some r =>
      obtain ⟨c, i, h⟩ := u_known (C := r.1) (T := r.2.1) (N := r.2.2) hA (gHin hr) (hts _ (List.mem_append_right _ (lz_inst hr)))
      exact ⟨(c, i), fun r' h' => by cases h'; exact h⟩
  obtain ⟨f, hf⟩ := Classical.axiomOfChoice h1
  obtain ⟨a12, b12, d12⟩ := lz_arr (hts _ lz_ac12)
  obtain ⟨a13, b13, d13⟩ := lz_arr (hts _ lz_ac13)
  obtain ⟨a18, b18, d18⟩ := lz_arr (hts _ lz_ac18)
  obtain ⟨a14, b14, d14⟩ := lz_arq (hts _ lz_ac14)
  obtain ⟨a15, b15, d15⟩ := lz_arq (hts _ lz_ac15)
  obtain ⟨a16, b16, d16⟩ := lz_arq (hts _ lz_ac16)
  obtain ⟨a17, b17, d17⟩ := lz_arq (hts _ lz_ac17)
  refine ⟨(fun κ => (f κ).1, fun κ => (f κ).2), (fun κ => match κ with
    | 12 => a12 | 13 => a13 | 14 => a14 | 15 => a15 | 16 => a16 | 17 => a17 | _ => a18), fun κ r h => hf κ r h, fun k q hk => ?_⟩
  match k, hk with
  | 0, hk => cases hk; exact ⟨b12, d12⟩
  | 1, hk => cases hk; exact ⟨b13, d13⟩
  | 2, hk => cases hk; exact ⟨b14, d14⟩
  | 3, hk => cases hk; exact ⟨b15, d15⟩
  | 4, hk => cases hk; exact ⟨b16, d16⟩
  | 5, hk => cases hk; exact ⟨b17, d17⟩
  | 6, hk => cases hk; exact ⟨b18, d18⟩
  | k + 7, hk => simp [gTys] at hk
end
