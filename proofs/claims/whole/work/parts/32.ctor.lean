/-! ROWS of constructors: the kinds grow, the heap's size is told exactly -/
def gLe (τ τ' : gτ) : Prop := ∀ a q, τ a = some q → τ' a = some q
theorem gLe.rf {τ : gτ} : gLe τ τ := fun _ _ h => h
theorem gLe.tr {τ τ1 τ2 : gτ} (h1 : gLe τ τ1) (h2 : gLe τ1 τ2) : gLe τ τ2 := fun a q h => h2 a q (h1 a q h)
theorem gK.up {τ τ' : gτ} {a κ : Nat} (h : gLe τ τ') (hk : gK τ a κ) : gK τ' a κ := by obtain ⟨n, hn⟩ := hk; exact ⟨n, h a _ hn⟩
theorem gnt_new {τ : gτ} {z κ n : Nat} : gK (gnt τ z κ n) z κ := ⟨n, by simp [gnt]⟩
theorem gInv.lt {X : gX} {τ : gτ} {G : gG} {H : Heap} (h : gInv X τ G H) {a : Nat} {q : Nat × Nat} (ha : τ a = some q) : a < H.size := (h.1 a q.1 q.2 ha).1.lt
theorem gnt_le {X : gX} {τ : gτ} {G : gG} {H : Heap} (h : gInv X τ G H) {z κ n : Nat} (hz : H.size = z) : gLe τ (gnt τ z κ n) := by
  intro a q ha
  have := h.lt ha
  unfold gnt
  rw [if_neg (by omega)]
  exact ha
theorem gInv.new {X : gX} {τ : gτ} {G : gG} {H H1 : Heap} {z κ n : Nat} (h : gInv X τ G H) (hz : H.size = z) (hz1 : H1.size = z + 1) (ho : ∀ q, q < z → H1[q]? = H[q]?) (hat : gAt X (gnw G z) H1 z κ n) : gInv X (gnt τ z κ n) (gnw G z) H1 := by
  have hle := gnt_le (κ := κ) (n := n) h hz
  have hlt : ∀ a q, τ a = some q → a < z := fun a q ha => by have := h.lt ha; omega
  obtain ⟨h1, h2, h3, h4⟩ := h
  refine ⟨fun a κ' n' ha => ?_, ⟨fun a c n' k b κ' ha hf hb => ?_, fun a κ' n' i b ha hb => ?_⟩, by omega, fun q hq => by rw [ho q (by omega)]; exact h4 q hq⟩
  · by_cases haz : a = z
    · subst haz
      have : gnt τ a κ n a = some (κ, n) := by simp [gnt]
      rw [this] at ha
      cases ha
      exact ⟨hat, by omega⟩
    · have e : gnt τ z κ n a = τ a := by simp [gnt, haz]
      rw [e] at ha
      exact ⟨(h1 a κ' n' ha).1.kept ⟨fun c k => by simp [gi, gnw, haz], fun c k => by simp [gr, gnw, haz], by funext j; simp [ge, gnw, haz], by funext j; simp [gq, gnw, haz], by funext j; simp [gl, gnw, haz]⟩ (ho a (hlt a _ ha)), (h1 a κ' n' ha).2⟩
  · by_cases haz : a = z
    · have : gr (gnw G z) c k a = none := by simp [gr, gnw, haz]
      rw [this] at hb
      cases hb
    · have e : gnt τ z κ n a = τ a := by simp [gnt, haz]
      have e2 : gr (gnw G z) c k a = gr G c k a := by simp [gr, gnw, haz]
      rw [e] at ha
      rw [e2] at hb
      obtain ⟨n2, hn2⟩ := h2.1 a c n' k b κ' ha hf hb
      exact ⟨n2, hle b _ hn2⟩
  · by_cases haz : a = z
    · have : gq (gnw G z) a i = none := by simp [gq, gnw, haz]
      rw [this] at hb
      cases hb
    · have e : gnt τ z κ n a = τ a := by simp [gnt, haz]
      have e2 : gq (gnw G z) a i = gq G a i := by simp [gq, gnw, haz]
      rw [e] at ha
      rw [e2] at hb
      obtain ⟨n2, hn2⟩ := h2.2 a κ' n' i b ha hb
      exact ⟨n2, hle b _ hn2⟩
theorem gDef {κ : Nat} {r : vw_C} (h : vwCl[κ]? = some r) : ∀ j, j < r.2.2 → defaultValue (gTy κ j) = (match gFr κ j with | some _ => Value.null | none => .int 0) := by
  match κ, h with
  | 0, h => cases h; decide +kernel
  | 1, h => cases h; decide +kernel
  | 2, h => cases h; decide +kernel
  | 3, h => cases h; decide +kernel
  | 4, h => cases h; decide +kernel
  | 5, h => cases h; decide +kernel
  | 6, h => cases h; decide +kernel
  | 7, h => cases h; decide +kernel
  | 8, h => cases h; decide +kernel
  | 9, h => cases h; decide +kernel
  | 10, h => cases h; decide +kernel
  | 11, h => cases h; decide +kernel
  | k + 12, h => simp [vwCl] at h
section GC
variable {X : gX} {p : Program} {l : Launch} {e : Env} {R : Room} {s : State} {m : MethodId} {args : Array Value} {below : List Frame} {meth : Method} {c : Code} {H : Heap} {locs : List Loc} {cells slots mc ms : Nat} {Q : State → Prop} {cc : ByteArray} {nL : Nat} {own : String} {τ : gτ} {G : gG} {pc z : Nat} {ls : Array Slot} {rest : List Value}
/-- new: what the tables say -/
def gLn (own : String) (idx κ N : Nat) : Prop := ∃ r : vw_C, vwCl[κ]? = some r ∧ r.2.2 = N ∧ Cond.classLink own idx r.1 ∈ wA ∧ Cond.instantiable r.1 N ∈ wA ∧ Cond.initialized r.1 ∈ wA
theorem gc_new (fx : gFx X p s m args meth c cc nL own) (hw : gHw X τ G H locs) (hz : H.size = z) {idx κ N : Nat} (ln : gLn own idx κ N) (hR : cells + 1 ≤ R.cells ∧ slots + N ≤ R.slots) (hdg : decode cc pc = .ok (.new idx, 3)) (kk : ∀ H1 : Heap, gLe τ (gnt τ z κ 0) → gHw X (gnt τ z κ 0) (gnw G z) H1 locs → H1.size = z + 1 → W p l e R s m args below meth c H1 locs (cells + 1) (slots + N) Q (F0 m (pc + 3) ls (.ref z :: rest))) : W p l e R s m args below meth c H locs cells slots Q (F0 m pc ls rest) := by
  obtain ⟨hexec, hb, hml, hown, hts, hK, -, -⟩ := fx
  obtain ⟨r, hr, rfl, h1, h2, h3⟩ := ln
  have hKn := hK.1 κ _ hr
  obtain ⟨hnm, htyp⟩ := gNm hr
  refine W.newcK hexec hb hown (hts _ h1) (hts _ h2) (hts _ h3) rfl hdg hR.1 hR.2 hKn.2.1 hz fun H1 kC hkC e1 z1 o1 => ?_
  refine kk H1 (gnt_le hw.1 hz) ⟨hw.1.new hz z1 o1 ?_, hw.2⟩ z1
  unfold gAt
  rw [if_pos (gCl hr)]
  refine ⟨r, hr, (u_born (gTy κ) hts (gHin hr) hKn hkC e1 htyp).to fun j hj => ?_⟩
  rw [gDef hr j hj]
  unfold gV
  cases hf : gFr κ j with
  | none => simp [gi, gnw]
  | some k => simp [gr, gnw, va_rf]
theorem gcA (fx : gFx X p s m args meth c cc nL own) {t0 κ : Nat} {ty : FieldType} (ht : (gTys X.2.1)[t0]? = some (X.2.1 κ, ty)) (hty : ∀ C, ty ≠ .object C) {cA : ClassId} (h : s.vm.findClass ("[" ++ ty.toString) = some cA) : cA = X.2.1 κ := by
  have h2 := (fx.2.2.2.2.2.1.2 t0 _ ht).2
  have h3 : s.vm.findClass ("[" ++ ty.toString) = some (X.2.1 κ) := by
    cases ty with
    | object C => exact absurd rfl (hty C)
    | _ => exact h2
  exact Option.some.inj (h.symm.trans h3)
theorem gc_newI (fx : gFx X p s m args meth c cc nL own) (hw : gHw X τ G H locs) (hz : H.size = z) (harr : Cond.arrayClass .int ∈ wA) {n : Int32} {N : Nat} (hn : ¬ n < 0) (hN : n.toNatClampNeg = N) (hbytes : N * componentBytes .int ≤ 536870912) (hR : cells + 1 ≤ R.cells ∧ slots + N ≤ R.slots) (hdg : decode cc pc = .ok (.newarray .int, 2)) (kk : ∀ H1 : Heap, gLe τ (gnt τ z 13 N) → gHw X (gnt τ z 13 N) (gnw G z) H1 locs → H1.size = z + 1 → W p l e R s m args below meth c H1 locs (cells + 1) (slots + N) Q (F0 m (pc + 2) ls (.ref z :: rest))) : W p l e R s m args below meth c H locs cells slots Q (F0 m pc ls (.int n :: rest)) := by
  refine va_newaK (atype := .int) fx.1 fx.2.1 (fx.2.2.2.2.1 _ harr) rfl hdg rfl hn hN hbytes hR.1 hR.2 hz fun H1 cA e1 z1 o1 hAr hNm => ?_
  refine kk H1 (gnt_le hw.1 hz) ⟨hw.1.new hz z1 o1 ?_, hw.2⟩ z1
  show H1[z]? = some (vp_cell _ _)
  rw [e1, gcA (κ := 13) (t0 := 1) fx rfl (by intro C h; cases h) hNm, vp_cell_i]
  congr 2
  funext j
  simp [ge, gnw, defaultValue, newarray.typeOf]
theorem gc_newB (fx : gFx X p s m args meth c cc nL own) (hw : gHw X τ G H locs) (hz : H.size = z) (harr : Cond.arrayClass .byte ∈ wA) {n : Int32} {N : Nat} (hn : ¬ n < 0) (hN : n.toNatClampNeg = N) (hbytes : N * componentBytes .byte ≤ 536870912) (hR : cells + 1 ≤ R.cells ∧ slots + N ≤ R.slots) (hdg : decode cc pc = .ok (.newarray .byte, 2)) (kk : ∀ H1 : Heap, gLe τ (gnt τ z 12 N) → gHw X (gnt τ z 12 N) (gnw G z) H1 locs → H1.size = z + 1 → W p l e R s m args below meth c H1 locs (cells + 1) (slots + N) Q (F0 m (pc + 2) ls (.ref z :: rest))) : W p l e R s m args below meth c H locs cells slots Q (F0 m pc ls (.int n :: rest)) := by
  refine va_newaK (atype := .byte) fx.1 fx.2.1 (fx.2.2.2.2.1 _ harr) rfl hdg rfl hn hN hbytes hR.1 hR.2 hz fun H1 cA e1 z1 o1 hAr hNm => ?_
  refine kk H1 (gnt_le hw.1 hz) ⟨hw.1.new hz z1 o1 ?_, hw.2⟩ z1
  show H1[z]? = some (vp_cell _ _)
  rw [e1, gcA (κ := 12) (t0 := 0) fx rfl (by intro C h; cases h) hNm, vp_cell_i]
  congr 2
  funext j
  simp [ge, gnw, defaultValue, newarray.typeOf]
theorem gc_newL (fx : gFx X p s m args meth c cc nL own) (hw : gHw X τ G H locs) (hz : H.size = z) (harr : Cond.arrayClass .long ∈ wA) {n : Int32} {N : Nat} (hn : ¬ n < 0) (hN : n.toNatClampNeg = N) (hbytes : N * componentBytes .long ≤ 536870912) (hR : cells + 1 ≤ R.cells ∧ slots + N ≤ R.slots) (hdg : decode cc pc = .ok (.newarray .long, 2)) (kk : ∀ H1 : Heap, gLe τ (gnt τ z 18 N) → gHw X (gnt τ z 18 N) (gnw G z) H1 locs → H1.size = z + 1 → W p l e R s m args below meth c H1 locs (cells + 1) (slots + N) Q (F0 m (pc + 2) ls (.ref z :: rest))) : W p l e R s m args below meth c H locs cells slots Q (F0 m pc ls (.int n :: rest)) := by
  refine va_newaK (atype := .long) fx.1 fx.2.1 (fx.2.2.2.2.1 _ harr) rfl hdg rfl hn hN hbytes hR.1 hR.2 hz fun H1 cA e1 z1 o1 hAr hNm => ?_
  refine kk H1 (gnt_le hw.1 hz) ⟨hw.1.new hz z1 o1 ?_, hw.2⟩ z1
  show H1[z]? = some (vp_cell _ _)
  rw [e1, gcA (κ := 18) (t0 := 6) fx rfl (by intro C h; cases h) hNm, vp_cell_l]
  congr 2
  funext j
  simp [gl, gnw, defaultValue, newarray.typeOf]
theorem gc_newq (fx : gFx X p s m args meth c cc nL own) (hS : gS0 l X) (hw : gHw X τ G H locs) (hz : H.size = z) {C : String} {idx : Nat} (t0 κ : Nat) (ht : (gTys X.2.1)[t0]? = some (X.2.1 κ, .object C)) (hκ : ¬ κ < 14 ∧ κ < 18) (hcl : Cond.classLink own idx C ∈ wA) (hao : Cond.arrayOver (.object C) ∈ lw_tbl) {n : Int32} {N : Nat} (hn : ¬ n < 0) (hN : n.toNatClampNeg = N) (hbytes : N * 4 ≤ 536870912) (hR : cells + 1 ≤ R.cells ∧ slots + N ≤ R.slots) (hdg : decode cc pc = .ok (.anewarray idx, 3)) (kk : ∀ H1 : Heap, gLe τ (gnt τ z κ N) → gHw X (gnt τ z κ N) (gnw G z) H1 locs → H1.size = z + 1 → W p l e R s m args below meth c H1 locs (cells + 1) (slots + N) Q (F0 m (pc + 3) ls (.ref z :: rest))) : W p l e R s m args below meth c H locs cells slots Q (F0 m pc ls (.int n :: rest)) := by
  obtain ⟨hexec, hb, hml, hown, hts, hK, hA, -⟩ := id fx
  obtain ⟨a0, h0⟩ := hS.1.2
  have hover : va_AO C s := va_AO.moved hA.alike (va_AO.of (h0 _ hao))
  subst hN
  refine W.anew hexec hb hown (hts _ hcl) (va_AO.use hover) rfl hdg rfl hn hbytes hR.1 hR.2 fun cA kA comp f1 f2 f3 f4 => ?_
  generalize hH1 : H.push ({ cls := cA, slots := Array.replicate n.toNatClampNeg .null, vm := .none } : Cell) = H1
  have z1 : H1.size = z + 1 := by rw [← hH1, Array.size_push, hz]
  have e1 : H1[z]? = some (arrV cA n.toNatClampNeg (fun _ => .null)) := by rw [← hH1, ← hz, Array.getElem?_push_size, ← arrV_new]
  have o1 : ∀ q : Nat, q < z → H1[q]? = H[q]? := fun q hq => by rw [← hH1, Array.getElem?_push, if_neg (by omega)]
  rw [show ({ method := m, pc := pc + 3, locals := ls, stack := .ref H.size :: rest, locked := none } : JFrame) = F0 m (pc + 3) ls (.ref z :: rest) by rw [hz]]
  refine kk H1 (gnt_le hw.1 hz) ⟨hw.1.new hz z1 o1 ?_, hw.2⟩ z1
  have hcA : cA = X.2.1 κ := by
    obtain ⟨kA2, comp2, g1, g2, g3, g4⟩ := (hK.2 t0 _ ht).2
    exact Option.some.inj (f1.symm.trans g4)
  unfold gAt
  rw [if_neg (by omega), if_neg hκ.1, if_pos hκ.2, e1, hcA, vp_cell_q]
  congr 2
  funext j
  simp [gq, gnw, va_rf]
end GC
