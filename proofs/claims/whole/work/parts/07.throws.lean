section GU
variable {p : Program} {l : Launch} {e : Env} {R : Room} {s : State} {m : MethodId} {args : Array Value} {below : List Frame} {meth : Method} {c : Code} {H : Heap} {locs : List Loc} {cells slots : Nat} {Q : State → Prop}
variable {mc ms : Nat} {free : Addr → Prop} {A0 A1 : Nat → Prop} {H0 : Heap} {a : Array Value} {ls : Array Slot} {st0 rest : List Value}
variable {Qc : Array Value → State → Outcome → State → Prop} {XC : String → State → State → Prop}
theorem gx_throwS {cc : ByteArray} {pc : Nat} (hexec : p.tables.exec = Jvm.exec) (hb : c.code = cc) (hl : l.stackTraces = false) {own cls text : String} {names : List String} {ik is ic mc ms sa : Nat} {A : Nat → Prop}
    (hown : s.vm.findClass own = some m.cls) (hcls : Bundle.fit cls = true) (hnames : ∀ n ∈ names, Bundle.fit n = true)
    (hk : (Cond.classLink own ik cls).before args s = true) (hini : (Cond.initialized cls).before args s = true) (hstr : vk_R own is text sa s) (hat : ∀ w ∈ vx_atS own ic cls names, w.before args s = true)
    (hgood : ∀ w ∈ Cond.classLink own ik cls :: Cond.initialized cls :: vx_atS own ic cls names, vx_ot w = true)
    (hU : vx_Zq Bundle.tN "UNASSIGNED_STACK" Bundle.steD A s H) (hN : vx_Zq Bundle.tN "SUPPRESSED_SENTINEL" Bundle.listD A s H) (hsize : ls.size = c.maxLocals)
    (d0 : decode cc pc = .ok (.new ik, 3)) (d3 : decode cc (pc + 3) = .ok (.dup, 1)) (d4 : decode cc (pc + 4) = .ok (.ldc is, 2)) (d6 : decode cc (pc + 6) = .ok (.invokespecial ic, 3)) (d9 : decode cc (pc + 9) = .ok (.athrow, 1))
    (hout : ∀ x ∈ c.exceptionTable.toList, covers x (pc + 9) = false)
    (hRframes : names.length + 3 < R.frames) (hRlocals : (rest.map fun v => v.category).sum + (13 * (names.length + 1) + 43) ≤ R.locals) (hRcells : cells + 1 ≤ R.cells) (hRslots : slots + 6 ≤ R.slots) (hlocks : meth.locks = false)
    (hx : ∀ t : State, s.vm.Alike t.vm → H.size ≤ t.heap.size → (∀ q : Nat, q < H.size → t.heap[q]? = H[q]?) → XC cls s t)
    (hf : ∀ z ∈ locs, free z.base) (hc : cells + 1 ≤ mc) (hs : slots + 6 ≤ ms) :
    W p l e R s m args below meth c H locs cells slots (vx_MQ below Qc XC args s mc ms free) (F0 m pc ls rest) := by
  intro T hT X
  have htr : e.platform.stackTraces = false := (show e.platform.stackTraces = l.stackTraces by rw [X.admits.platform]).trans hl
  have Y := vx_rebase X (R' := { frames := R.frames, locals := R.locals, cells := 1, slots := 6 }) (Nat.le_refl _) (Nat.le_refl _) hRcells hRslots
  obtain ⟨s', hA⟩ : ∃ z, z = (T.setVm s.vm).setFrames (.invoking m args :: below) := ⟨_, rfl⟩
  rw [← hA] at Y
  have hvm : s'.vm = s.vm := by rw [hA]; rfl
  have hhp : s'.heap = H := by rw [hA]; exact hT
  have hW0 : s.WarmedH s'.vm := by rw [hvm]; exact State.WarmedH.refl s
  have hat' : ∀ w ∈ vx_atS own ic cls names, w.before args s' = true := fun w hw => vx_ot_at hW0 hvm.symm (hgood w (List.mem_cons_of_mem _ (List.mem_cons_of_mem _ hw))) (hat w hw)
  have hk' : (Cond.classLink own ik cls).before args s' = true := vx_ot_at hW0 hvm.symm (hgood _ List.mem_cons_self) hk
  have hini' : (Cond.initialized cls).before args s' = true := vx_ot_at hW0 hvm.symm (hgood _ (List.mem_cons_of_mem _ List.mem_cons_self)) hini
  have hU' : vx_Zq Bundle.tN "UNASSIGNED_STACK" Bundle.steD A s' s'.heap := by rw [hhp]; exact vx_Zq.moved hW0.alike hU
  have hN' : vx_Zq Bundle.tN "SUPPRESSED_SENTINEL" Bundle.listD A s' s'.heap := by rw [hhp]; exact vx_Zq.moved hW0.alike hN
  have h : ∀ w ∈ Bundle.ownAtoms own ic cls names, w.before args s' = true := vx_own hat' (vx_isRefq hU'.1) (vx_isRefq hN'.1) hU'.2.word hN'.2.word
  have hown' : s'.vm.findClass own = some m.cls := by rw [hvm]; exact hown
  have hins : (Cond.instantiable cls 6).before args s' = true := h _ (by simp [Bundle.ownAtoms])
  obtain ⟨vm₁, cX, kX, hfX, hkX, -, -, X₁, st1⟩ := Y.newCold hexec (own := own) (C := cls) (index := ik) (n := 6) hown' hk' hins hini'
    (g := F0 m pc ls rest) rfl (by rw [hb]; exact d0) (Nat.le_refl _) (Nat.le_refl _)
  generalize hT1 : (T.setVm vm₁).pushCell { cls := cX, slots := kX.instanceTypes.map defaultValue, vm := .none } = T1 at X₁ st1
  have hcat : (Value.ref T.heap.size).category = 1 := rfl
  have hcellA : T1.heap[T.heap.size]? = some (freshCell cX kX) := by rw [← hT1]; exact State.heap_pushCell_size _ _
  have d3' : decode c.code (pc + 3) = .ok (.dup, 1) := by rw [hb]; exact d3
  have d4' : decode c.code (pc + 4) = .ok (.ldc is, 2) := by rw [hb]; exact d4
  have hstr' : vk_R own is text sa s' := vk_R.warm hW0 hstr
  obtain ⟨U, hsteps, hrun, hend, hW, hsame, ce, hce, hO⟩ := X₁.ctorThrowS hexec htr (own := own) (cls := cls) (names := names) (ic := ic) hown' hcls hnames h (fun x hx => nomatch hx) hfX hkX hcellA (by rw [hhp, hT]; exact Nat.le_refl _) (msg := .ref sa) rfl
    (g := { method := m, pc := pc + 6, locals := ls, stack := .ref sa :: .ref T.heap.size :: .ref T.heap.size :: rest, locked := none }) rfl hsize rfl rfl (rest := rest) rfl
    (by rw [hb]; exact d6) (by rw [hb]; exact d9) hout hRframes (by simp only [List.map_cons, List.sum_cons, hcat]; omega) hlocks
  obtain ⟨f1, f2⟩ := vx_frame hsame
  rw [hhp] at f1 f2
  have hWs : s.WarmedH U.vm := State.WarmedH.trans hW0 hW
  have hcl : s.vm.findClass cls = some ce.cls := by
    have h9 := hO.cls
    rw [hvm] at h9
    exact h9
  have hall : s.sameButNew ({ U with vm := s.vm } : State) locs mc ms := by
    subst hA
    obtain ⟨e1, e2⟩ := hsame
    rw [State.setFrames_setFrames] at e1
    have h2 : (T.setVm s.vm).sameButNew ({ U with vm := s.vm } : State) [] (0 + 1) (0 + 6) := ⟨e1, e2⟩
    have h3 := X.same.trans h2
    rw [List.append_nil] at h3
    exact h3.mono hc hs
  refine ⟨U, ?_, .threw T.heap.size, hrun, hend, Or.inr ⟨T.heap.size, rfl, cls, ce, locs, hx U hWs.alike f1 (fun q hq => f2 q hq (fun z hz => nomatch hz)), hce, hO.vm, hcl, hWs, hall, hf⟩⟩
  refine st1 _ ?_
  show Steps p.tables e below (T1.setTop { method := m, pc := pc + 3, locals := ls, stack := .ref T.heap.size :: rest, locked := none }) _
  jvm_step X₁.here [X₁.here.top, hexec, d3', Value.category]
  exact X₁.ldcString hexec (own := own) (text := text) (index := is) (a := sa) hown' hstr'.1 hstr'.2
    (g := { method := m, pc := pc + 4, locals := ls, stack := .ref T.heap.size :: .ref T.heap.size :: rest, locked := none }) rfl d4' _ hsteps
theorem gx_throwSW {cc : ByteArray} {pc : Nat} (hexec : p.tables.exec = Jvm.exec) (hb : c.code = cc) (hl : l.stackTraces = false) {own cls text : String} {names : List String} {ik is ic mc ms sa : Nat} {A : Nat → Prop}
    (hown : s.vm.findClass own = some m.cls) (hcls : Bundle.fit cls = true) (hnames : ∀ n ∈ names, Bundle.fit n = true)
    (hk : (Cond.classLink own ik cls).before args s = true) (hini : (Cond.initialized cls).before args s = true) (hstr : vk_R own is text sa s) (hat : ∀ w ∈ vx_atS own ic cls names, w.before args s = true)
    (hgood : ∀ w ∈ Cond.classLink own ik cls :: Cond.initialized cls :: vx_atS own ic cls names, vx_ot w = true)
    (hU : vx_Zq Bundle.tN "UNASSIGNED_STACK" Bundle.steD A s H) (hN : vx_Zq Bundle.tN "SUPPRESSED_SENTINEL" Bundle.listD A s H) (hsize : ls.size = c.maxLocals)
    (d0 : decode cc pc = .ok (.new ik, 3)) (d3 : decode cc (pc + 3) = .ok (.dup, 1)) (d4 : decode cc (pc + 4) = .ok (.ldc_w is, 3)) (d7 : decode cc (pc + 7) = .ok (.invokespecial ic, 3)) (d10 : decode cc (pc + 10) = .ok (.athrow, 1))
    (hout : ∀ x ∈ c.exceptionTable.toList, covers x (pc + 10) = false)
    (hRframes : names.length + 3 < R.frames) (hRlocals : (rest.map fun v => v.category).sum + (13 * (names.length + 1) + 43) ≤ R.locals) (hRcells : cells + 1 ≤ R.cells) (hRslots : slots + 6 ≤ R.slots) (hlocks : meth.locks = false)
    (hx : ∀ t : State, s.vm.Alike t.vm → H.size ≤ t.heap.size → (∀ q : Nat, q < H.size → t.heap[q]? = H[q]?) → XC cls s t)
    (hf : ∀ z ∈ locs, free z.base) (hc : cells + 1 ≤ mc) (hs : slots + 6 ≤ ms) :
    W p l e R s m args below meth c H locs cells slots (vx_MQ below Qc XC args s mc ms free) (F0 m pc ls rest) := by
  intro T hT X
  have htr : e.platform.stackTraces = false := (show e.platform.stackTraces = l.stackTraces by rw [X.admits.platform]).trans hl
  have Y := vx_rebase X (R' := { frames := R.frames, locals := R.locals, cells := 1, slots := 6 }) (Nat.le_refl _) (Nat.le_refl _) hRcells hRslots
  obtain ⟨s', hA⟩ : ∃ z, z = (T.setVm s.vm).setFrames (.invoking m args :: below) := ⟨_, rfl⟩
  rw [← hA] at Y
  have hvm : s'.vm = s.vm := by rw [hA]; rfl
  have hhp : s'.heap = H := by rw [hA]; exact hT
  have hW0 : s.WarmedH s'.vm := by rw [hvm]; exact State.WarmedH.refl s
  have hat' : ∀ w ∈ vx_atS own ic cls names, w.before args s' = true := fun w hw => vx_ot_at hW0 hvm.symm (hgood w (List.mem_cons_of_mem _ (List.mem_cons_of_mem _ hw))) (hat w hw)
  have hk' : (Cond.classLink own ik cls).before args s' = true := vx_ot_at hW0 hvm.symm (hgood _ List.mem_cons_self) hk
  have hini' : (Cond.initialized cls).before args s' = true := vx_ot_at hW0 hvm.symm (hgood _ (List.mem_cons_of_mem _ List.mem_cons_self)) hini
  have hU' : vx_Zq Bundle.tN "UNASSIGNED_STACK" Bundle.steD A s' s'.heap := by rw [hhp]; exact vx_Zq.moved hW0.alike hU
  have hN' : vx_Zq Bundle.tN "SUPPRESSED_SENTINEL" Bundle.listD A s' s'.heap := by rw [hhp]; exact vx_Zq.moved hW0.alike hN
  have h : ∀ w ∈ Bundle.ownAtoms own ic cls names, w.before args s' = true := vx_own hat' (vx_isRefq hU'.1) (vx_isRefq hN'.1) hU'.2.word hN'.2.word
  have hown' : s'.vm.findClass own = some m.cls := by rw [hvm]; exact hown
  have hins : (Cond.instantiable cls 6).before args s' = true := h _ (by simp [Bundle.ownAtoms])
  obtain ⟨vm₁, cX, kX, hfX, hkX, -, -, X₁, st1⟩ := Y.newCold hexec (own := own) (C := cls) (index := ik) (n := 6) hown' hk' hins hini'
    (g := F0 m pc ls rest) rfl (by rw [hb]; exact d0) (Nat.le_refl _) (Nat.le_refl _)
  generalize hT1 : (T.setVm vm₁).pushCell { cls := cX, slots := kX.instanceTypes.map defaultValue, vm := .none } = T1 at X₁ st1
  have hcat : (Value.ref T.heap.size).category = 1 := rfl
  have hcellA : T1.heap[T.heap.size]? = some (freshCell cX kX) := by rw [← hT1]; exact State.heap_pushCell_size _ _
  have d3' : decode c.code (pc + 3) = .ok (.dup, 1) := by rw [hb]; exact d3
  have d4' : decode c.code (pc + 4) = .ok (.ldc_w is, 3) := by rw [hb]; exact d4
  have hstr' : vk_R own is text sa s' := vk_R.warm hW0 hstr
  obtain ⟨U, hsteps, hrun, hend, hW, hsame, ce, hce, hO⟩ := X₁.ctorThrowS hexec htr (own := own) (cls := cls) (names := names) (ic := ic) hown' hcls hnames h (fun x hx => nomatch hx) hfX hkX hcellA (by rw [hhp, hT]; exact Nat.le_refl _) (msg := .ref sa) rfl
    (g := { method := m, pc := pc + 7, locals := ls, stack := .ref sa :: .ref T.heap.size :: .ref T.heap.size :: rest, locked := none }) rfl hsize rfl rfl (rest := rest) rfl
    (by rw [hb]; exact d7) (by rw [hb]; exact d10) hout hRframes (by simp only [List.map_cons, List.sum_cons, hcat]; omega) hlocks
  obtain ⟨f1, f2⟩ := vx_frame hsame
  rw [hhp] at f1 f2
  have hWs : s.WarmedH U.vm := State.WarmedH.trans hW0 hW
  have hcl : s.vm.findClass cls = some ce.cls := by
    have h9 := hO.cls
    rw [hvm] at h9
    exact h9
  have hall : s.sameButNew ({ U with vm := s.vm } : State) locs mc ms := by
    subst hA
    obtain ⟨e1, e2⟩ := hsame
    rw [State.setFrames_setFrames] at e1
    have h2 : (T.setVm s.vm).sameButNew ({ U with vm := s.vm } : State) [] (0 + 1) (0 + 6) := ⟨e1, e2⟩
    have h3 := X.same.trans h2
    rw [List.append_nil] at h3
    exact h3.mono hc hs
  refine ⟨U, ?_, .threw T.heap.size, hrun, hend, Or.inr ⟨T.heap.size, rfl, cls, ce, locs, hx U hWs.alike f1 (fun q hq => f2 q hq (fun z hz => nomatch hz)), hce, hO.vm, hcl, hWs, hall, hf⟩⟩
  refine st1 _ ?_
  show Steps p.tables e below (T1.setTop { method := m, pc := pc + 3, locals := ls, stack := .ref T.heap.size :: rest, locked := none }) _
  jvm_step X₁.here [X₁.here.top, hexec, d3', Value.category]
  exact X₁.ldcStringW hexec (own := own) (text := text) (index := is) (a := sa) hown' hstr'.1 hstr'.2
    (g := { method := m, pc := pc + 4, locals := ls, stack := .ref T.heap.size :: .ref T.heap.size :: rest, locked := none }) rfl d4' _ hsteps
end GU

def xNames : List String := ["java/lang/RuntimeException", "java/lang/Exception"]
def gOnT (w : Cond) : Bool := w.onTables && (w.keeps || w.faceAtom)
section GV
variable {X : gX} {p : Program} {l : Launch} {e : Env} {R : Room} {s : State} {m : MethodId} {args : Array Value} {below : List Frame} {meth : Method} {c : Code} {H : Heap} {locs : List Loc} {cells slots mc ms : Nat} {Q : State → Prop} {cc : ByteArray} {nL : Nat} {own : String} {τ : gτ} {G G' : gG} {pc : Nat} {ls : Array Slot} {rest : List Value} {ρ : Type} {K : ρ → Prop} {o : String ⊕ Option Value}
theorem gWord (fx : gFx X p s m args meth c cc nL own) (hS : gS0 l X) {w : Cond} (hw : w ∈ lw_tbl) (hg : gOnT w = true) : w.before args s = true := by
  obtain ⟨a0, h0⟩ := hS.1.2
  have hA := fx.2.2.2.2.2.2.1
  simp only [gOnT, Bool.and_eq_true, Bool.or_eq_true] at hg
  obtain ⟨h1, h2⟩ := hg
  have h3 : w.before args (s.setVm s.vm) = true := by
    rcases h2 with h2 | h2
    · exact Cond.onTables_warm hA h1 h2 (h0 w hw)
    · rw [Cond.onTables_vm (A' := a0) (U' := X.2.2) s.vm w h1]
      exact Cond.faceAtom_setVm hA.alike w h2 (h0 w hw)
  rwa [State.setVm_self] at h3
/-- ends of a method that may throw -/
def gQX (X : gX) (τ : gτ) (o : String ⊕ Option Value) (G : gG) : Array Value → State → Outcome → State → Prop := fun _ _ oc t => ∃ v, o = .inr v ∧ oc = .returned v ∧ gOK X τ G t
def gXC (X : gX) (τ : gτ) (o : String ⊕ Option Value) (G : gG) : String → State → State → Prop := fun E _ t => o = .inl E ∧ gInv X τ G t.heap
def gMX (l : Launch) (X : gX) (τ : gτ) (y : MethodName) (b : ByteArray) (mL : Nat) (ret : Option FieldType) (rm : Room) (av : List Value) (G : gG) (o : String ⊕ Option Value) (G' : gG) : Prop :=
  vx_Met l y (wS y b mL ret) rm (gPre X τ av G) (gQX X τ o G') (gXC X τ o G') rm.cells rm.slots (gFree X)
theorem g_bodyX {y : MethodName} {b : ByteArray} {mL : Nat} {ret : Option FieldType} {rm : Room} {av : List Value} (hy : plainName y.cls = true) (hle : (lg_sl av).length ≤ mL)
    (body : ∀ p e s m args below meth c (ls : Array Slot), gFx X p s m args meth c b mL y.cls → meth.sig.returnType = ret → (∀ x ∈ c.exceptionTable.toList, False) → gHw X τ G s.heap [] → lv_has ls mL (lv_args 0 av) → W p l e rm s m args below meth c s.heap [] 0 0 (vx_MQ below (gQX X τ o G') (gXC X τ o G') args s rm.cells rm.slots (gFree X)) (F0 m 0 ls [])) : gMX l X τ y b mL ret rm av G o G' := by
  refine vx_ofW (cc := b) (maxL := mL) (ret := ret) hy rfl ?_
  intro p e s m args below meth c s₁ B hml hxt hv
  obtain ⟨rfl, hK, hA, hI⟩ := hv
  have hts := atoms_spec (ws := wS y b mL ret) B.pre
  rw [lg_entry_eq]
  exact body p e s m _ below meth c _ ⟨B.exec, B.bytes, hml, findClass_of_methodNamed B.named, fun w h => hts w (List.mem_cons_of_mem _ h), hK, hA, B.notSynchronized⟩ B.returns hxt ⟨hI, fun q h => by cases h⟩ (lv_entry av hle)
theorem g_iretX (fx : gFx X p s m args meth c cc nL own) (hw : gHw X τ G H locs) (hr : meth.sig.returnType = some .int) {v : Int32} (hc : cells ≤ mc ∧ slots ≤ ms) (hdg : decode cc pc = .ok (.ireturn, 1)) : W p l e R s m args below meth c H locs cells slots (vx_MQ below (gQX X τ (.inr (some (.int v))) G) (gXC X τ (.inr (some (.int v))) G) args s mc ms (gFree X)) (F0 m pc ls [.int v]) :=
  W.widen hc.1 hc.2 (vx_ret (W.iret fx.1 fx.2.1 hr (fun t ht hW => ⟨_, rfl, rfl, gOK_end fx hw ht hW⟩) hw.2 hdg fx.2.2.2.2.2.2.2))
theorem g_zretX (fx : gFx X p s m args meth c cc nL own) (hw : gHw X τ G H locs) (hr : meth.sig.returnType = some .boolean) {v : Int32} (hv : v = 0 ∨ v = 1) (hc : cells ≤ mc ∧ slots ≤ ms) (hdg : decode cc pc = .ok (.ireturn, 1)) : W p l e R s m args below meth c H locs cells slots (vx_MQ below (gQX X τ (.inr (some (.int v))) G) (gXC X τ (.inr (some (.int v))) G) args s mc ms (gFree X)) (F0 m pc ls [.int v]) :=
  W.widen hc.1 hc.2 (vx_ret (W.zret fx.1 fx.2.1 hr (by rcases hv with rfl | rfl <;> rfl) (fun t ht hW => ⟨_, rfl, rfl, gOK_end fx hw ht hW⟩) hw.2 hdg fx.2.2.2.2.2.2.2))
theorem g_vretX (fx : gFx X p s m args meth c cc nL own) (hw : gHw X τ G H locs) (hr : meth.sig.returnType = none) (hc : cells ≤ mc ∧ slots ≤ ms) (hdg : decode cc pc = .ok (.return_, 1)) : W p l e R s m args below meth c H locs cells slots (vx_MQ below (gQX X τ (.inr none) G) (gXC X τ (.inr none) G) args s mc ms (gFree X)) (F0 m pc ls []) :=
  W.widen hc.1 hc.2 (vx_ret (W.vret fx.1 fx.2.1 hr (fun t ht hW => ⟨_, rfl, rfl, gOK_end fx hw ht hW⟩) hw.2 hdg fx.2.2.2.2.2.2.2))
theorem g_aretX (fx : gFx X p s m args meth c cc nL own) (hw : gHw X τ G H locs) {C : String} (hr : meth.sig.returnType = some (.object C)) {a : Nat} (hc : cells ≤ mc ∧ slots ≤ ms) (hdg : decode cc pc = .ok (.areturn, 1)) : W p l e R s m args below meth c H locs cells slots (vx_MQ below (gQX X τ (.inr (some (.ref a))) G) (gXC X τ (.inr (some (.ref a))) G) args s mc ms (gFree X)) (F0 m pc ls [.ref a]) :=
  W.widen hc.1 hc.2 (vx_ret (W.aret fx.1 fx.2.1 hr (Or.inl ⟨C, rfl⟩) (Or.inr ⟨a, rfl⟩) (fun t ht hW => ⟨_, rfl, rfl, gOK_end fx hw ht hW⟩) hw.2 hdg fx.2.2.2.2.2.2.2))
/-- the words of a throw -/
def gLx (own : String) (ik ic : Nat) (cls : String) : Prop := (∀ w ∈ Cond.classLink own ik cls :: Cond.initialized cls :: vx_atS own ic cls xNames, w ∈ lw_tbl ∧ gOnT w = true ∧ vx_ot w = true) ∧ Bundle.fit cls = true
theorem gLx_of {own : String} {ik ic : Nat} {cls : String} (h1 : ∀ w ∈ Cond.classLink own ik cls :: Cond.initialized cls :: vx_atS own ic cls xNames, w ∈ tables_1) (h2 : ∀ w ∈ Cond.classLink own ik cls :: Cond.initialized cls :: vx_atS own ic cls xNames, gOnT w = true ∧ vx_ot w = true) (h3 : Bundle.fit cls = true) : gLx own ik ic cls := ⟨fun w h => ⟨List.mem_append_right _ (h1 w h), h2 w h⟩, h3⟩
theorem gStatU (fx : gFx X p s m args meth c cc nL own) (hw : gHw X τ G H locs) (hS : gS0 l X) : vx_Zq Bundle.tN "UNASSIGNED_STACK" Bundle.steD (gFree X) s H ∧ vx_Zq Bundle.tN "SUPPRESSED_SENTINEL" Bundle.listD (gFree X) s H :=
  ⟨(vx_Zq.moved fx.2.2.2.2.2.2.1.alike hS.2.2.2.2.1).kept (gOld hw), (vx_Zq.moved fx.2.2.2.2.2.2.1.alike hS.2.2.2.2.2).kept (gOld hw)⟩
theorem g_throwS (fx : gFx X p s m args meth c cc nL own) (hw : gHw X τ G H locs) (hS : gS0 l X) (hls : ls.size = nL) (hxt : ∀ x ∈ c.exceptionTable.toList, False) {cls text : String} {bs : List Int32} {ik is ic : Nat} (lx : gLx own ik ic cls) (ht : (own, is, text, bs) ∈ gTexts)
    (d0 : decode cc pc = .ok (.new ik, 3)) (d3 : decode cc (pc + 3) = .ok (.dup, 1)) (d4 : decode cc (pc + 4) = .ok (.ldc is, 2)) (d6 : decode cc (pc + 6) = .ok (.invokespecial ic, 3)) (d9 : decode cc (pc + 9) = .ok (.athrow, 1))
    (hR : 5 < R.frames ∧ (rest.map fun v => v.category).sum + 82 ≤ R.locals ∧ cells + 1 ≤ R.cells ∧ slots + 6 ≤ R.slots) (hc : cells + 1 ≤ mc ∧ slots + 6 ≤ ms) : W p l e R s m args below meth c H locs cells slots (vx_MQ below (gQX X τ (.inl cls) G) (gXC X τ (.inl cls) G) args s mc ms (gFree X)) (F0 m pc ls rest) := by
  obtain ⟨sa, hsa, -⟩ := hS.2.1 _ ht
  obtain ⟨hU, hN⟩ := gStatU fx hw hS
  have hwd : ∀ w ∈ Cond.classLink own ik cls :: Cond.initialized cls :: vx_atS own ic cls xNames, w.before args s = true := fun w h => gWord fx hS (lx.1 w h).1 (lx.1 w h).2.1
  refine gx_throwS (names := xNames) (A := gFree X) fx.1 fx.2.1 hS.1.1 fx.2.2.2.1 lx.2 (by decide +kernel) (hwd _ List.mem_cons_self) (hwd _ (List.mem_cons_of_mem _ List.mem_cons_self)) (vk_R.warm fx.2.2.2.2.2.2.1 hsa) (fun w h => hwd w (List.mem_cons_of_mem _ (List.mem_cons_of_mem _ h))) (fun w h => (lx.1 w h).2.2) hU hN (hls.trans fx.2.2.1.symm) d0 d3 d4 d6 d9 (fun x h => (hxt x h).elim) hR.1 hR.2.1 hR.2.2.1 hR.2.2.2 fx.2.2.2.2.2.2.2 (fun t hvm hz hq => ⟨rfl, ?_⟩) hw.2 hc.1 hc.2
  obtain ⟨h1, h2, h3, h4⟩ := hw.1
  exact ⟨fun a κ n h => ⟨(h1 a κ n h).1.kept ⟨fun _ _ => rfl, fun _ _ => rfl, rfl, rfl, rfl⟩ (hq a (h1 a κ n h).1.lt), (h1 a κ n h).2⟩, h2, Nat.le_trans h3 hz, fun q h => by rw [hq q (Nat.lt_of_lt_of_le h h3)]; exact h4 q h⟩
theorem g_throwSW (fx : gFx X p s m args meth c cc nL own) (hw : gHw X τ G H locs) (hS : gS0 l X) (hls : ls.size = nL) (hxt : ∀ x ∈ c.exceptionTable.toList, False) {cls text : String} {bs : List Int32} {ik is ic : Nat} (lx : gLx own ik ic cls) (ht : (own, is, text, bs) ∈ gTexts)
    (d0 : decode cc pc = .ok (.new ik, 3)) (d3 : decode cc (pc + 3) = .ok (.dup, 1)) (d4 : decode cc (pc + 4) = .ok (.ldc_w is, 3)) (d6 : decode cc (pc + 7) = .ok (.invokespecial ic, 3)) (d9 : decode cc (pc + 10) = .ok (.athrow, 1))
    (hR : 5 < R.frames ∧ (rest.map fun v => v.category).sum + 82 ≤ R.locals ∧ cells + 1 ≤ R.cells ∧ slots + 6 ≤ R.slots) (hc : cells + 1 ≤ mc ∧ slots + 6 ≤ ms) : W p l e R s m args below meth c H locs cells slots (vx_MQ below (gQX X τ (.inl cls) G) (gXC X τ (.inl cls) G) args s mc ms (gFree X)) (F0 m pc ls rest) := by
  obtain ⟨sa, hsa, -⟩ := hS.2.1 _ ht
  obtain ⟨hU, hN⟩ := gStatU fx hw hS
  have hwd : ∀ w ∈ Cond.classLink own ik cls :: Cond.initialized cls :: vx_atS own ic cls xNames, w.before args s = true := fun w h => gWord fx hS (lx.1 w h).1 (lx.1 w h).2.1
  refine gx_throwSW (names := xNames) (A := gFree X) fx.1 fx.2.1 hS.1.1 fx.2.2.2.1 lx.2 (by decide +kernel) (hwd _ List.mem_cons_self) (hwd _ (List.mem_cons_of_mem _ List.mem_cons_self)) (vk_R.warm fx.2.2.2.2.2.2.1 hsa) (fun w h => hwd w (List.mem_cons_of_mem _ (List.mem_cons_of_mem _ h))) (fun w h => (lx.1 w h).2.2) hU hN (hls.trans fx.2.2.1.symm) d0 d3 d4 d6 d9 (fun x h => (hxt x h).elim) hR.1 hR.2.1 hR.2.2.1 hR.2.2.2 fx.2.2.2.2.2.2.2 (fun t hvm hz hq => ⟨rfl, ?_⟩) hw.2 hc.1 hc.2
  obtain ⟨h1, h2, h3, h4⟩ := hw.1
  exact ⟨fun a κ n h => ⟨(h1 a κ n h).1.kept ⟨fun _ _ => rfl, fun _ _ => rfl, rfl, rfl, rfl⟩ (hq a (h1 a κ n h).1.lt), (h1 a κ n h).2⟩, h2, Nat.le_trans h3 hz, fun q h => by rw [hq q (Nat.lt_of_lt_of_le h h3)]; exact h4 q h⟩
/-- a call of a method that may throw: it goes on, or out -/
theorem g_ofRunX {pc mc9 ms9 : Nat} {st0 : List Value} {o1 : String ⊕ Option Value} {G1 : gG} {a : Array Value} (fx : gFx X p s m args meth c cc nL own) (hw : gHw X τ G H locs) (hxt : ∀ x ∈ c.exceptionTable.toList, False) (hr : vx_Run p l e R s m args below meth c H locs cells slots mc9 ms9 (F0 m pc ls st0) rest (gQX X τ o1 G1 a) (gXC X τ o1 G1) (gFree X)) (hc : cells + mc9 ≤ mc ∧ slots + ms9 ≤ ms)
    (kk : ∀ (v : Option Value) (H1 : Heap) (locs1 : List Loc), o1 = .inr v → gHw X τ G1 H1 locs1 → W p l e R s m args below meth c H1 locs1 (cells + mc9) (slots + ms9) (vx_MQ below (gQX X τ o G') (gXC X τ o G') args s mc ms (gFree X)) (F0 m (pc + 3) ls (v.toList ++ rest)))
    (kx : ∀ E, o1 = .inl E → o = .inl E ∧ G' = G1) : W p l e R s m args below meth c H locs cells slots (vx_MQ below (gQX X τ o G') (gXC X τ o G') args s mc ms (gFree X)) (F0 m pc ls st0) := by
  intro T hT X1
  rcases hr T hT X1 with ⟨v1, st₀, t, T', L, h0, X', hL, e1, e2, ⟨v, hv, hv2, -, -, hI⟩, st⟩ | ⟨q, st₀, t, T', L, E, ce, h0, X', hL, e1, e2, ⟨hE, hI⟩, hce, hcv, hcl, st⟩
  · cases hv2
    rw [← e1] at hI
    obtain ⟨t2, a1, b1⟩ := kk _ T'.heap (locs ++ L) hv ⟨hI, fun q hq => by
      rcases List.mem_append.mp hq with h | h
      · exact hw.2 q h
      · exact hL q h⟩ T' rfl X'
    exact ⟨t2, st t2 a1, b1⟩
  · obtain ⟨rfl, rfl⟩ := kx E hE
    rw [← e1] at hI
    have k := vx_out (p := p) (l := l) (e := e) (R := R) (s := s) (m := m) (args := args) (below := below) (meth := meth) (c := c) (H := T'.heap) (locs := locs ++ L) (cells := cells + mc9) (slots := slots + ms9) (Qc := gQX X τ (.inl E) G') (XC := gXC X τ (.inl E) G') (free := gFree X) (ls := ls) (rest := rest) (pc := pc) (E := E) (ce := ce) (q := q) (mc := mc) (ms := ms) (fun x h => (hxt x h).elim) fx.2.2.2.2.2.2.2 (by rw [e1]; exact hce) hcv hcl (fun t9 ht9 _ => ⟨rfl, by rw [ht9]; exact hI⟩) (fun z hz => by
      rcases List.mem_append.mp hz with h | h
      · exact hw.2 z h
      · exact hL z h) hc.1 hc.2
    obtain ⟨t2, a1, b1⟩ := k T' rfl X'
    exact ⟨t2, st.trans a1, b1⟩
theorem g_callVX {idx κ n mL : Nat} {C : String} {y : MethodName} {b : ByteArray} {ret : Option FieldType} {rm : Room} {As : List Value} {a : Nat} {o1 : String ⊕ Option Value} {G1 : gG} (fx : gFx X p s m args meth c cc nL own) (hw : gHw X τ G H locs) (hxt : ∀ x ∈ c.exceptionTable.toList, False) (hM : gMX l X τ y b mL ret rm (.ref a :: As) G o1 G1) (lk : gLv own idx C y b mL ret n) {r : vw_C} (hc : vwCl[κ]? = some r) (hcr : r.1 = C) (hT : gK τ a κ) (hn : As.length = n) (hls : ls.size = nL) {st0 : List Value} (hst : st0 = As.reverse ++ .ref a :: rest) (hrm : rm.frames + 1 ≤ R.frames ∧ 8 + (mL + 11) + rm.locals ≤ R.locals) (hrest : (rest.map fun v => v.category).sum ≤ 8) (hf : cells + rm.cells ≤ R.cells ∧ slots + rm.slots ≤ R.slots) (hcm : cells + rm.cells ≤ mc ∧ slots + rm.slots ≤ ms) (hdg : decode cc pc = .ok (.invokevirtual idx, 3))
    (kk : ∀ (v : Option Value) (H1 : Heap) (locs1 : List Loc), o1 = .inr v → gHw X τ G1 H1 locs1 → W p l e R s m args below meth c H1 locs1 (cells + rm.cells) (slots + rm.slots) (vx_MQ below (gQX X τ o G') (gXC X τ o G') args s mc ms (gFree X)) (F0 m (pc + 3) ls (v.toList ++ rest)))
    (kx : ∀ E, o1 = .inl E → o = .inl E ∧ G' = G1) : W p l e R s m args below meth c H locs cells slots (vx_MQ below (gQX X τ o G') (gXC X τ o G') args s mc ms (gFree X)) (F0 m pc ls st0) := by
  subst hst
  obtain ⟨hexec, hb, hml, hown, hts, hK, hA, hlk⟩ := id fx
  have hob := gObj hw hT hc
  obtain ⟨cell, q1, q2, q3, -⟩ := hob
  have hcl := (hK.1 κ _ hc).2.1
  exact g_ofRunX fx hw hxt (vx_runV (As := As) (rest := rest) (Ts := wA) (own := own) ⟨hexec, hb, hml, hown, hts⟩ hM (cwV n hts lk.1 rfl rfl rfl lk.2 hrm) ⟨gPre_blind _, ⟨cell, q1, by rw [q3]; rfl, by rw [← hcr, q2]; exact hcl⟩, fun U hU hW => ⟨rfl, va_K.moved hW.alike hK, State.WarmedH.trans hA hW, by rw [hU]; exact hw.1⟩⟩ rfl hn hls rfl (lv_room hrest) hdg hf) hcm kk kx
theorem g_callSX {idx n mL : Nat} {y : MethodName} {b : ByteArray} {ret : Option FieldType} {rm : Room} {As : List Value} {o1 : String ⊕ Option Value} {G1 : gG} (fx : gFx X p s m args meth c cc nL own) (hw : gHw X τ G H locs) (hxt : ∀ x ∈ c.exceptionTable.toList, False) (hM : gMX l X τ y b mL ret rm As G o1 G1) (lk : gLs own idx y b mL ret n) (hn : As.length = n) (hls : ls.size = nL) {st0 : List Value} (hst : st0 = As.reverse ++ rest) (hrm : rm.frames + 1 ≤ R.frames ∧ 8 + (mL + 11) + rm.locals ≤ R.locals) (hrest : (rest.map fun v => v.category).sum ≤ 8) (hf : cells + rm.cells ≤ R.cells ∧ slots + rm.slots ≤ R.slots) (hcm : cells + rm.cells ≤ mc ∧ slots + rm.slots ≤ ms) (hdg : decode cc pc = .ok (.invokestatic idx, 3))
    (kk : ∀ (v : Option Value) (H1 : Heap) (locs1 : List Loc), o1 = .inr v → gHw X τ G1 H1 locs1 → W p l e R s m args below meth c H1 locs1 (cells + rm.cells) (slots + rm.slots) (vx_MQ below (gQX X τ o G') (gXC X τ o G') args s mc ms (gFree X)) (F0 m (pc + 3) ls (v.toList ++ rest)))
    (kx : ∀ E, o1 = .inl E → o = .inl E ∧ G' = G1) : W p l e R s m args below meth c H locs cells slots (vx_MQ below (gQX X τ o G') (gXC X τ o G') args s mc ms (gFree X)) (F0 m pc ls st0) := by
  subst hst
  obtain ⟨hexec, hb, hml, hown, hts, hK, hA, hlk⟩ := id fx
  exact g_ofRunX fx hw hxt (vx_runS (As := As) (rest := rest) (Ts := wA) (own := own) ⟨hexec, hb, hml, hown, hts⟩ hM (va_cwS n hts lk.1 rfl rfl rfl lk.2 hrm) ⟨gPre_blind _, fun U hU hW => ⟨rfl, va_K.moved hW.alike hK, State.WarmedH.trans hA hW, by rw [hU]; exact hw.1⟩⟩ rfl hn hls rfl (lv_room hrest) hdg hf) hcm kk kx
/-- behind a call that may have thrown -/
def gBindX {α β : Type} (q : Option ((String ⊕ α) × gG)) (f : α → gG → Option ((String ⊕ β) × gG)) : Option ((String ⊕ β) × gG) := match q with
  | none => none
  | some (.inl E, G) => some (.inl E, G)
  | some (.inr v, G) => f v G
theorem gOk_bindX {α β : Type} {q : Option ((String ⊕ α) × gG)} {f : α → gG → Option ((String ⊕ β) × gG)} {K : (String ⊕ β) × gG → Prop} (h : gOk (gBindX q f) K) : (∃ E G1, q = some (.inl E, G1) ∧ K (.inl E, G1)) ∨ ∃ v G1, q = some (.inr v, G1) ∧ gOk (f v G1) K := by
  unfold gBindX at h
  match q, h with
  | none, h => obtain ⟨r, h1, -⟩ := h; cases h1
  | some (.inl E, G), h => exact Or.inl ⟨E, G, rfl, gOk_some h⟩
  | some (.inr v, G), h => exact Or.inr ⟨v, G, rfl, h⟩
def gOi (x : String ⊕ Int32) : String ⊕ Option Value := match x with
  | .inl E => .inl E
  | .inr v => .inr (some (.int v))
def gOr (x : String ⊕ Nat) : String ⊕ Option Value := match x with
  | .inl E => .inl E
  | .inr v => .inr (some (.ref v))
def gOv (x : String ⊕ Unit) : String ⊕ Option Value := match x with
  | .inl E => .inl E
  | .inr _ => .inr none
/-- a text is loaded -/
theorem g_ldcS (fx : gFx X p s m args meth c cc nL own) (hS : gS0 l X) {idx : Nat} {text : String} {bs : List Int32} (ht : (own, idx, text, bs) ∈ gTexts) (hdg : decode cc pc = .ok (.ldc idx, 2)) (kk : ∀ w : Nat, gStr X w bs → W p l e R s m args below meth c H locs cells slots Q (F0 m (pc + 2) ls (.ref w :: rest))) : W p l e R s m args below meth c H locs cells slots Q (F0 m pc ls rest) := by
  obtain ⟨w, hR, hw⟩ := hS.2.1 _ ht
  have h := vk_R.warm fx.2.2.2.2.2.2.1 hR
  intro T hT X1
  obtain ⟨t, a1, b1⟩ := kk w hw T hT X1
  exact ⟨t, X1.ldcString fx.1 (own := own) (text := text) (index := idx) (a := w) fx.2.2.2.1 h.1 h.2 (g := F0 m pc ls rest) rfl (by rw [fx.2.1]; exact hdg) t a1, b1⟩
end GV
abbrev x_IAE : String := "java/lang/IllegalArgumentException"
abbrev x_ISE : String := "java/lang/IllegalStateException"
abbrev x_IOE : String := "java/lang/IndexOutOfBoundsException"
abbrev x_NSE : String := "java/util/NoSuchElementException"
abbrev x_UOE : String := "java/lang/UnsupportedOperationException"
/-- NoSuchElementException's own constructor names its super's by another place: its words -/
def ownAtomsN (own : String) (ic : Nat) : List Cond :=
  Bundle.throwableAtoms ++ Bundle.throwableSAtoms ++ (Bundle.passSAtoms x_NSE "java/lang/RuntimeException" 13 prog_32_method_4_code ++ Bundle.chainSAtoms "java/lang/RuntimeException" ["java/lang/Exception"]) ++
  [.methodLink own ic (Bundle.initS x_NSE), .instantiable x_NSE 6, .castable x_NSE x_NSE, .selects x_NSE Bundle.tFill0 Bundle.tFill0, .selects x_NSE Bundle.tFill Bundle.tFill,
   .lays x_NSE Bundle.tN "cause" "Ljava/lang/Throwable;", .lays x_NSE Bundle.tN "stackTrace" Bundle.steD, .lays x_NSE Bundle.tN "suppressedExceptions" Bundle.listD, .lays x_NSE Bundle.tN "detailMessage" "Ljava/lang/String;",
   .isRef (.static Bundle.tN "UNASSIGNED_STACK" Bundle.steD), .isRef (.static Bundle.tN "SUPPRESSED_SENTINEL" Bundle.listD),
   .fieldLink Bundle.tN 198 Bundle.tN "backtrace" "Ljava/lang/Object;", .lays Bundle.tN Bundle.tN "backtrace" "Ljava/lang/Object;", .lays x_NSE Bundle.tN "backtrace" "Ljava/lang/Object;"]
def gLxN (own : String) (ik ic : Nat) : Prop := ∀ w ∈ Cond.classLink own ik x_NSE :: Cond.initialized x_NSE :: (ownAtomsN own ic).filter vx_no, w ∈ lw_tbl ∧ gOnT w = true ∧ vx_ot w = true
theorem gLxN_of {own : String} {ik ic : Nat} (h1 : ∀ w ∈ Cond.classLink own ik x_NSE :: Cond.initialized x_NSE :: (ownAtomsN own ic).filter vx_no, w ∈ tables_1) (h2 : ∀ w ∈ Cond.classLink own ik x_NSE :: Cond.initialized x_NSE :: (ownAtomsN own ic).filter vx_no, gOnT w = true ∧ vx_ot w = true) : gLxN own ik ic := fun w h => ⟨List.mem_append_right _ (h1 w h), h2 w h⟩
section GN0
variable {p : Program} {l : Launch} {e : Env} {R : Room} {s : State} {m₀ : MethodId} {args : Array Value} {below : List Frame} {meth : Method} {c : Code} {W : State} {locs : List Loc} {cells slots : Nat}
set_option maxHeartbeats 1000000 in
theorem gn_ctorMade (X : Stand p l e R s m₀ args below meth c W locs cells slots) (hexec : p.tables.exec = Jvm.exec) (htr : e.platform.stackTraces = false) {own : String} {ic : Nat}
    (hown : s.vm.findClass own = some m₀.cls)
    (h : ∀ a ∈ ownAtomsN own ic, a.before args s = true)
    (hlocs : ∀ x ∈ locs, ∀ cell, s.heap[x.base]? = some cell → cell.vm.isStatics = false)
    {a : Addr} {cX : ClassId} {kX : Class} (hfoundX : s.vm.findClass x_NSE = some cX) (hkX : s.vm.classes[cX]? = some kX) (hcell : W.heap[a]? = some (freshCell cX kX)) (hnew : s.heap.size ≤ a)
    {msg : Value} (hmsg : msg.isRef = true)
    {g : JFrame} (hg : g.method = m₀) (hsize : g.locals.size = c.maxLocals) {rest : List Value} (hstack : g.stack = msg :: .ref a :: .ref a :: rest)
    (hd6 : decode c.code g.pc = .ok (.invokespecial ic, 3))
    (hRframes : xNames.length + 3 < R.frames) (hRlocals : 2 * g.monitorRoom + ((Value.ref a :: rest).map fun v => v.category).sum + (13 * (xNames.length + 1) + 42) ≤ R.locals) :
    ∃ (V : State) (ce : Cell) (L : List Loc), Stand p l e R s m₀ args below meth c (V.setCell a ce) (locs ++ L) cells slots ∧ (∀ y ∈ L, y.base = a) ∧ a < V.heap.size ∧ ce.cls = cX ∧ ce.vm = .none ∧
      ∀ target, Steps p.tables e below ((V.setCell a ce).setTop { g with stack := .ref a :: rest, pc := g.pc + 3 }) target → Steps p.tables e below (W.setTop g) target := by
  have howns : e.platform.frameOwnsMonitors = true := by rw [X.admits.platform]
  have hfin : e.platform.finalization = false := by rw [X.admits.platform]
  have hpl : e.platform.magicAccessors = ({} : Platform).magicAccessors := by rw [X.admits.platform]
  have a' : ∀ x, x ∈ ownAtomsN own ic → x.holds args s none s [] = true := fun x hx => h x hx
  obtain ⟨T, Z0, L, -, Y⟩ := ThrowableC.of_atoms (args := args) howns hfin hpl (fun x hx => h x (by simp [ownAtomsN, hx]))
  obtain ⟨Z, M, LZ, LM, hnZ⟩ := Init0T.ofS_atoms (args := args) hpl L Y (fun x hx => h x (by simp [ownAtomsN, hx]))
  obtain ⟨P1, L1, hP1m, hs1⟩ := PassC.ofS_atoms (args := args) (s := s) hpl (X := x_NSE) (Y := "java/lang/RuntimeException") (index := 13) (bytes := prog_32_method_4_code) (by decide +kernel) (by decide +kernel) (by decide +kernel) (by decide +kernel) (by decide +kernel) (by decide +kernel) (fun x hx => h x (by simp only [ownAtomsN, List.mem_append]; exact Or.inl (Or.inr (Or.inl hx))))
  obtain ⟨P2, Ps2, hlen2, L2, hL2, hP2m, hlk2, hlks2⟩ := Bundle.chainS (args := args) hpl hnZ ["java/lang/Exception"] "java/lang/RuntimeException" (by decide +kernel) (by decide +kernel) (fun x hx => h x (by simp only [ownAtomsN, List.mem_append]; exact Or.inl (Or.inr (Or.inr hx))))
  obtain ⟨Ps, hPs⟩ : ∃ Ps, Ps = P2 :: Ps2 := ⟨_, rfl⟩
  have hlen : Ps.length = xNames.length := by rw [hPs]; simp [hlen2, xNames]
  have hL : ∀ P, P ∈ Ps → P.LinksS e.platform s := by
    intro Q hQ
    rw [hPs] at hQ
    rcases List.mem_cons.mp hQ with rfl | hQ
    · exact L2
    · exact hL2 Q hQ
  have hlink1 : P1.sup = firstOf (Z.m T.toThrowableT) (Ps.map (·.toPassT)) := by rw [hPs]; exact Option.some.inj (hs1.symm.trans hP2m)
  have hlink : PassesOn (Z.m T.toThrowableT) (Ps.map (·.toPassT)) := by rw [hPs]; exact ⟨hlk2, hlks2⟩
  have hfound : s.vm.findClass x_NSE = some P1.m.cls := findClass_of_methodNamed hP1m
  cases Option.some.inj (hfoundX.symm.trans hfound)
  obtain ⟨c1, kX', hc1, hk, hord, -, -, hn6⟩ := Cond.instantiable_spec (a' (.instantiable x_NSE 6) (by simp [ownAtomsN]))
  cases Option.some.inj (hc1.symm.trans hfound)
  cases Option.some.inj (hkX.symm.trans hk)
  have hsel0 : selectMethod e.platform s.vm P1.m.cls T.fill0 = .method T.fill0 := by
    obtain ⟨c2, r2, m2, q1, q2, q3, q4, -⟩ := Cond.selects_spec (a' (.selects x_NSE Bundle.tFill0 Bundle.tFill0) (by simp [ownAtomsN]))
    cases Option.some.inj (q1.symm.trans hfound)
    cases Option.some.inj (q2.symm.trans (State.methodFound?_of_named Y.fill0 (by decide)))
    cases Option.some.inj (q3.symm.trans Y.fill0)
    rw [Launch.admits_selectMethod X.admits]; exact q4
  have hselF : selectMethod e.platform s.vm P1.m.cls T.fill = .method T.fill := by
    obtain ⟨c2, r2, m2, q1, q2, q3, q4, -⟩ := Cond.selects_spec (a' (.selects x_NSE Bundle.tFill Bundle.tFill) (by simp [ownAtomsN]))
    cases Option.some.inj (q1.symm.trans hfound)
    cases Option.some.inj (q2.symm.trans (State.methodFound?_of_named Y.fill (by decide)))
    cases Option.some.inj (q3.symm.trans Y.fill)
    rw [Launch.admits_selectMethod X.admits]; exact q4
  obtain ⟨cellS0, hcS0, hiss⟩ := Y.statics
  obtain ⟨u0, hu0⟩ := Cond.staticRefV Y.unassigned L.unassignedStatic L.statics hcS0 hiss (a' (.isRef (.static Bundle.tN "UNASSIGNED_STACK" Bundle.steD)) (by simp [ownAtomsN]))
  obtain ⟨sen, hsen⟩ := Cond.staticRefV Y.sentinel L.sentinelStatic L.statics hcS0 hiss (a' (.isRef (.static Bundle.tN "SUPPRESSED_SENTINEL" Bundle.listD)) (by simp [ownAtomsN]))
  obtain ⟨ci198, i198, fB, hk198, hg198, ha198, hsB, -, hnB, htB, hffB⟩ := Cond.ownField (t := .object "java/lang/Object") Y.found L.cls (by decide +kernel) (a' (.fieldLink Bundle.tN 198 Bundle.tN "backtrace" "Ljava/lang/Object;") (by simp [ownAtomsN])) (a' (.lays Bundle.tN Bundle.tN "backtrace" "Ljava/lang/Object;") (by simp [ownAtomsN])) e.platform hpl
  obtain ⟨cellS, hcS', heS, -, hkeep⟩ := X.same.2.2.2.2.2 T.aS cellS0 hcS0
  have hcellS : W.heap[T.aS]? = some cellS := hcS'
  have hout' : ∀ i, (⟨T.aS, i⟩ : Loc) ∉ locs := fun i hmem => by
    have := hlocs _ hmem cellS0 hcS0
    rw [hiss] at this; cases this
  have hknownS : cellS.vm ≠ .unknown := by
    rw [heS]; intro hu
    rw [show cellS0.vm = .unknown from hu] at hiss
    cases hiss
  have hneS : T.aS ≠ a := Nat.ne_of_lt (Nat.lt_of_lt_of_le (Array.getElem?_eq_some_iff.mp hcS0).1 hnew)
  obtain ⟨iM, hffM⟩ := Y.msg
  obtain ⟨tyC, dC, hdC, hdnC⟩ := Cond.laysAt hfound hk Y.cause (a' (.lays x_NSE Bundle.tN "cause" "Ljava/lang/Throwable;") (by simp [ownAtomsN]))
  obtain ⟨tyS, dS, hdS, hdnS⟩ := Cond.laysAt hfound hk Y.stack (a' (.lays x_NSE Bundle.tN "stackTrace" Bundle.steD) (by simp [ownAtomsN]))
  obtain ⟨tyP, dP, hdP, hdnP⟩ := Cond.laysAt hfound hk Y.supp (a' (.lays x_NSE Bundle.tN "suppressedExceptions" Bundle.listD) (by simp [ownAtomsN]))
  obtain ⟨tyM, dM, hdM, hdnM⟩ := Cond.laysAt hfound hk hffM (a' (.lays x_NSE Bundle.tN "detailMessage" "Ljava/lang/String;") (by simp [ownAtomsN]))
  obtain ⟨tyB, dB, hdB, hdnB⟩ := Cond.laysAt hfound hk hffB (a' (.lays x_NSE Bundle.tN "backtrace" "Ljava/lang/Object;") (by simp [ownAtomsN]))
  have bC := Cond.laysApart hdB hdC hdnB hdnC (by rw [hnB, Y.causeName]; decide)
  have bS := Cond.laysApart hdB hdS hdnB hdnS (by rw [hnB, Y.stackName]; decide)
  have bP := Cond.laysApart hdB hdP hdnB hdnP (by rw [hnB, Y.suppName]; decide)
  have hskip : SkipFacts T e.platform s (fun u => u) u0 ((preparedCellV T.toThrowableT (freshCell P1.m.cls kX) a u0 sen).withEntry W.cur) :=
    ⟨{ ci198 := ci198, i198 := i198, fBack := fB }, ⟨hk198, hg198, ha198, hsB⟩, by
      have := fresh_default (c := P1.m.cls) tyB
      rw [htB] at this
      simpa [preparedCellV, Cell.setSlot, Cell.withEntry, Array.getElem?_setIfInBounds, bC, bS, bP, bC.symm, bS.symm, bP.symm, defaultValue] using this, fun _ _ => rfl⟩
  obtain ⟨tm, methC, cdC, kC, vm₁, hnC, -, -, -, -, -, -, -, hW₁, st1⟩ := Steps.initColdS (tb := p.tables) (e := e) (below := below) (s := s) (U := W) X.here hexec X.warmed hpl hown (t := Bundle.initS x_NSE) rfl rfl (by decide +kernel)
    (a' (.methodLink own ic (Bundle.initS x_NSE)) (by simp [ownAtomsN])) (h (.instanceMethod (Bundle.initS x_NSE)) (by simp [ownAtomsN, Bundle.passSAtoms])) (bytes := prog_32_method_4_code) (maxL := 2) (h (.code (Bundle.initS x_NSE) prog_32_method_4_code 2 none) (by simp [ownAtomsN, Bundle.passSAtoms]))
    (f := g) hg (a := a) (msg := msg) (rest := .ref a :: rest) hstack hd6
  cases Option.some.inj (hnC.symm.trans hP1m)
  have X₁ := X.noted hW₁
  obtain ⟨vm₂, X₂, st2⟩ := X₁.ctorMessageOffV hexec (g := { g with stack := .ref a :: rest }) hg hsize T L Z LZ M LM (P1 :: Ps)
    (fun P hP => by rcases List.mem_cons.mp hP with rfl | hP; exact L1; exact hL P hP) ⟨hlink1, hlink⟩ (u0 := u0) (sen := sen) (self := a) hmsg (cell := freshCell P1.m.cls kX) (cellS := cellS)
    hcell (fun _ => by simp) (by simp) rfl rfl hsel0 hselF hcellS hneS hknownS (by rw [hkeep _ (hout' _)]; exact hu0) (by rw [hkeep _ (hout' _)]; exact hsen)
    (Takes.of_laid hk hord tyC (by rw [Y.causeType]; rfl)) (Takes.of_laid hk hord tyS (by rw [Y.stackType]; exact fits_refV_array _ u0)) (Takes.of_laid hk hord tyP (by rw [Y.suppType]; exact fits_refV_object _ sen))
    (Takes.of_laid hk hord tyM (by rw [Y.msgType]; exact fits_refV_object _ ⟨msg, hmsg⟩)) Y.objLocals hskip htr [] hd6
    (by simp only [List.length_cons, hlen]; omega) (by simp only [List.length_cons, hlen]; exact hRlocals)
  have hlt : a < ((W.setVm vm₁).setVm vm₂).heap.size := (Array.getElem?_eq_some_iff.mp hcell).1
  refine ⟨(W.setVm vm₁).setVm vm₂, _, _, X₂, fun y hy => ?_, hlt, rfl, rfl, fun target hwalk => st1 _ (fun acts => ?_)⟩
  · simp only [List.mem_cons, List.not_mem_nil, or_false] at hy
    rcases hy with rfl | rfl | rfl | rfl | rfl <;> rfl
  · rw [doInvoke_state]
    exact st2 _ hwalk
end GN0
section GN1
variable {p : Program} {l : Launch} {e : Env} {R : Room} {s : State} {m : MethodId} {args : Array Value} {below : List Frame} {meth : Method} {c : Code} {H : Heap} {locs : List Loc} {cells slots : Nat} {Q : State → Prop} {ls : Array Slot} {rest : List Value}
theorem vx_back9 {T S : State} {R' : Room} {k n : Nat} (X : Stand p l e R s m args below meth c T locs cells slots) (Y : Stand p l e R' ((T.setVm s.vm).setFrames (.invoking m args :: below)) m args below meth c T [] 0 0) (Z : Stand p l e R' ((T.setVm s.vm).setFrames (.invoking m args :: below)) m args below meth c S [] k n) :
    Stand p l e R s m args below meth c S locs (cells + k) (slots + n) := by
  have hW0 : s.WarmedH ((T.setVm s.vm).setFrames (.invoking m args :: below)).vm := State.WarmedH.refl s
  refine { admits := X.admits, cas := X.cas, clock := X.clock, frames := X.frames, room := X.room, hears := X.hears, method := X.method, code := X.code, here := Z.here, tail := Z.tail, warmed := State.WarmedH.trans hW0 Z.warmed, limits := Z.limits.trans (Y.limits.symm.trans X.limits), bytes := Z.bytes.trans (Y.bytes.symm.trans X.bytes), same := ?_ }
  obtain ⟨e1, e2⟩ := Z.same
  rw [State.setFrames_setFrames] at e1
  have h2 : (T.setVm s.vm).sameButNew (S.setVm s.vm) [] k n := ⟨e1, e2⟩
  have h3 := X.same.trans h2
  rw [List.append_nil] at h3
  exact h3
theorem g_makeN {cc : ByteArray} {pc : Nat} (hexec : p.tables.exec = Jvm.exec) (hb : c.code = cc) (hl : l.stackTraces = false) {own text : String} {ik is ic sa : Nat} {A : Nat → Prop}
    (hown : s.vm.findClass own = some m.cls)
    (hk : (Cond.classLink own ik x_NSE).before args s = true) (hini : (Cond.initialized x_NSE).before args s = true) (hstr : vk_R own is text sa s) (hat : ∀ w ∈ (ownAtomsN own ic).filter vx_no, w.before args s = true)
    (hgood : ∀ w ∈ Cond.classLink own ik x_NSE :: Cond.initialized x_NSE :: (ownAtomsN own ic).filter vx_no, vx_ot w = true)
    (hU : vx_Zq Bundle.tN "UNASSIGNED_STACK" Bundle.steD A s H) (hN : vx_Zq Bundle.tN "SUPPRESSED_SENTINEL" Bundle.listD A s H) (hsize : ls.size = c.maxLocals)
    (d0 : decode cc pc = .ok (.new ik, 3)) (d3 : decode cc (pc + 3) = .ok (.dup, 1)) (d4 : decode cc (pc + 4) = .ok (.ldc is, 2)) (d6 : decode cc (pc + 6) = .ok (.invokespecial ic, 3))
    (hRframes : xNames.length + 3 < R.frames) (hRlocals : (rest.map fun v => v.category).sum + (13 * (xNames.length + 1) + 43) ≤ R.locals) (hRcells : cells + 1 ≤ R.cells) (hRslots : slots + 6 ≤ R.slots)
    (kk : ∀ (q : Nat) (ce : Cell) (H1 : Heap), H1[q]? = some ce → ce.vm = .none → s.vm.findClass x_NSE = some ce.cls → H.size ≤ H1.size → (∀ r : Nat, r < H.size → H1[r]? = H[r]?) → W p l e R s m args below meth c H1 locs (cells + 1) (slots + 6) Q (F0 m (pc + 9) ls (.ref q :: rest))) :
    W p l e R s m args below meth c H locs cells slots Q (F0 m pc ls rest) := by
  intro T hT X
  subst hT
  have htr : e.platform.stackTraces = false := (show e.platform.stackTraces = l.stackTraces by rw [X.admits.platform]).trans hl
  have Y := vx_rebase X (R' := { frames := R.frames, locals := R.locals, cells := 1, slots := 6 }) (Nat.le_refl _) (Nat.le_refl _) hRcells hRslots
  obtain ⟨s', hA'⟩ : ∃ z, z = (T.setVm s.vm).setFrames (.invoking m args :: below) := ⟨_, rfl⟩
  rw [← hA'] at Y
  have hvm : s'.vm = s.vm := by rw [hA']; rfl
  have hhp : s'.heap = T.heap := by rw [hA']; rfl
  have hW0 : s.WarmedH s'.vm := by rw [hvm]; exact State.WarmedH.refl s
  have hat' : ∀ w ∈ (ownAtomsN own ic).filter vx_no, w.before args s' = true := fun w hw => vx_ot_at hW0 hvm.symm (hgood w (List.mem_cons_of_mem _ (List.mem_cons_of_mem _ hw))) (hat w hw)
  have hk' : (Cond.classLink own ik x_NSE).before args s' = true := vx_ot_at hW0 hvm.symm (hgood _ List.mem_cons_self) hk
  have hini' : (Cond.initialized x_NSE).before args s' = true := vx_ot_at hW0 hvm.symm (hgood _ (List.mem_cons_of_mem _ List.mem_cons_self)) hini
  have hU' : vx_Zq Bundle.tN "UNASSIGNED_STACK" Bundle.steD A s' s'.heap := by rw [hhp]; exact vx_Zq.moved hW0.alike hU
  have hN' : vx_Zq Bundle.tN "SUPPRESSED_SENTINEL" Bundle.listD A s' s'.heap := by rw [hhp]; exact vx_Zq.moved hW0.alike hN
  have h : ∀ w ∈ ownAtomsN own ic, w.before args s' = true := vx_own hat' (vx_isRefq hU'.1) (vx_isRefq hN'.1) hU'.2.word hN'.2.word
  have hown' : s'.vm.findClass own = some m.cls := by rw [hvm]; exact hown
  have hins : (Cond.instantiable x_NSE 6).before args s' = true := h _ (by simp [ownAtomsN])
  obtain ⟨vm₁, cX, kX, hfX, hkX, -, -, X₁, st1⟩ := Y.newCold hexec (own := own) (C := x_NSE) (index := ik) (n := 6) hown' hk' hins hini'
    (g := F0 m pc ls rest) rfl (by rw [hb]; exact d0) (Nat.le_refl _) (Nat.le_refl _)
  generalize hT1 : (T.setVm vm₁).pushCell { cls := cX, slots := kX.instanceTypes.map defaultValue, vm := .none } = T1 at X₁ st1
  have hcat : (Value.ref T.heap.size).category = 1 := rfl
  have hcellA : T1.heap[T.heap.size]? = some (freshCell cX kX) := by rw [← hT1]; exact State.heap_pushCell_size _ _
  have d3' : decode c.code (pc + 3) = .ok (.dup, 1) := by rw [hb]; exact d3
  have d4' : decode c.code (pc + 4) = .ok (.ldc is, 2) := by rw [hb]; exact d4
  have hstr' : vk_R own is text sa s' := vk_R.warm hW0 hstr
  obtain ⟨V, ce, L, Z, hL, hlt, hcl9, hvm9, st⟩ := gn_ctorMade X₁ hexec htr (own := own) (ic := ic) hown' h (fun x hx => nomatch hx) hfX hkX hcellA (by rw [hhp]; exact Nat.le_refl _) (msg := .ref sa) rfl
    (g := { method := m, pc := pc + 6, locals := ls, stack := .ref sa :: .ref T.heap.size :: .ref T.heap.size :: rest, locked := none }) rfl hsize (rest := rest) rfl
    (by rw [hb]; exact d6) hRframes (by simp only [List.map_cons, List.sum_cons, hcat]; omega)
  have Z0 := Stand.forget (locs := []) Z (fun y hy => by rw [hL y hy, hhp]; exact Nat.le_refl _)
  obtain ⟨f1, f2⟩ := vx_frame Z0.same
  rw [hhp] at f1 f2
  have hcid : s.vm.findClass x_NSE = some ce.cls := by
    rw [hcl9]
    rw [hvm] at hfX
    exact hfX
  have hh : (V.setCell T.heap.size ce).heap[T.heap.size]? = some ce := heapAt_setCell_self (s := V) ce hlt
  subst hA'
  have X5 := vx_back9 X Y Z0
  have X6 : Stand p l e R s m args below meth c (V.setCell T.heap.size ce) locs (cells + 1) (slots + 6) := { X5 with same := X5.same.mono (by omega) (by omega) }
  obtain ⟨t, a1, b1⟩ := kk T.heap.size ce (V.setCell T.heap.size ce).heap hh hvm9 hcid f1 (fun q hq => f2 q hq (fun z hz => nomatch hz)) _ rfl X6
  refine ⟨t, st1 _ ?_, b1⟩
  show Steps p.tables e below (T1.setTop { method := m, pc := pc + 3, locals := ls, stack := .ref T.heap.size :: rest, locked := none }) _
  jvm_step X₁.here [X₁.here.top, hexec, d3', Value.category]
  exact X₁.ldcString hexec (own := own) (text := text) (index := is) (a := sa) hown' hstr'.1 hstr'.2
    (g := { method := m, pc := pc + 4, locals := ls, stack := .ref T.heap.size :: .ref T.heap.size :: rest, locked := none }) rfl d4' _ (st _ a1)
theorem g_makeNW {cc : ByteArray} {pc : Nat} (hexec : p.tables.exec = Jvm.exec) (hb : c.code = cc) (hl : l.stackTraces = false) {own text : String} {ik is ic sa : Nat} {A : Nat → Prop}
    (hown : s.vm.findClass own = some m.cls)
    (hk : (Cond.classLink own ik x_NSE).before args s = true) (hini : (Cond.initialized x_NSE).before args s = true) (hstr : vk_R own is text sa s) (hat : ∀ w ∈ (ownAtomsN own ic).filter vx_no, w.before args s = true)
    (hgood : ∀ w ∈ Cond.classLink own ik x_NSE :: Cond.initialized x_NSE :: (ownAtomsN own ic).filter vx_no, vx_ot w = true)
    (hU : vx_Zq Bundle.tN "UNASSIGNED_STACK" Bundle.steD A s H) (hN : vx_Zq Bundle.tN "SUPPRESSED_SENTINEL" Bundle.listD A s H) (hsize : ls.size = c.maxLocals)
    (d0 : decode cc pc = .ok (.new ik, 3)) (d3 : decode cc (pc + 3) = .ok (.dup, 1)) (d4 : decode cc (pc + 4) = .ok (.ldc_w is, 3)) (d6 : decode cc (pc + 7) = .ok (.invokespecial ic, 3))
    (hRframes : xNames.length + 3 < R.frames) (hRlocals : (rest.map fun v => v.category).sum + (13 * (xNames.length + 1) + 43) ≤ R.locals) (hRcells : cells + 1 ≤ R.cells) (hRslots : slots + 6 ≤ R.slots)
    (kk : ∀ (q : Nat) (ce : Cell) (H1 : Heap), H1[q]? = some ce → ce.vm = .none → s.vm.findClass x_NSE = some ce.cls → H.size ≤ H1.size → (∀ r : Nat, r < H.size → H1[r]? = H[r]?) → W p l e R s m args below meth c H1 locs (cells + 1) (slots + 6) Q (F0 m (pc + 10) ls (.ref q :: rest))) :
    W p l e R s m args below meth c H locs cells slots Q (F0 m pc ls rest) := by
  intro T hT X
  subst hT
  have htr : e.platform.stackTraces = false := (show e.platform.stackTraces = l.stackTraces by rw [X.admits.platform]).trans hl
  have Y := vx_rebase X (R' := { frames := R.frames, locals := R.locals, cells := 1, slots := 6 }) (Nat.le_refl _) (Nat.le_refl _) hRcells hRslots
  obtain ⟨s', hA'⟩ : ∃ z, z = (T.setVm s.vm).setFrames (.invoking m args :: below) := ⟨_, rfl⟩
  rw [← hA'] at Y
  have hvm : s'.vm = s.vm := by rw [hA']; rfl
  have hhp : s'.heap = T.heap := by rw [hA']; rfl
  have hW0 : s.WarmedH s'.vm := by rw [hvm]; exact State.WarmedH.refl s
  have hat' : ∀ w ∈ (ownAtomsN own ic).filter vx_no, w.before args s' = true := fun w hw => vx_ot_at hW0 hvm.symm (hgood w (List.mem_cons_of_mem _ (List.mem_cons_of_mem _ hw))) (hat w hw)
  have hk' : (Cond.classLink own ik x_NSE).before args s' = true := vx_ot_at hW0 hvm.symm (hgood _ List.mem_cons_self) hk
  have hini' : (Cond.initialized x_NSE).before args s' = true := vx_ot_at hW0 hvm.symm (hgood _ (List.mem_cons_of_mem _ List.mem_cons_self)) hini
  have hU' : vx_Zq Bundle.tN "UNASSIGNED_STACK" Bundle.steD A s' s'.heap := by rw [hhp]; exact vx_Zq.moved hW0.alike hU
  have hN' : vx_Zq Bundle.tN "SUPPRESSED_SENTINEL" Bundle.listD A s' s'.heap := by rw [hhp]; exact vx_Zq.moved hW0.alike hN
  have h : ∀ w ∈ ownAtomsN own ic, w.before args s' = true := vx_own hat' (vx_isRefq hU'.1) (vx_isRefq hN'.1) hU'.2.word hN'.2.word
  have hown' : s'.vm.findClass own = some m.cls := by rw [hvm]; exact hown
  have hins : (Cond.instantiable x_NSE 6).before args s' = true := h _ (by simp [ownAtomsN])
  obtain ⟨vm₁, cX, kX, hfX, hkX, -, -, X₁, st1⟩ := Y.newCold hexec (own := own) (C := x_NSE) (index := ik) (n := 6) hown' hk' hins hini'
    (g := F0 m pc ls rest) rfl (by rw [hb]; exact d0) (Nat.le_refl _) (Nat.le_refl _)
  generalize hT1 : (T.setVm vm₁).pushCell { cls := cX, slots := kX.instanceTypes.map defaultValue, vm := .none } = T1 at X₁ st1
  have hcat : (Value.ref T.heap.size).category = 1 := rfl
  have hcellA : T1.heap[T.heap.size]? = some (freshCell cX kX) := by rw [← hT1]; exact State.heap_pushCell_size _ _
  have d3' : decode c.code (pc + 3) = .ok (.dup, 1) := by rw [hb]; exact d3
  have d4' : decode c.code (pc + 4) = .ok (.ldc_w is, 3) := by rw [hb]; exact d4
  have hstr' : vk_R own is text sa s' := vk_R.warm hW0 hstr
  obtain ⟨V, ce, L, Z, hL, hlt, hcl9, hvm9, st⟩ := gn_ctorMade X₁ hexec htr (own := own) (ic := ic) hown' h (fun x hx => nomatch hx) hfX hkX hcellA (by rw [hhp]; exact Nat.le_refl _) (msg := .ref sa) rfl
    (g := { method := m, pc := pc + 7, locals := ls, stack := .ref sa :: .ref T.heap.size :: .ref T.heap.size :: rest, locked := none }) rfl hsize (rest := rest) rfl
    (by rw [hb]; exact d6) hRframes (by simp only [List.map_cons, List.sum_cons, hcat]; omega)
  have Z0 := Stand.forget (locs := []) Z (fun y hy => by rw [hL y hy, hhp]; exact Nat.le_refl _)
  obtain ⟨f1, f2⟩ := vx_frame Z0.same
  rw [hhp] at f1 f2
  have hcid : s.vm.findClass x_NSE = some ce.cls := by
    rw [hcl9]
    rw [hvm] at hfX
    exact hfX
  have hh : (V.setCell T.heap.size ce).heap[T.heap.size]? = some ce := heapAt_setCell_self (s := V) ce hlt
  subst hA'
  have X5 := vx_back9 X Y Z0
  have X6 : Stand p l e R s m args below meth c (V.setCell T.heap.size ce) locs (cells + 1) (slots + 6) := { X5 with same := X5.same.mono (by omega) (by omega) }
  obtain ⟨t, a1, b1⟩ := kk T.heap.size ce (V.setCell T.heap.size ce).heap hh hvm9 hcid f1 (fun q hq => f2 q hq (fun z hz => nomatch hz)) _ rfl X6
  refine ⟨t, st1 _ ?_, b1⟩
  show Steps p.tables e below (T1.setTop { method := m, pc := pc + 3, locals := ls, stack := .ref T.heap.size :: rest, locked := none }) _
  jvm_step X₁.here [X₁.here.top, hexec, d3', Value.category]
  exact X₁.ldcStringW hexec (own := own) (text := text) (index := is) (a := sa) hown' hstr'.1 hstr'.2
    (g := { method := m, pc := pc + 4, locals := ls, stack := .ref T.heap.size :: .ref T.heap.size :: rest, locked := none }) rfl d4' _ (st _ a1)
theorem vx_athrow {cc : ByteArray} {pc : Nat} (hexec : p.tables.exec = Jvm.exec) (hb : c.code = cc) {q : Addr} (hdg : decode cc pc = .ok (.athrow, 1)) (k : vx_W p l e R s m args below meth c H locs cells slots Q (F0 m pc ls rest) q) : W p l e R s m args below meth c H locs cells slots Q (F0 m pc ls (.ref q :: rest)) := by
  intro T hT X
  obtain ⟨t, st, hq⟩ := k T hT X
  refine ⟨t, ?_, hq⟩
  have hdg' : decode c.code pc = .ok (.athrow, 1) := by rw [hb]; exact hdg
  jvm_step X.here [X.here.top, hexec, hdg', athrow.wp_sem]
  exact st
end GN1
section GN
variable {X : gX} {p : Program} {l : Launch} {e : Env} {R : Room} {s : State} {m : MethodId} {args : Array Value} {below : List Frame} {meth : Method} {c : Code} {H : Heap} {locs : List Loc} {cells slots mc ms : Nat} {cc : ByteArray} {nL : Nat} {own : String} {τ : gτ} {G : gG} {pc : Nat} {ls : Array Slot} {rest : List Value}
theorem g_throwN (fx : gFx X p s m args meth c cc nL own) (hw : gHw X τ G H locs) (hS : gS0 l X) (hls : ls.size = nL) (hxt : ∀ x ∈ c.exceptionTable.toList, False) {text : String} {bs : List Int32} {ik is ic : Nat} (lx : gLxN own ik ic) (ht : (own, is, text, bs) ∈ gTexts)
    (d0 : decode cc pc = .ok (.new ik, 3)) (d3 : decode cc (pc + 3) = .ok (.dup, 1)) (d4 : decode cc (pc + 4) = .ok (.ldc is, 2)) (d6 : decode cc (pc + 6) = .ok (.invokespecial ic, 3)) (d9 : decode cc (pc + 9) = .ok (.athrow, 1))
    (hR : 5 < R.frames ∧ (rest.map fun v => v.category).sum + 82 ≤ R.locals ∧ cells + 1 ≤ R.cells ∧ slots + 6 ≤ R.slots) (hc : cells + 1 ≤ mc ∧ slots + 6 ≤ ms) : W p l e R s m args below meth c H locs cells slots (vx_MQ below (gQX X τ (.inl x_NSE) G) (gXC X τ (.inl x_NSE) G) args s mc ms (gFree X)) (F0 m pc ls rest) := by
  obtain ⟨sa, hsa, -⟩ := hS.2.1 _ ht
  obtain ⟨hU, hN⟩ := gStatU fx hw hS
  have hwd : ∀ w ∈ Cond.classLink own ik x_NSE :: Cond.initialized x_NSE :: (ownAtomsN own ic).filter vx_no, w.before args s = true := fun w h => gWord fx hS (lx w h).1 (lx w h).2.1
  refine g_makeN (A := gFree X) fx.1 fx.2.1 hS.1.1 fx.2.2.2.1 (hwd _ List.mem_cons_self) (hwd _ (List.mem_cons_of_mem _ List.mem_cons_self)) (vk_R.warm fx.2.2.2.2.2.2.1 hsa) (fun w h => hwd w (List.mem_cons_of_mem _ (List.mem_cons_of_mem _ h))) (fun w h => (lx w h).2.2) hU hN (hls.trans fx.2.2.1.symm) d0 d3 d4 d6 hR.1 hR.2.1 hR.2.2.1 hR.2.2.2 (fun q ce H1 hce hcv hcl hz hq => ?_)
  refine vx_athrow fx.1 fx.2.1 d9 ?_
  refine vx_out (fun x h => (hxt x h).elim) fx.2.2.2.2.2.2.2 hce hcv hcl (fun t ht _ => ⟨rfl, ?_⟩) hw.2 hc.1 hc.2
  rw [ht]
  obtain ⟨h1, h2, h3, h4⟩ := hw.1
  exact ⟨fun a κ n h => ⟨(h1 a κ n h).1.kept ⟨fun _ _ => rfl, fun _ _ => rfl, rfl, rfl, rfl⟩ (hq a (h1 a κ n h).1.lt), (h1 a κ n h).2⟩, h2, Nat.le_trans h3 hz, fun q h => by rw [hq q (Nat.lt_of_lt_of_le h h3)]; exact h4 q h⟩
theorem g_throwNW (fx : gFx X p s m args meth c cc nL own) (hw : gHw X τ G H locs) (hS : gS0 l X) (hls : ls.size = nL) (hxt : ∀ x ∈ c.exceptionTable.toList, False) {text : String} {bs : List Int32} {ik is ic : Nat} (lx : gLxN own ik ic) (ht : (own, is, text, bs) ∈ gTexts)
    (d0 : decode cc pc = .ok (.new ik, 3)) (d3 : decode cc (pc + 3) = .ok (.dup, 1)) (d4 : decode cc (pc + 4) = .ok (.ldc_w is, 3)) (d6 : decode cc (pc + 7) = .ok (.invokespecial ic, 3)) (d9 : decode cc (pc + 10) = .ok (.athrow, 1))
    (hR : 5 < R.frames ∧ (rest.map fun v => v.category).sum + 82 ≤ R.locals ∧ cells + 1 ≤ R.cells ∧ slots + 6 ≤ R.slots) (hc : cells + 1 ≤ mc ∧ slots + 6 ≤ ms) : W p l e R s m args below meth c H locs cells slots (vx_MQ below (gQX X τ (.inl x_NSE) G) (gXC X τ (.inl x_NSE) G) args s mc ms (gFree X)) (F0 m pc ls rest) := by
  obtain ⟨sa, hsa, -⟩ := hS.2.1 _ ht
  obtain ⟨hU, hN⟩ := gStatU fx hw hS
  have hwd : ∀ w ∈ Cond.classLink own ik x_NSE :: Cond.initialized x_NSE :: (ownAtomsN own ic).filter vx_no, w.before args s = true := fun w h => gWord fx hS (lx w h).1 (lx w h).2.1
  refine g_makeNW (A := gFree X) fx.1 fx.2.1 hS.1.1 fx.2.2.2.1 (hwd _ List.mem_cons_self) (hwd _ (List.mem_cons_of_mem _ List.mem_cons_self)) (vk_R.warm fx.2.2.2.2.2.2.1 hsa) (fun w h => hwd w (List.mem_cons_of_mem _ (List.mem_cons_of_mem _ h))) (fun w h => (lx w h).2.2) hU hN (hls.trans fx.2.2.1.symm) d0 d3 d4 d6 hR.1 hR.2.1 hR.2.2.1 hR.2.2.2 (fun q ce H1 hce hcv hcl hz hq => ?_)
  refine vx_athrow fx.1 fx.2.1 d9 ?_
  refine vx_out (fun x h => (hxt x h).elim) fx.2.2.2.2.2.2.2 hce hcv hcl (fun t ht _ => ⟨rfl, ?_⟩) hw.2 hc.1 hc.2
  rw [ht]
  obtain ⟨h1, h2, h3, h4⟩ := hw.1
  exact ⟨fun a κ n h => ⟨(h1 a κ n h).1.kept ⟨fun _ _ => rfl, fun _ _ => rfl, rfl, rfl, rfl⟩ (hq a (h1 a κ n h).1.lt), (h1 a κ n h).2⟩, h2, Nat.le_trans h3 hz, fun q h => by rw [hq q (Nat.lt_of_lt_of_le h h3)]; exact h4 q h⟩
end GN
