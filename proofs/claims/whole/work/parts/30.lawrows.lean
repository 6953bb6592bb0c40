/-! ROWS of the law's own methods: catching, the long row 'out' -/
def gExs : List String := [x_IAE, x_ISE, x_IOE, x_NSE, x_UOE]
def gNcs : List (String × String) := gExs.flatMap fun a => (gExs.filter fun b => decide (b ≠ a)).map fun b => (a, b)
/-- none of the five exceptions is another -/
def gS1 (X : gX) : Prop := ∀ q ∈ gNcs, va_Nc q.1 q.2 X.2.2
def wSW (y : MethodName) (b : ByteArray) (mL : Nat) (ret : Option FieldType) (hh : List (Nat × Nat × Nat × Nat)) : List Cond := .codeWith y b mL ret hh :: wA
def gMW (l : Launch) (X : gX) (τ : gτ) (y : MethodName) (b : ByteArray) (mL : Nat) (ret : Option FieldType) (hh : List (Nat × Nat × Nat × Nat)) (rm : Room) (av : List Value) (G : gG) (v : Option Value) (G' : gG) : Prop :=
  Met l y (wSW y b mL ret hh) rm (gPre X τ av G) (gQ X τ v G') rm.cells rm.slots (gFree X)
def gCode : List String → String → Int32 → Option Int32
  | [], _, _ => none
  | x :: r, e, k => if e = x then some k else gCode r e (k + 1)
/-- a call within a try: its answer goes on, a throw is told by its row's number -/
def gTry {α : Type} (q : Option ((String ⊕ α) × gG)) (L : List String) (k : α → gG → Option (Int32 × gG)) : Option (Int32 × gG) := match q with
  | none => none
  | some (.inl e, G) => (gCode L e 1).map fun c => (c, G)
  | some (.inr v, G) => k v G
section GL
variable {X : gX} {p : Program} {l : Launch} {e : Env} {R : Room} {s : State} {m : MethodId} {args : Array Value} {below : List Frame} {meth : Method} {c : Code} {H : Heap} {locs : List Loc} {cells slots mc ms : Nat} {Q : State → Prop} {cc : ByteArray} {nL : Nat} {own : String} {τ : gτ} {G G' : gG} {pc : Nat} {ls : Array Slot} {rest : List Value} {ρ : Type} {K : ρ → Prop} {hh : List (Nat × Nat × Nat × Nat)}
theorem g_bodyW {y : MethodName} {b : ByteArray} {mL : Nat} {ret : Option FieldType} {rm : Room} {av : List Value} {v : Option Value} (hy : plainName y.cls = true) (hle : (lg_sl av).length ≤ mL)
    (body : ∀ p e s m args below meth c (ls : Array Slot), gFx X p s m args meth c b mL y.cls → meth.sig.returnType = ret → c.exceptionTable.toList = tableOf hh → gHw X τ G s.heap [] → lv_has ls mL (lv_args 0 av) → W p l e rm s m args below meth c s.heap [] 0 0 (MQ below (gQ X τ v G') args s rm.cells rm.slots (gFree X)) (F0 m 0 ls [])) : gMW l X τ y b mL ret hh rm av G v G' := by
  refine va_MetW (cc := b) (maxL := mL) (ret := ret) (hh := hh) hy rfl ?_
  intro p e s m args below meth c s₁ B hml hv
  obtain ⟨rfl, hK, hA, hI⟩ := hv
  have hts := atoms_spec (ws := wSW y b mL ret hh) B.pre
  rw [lg_entry_eq]
  exact body p e s m _ below meth c _ ⟨B.exec, B.bytes, hml, findClass_of_methodNamed B.named, fun w h => hts w (List.mem_cons_of_mem _ h), hK, hA, B.notSynchronized⟩ B.returns (vx_table (x := y) B (hts _ List.mem_cons_self)) ⟨hI, fun q h => by cases h⟩ (lv_entry av hle)
theorem g_last (fx : gFx X p s m args meth c cc nL own) (hw : gHw X τ G H locs) {a : Nat} {i : Int32} {x : Int64} (hT : gK τ a 18) (hin : gIn i (gn τ a)) (hdg : decode cc pc = .ok (.lastore, 1)) (kk : ∀ (H1 : Heap) (locs1 : List Loc), gHw X τ (gsl G a i.toNatClampNeg x) H1 locs1 → W p l e R s m args below meth c H1 locs1 cells slots Q (F0 m (pc + 1) ls rest)) : W p l e R s m args below meth c H locs cells slots Q (F0 m pc ls (.long x :: .int i :: .ref a :: rest)) := by
  obtain ⟨hexec, hb, hml, hown, hts, hK, -, -⟩ := fx
  have ha := gArrL hw hT
  refine W.last hexec hb ha ((hK.2 6 _ rfl).1 (gn τ a) (fun j => .long (gl G a j))) (fun q => by cases q) (by show ¬ (i < 0 ∨ (arrV _ _ _).slots.size ≤ _); rw [arrV_size]; exact hin) rfl rfl hdg fun H1 e1 z oq => ?_
  obtain ⟨n, hT⟩ := hT
  have hn := gn_of hT
  refine kk H1 _ (gHw.put (hw.1.put hT (fun b h => gSame.l h) z oq ?_ (hw.1.2.1.ints (fun _ _ _ => rfl) (fun _ _ => rfl))) hw.2 (hw.1.1 a 18 n hT).2)
  show H1[a]? = some (vp_cell _ _)
  rw [e1, hn]
  rw [vp_cell_l, vp_cell_l, arrV_store]
  congr 2
  funext q
  by_cases hq : q = i.toNatClampNeg
  · subst hq
    simp [updV, gl, gsl]
  · simp [updV, gl, gsl, hq]
theorem g_lald (fx : gFx X p s m args meth c cc nL own) (hw : gHw X τ G H locs) {a : Nat} {i : Int32} (hT : gK τ a 18) (hin : gIn i (gn τ a)) (hdg : decode cc pc = .ok (.laload, 1)) (kk : W p l e R s m args below meth c H locs cells slots Q (F0 m (pc + 1) ls (.long (gl G a i.toNatClampNeg) :: rest))) : W p l e R s m args below meth c H locs cells slots Q (F0 m pc ls (.int i :: .ref a :: rest)) := by
  obtain ⟨hexec, hb, hml, hown, hts, hK, -, -⟩ := fx
  exact va_lald (D := X.1) (cl := vwCl) (tys := gTys X.2.1) (ws := [(a, .inl (X.2.1 18, gn τ a, .inr (.inl (gl G a))))]) hexec hb hK (fun k q h => by match k, h with | 0, h => cases h; exact gArrL hw hT) 0 6 rfl rfl hin hdg kk
/-- a call of a method that may throw, where something may catch it -/
theorem g_callVC {idx κ n mL : Nat} {C : String} {y : MethodName} {b : ByteArray} {ret : Option FieldType} {rm : Room} {As : List Value} {a : Nat} {o1 : String ⊕ Option Value} {G1 : gG} (fx : gFx X p s m args meth c cc nL own) (hw : gHw X τ G H locs) (hM : gMX l X τ y b mL ret rm (.ref a :: As) G o1 G1) (lk : gLv own idx C y b mL ret n) {r : vw_C} (hc : vwCl[κ]? = some r) (hcr : r.1 = C) (hT : gK τ a κ) (hn : As.length = n) (hls : ls.size = nL) {st0 : List Value} (hst : st0 = As.reverse ++ .ref a :: rest) (hrm : rm.frames + 1 ≤ R.frames ∧ 8 + (mL + 11) + rm.locals ≤ R.locals) (hrest : (rest.map fun v => v.category).sum ≤ 8) (hf : cells + rm.cells ≤ R.cells ∧ slots + rm.slots ≤ R.slots) (hdg : decode cc pc = .ok (.invokevirtual idx, 3))
    (kk : ∀ (v : Option Value) (H1 : Heap) (locs1 : List Loc), o1 = .inr v → gHw X τ G1 H1 locs1 → W p l e R s m args below meth c H1 locs1 (cells + rm.cells) (slots + rm.slots) Q (F0 m (pc + 3) ls (v.toList ++ rest)))
    (kx : ∀ (E : String) (q : Addr) (ce : Cell) (H1 : Heap) (locs1 : List Loc), o1 = .inl E → gHw X τ G1 H1 locs1 → H1[q]? = some ce → ce.vm = .none → s.vm.findClass E = some ce.cls → vx_W p l e R s m args below meth c H1 locs1 (cells + rm.cells) (slots + rm.slots) Q (F0 m pc ls rest) q) : W p l e R s m args below meth c H locs cells slots Q (F0 m pc ls st0) := by
  subst hst
  obtain ⟨hexec, hb, hml, hown, hts, hK, hA, hlk⟩ := id fx
  have hob := gObj hw hT hc
  obtain ⟨cell, q1, q2, q3, -⟩ := hob
  have hcl := (hK.1 κ _ hc).2.1
  have hr := vx_runV (e := e) (below := below) (meth := meth) (locs := locs) (cells := cells) (slots := slots) (g := F0 m pc ls (As.reverse ++ .ref a :: rest)) (As := As) (rest := rest) (Ts := wA) (own := own) ⟨hexec, hb, hml, hown, hts⟩ hM (cwV n hts lk.1 rfl rfl rfl lk.2 hrm) ⟨gPre_blind _, ⟨cell, q1, by rw [q3]; rfl, by rw [← hcr, q2]; exact hcl⟩, fun U hU hW => ⟨rfl, va_K.moved hW.alike hK, State.WarmedH.trans hA hW, by rw [hU]; exact hw.1⟩⟩ rfl hn hls rfl (lv_room hrest) hdg hf
  intro T hT X1
  rcases hr T hT X1 with ⟨v1, st₀, t, T', L, h0, X', hL, e1, e2, ⟨v, hv, hv2, -, -, hI⟩, st⟩ | ⟨q, st₀, t, T', L, E, ce, h0, X', hL, e1, e2, ⟨hE, hI⟩, hce, hcv, hcl, st⟩
  · cases hv2
    rw [← e1] at hI
    obtain ⟨t2, a1, b1⟩ := kk _ T'.heap (locs ++ L) hv ⟨hI, fun q hq => by
      rcases List.mem_append.mp hq with h | h
      · exact hw.2 q h
      · exact hL q h⟩ T' rfl X'
    exact ⟨t2, st t2 a1, b1⟩
  · rw [← e1] at hI
    obtain ⟨t2, a1, b1⟩ := kx E q ce T'.heap (locs ++ L) hE ⟨hI, fun q hq => by
      rcases List.mem_append.mp hq with h | h
      · exact hw.2 q h
      · exact hL q h⟩ (by rw [e1]; exact hce) hcv hcl T' rfl X'
    exact ⟨t2, st.trans a1, b1⟩
theorem g_catch (fx : gFx X p s m args meth c cc nL own) (hS : gS0 l X) (hN : gS1 X) (hxt : c.exceptionTable.toList = tableOf hh) {E : String} {ce : Cell} {q : Addr} (pre : List ExceptionTableEntry) (x : ExceptionTableEntry) (suf : List ExceptionTableEntry) (hsplit : tableOf hh = pre ++ x :: suf) (hpass : ∀ z ∈ pre, z.catchType ≠ 0 ∧ ∃ nm : String, Cond.classLink own z.catchType nm ∈ wA ∧ (E, nm) ∈ gNcs) (hx : covers x pc = true) (h0 : x.catchType ≠ 0) (hlink : Cond.classLink own x.catchType E ∈ wA) (hcast : Cond.castable E E ∈ lw_tbl) (hcell : H[q]? = some ce) (hv : ce.vm = .none) (hcl : s.vm.findClass E = some ce.cls)
    (kk : W p l e R s m args below meth c H locs cells slots Q (F0 m x.handlerPc ls [.ref q])) : vx_W p l e R s m args below meth c H locs cells slots Q (F0 m pc ls rest) q :=
  vx_catch fx.2.2.2.1 pre x suf (hxt.trans hsplit) (fun z hz => by
    obtain ⟨h1, nm, h2, h3⟩ := hpass z hz
    exact Or.inr ⟨h1, nm, fx.2.2.2.2.1 _ h2, va_Nc.moved fx.2.2.2.2.2.2.1.alike (hN _ h3)⟩) hx h0 (fx.2.2.2.2.1 _ hlink) (gWord fx hS hcast rfl) hcell hv hcl kk
theorem gCode_nil {e : String} {k : Int32} : gCode [] e k = none := rfl
end GL
