section GD
variable {X : gX} {p : Program} {l : Launch} {e : Env} {R : Room} {s : State} {m : MethodId} {args : Array Value} {below : List Frame} {meth : Method} {c : Code} {H : Heap} {locs : List Loc} {cells slots mc ms : Nat} {Q : State → Prop} {cc : ByteArray} {nL : Nat} {own : String} {τ τ' : gτ} {G G' : gG} {pc z z' : Nat} {ls : Array Slot} {rest : List Value}
theorem gc_put0 (fx : gFx X p s m args meth c cc nL own) (hw : gHw X τ G H locs) (hz : H.size = z) {a κ k idx : Nat} (hT : gK τ a κ) (lf : gLp own idx κ k) {v : Value} (hn : narrow (gTy κ k) v = v) (hfit : fits (gTy κ k) v = true) {G' : gG} (hsm : ∀ b, b ≠ a → gSame G G' b) (hv : ∀ j, gV G' κ a j = if j = k then v else gV G κ a j) (hWT : gWT τ G') (hdg : decode cc pc = .ok (.putfield idx, 3)) (kk : ∀ (H1 : Heap) (locs1 : List Loc), gHw X τ G' H1 locs1 → H1.size = z → W p l e R s m args below meth c H1 locs1 cells slots Q (F0 m (pc + 3) ls rest)) : W p l e R s m args below meth c H locs cells slots Q (F0 m pc ls (v :: .ref a :: rest)) := by
  obtain ⟨hexec, hb, hml, hown, hts, hK, -, -⟩ := fx
  obtain ⟨r, hr, hk, hl, hs, hfin⟩ := lf
  have hob := gObj hw hT hr
  obtain ⟨cell, q1, q2, q3, q4⟩ := hob
  obtain ⟨hnm, htyp⟩ := gNm hr
  have hap := va_apart (own := own) hts (gHin hr) (gTy κ) htyp hnm hK hr
  obtain ⟨hS, hfc, kC, hkC, hkind⟩ := hK.1 κ _ hr
  obtain ⟨cf, kf, fi, f, hi, hsl⟩ := hS k hk
  have hi' := hi
  rw [hs] at hi'
  have hlay := hts _ (gHin hr _ (u_in_lay hk))
  unfold u_lay at hlay
  rw [if_neg (by rw [hfin]; decide)] at hlay
  have hst := (u_facts hfc hkC (u_lays hts (gHin hr) hk) hi).1
  have h6 := u_store hfc hkC hkind hlay hi (htyp k hk) hn hfit
  refine W.putK hexec hb (f := f) ⟨hown, hts _ hl, ⟨_, _, _, hi'⟩, hst⟩ (by rw [q2]; exact h6) q1 q3 (by rw [hsl]; exact k2_hasslot (q4 k hk)) rfl rfl hdg fun H' e1 e2 e3 => ?_
  rw [hsl] at e1 ⊢
  obtain ⟨n, hT⟩ := hT
  refine kk H' _ (gHw.put (hw.1.put hT hsm e2 e3 ?_ hWT) hw.2 (hw.1.1 a κ n hT).2) (e2.trans hz)
  unfold gAt
  rw [if_pos (gCl hr)]
  exact ⟨r, hr, t_OB.to (V := updV (gV G κ a) k v) ⟨_, e1, q2, q3, t_set q4 hap hk v⟩ (fun j _ => by rw [hv]; rfl)⟩
/-- a final field's link, in its own class's constructor -/
def gLq (own : String) (idx κ k : Nat) : Prop := ∃ r : vw_C, vwCl[κ]? = some r ∧ k < r.2.2 ∧ Cond.fieldLink own idx r.1 (r.2.1 k).2.1 (r.2.1 k).2.2.1 ∈ wA ∧ (r.2.1 k).1 = r.1 ∧ (r.2.1 k).2.2.2 = true ∧ r.1 = own
theorem gc_putF0 (fx : gFx X p s m args meth c cc nL own) (hin2 : meth.name = "<init>") (hw : gHw X τ G H locs) (hz : H.size = z) {a κ k idx : Nat} (hT : gK τ a κ) (lf : gLq own idx κ k) {v : Value} (hn : narrow (gTy κ k) v = v) (hfit : fits (gTy κ k) v = true) {G' : gG} (hsm : ∀ b, b ≠ a → gSame G G' b) (hv : ∀ j, gV G' κ a j = if j = k then v else gV G κ a j) (hWT : gWT τ G') (hdg : decode cc pc = .ok (.putfield idx, 3)) (kk : ∀ (H1 : Heap) (locs1 : List Loc), gHw X τ G' H1 locs1 → H1.size = z → W p l e R s m args below meth c H1 locs1 cells slots Q (F0 m (pc + 3) ls rest)) : W p l e R s m args below meth c H locs cells slots Q (F0 m pc ls (v :: .ref a :: rest)) := by
  obtain ⟨hexec, hb, hml, hown, hts, hK, -, -⟩ := fx
  obtain ⟨r, hr, hk, hl, hs, hfin, ho⟩ := lf
  have hob := gObj hw hT hr
  obtain ⟨cell, q1, q2, q3, q4⟩ := hob
  obtain ⟨hnm, htyp⟩ := gNm hr
  have hap := va_apart (own := own) hts (gHin hr) (gTy κ) htyp hnm hK hr
  obtain ⟨hS, hfc, kC, hkC, hkind⟩ := hK.1 κ _ hr
  obtain ⟨cf, kf, fi, f, hi, hsl⟩ := hS k hk
  have hi' := hi
  rw [hs] at hi'
  have hlay := hts _ (gHin hr _ (u_in_lay hk))
  unfold u_lay at hlay
  rw [if_pos hfin] at hlay
  have hst := (u_facts hfc hkC (u_lays hts (gHin hr) hk) hi).1
  have hcf : m.cls = cf := by
    obtain ⟨_, _, c', _, _, _, -, -, hf', -, -, -, hown2, -⟩ := Cond.laysFinal_spec hlay
    have e1 : c' = cf := by have := hi.symm.trans hf'; simp at this; exact this.1.symm
    rw [hs, ho] at hown2
    rw [← e1]; exact Option.some.inj (hown.symm.trans hown2)
  have h6 := u_fits hfc hkC hkind (Or.inr hlay) hi (htyp k hk) hn hfit
  refine W.putFinK hexec hb hown (hts _ hl) hi' hst hcf hin2 (by rw [q2]; exact h6) q1 q3 (by rw [hsl]; exact k2_hasslot (q4 k hk)) rfl rfl hdg fun H' e1 e2 e3 => ?_
  rw [hsl] at e1 ⊢
  obtain ⟨n, hT⟩ := hT
  refine kk H' _ (gHw.put (hw.1.put hT hsm e2 e3 ?_ hWT) hw.2 (hw.1.1 a κ n hT).2) (e2.trans hz)
  unfold gAt
  rw [if_pos (gCl hr)]
  exact ⟨r, hr, t_OB.to (V := updV (gV G κ a) k v) ⟨_, e1, q2, q3, t_set q4 hap hk v⟩ (fun j _ => by rw [hv]; rfl)⟩
theorem gV_setr {κ k a κ' b : Nat} (hz : gFr κ k = some κ') (j : Nat) : gV (gsr G κ k a (some b)) κ a j = if j = k then .ref b else gV G κ a j := by
  unfold gV
  by_cases hj : j = k
  · subst hj; rw [hz]; simp [gr, gsr, va_rf]
  · rw [if_neg hj]
    have : gr (gsr G κ k a (some b)) κ j a = gr G κ j a := by simp [gr, gsr, hj]
    rw [this]
    rfl
theorem gV_seti {κ k a : Nat} {v : Int32} (hz : gFr κ k = none) (j : Nat) : gV (gsi G κ k a v) κ a j = if j = k then .int v else gV G κ a j := by
  unfold gV
  by_cases hj : j = k
  · subst hj; rw [hz]; simp [gi, gsi]
  · rw [if_neg hj]
    have : gi (gsi G κ k a v) κ j a = gi G κ j a := by simp [gi, gsi, hj]
    rw [this]
    rfl
theorem gc_putF (fx : gFx X p s m args meth c cc nL own) (hin2 : meth.name = "<init>") (hw : gHw X τ G H locs) (hz : H.size = z) {a b κ k idx κ' : Nat} (hT : gK τ a κ) (lf : gLq own idx κ k) (hf : gFr κ k = some κ') (hty : narrow (gTy κ k) (.ref b) = .ref b ∧ fits (gTy κ k) (.ref b) = true) (hb : gK τ b κ') (hdg : decode cc pc = .ok (.putfield idx, 3)) (kk : ∀ (H1 : Heap) (locs1 : List Loc), gHw X τ (gsr G κ k a (some b)) H1 locs1 → H1.size = z → W p l e R s m args below meth c H1 locs1 cells slots Q (F0 m (pc + 3) ls rest)) : W p l e R s m args below meth c H locs cells slots Q (F0 m pc ls (.ref b :: .ref a :: rest)) :=
  gc_putF0 (G' := gsr G κ k a (some b)) fx hin2 hw hz hT lf hty.1 hty.2 (fun _ h => gSame.r h) (gV_setr hf) (hw.1.2.1.setr hf hb) hdg kk
theorem gc_putr (fx : gFx X p s m args meth c cc nL own) (hw : gHw X τ G H locs) (hz : H.size = z) {a b κ k idx κ' : Nat} (hT : gK τ a κ) (lf : gLp own idx κ k) (hf : gFr κ k = some κ') (hty : narrow (gTy κ k) (.ref b) = .ref b ∧ fits (gTy κ k) (.ref b) = true) (hb : gK τ b κ') (hdg : decode cc pc = .ok (.putfield idx, 3)) (kk : ∀ (H1 : Heap) (locs1 : List Loc), gHw X τ (gsr G κ k a (some b)) H1 locs1 → H1.size = z → W p l e R s m args below meth c H1 locs1 cells slots Q (F0 m (pc + 3) ls rest)) : W p l e R s m args below meth c H locs cells slots Q (F0 m pc ls (.ref b :: .ref a :: rest)) :=
  gc_put0 (G' := gsr G κ k a (some b)) fx hw hz hT lf hty.1 hty.2 (fun _ h => gSame.r h) (gV_setr hf) (hw.1.2.1.setr hf hb) hdg kk
theorem gc_puti (fx : gFx X p s m args meth c cc nL own) (hw : gHw X τ G H locs) (hz : H.size = z) {a κ k idx : Nat} (hT : gK τ a κ) (lf : gLp own idx κ k) (hf : gFr κ k = none) (hty : gTy κ k = .int) {v : Int32} (hdg : decode cc pc = .ok (.putfield idx, 3)) (kk : ∀ (H1 : Heap) (locs1 : List Loc), gHw X τ (gsi G κ k a v) H1 locs1 → H1.size = z → W p l e R s m args below meth c H1 locs1 cells slots Q (F0 m (pc + 3) ls rest)) : W p l e R s m args below meth c H locs cells slots Q (F0 m pc ls (.int v :: .ref a :: rest)) :=
  gc_put0 (G' := gsi G κ k a v) fx hw hz hT lf (by rw [hty]; rfl) (by rw [hty]; rfl) (fun _ h => gSame.i h) (gV_seti hf) (hw.1.2.1.ints (fun _ _ _ => rfl) (fun _ _ => rfl)) hdg kk
theorem gc_iast (fx : gFx X p s m args meth c cc nL own) (hw : gHw X τ G H locs) (hz : H.size = z) {a : Nat} {i x : Int32} (hT : gK τ a 13) (hin : gIn i (gn τ a)) (hdg : decode cc pc = .ok (.iastore, 1)) (kk : ∀ (H1 : Heap) (locs1 : List Loc), gHw X τ (gse G a i.toNatClampNeg x) H1 locs1 → H1.size = z → W p l e R s m args below meth c H1 locs1 cells slots Q (F0 m (pc + 1) ls rest)) : W p l e R s m args below meth c H locs cells slots Q (F0 m pc ls (.int x :: .int i :: .ref a :: rest)) := by
  obtain ⟨hexec, hb, hml, hown, hts, hK, -, -⟩ := fx
  have ha := gArrI hw hT (by decide) (by decide)
  refine W.iast hexec hb ha ((hK.2 1 _ rfl).1 (gn τ a) (fun j => .int (ge G a j))) (fun q => by cases q) (by show ¬ (i < 0 ∨ (arrV _ _ _).slots.size ≤ _); rw [arrV_size]; exact hin) rfl rfl hdg fun H1 e1 z1 oq => ?_
  obtain ⟨n, hT⟩ := hT
  have hn := gn_of hT
  refine kk H1 _ (gHw.put (hw.1.put hT (fun b h => gSame.e h) z1 oq ?_ (hw.1.2.1.ints (fun _ _ _ => rfl) (fun _ _ => rfl))) hw.2 (hw.1.1 a 13 n hT).2) (z1.trans hz)
  show H1[a]? = some (vp_cell _ _)
  rw [e1, hn]
  rw [vp_cell_i, vp_cell_i, arrV_store]
  congr 2
  funext q
  by_cases hq : q = i.toNatClampNeg
  · subst hq
    simp [updV, ge, gse]
  · simp [updV, ge, gse, hq]
theorem gWT.setq {κ a i b n : Nat} (h : gWT τ G) (ha : τ a = some (κ, n)) (hb : gK τ b (gEl κ)) : gWT τ (gsq G a i (some b)) := by
  refine ⟨h.1, fun a1 κ1 n1 i1 b1 h1 h2 => ?_⟩
  by_cases hc : a1 = a ∧ i1 = i
  · have : gq (gsq G a i (some b)) a1 i1 = some b := by simp [gq, gsq, hc]
    rw [this] at h2
    cases h2
    obtain ⟨rfl, rfl⟩ := hc
    rw [ha] at h1
    cases h1
    exact hb
  · have : gq (gsq G a i (some b)) a1 i1 = gq G a1 i1 := by simp [gq, gsq, hc]
    rw [this] at h2
    exact h.2 a1 κ1 n1 i1 b1 h1 h2
theorem gc_aast (fx : gFx X p s m args meth c cc nL own) (hw : gHw X τ G H locs) (hz : H.size = z) {a v : Nat} {i : Int32} (κ t0 κe : Nat) {r : vw_C} (hT : gK τ a κ) (h1 : ¬ κ < 14) (h2 : κ < 18) (ht : (gTys X.2.1)[t0]? = some (X.2.1 κ, .object r.1)) (he : gEl κ = κe) (hr : vwCl[κe]? = some r) (hv : gK τ v κe) (hin : gIn i (gn τ a)) (hdg : decode cc pc = .ok (.aastore, 1)) (kk : ∀ (H1 : Heap) (locs1 : List Loc), gHw X τ (gsq G a i.toNatClampNeg (some v)) H1 locs1 → H1.size = z → W p l e R s m args below meth c H1 locs1 cells slots Q (F0 m (pc + 1) ls rest)) : W p l e R s m args below meth c H locs cells slots Q (F0 m pc ls (.ref v :: .int i :: .ref a :: rest)) := by
  obtain ⟨hexec, hb, hml, hown, hts, hK, -, -⟩ := fx
  have ha := gArrQ hw hT h1 h2
  have hlt : i.toNatClampNeg < gn τ a := Nat.not_le.mp fun q => hin (Or.inr q)
  have h0 : ¬ i < 0 := fun q => hin (Or.inl q)
  obtain ⟨cellV, g1, g2, g3, -⟩ := gObj hw hv hr
  have hcls := (hK.1 κe r hr).2
  obtain ⟨kA, comp, k1, k2, k3, -⟩ := (hK.2 t0 _ ht).2
  have hcomp : comp = X.1.1 κe := Option.some.inj (k3.symm.trans hcls.1)
  subst hcomp
  obtain ⟨kC, hkC, -⟩ := hcls.2
  refine W.aast hexec hb ha (fun q h => by cases h) (fun h => by cases h) k1 k2 rfl hkC ⟨h0, by show _ < (arrV _ _ _).slots.size; rw [arrV_size]; exact hlt⟩ g1 (fun q h => by rw [g3] at h; cases h) (by rw [g2]; exact hkC) (by rw [g2]; exact va_assign hcls) rfl rfl hdg fun H1 e1 z1 oq => ?_
  obtain ⟨n, hT⟩ := hT
  have hn := gn_of hT
  refine kk H1 _ (gHw.put (hw.1.put hT (fun b h => gSame.q h) z1 oq ?_ (hw.1.2.1.setq hT (by rw [he]; exact hv))) hw.2 (hw.1.1 a κ n hT).2) (z1.trans hz)
  unfold gAt
  rw [if_neg (by omega), if_neg h1, if_pos h2, e1, hn]
  rw [vp_cell_q, vp_cell_q, arrV_store]
  congr 2
  funext q
  by_cases hq : q = i.toNatClampNeg
  · subst hq
    simp [updV, gq, gsq, va_rf]
  · simp [updV, gq, gsq, hq]
/-- a constructor's contract: kinds, pool and heap size before and behind -/
def gPreC (X : gX) (τ : gτ) (G : gG) (z : Nat) (av : List Value) : Array Value → State → Prop := va_Pc av (fun U => gOK X τ G U ∧ U.heap.size = z)
def gQC (X : gX) (τ : gτ) (G : gG) (z : Nat) : Array Value → State → Outcome → State → Prop := fun _ _ oc t => oc = .returned none ∧ gOK X τ G t ∧ t.heap.size = z
def gMC (l : Launch) (X : gX) (y : MethodName) (b : ByteArray) (mL : Nat) (rm : Room) (av : List Value) (τ : gτ) (G : gG) (z : Nat) (τ' : gτ) (G' : gG) (z' : Nat) : Prop :=
  Met l y (wS y b mL none) rm (gPreC X τ G z av) (gQC X τ' G' z') rm.cells rm.slots (gFree X)
theorem gPreC_blind (av : List Value) : FrameBlind (gPreC X τ G z av) := fun _ U g mk q => by
  obtain ⟨q0, ⟨qK, qA, qI⟩, qz⟩ := q
  exact ⟨q0, ⟨va_K.moved (u := U) (U := U.calling g mk _) (Vm.Alike.refl U.vm) qK, qA, qI⟩, qz⟩
theorem g_bodyC {y : MethodName} {b : ByteArray} {mL : Nat} {rm : Room} {av : List Value} (hy : plainName y.cls = true) (hle : (lg_sl av).length ≤ mL)
    (body : ∀ p e s m args below meth c (ls : Array Slot), gFx X p s m args meth c b mL y.cls → meth.sig.returnType = none → meth.name = y.name → gHw X τ G s.heap [] → s.heap.size = z → lv_has ls mL (lv_args 0 av) → W p l e rm s m args below meth c s.heap [] 0 0 (MQ below (gQC X τ' G' z') args s rm.cells rm.slots (gFree X)) (F0 m 0 ls [])) : gMC l X y b mL rm av τ G z τ' G' z' := by
  refine Met.ofW (cc := b) (maxL := mL) (ret := none) hy rfl ?_
  intro p e s m args below meth c s₁ B hml hv
  obtain ⟨rfl, ⟨hK, hA, hI⟩, hz⟩ := hv
  have hts := atoms_spec (ws := wS y b mL none) B.pre
  rw [lg_entry_eq]
  exact body p e s m _ below meth c _ ⟨B.exec, B.bytes, hml, findClass_of_methodNamed B.named, fun w h => hts w (List.mem_cons_of_mem _ h), hK, hA, B.notSynchronized⟩ B.returns (name_of_methodNamed B.named B.method).1 ⟨hI, fun q h => by cases h⟩ hz (lv_entry av hle)
theorem gc_vret (fx : gFx X p s m args meth c cc nL own) (hw : gHw X τ G H locs) (hz : H.size = z) (hr : meth.sig.returnType = none) (hdg : decode cc pc = .ok (.return_, 1)) : W p l e R s m args below meth c H locs cells slots (MQ below (gQC X τ G z) args s cells slots (gFree X)) (F0 m pc ls []) :=
  W.vret fx.1 fx.2.1 hr (fun t ht hW => ⟨rfl, gOK_end fx hw ht hW, by rw [ht]; exact hz⟩) hw.2 hdg fx.2.2.2.2.2.2.2
theorem gc_ofRun {pc mc ms : Nat} {st0 : List Value} {a : Array Value} (fx : gFx X p s m args meth c cc nL own) (hw : gHw X τ G H locs) (hr : va_Run p l e R s m args below meth c H locs cells slots mc ms (F0 m pc ls st0) rest (gQC X τ' G' z' a) (gFree X))
    (kk : ∀ (H1 : Heap) (locs1 : List Loc), gHw X τ' G' H1 locs1 → H1.size = z' → W p l e R s m args below meth c H1 locs1 (cells + mc) (slots + ms) Q (F0 m (pc + 3) ls rest)) : W p l e R s m args below meth c H locs cells slots Q (F0 m pc ls st0) := by
  intro T hT X1
  obtain ⟨v1, st₀, t, T', L, h0, X', hL, e1, e2, ⟨hv, ⟨-, -, hI⟩, hz⟩, st⟩ := hr T hT X1
  cases hv
  rw [← e1] at hI hz
  obtain ⟨t2, a1, b1⟩ := kk T'.heap (locs ++ L) ⟨hI, fun q hq => by
    rcases List.mem_append.mp hq with h | h
    · exact hw.2 q h
    · exact hL q h⟩ hz T' rfl X'
  exact ⟨t2, st t2 a1, b1⟩
theorem gGoodC {y : MethodName} {b : ByteArray} {mL : Nat} {ret : Option FieldType} (h : Cond.code y b mL ret ∈ wA) : GoodIn wA (wS y b mL ret) := fun w hw => by
  have h2 : w ∈ wA := by
    rcases List.mem_cons.mp hw with rfl | hw
    · exact h
    · exact hw
  exact ⟨h2, good_of_word (wA_good w h2)⟩
/-- what a call of a constructor needs of the tables -/
def gLi (y : MethodName) (b : ByteArray) (mL n : Nat) : Prop := Cond.code y b mL none ∈ wA ∧ Cond.initialized y.cls ∈ wA ∧ Cond.instanceMethod y ∈ wA ∧ y.name = "<init>" ∧ y.cls ≠ "java/lang/invoke/MethodHandle" ∧ y.cls ≠ "java/lang/invoke/VarHandle" ∧ (parseMethodDescriptor y.desc).map (fun d => d.parameters.length) = some n
theorem gc_callI {idx n mL : Nat} {y : MethodName} {b : ByteArray} {rm : Room} {As : List Value} {a : Nat} (fx : gFx X p s m args meth c cc nL own) (hw : gHw X τ G H locs) (hz : H.size = z) (hM : gMC l X y b mL rm (.ref a :: As) τ G z τ' G' z') (lk : gLi y b mL n) (hl : Cond.methodLink own idx y ∈ wA) (hn : As.length = n) (hls : ls.size = nL) {st0 : List Value} (hst : st0 = As.reverse ++ .ref a :: rest) (hrm : rm.frames + 1 ≤ R.frames ∧ 8 + (mL + 11) + rm.locals ≤ R.locals) (hrest : (rest.map fun v => v.category).sum ≤ 8) (hf : cells + rm.cells ≤ R.cells ∧ slots + rm.slots ≤ R.slots) (hdg : decode cc pc = .ok (.invokespecial idx, 3))
    (kk : ∀ (H1 : Heap) (locs1 : List Loc), gHw X τ' G' H1 locs1 → H1.size = z' → W p l e R s m args below meth c H1 locs1 (cells + rm.cells) (slots + rm.slots) Q (F0 m (pc + 3) ls rest)) : W p l e R s m args below meth c H locs cells slots Q (F0 m pc ls st0) := by
  subst hst
  obtain ⟨hexec, hb, hml, hown, hts, hK, hA, hlk⟩ := id fx
  obtain ⟨l1, l2, l3, l4, l5⟩ := lk
  exact gc_ofRun fx hw (va_runI (As := As) (rest := rest) (Ts := wA) (own := own) ⟨hexec, hb, hml, hown, hts⟩ hM (cwI n hts (gGoodC l1) rfl rfl rfl (hts _ l2) (hts _ hl) (hts _ l3) l4 l5 hrm) ⟨gPreC_blind _, fun U hU hW => ⟨rfl, ⟨va_K.moved hW.alike hK, State.WarmedH.trans hA hW, by rw [hU]; exact hw.1⟩, by rw [hU]; exact hz⟩⟩ rfl hn hls rfl (lv_room hrest) hdg hf) kk
theorem gc_callIN {idx n mL : Nat} {host : String} {y : MethodName} {b : ByteArray} {rm : Room} {As : List Value} {a : Nat} (fx : gFx X p s m args meth c cc nL own) (hS : gS0 l X) (hw : gHw X τ G H locs) (hz : H.size = z) (hM : gMC l X y b mL rm (.ref a :: As) τ G z τ' G' z') (lk : gLi y b mL n) (hl : Cond.methodLinkNest own idx y host ∈ lw_tbl) (hn : As.length = n) (hls : ls.size = nL) {st0 : List Value} (hst : st0 = As.reverse ++ .ref a :: rest) (hrm : rm.frames + 1 ≤ R.frames ∧ 8 + (mL + 11) + rm.locals ≤ R.locals) (hrest : (rest.map fun v => v.category).sum ≤ 8) (hf : cells + rm.cells ≤ R.cells ∧ slots + rm.slots ≤ R.slots) (hdg : decode cc pc = .ok (.invokespecial idx, 3))
    (kk : ∀ (H1 : Heap) (locs1 : List Loc), gHw X τ' G' H1 locs1 → H1.size = z' → W p l e R s m args below meth c H1 locs1 (cells + rm.cells) (slots + rm.slots) Q (F0 m (pc + 3) ls rest)) : W p l e R s m args below meth c H locs cells slots Q (F0 m pc ls st0) := by
  subst hst
  obtain ⟨hexec, hb, hml, hown, hts, hK, hA, hlk⟩ := id fx
  obtain ⟨l1, l2, l3, l4, l5⟩ := lk
  obtain ⟨a0, h0⟩ := hS.1.2
  have hN : va_Nw (.methodLinkNest own idx y host) s := va_Nw.warmM hA (va_Nw.of rfl (h0 _ hl))
  exact gc_ofRun fx hw (va_runIN (As := As) (rest := rest) (Ts := wA) (own := own) ⟨hexec, hb, hml, hown, hts⟩ hM ⟨va_cnB n hts (gGoodC l1) rfl rfl rfl hN (hts _ l2) l5 hrm, l4, hts _ l3⟩ ⟨gPreC_blind _, fun U hU hW => ⟨rfl, ⟨va_K.moved hW.alike hK, State.WarmedH.trans hA hW, by rw [hU]; exact hw.1⟩, by rw [hU]; exact hz⟩⟩ rfl hn hls rfl (lv_room hrest) hdg hf) kk
end GD
