/-! ROWS over the pool: arrays, branches, ends, calls -/
abbrev gIn (i : Int32) (n : Nat) : Prop := ¬ (i < 0 ∨ n ≤ i.toNatClampNeg)
section GS
variable {X : gX} {p : Program} {l : Launch} {e : Env} {R : Room} {s : State} {m : MethodId} {args : Array Value} {below : List Frame} {meth : Method} {c : Code} {H : Heap} {locs : List Loc} {cells slots : Nat} {Q : State → Prop} {cc : ByteArray} {nL : Nat} {own : String} {τ : gτ} {G : gG} {pc : Nat} {ls : Array Slot} {rest : List Value} {ρ : Type} {K : ρ → Prop}
theorem gn_of {a κ n : Nat} (h : τ a = some (κ, n)) : gn τ a = n := by unfold gn; rw [h]
theorem gArrI (hw : gHw X τ G H locs) {a κ : Nat} (hT : gK τ a κ) (h1 : ¬ κ < 12) (h2 : κ < 14) : H[a]? = some (vp_cell (X.2.1 κ) (gn τ a, .inl (ge G a))) := by
  obtain ⟨n, hT⟩ := hT
  have h := (hw.1.1 a κ n hT).1
  unfold gAt at h
  rw [if_neg h1, if_pos h2] at h
  rw [gn_of hT]; exact h
theorem gArrQ (hw : gHw X τ G H locs) {a κ : Nat} (hT : gK τ a κ) (h1 : ¬ κ < 14) (h2 : κ < 18) : H[a]? = some (vp_cell (X.2.1 κ) (gn τ a, .inr (.inr (.inr (.inr (gq G a)))))) := by
  obtain ⟨n, hT⟩ := hT
  have h := (hw.1.1 a κ n hT).1
  unfold gAt at h
  rw [if_neg (by omega), if_neg h1, if_pos h2] at h
  rw [gn_of hT]; exact h
theorem gArrL (hw : gHw X τ G H locs) {a : Nat} (hT : gK τ a 18) : H[a]? = some (vp_cell (X.2.1 18) (gn τ a, .inr (.inl (gl G a)))) := by
  obtain ⟨n, hT⟩ := hT
  have h := (hw.1.1 a 18 n hT).1
  unfold gAt at h
  rw [if_neg (by decide), if_neg (by decide), if_neg (by decide)] at h
  rw [gn_of hT]; exact h
theorem g_iald (fx : gFx X p s m args meth c cc nL own) (hw : gHw X τ G H locs) {a : Nat} {i : Int32} (hT : gK τ a 13) (hdg : decode cc pc = .ok (.iaload, 1)) {f : Option ρ} (hok : gOk (gchk (gIn i (gn τ a)) f) K) (kk : gOk f K → W p l e R s m args below meth c H locs cells slots Q (F0 m (pc + 1) ls (.int (ge G a i.toNatClampNeg) :: rest))) : W p l e R s m args below meth c H locs cells slots Q (F0 m pc ls (.int i :: .ref a :: rest)) := by
  obtain ⟨hexec, hb, hml, hown, hts, hK, -, -⟩ := fx
  obtain ⟨hin, hok⟩ := gOk_chk hok
  exact va_iald (D := X.1) (cl := vwCl) (tys := gTys X.2.1) (ws := [(a, .inl (X.2.1 13, gn τ a, .inl (ge G a)))]) hexec hb hK (fun k q h => by match k, h with | 0, h => cases h; exact gArrI hw hT (by decide) (by decide)) 0 1 rfl rfl hin hdg (kk hok)
theorem g_bald (fx : gFx X p s m args meth c cc nL own) (hw : gHw X τ G H locs) {a : Nat} {i : Int32} (hT : gK τ a 12) (hdg : decode cc pc = .ok (.baload, 1)) {f : Option ρ} (hok : gOk (gchk (gIn i (gn τ a)) f) K) (kk : gOk f K → W p l e R s m args below meth c H locs cells slots Q (F0 m (pc + 1) ls (.int (ge G a i.toNatClampNeg) :: rest))) : W p l e R s m args below meth c H locs cells slots Q (F0 m pc ls (.int i :: .ref a :: rest)) := by
  obtain ⟨hexec, hb, hml, hown, hts, hK, -, -⟩ := fx
  obtain ⟨hin, hok⟩ := gOk_chk hok
  exact va_bald (D := X.1) (cl := vwCl) (tys := gTys X.2.1) (ws := [(a, .inl (X.2.1 12, gn τ a, .inl (ge G a)))]) hexec hb hK (fun k q h => by match k, h with | 0, h => cases h; exact gArrI hw hT (by decide) (by decide)) 0 0 rfl rfl hin hdg (kk hok)
theorem g_alen (fx : gFx X p s m args meth c cc nL own) (hw : gHw X τ G H locs) {a : Nat} (hT : gK τ a 13) (hdg : decode cc pc = .ok (.arraylength, 1)) (kk : W p l e R s m args below meth c H locs cells slots Q (F0 m (pc + 1) ls (.int (nI (gn τ a)) :: rest))) : W p l e R s m args below meth c H locs cells slots Q (F0 m pc ls (.ref a :: rest)) := by
  obtain ⟨hexec, hb, hml, hown, hts, hK, -, -⟩ := fx
  exact va_alen (D := X.1) (cl := vwCl) (tys := gTys X.2.1) (ws := [(a, .inl (X.2.1 13, gn τ a, .inl (ge G a)))]) hexec hb hK (fun k q h => by match k, h with | 0, h => cases h; exact gArrI hw hT (by decide) (by decide)) 0 1 rfl (ty := .int) rfl rfl hdg kk
theorem g_aald (fx : gFx X p s m args meth c cc nL own) (hw : gHw X τ G H locs) {a : Nat} {i : Int32} (κ t0 : Nat) {C : String} {κ' : Nat} (hT : gK τ a κ) (h1 : ¬ κ < 14) (h2 : κ < 18) (ht : (gTys X.2.1)[t0]? = some (X.2.1 κ, .object C)) (he : gEl κ = κ') (hdg : decode cc pc = .ok (.aaload, 1)) {f : Nat → Option ρ} (hok : gOk (gchk (gIn i (gn τ a)) ((gq G a i.toNatClampNeg).bind f)) K) (kk : ∀ b : Nat, gK τ b κ' → gOk (f b) K → W p l e R s m args below meth c H locs cells slots Q (F0 m (pc + 1) ls (.ref b :: rest))) : W p l e R s m args below meth c H locs cells slots Q (F0 m pc ls (.int i :: .ref a :: rest)) := by
  obtain ⟨hexec, hb, hml, hown, hts, hK, -, -⟩ := fx
  obtain ⟨hin, hok⟩ := gOk_chk hok
  obtain ⟨b, hb2, hok⟩ := gOk_bind hok
  refine va_aldq (D := X.1) (cl := vwCl) (tys := gTys X.2.1) (ws := [(a, .inl (X.2.1 κ, gn τ a, .inr (.inr (.inr (.inr (gq G a))))))]) hexec hb hK (fun k q h => by match k, h with | 0, h => cases h; exact gArrQ hw hT h1 h2) 0 t0 rfl ht hin hdg ?_
  rw [hb2]
  obtain ⟨n, hn⟩ := hT
  have := hw.1.2.1.2 a κ n _ b hn hb2
  rw [he] at this
  exact kk b this hok
theorem g_iast (fx : gFx X p s m args meth c cc nL own) (hw : gHw X τ G H locs) {a : Nat} {i x : Int32} (hT : gK τ a 13) (hdg : decode cc pc = .ok (.iastore, 1)) {f : gG → Option ρ} (hok : gOk (gchk (gIn i (gn τ a)) (gLet (gse G a i.toNatClampNeg x) f)) K) (kk : ∀ (G1 : gG) (H1 : Heap) (locs1 : List Loc), gHw X τ G1 H1 locs1 → gOk (f G1) K → W p l e R s m args below meth c H1 locs1 cells slots Q (F0 m (pc + 1) ls rest)) : W p l e R s m args below meth c H locs cells slots Q (F0 m pc ls (.int x :: .int i :: .ref a :: rest)) := by
  obtain ⟨hexec, hb, hml, hown, hts, hK, -, -⟩ := fx
  obtain ⟨hin, hok⟩ := gOk_chk hok
  have ha := gArrI hw hT (by decide) (by decide)
  refine W.iast hexec hb ha ((hK.2 1 _ rfl).1 (gn τ a) (fun j => .int (ge G a j))) (fun q => by cases q) (by show ¬ (i < 0 ∨ (arrV _ _ _).slots.size ≤ _); rw [arrV_size]; exact hin) rfl rfl hdg fun H1 e1 z oq => ?_
  obtain ⟨n, hT⟩ := hT
  have hn := gn_of hT
  refine kk _ H1 _ (gHw.put (hw.1.put hT (fun b h => gSame.e h) z oq ?_ (hw.1.2.1.ints (fun _ _ _ => rfl) (fun _ _ => rfl))) hw.2 (hw.1.1 a 13 n hT).2) hok
  show H1[a]? = some (vp_cell _ _)
  rw [e1, hn]
  rw [vp_cell_i, vp_cell_i, arrV_store]
  congr 2
  funext q
  by_cases hq : q = i.toNatClampNeg
  · subst hq
    simp [updV, ge, gse]
  · simp [updV, ge, gse, hq]
theorem g_bast (fx : gFx X p s m args meth c cc nL own) (hw : gHw X τ G H locs) {a : Nat} {i x : Int32} (hT : gK τ a 12) (hdg : decode cc pc = .ok (.bastore, 1)) {f : gG → Option ρ} (hok : gOk (gchk (gIn i (gn τ a)) (gLet (gse G a i.toNatClampNeg (vp_nar .byte x)) f)) K) (kk : ∀ (G1 : gG) (H1 : Heap) (locs1 : List Loc), gHw X τ G1 H1 locs1 → gOk (f G1) K → W p l e R s m args below meth c H1 locs1 cells slots Q (F0 m (pc + 1) ls rest)) : W p l e R s m args below meth c H locs cells slots Q (F0 m pc ls (.int x :: .int i :: .ref a :: rest)) := by
  obtain ⟨hexec, hb, hml, hown, hts, hK, -, -⟩ := fx
  obtain ⟨hin, hok⟩ := gOk_chk hok
  have ha := gArrI hw hT (by decide) (by decide)
  refine W.bast hexec hb ha ((hK.2 0 _ rfl).1 (gn τ a) (fun j => .int (ge G a j))) (fun q => by cases q) (by show ¬ (i < 0 ∨ (arrV _ _ _).slots.size ≤ _); rw [arrV_size]; exact hin) rfl rfl hdg fun H1 e1 z oq => ?_
  obtain ⟨n, hT⟩ := hT
  have hn := gn_of hT
  refine kk _ H1 _ (gHw.put (hw.1.put hT (fun b h => gSame.e h) z oq ?_ (hw.1.2.1.ints (fun _ _ _ => rfl) (fun _ _ => rfl))) hw.2 (hw.1.1 a 12 n hT).2) hok
  show H1[a]? = some (vp_cell _ _)
  rw [e1, hn]
  rw [vp_cell_i, vp_cell_i, arrV_store]
  congr 2
  funext q
  by_cases hq : q = i.toNatClampNeg
  · subst hq
    simp [updV, ge, gse, vp_nar]
    try rfl
  · simp [updV, ge, gse, hq]
theorem g_idiv (fx : gFx X p s m args meth c cc nL own) {x y : Int32} (hdg : decode cc pc = .ok (.idiv, 1)) {f : Option ρ} (hok : gOk (gchk (¬ y = 0) f) K) (kk : gOk f K → W p l e R s m args below meth c H locs cells slots Q (F0 m (pc + 1) ls (.int (x / y) :: rest))) : W p l e R s m args below meth c H locs cells slots Q (F0 m pc ls (.int y :: .int x :: rest)) := by
  obtain ⟨hy, hok⟩ := gOk_chk hok
  exact lv_idiv fx.1 fx.2.1 hdg hy (kk hok)
theorem g_irem (fx : gFx X p s m args meth c cc nL own) {x y : Int32} (hdg : decode cc pc = .ok (.irem, 1)) {f : Option ρ} (hok : gOk (gchk (¬ y = 0) f) K) (kk : gOk f K → W p l e R s m args below meth c H locs cells slots Q (F0 m (pc + 1) ls (.int (x - x / y * y) :: rest))) : W p l e R s m args below meth c H locs cells slots Q (F0 m pc ls (.int y :: .int x :: rest)) := by
  obtain ⟨hy, hok⟩ := gOk_chk hok
  exact lv_irem fx.1 fx.2.1 hdg hy (kk hok)
theorem g_icmp_eq (fx : gFx X p s m args meth c cc nL own) {x y : Int32} {off : Int} {tgt : Nat} (hdg : decode cc pc = .ok (.if_icmp .eq off, 3)) (ht : (pc : Int) + off = (tgt : Int)) {f1 f2 : Option ρ} (hok : gOk (if x = y then f1 else f2) K) (k1 : gOk f1 K → W p l e R s m args below meth c H locs cells slots Q (F0 m tgt ls rest)) (k2 : gOk f2 K → W p l e R s m args below meth c H locs cells slots Q (F0 m (pc + 3) ls rest)) : W p l e R s m args below meth c H locs cells slots Q (F0 m pc ls (.int y :: .int x :: rest)) := lv_icmp_eq fx.1 fx.2.1 hdg ht (fun h => k1 (gOk_t hok h)) (fun h => k2 (gOk_f hok h))
theorem g_icmp_ne (fx : gFx X p s m args meth c cc nL own) {x y : Int32} {off : Int} {tgt : Nat} (hdg : decode cc pc = .ok (.if_icmp .ne off, 3)) (ht : (pc : Int) + off = (tgt : Int)) {f1 f2 : Option ρ} (hok : gOk (if x = y then f1 else f2) K) (k1 : gOk f1 K → W p l e R s m args below meth c H locs cells slots Q (F0 m (pc + 3) ls rest)) (k2 : gOk f2 K → W p l e R s m args below meth c H locs cells slots Q (F0 m tgt ls rest)) : W p l e R s m args below meth c H locs cells slots Q (F0 m pc ls (.int y :: .int x :: rest)) := lv_icmp_ne fx.1 fx.2.1 hdg ht (fun h => k2 (gOk_f hok h)) (fun h => k1 (gOk_t hok h))
theorem g_icmp_lt (fx : gFx X p s m args meth c cc nL own) {x y : Int32} {off : Int} {tgt : Nat} (hdg : decode cc pc = .ok (.if_icmp .lt off, 3)) (ht : (pc : Int) + off = (tgt : Int)) {f1 f2 : Option ρ} (hok : gOk (if x < y then f1 else f2) K) (k1 : gOk f1 K → W p l e R s m args below meth c H locs cells slots Q (F0 m tgt ls rest)) (k2 : gOk f2 K → W p l e R s m args below meth c H locs cells slots Q (F0 m (pc + 3) ls rest)) : W p l e R s m args below meth c H locs cells slots Q (F0 m pc ls (.int y :: .int x :: rest)) := lv_icmp_lt fx.1 fx.2.1 hdg ht (fun h => k1 (gOk_t hok h)) (fun h => k2 (gOk_f hok h))
theorem g_icmp_ge (fx : gFx X p s m args meth c cc nL own) {x y : Int32} {off : Int} {tgt : Nat} (hdg : decode cc pc = .ok (.if_icmp .ge off, 3)) (ht : (pc : Int) + off = (tgt : Int)) {f1 f2 : Option ρ} (hok : gOk (if y ≤ x then f1 else f2) K) (k1 : gOk f1 K → W p l e R s m args below meth c H locs cells slots Q (F0 m tgt ls rest)) (k2 : gOk f2 K → W p l e R s m args below meth c H locs cells slots Q (F0 m (pc + 3) ls rest)) : W p l e R s m args below meth c H locs cells slots Q (F0 m pc ls (.int y :: .int x :: rest)) := lv_icmp_ge fx.1 fx.2.1 hdg ht (fun h => k1 (gOk_t hok h)) (fun h => k2 (gOk_f hok h))
theorem g_icmp_gt (fx : gFx X p s m args meth c cc nL own) {x y : Int32} {off : Int} {tgt : Nat} (hdg : decode cc pc = .ok (.if_icmp .gt off, 3)) (ht : (pc : Int) + off = (tgt : Int)) {f1 f2 : Option ρ} (hok : gOk (if y < x then f1 else f2) K) (k1 : gOk f1 K → W p l e R s m args below meth c H locs cells slots Q (F0 m tgt ls rest)) (k2 : gOk f2 K → W p l e R s m args below meth c H locs cells slots Q (F0 m (pc + 3) ls rest)) : W p l e R s m args below meth c H locs cells slots Q (F0 m pc ls (.int y :: .int x :: rest)) := lv_icmp_gt fx.1 fx.2.1 hdg ht (fun h => k1 (gOk_t hok h)) (fun h => k2 (gOk_f hok h))
theorem g_icmp_le (fx : gFx X p s m args meth c cc nL own) {x y : Int32} {off : Int} {tgt : Nat} (hdg : decode cc pc = .ok (.if_icmp .le off, 3)) (ht : (pc : Int) + off = (tgt : Int)) {f1 f2 : Option ρ} (hok : gOk (if x ≤ y then f1 else f2) K) (k1 : gOk f1 K → W p l e R s m args below meth c H locs cells slots Q (F0 m tgt ls rest)) (k2 : gOk f2 K → W p l e R s m args below meth c H locs cells slots Q (F0 m (pc + 3) ls rest)) : W p l e R s m args below meth c H locs cells slots Q (F0 m pc ls (.int y :: .int x :: rest)) := lv_icmp_le fx.1 fx.2.1 hdg ht (fun h => k1 (gOk_t hok h)) (fun h => k2 (gOk_f hok h))
theorem g_if_eq (fx : gFx X p s m args meth c cc nL own) {x : Int32} {off : Int} {tgt : Nat} (hdg : decode cc pc = .ok (.ifCond .eq off, 3)) (ht : (pc : Int) + off = (tgt : Int)) {f1 f2 : Option ρ} (hok : gOk (if x = 0 then f1 else f2) K) (k1 : gOk f1 K → W p l e R s m args below meth c H locs cells slots Q (F0 m tgt ls rest)) (k2 : gOk f2 K → W p l e R s m args below meth c H locs cells slots Q (F0 m (pc + 3) ls rest)) : W p l e R s m args below meth c H locs cells slots Q (F0 m pc ls (.int x :: rest)) := lv_if_eq fx.1 fx.2.1 hdg ht (fun h => k1 (gOk_t hok h)) (fun h => k2 (gOk_f hok h))
theorem g_if_ne (fx : gFx X p s m args meth c cc nL own) {x : Int32} {off : Int} {tgt : Nat} (hdg : decode cc pc = .ok (.ifCond .ne off, 3)) (ht : (pc : Int) + off = (tgt : Int)) {f1 f2 : Option ρ} (hok : gOk (if x = 0 then f1 else f2) K) (k1 : gOk f1 K → W p l e R s m args below meth c H locs cells slots Q (F0 m (pc + 3) ls rest)) (k2 : gOk f2 K → W p l e R s m args below meth c H locs cells slots Q (F0 m tgt ls rest)) : W p l e R s m args below meth c H locs cells slots Q (F0 m pc ls (.int x :: rest)) := lv_if_ne fx.1 fx.2.1 hdg ht (fun h => k2 (gOk_f hok h)) (fun h => k1 (gOk_t hok h))
theorem g_if_lt (fx : gFx X p s m args meth c cc nL own) {x : Int32} {off : Int} {tgt : Nat} (hdg : decode cc pc = .ok (.ifCond .lt off, 3)) (ht : (pc : Int) + off = (tgt : Int)) {f1 f2 : Option ρ} (hok : gOk (if x < 0 then f1 else f2) K) (k1 : gOk f1 K → W p l e R s m args below meth c H locs cells slots Q (F0 m tgt ls rest)) (k2 : gOk f2 K → W p l e R s m args below meth c H locs cells slots Q (F0 m (pc + 3) ls rest)) : W p l e R s m args below meth c H locs cells slots Q (F0 m pc ls (.int x :: rest)) := lv_if_lt fx.1 fx.2.1 hdg ht (fun h => k1 (gOk_t hok h)) (fun h => k2 (gOk_f hok h))
theorem g_if_ge (fx : gFx X p s m args meth c cc nL own) {x : Int32} {off : Int} {tgt : Nat} (hdg : decode cc pc = .ok (.ifCond .ge off, 3)) (ht : (pc : Int) + off = (tgt : Int)) {f1 f2 : Option ρ} (hok : gOk (if 0 ≤ x then f1 else f2) K) (k1 : gOk f1 K → W p l e R s m args below meth c H locs cells slots Q (F0 m tgt ls rest)) (k2 : gOk f2 K → W p l e R s m args below meth c H locs cells slots Q (F0 m (pc + 3) ls rest)) : W p l e R s m args below meth c H locs cells slots Q (F0 m pc ls (.int x :: rest)) := lv_if_ge fx.1 fx.2.1 hdg ht (fun h => k1 (gOk_t hok h)) (fun h => k2 (gOk_f hok h))
theorem g_if_gt (fx : gFx X p s m args meth c cc nL own) {x : Int32} {off : Int} {tgt : Nat} (hdg : decode cc pc = .ok (.ifCond .gt off, 3)) (ht : (pc : Int) + off = (tgt : Int)) {f1 f2 : Option ρ} (hok : gOk (if 0 < x then f1 else f2) K) (k1 : gOk f1 K → W p l e R s m args below meth c H locs cells slots Q (F0 m tgt ls rest)) (k2 : gOk f2 K → W p l e R s m args below meth c H locs cells slots Q (F0 m (pc + 3) ls rest)) : W p l e R s m args below meth c H locs cells slots Q (F0 m pc ls (.int x :: rest)) := lv_if_gt fx.1 fx.2.1 hdg ht (fun h => k1 (gOk_t hok h)) (fun h => k2 (gOk_f hok h))
theorem g_if_le (fx : gFx X p s m args meth c cc nL own) {x : Int32} {off : Int} {tgt : Nat} (hdg : decode cc pc = .ok (.ifCond .le off, 3)) (ht : (pc : Int) + off = (tgt : Int)) {f1 f2 : Option ρ} (hok : gOk (if x ≤ 0 then f1 else f2) K) (k1 : gOk f1 K → W p l e R s m args below meth c H locs cells slots Q (F0 m tgt ls rest)) (k2 : gOk f2 K → W p l e R s m args below meth c H locs cells slots Q (F0 m (pc + 3) ls rest)) : W p l e R s m args below meth c H locs cells slots Q (F0 m pc ls (.int x :: rest)) := lv_if_le fx.1 fx.2.1 hdg ht (fun h => k1 (gOk_t hok h)) (fun h => k2 (gOk_f hok h))
/-- ends -/
def gQ (X : gX) (τ : gτ) (v : Option Value) (G : gG) : Array Value → State → Outcome → State → Prop := fun _ _ oc t => oc = .returned v ∧ gOK X τ G t
theorem gOK_end (fx : gFx X p s m args meth c cc nL own) (hw : gHw X τ G H locs) {t : State} (ht : t.heap = H) (hW : s.WarmedH t.vm) : gOK X τ G t := ⟨va_K.moved hW.alike fx.2.2.2.2.2.1, State.WarmedH.trans fx.2.2.2.2.2.2.1 hW, by rw [ht]; exact hw.1⟩
theorem g_iret (fx : gFx X p s m args meth c cc nL own) (hw : gHw X τ G H locs) (hr : meth.sig.returnType = some .int) {v : Int32} (hdg : decode cc pc = .ok (.ireturn, 1)) : W p l e R s m args below meth c H locs cells slots (MQ below (gQ X τ (some (.int v)) G) args s cells slots (gFree X)) (F0 m pc ls [.int v]) :=
  W.iret fx.1 fx.2.1 hr (fun t ht hW => ⟨rfl, gOK_end fx hw ht hW⟩) hw.2 hdg fx.2.2.2.2.2.2.2
theorem g_zret (fx : gFx X p s m args meth c cc nL own) (hw : gHw X τ G H locs) (hr : meth.sig.returnType = some .boolean) {v : Int32} (hv : v = 0 ∨ v = 1) (hdg : decode cc pc = .ok (.ireturn, 1)) : W p l e R s m args below meth c H locs cells slots (MQ below (gQ X τ (some (.int v)) G) args s cells slots (gFree X)) (F0 m pc ls [.int v]) :=
  W.zret fx.1 fx.2.1 hr (by rcases hv with rfl | rfl <;> rfl) (fun t ht hW => ⟨rfl, gOK_end fx hw ht hW⟩) hw.2 hdg fx.2.2.2.2.2.2.2
theorem g_vret (fx : gFx X p s m args meth c cc nL own) (hw : gHw X τ G H locs) (hr : meth.sig.returnType = none) (hdg : decode cc pc = .ok (.return_, 1)) : W p l e R s m args below meth c H locs cells slots (MQ below (gQ X τ none G) args s cells slots (gFree X)) (F0 m pc ls []) :=
  W.vret fx.1 fx.2.1 hr (fun t ht hW => ⟨rfl, gOK_end fx hw ht hW⟩) hw.2 hdg fx.2.2.2.2.2.2.2
theorem g_aret (fx : gFx X p s m args meth c cc nL own) (hw : gHw X τ G H locs) {C : String} (hr : meth.sig.returnType = some (.object C)) {a : Nat} (hdg : decode cc pc = .ok (.areturn, 1)) : W p l e R s m args below meth c H locs cells slots (MQ below (gQ X τ (some (.ref a)) G) args s cells slots (gFree X)) (F0 m pc ls [.ref a]) :=
  W.aret fx.1 fx.2.1 hr (Or.inl ⟨C, rfl⟩) (Or.inr ⟨a, rfl⟩) (fun t ht hW => ⟨rfl, gOK_end fx hw ht hW⟩) hw.2 hdg fx.2.2.2.2.2.2.2
/-- a method's contract over the pool -/
def gPre (X : gX) (τ : gτ) (av : List Value) (G : gG) : Array Value → State → Prop := va_Pc av (fun U => gOK X τ G U)
def wS (y : MethodName) (b : ByteArray) (mL : Nat) (ret : Option FieldType) : List Cond := .code y b mL ret :: wA
def gM (l : Launch) (X : gX) (τ : gτ) (y : MethodName) (b : ByteArray) (mL : Nat) (ret : Option FieldType) (rm : Room) (av : List Value) (G : gG) (v : Option Value) (G' : gG) : Prop :=
  Met l y (wS y b mL ret) rm (gPre X τ av G) (gQ X τ v G') rm.cells rm.slots (gFree X)
theorem gPre_blind (av : List Value) : FrameBlind (gPre X τ av G) := fun _ U g mk q => by
  obtain ⟨q0, qK, qA, qI⟩ := q
  exact ⟨q0, va_K.moved (u := U) (U := U.calling g mk _) (Vm.Alike.refl U.vm) qK, qA, qI⟩
/-- what a call of an own method needs of the tables -/
def gLv (own : String) (idx : Nat) (C : String) (y : MethodName) (b : ByteArray) (mL : Nat) (ret : Option FieldType) (n : Nat) : Prop :=
  GoodIn wA (wsV own idx C y (wS y b mL ret)) ∧ y.cls = C ∧ y.cls ≠ "java/lang/invoke/MethodHandle" ∧ y.cls ≠ "java/lang/invoke/VarHandle" ∧ (parseMethodDescriptor y.desc).map (fun d => d.parameters.length) = some n
theorem gLv_of {own : String} {idx : Nat} {C : String} {y : MethodName} {b : ByteArray} {mL : Nat} {ret : Option FieldType} {n : Nat} (h1 : Cond.methodLink own idx y ∈ wA) (h2 : Cond.instanceMethod y ∈ wA) (h3 : Cond.selects C y y ∈ wA) (h4 : Cond.initialized C ∈ wA) (h5 : Cond.code y b mL ret ∈ wA) (hd : y.cls = C ∧ y.cls ≠ "java/lang/invoke/MethodHandle" ∧ y.cls ≠ "java/lang/invoke/VarHandle" ∧ (parseMethodDescriptor y.desc).map (fun d => d.parameters.length) = some n) : gLv own idx C y b mL ret n := by
  refine ⟨fun w hw => ?_, hd⟩
  have h : w ∈ wA := by
    unfold wsV wS at hw
    simp only [List.mem_append, List.mem_cons, List.not_mem_nil, or_false] at hw
    rcases hw with (rfl | rfl | rfl | rfl) | rfl | h
    · exact h1
    · exact h2
    · exact h3
    · exact h4
    · exact h5
    · exact h
  exact ⟨h, good_of_word (wA_good w h)⟩
def gLs (own : String) (idx : Nat) (y : MethodName) (b : ByteArray) (mL : Nat) (ret : Option FieldType) (n : Nat) : Prop :=
  GoodIn wA (va_wsS own idx y (wS y b mL ret)) ∧ y.cls ≠ "java/lang/invoke/MethodHandle" ∧ y.cls ≠ "java/lang/invoke/VarHandle" ∧ (parseMethodDescriptor y.desc).map (fun d => d.parameters.length) = some n
theorem gLs_of {own : String} {idx : Nat} {y : MethodName} {b : ByteArray} {mL : Nat} {ret : Option FieldType} {n : Nat} (h1 : Cond.methodLink own idx y ∈ wA) (h2 : Cond.static y ∈ wA) (h4 : Cond.initialized y.cls ∈ wA) (h5 : Cond.code y b mL ret ∈ wA) (hd : y.cls ≠ "java/lang/invoke/MethodHandle" ∧ y.cls ≠ "java/lang/invoke/VarHandle" ∧ (parseMethodDescriptor y.desc).map (fun d => d.parameters.length) = some n) : gLs own idx y b mL ret n := by
  refine ⟨fun w hw => ?_, hd⟩
  have h : w ∈ wA := by
    unfold va_wsS wS at hw
    simp only [List.mem_append, List.mem_cons, List.not_mem_nil, or_false] at hw
    rcases hw with (rfl | rfl | rfl) | rfl | h
    · exact h1
    · exact h2
    · exact h4
    · exact h5
    · exact h
  exact ⟨h, good_of_word (wA_good w h)⟩
theorem g_ofRun {pc mc ms : Nat} {st0 : List Value} {v : Option Value} {G' : gG} {a : Array Value} (fx : gFx X p s m args meth c cc nL own) (hw : gHw X τ G H locs) (hr : va_Run p l e R s m args below meth c H locs cells slots mc ms (F0 m pc ls st0) rest (gQ X τ v G' a) (gFree X))
    (kk : ∀ (H1 : Heap) (locs1 : List Loc), gHw X τ G' H1 locs1 → W p l e R s m args below meth c H1 locs1 (cells + mc) (slots + ms) Q (F0 m (pc + 3) ls (v.toList ++ rest))) : W p l e R s m args below meth c H locs cells slots Q (F0 m pc ls st0) := by
  intro T hT X1
  obtain ⟨v1, st₀, t, T', L, h0, X', hL, e1, e2, ⟨hv, -, -, hI⟩, st⟩ := hr T hT X1
  cases hv
  rw [← e1] at hI
  obtain ⟨t2, a1, b1⟩ := kk T'.heap (locs ++ L) ⟨hI, fun q hq => by
    rcases List.mem_append.mp hq with h | h
    · exact hw.2 q h
    · exact hL q h⟩ T' rfl X'
  exact ⟨t2, st t2 a1, b1⟩
/-- a call of an own method by its receiver -/
theorem g_callV {idx κ n mL : Nat} {C : String} {y : MethodName} {b : ByteArray} {ret : Option FieldType} {rm : Room} {As : List Value} {a : Nat} {v : Option Value} {G' : gG} (fx : gFx X p s m args meth c cc nL own) (hw : gHw X τ G H locs) (hM : gM l X τ y b mL ret rm (.ref a :: As) G v G') (lk : gLv own idx C y b mL ret n) {r : vw_C} (hc : vwCl[κ]? = some r) (hcr : r.1 = C) (hT : gK τ a κ) (hn : As.length = n) (hls : ls.size = nL) {st0 : List Value} (hst : st0 = As.reverse ++ .ref a :: rest) (hrm : rm.frames + 1 ≤ R.frames ∧ 8 + (mL + 11) + rm.locals ≤ R.locals) (hrest : (rest.map fun v => v.category).sum ≤ 8) (hf : cells + rm.cells ≤ R.cells ∧ slots + rm.slots ≤ R.slots) (hdg : decode cc pc = .ok (.invokevirtual idx, 3))
    (kk : ∀ (H1 : Heap) (locs1 : List Loc), gHw X τ G' H1 locs1 → W p l e R s m args below meth c H1 locs1 (cells + rm.cells) (slots + rm.slots) Q (F0 m (pc + 3) ls (v.toList ++ rest))) : W p l e R s m args below meth c H locs cells slots Q (F0 m pc ls st0) := by
  subst hst
  obtain ⟨hexec, hb, hml, hown, hts, hK, hA, hlk⟩ := id fx
  have hob := gObj hw hT hc
  obtain ⟨cell, q1, q2, q3, -⟩ := hob
  have hcl := (hK.1 κ _ hc).2.1
  refine g_ofRun fx hw (va_runV (As := As) (rest := rest) (Ts := wA) (own := own) ⟨hexec, hb, hml, hown, hts⟩ hM (cwV n hts lk.1 rfl rfl rfl lk.2 hrm) ⟨gPre_blind _, ⟨cell, q1, by rw [q3]; rfl, by rw [← hcr, q2]; exact hcl⟩, fun U hU hW => ⟨rfl, va_K.moved hW.alike hK, State.WarmedH.trans hA hW, by rw [hU]; exact hw.1⟩⟩ rfl hn hls rfl (lv_room hrest) hdg hf) kk
/-- a call of an own static method -/
theorem g_callS {idx n mL : Nat} {y : MethodName} {b : ByteArray} {ret : Option FieldType} {rm : Room} {As : List Value} {v : Option Value} {G' : gG} (fx : gFx X p s m args meth c cc nL own) (hw : gHw X τ G H locs) (hM : gM l X τ y b mL ret rm As G v G') (lk : gLs own idx y b mL ret n) (hn : As.length = n) (hls : ls.size = nL) {st0 : List Value} (hst : st0 = As.reverse ++ rest) (hrm : rm.frames + 1 ≤ R.frames ∧ 8 + (mL + 11) + rm.locals ≤ R.locals) (hrest : (rest.map fun v => v.category).sum ≤ 8) (hf : cells + rm.cells ≤ R.cells ∧ slots + rm.slots ≤ R.slots) (hdg : decode cc pc = .ok (.invokestatic idx, 3))
    (kk : ∀ (H1 : Heap) (locs1 : List Loc), gHw X τ G' H1 locs1 → W p l e R s m args below meth c H1 locs1 (cells + rm.cells) (slots + rm.slots) Q (F0 m (pc + 3) ls (v.toList ++ rest))) : W p l e R s m args below meth c H locs cells slots Q (F0 m pc ls st0) := by
  subst hst
  obtain ⟨hexec, hb, hml, hown, hts, hK, hA, hlk⟩ := id fx
  exact g_ofRun fx hw (va_runS (As := As) (rest := rest) (Ts := wA) (own := own) ⟨hexec, hb, hml, hown, hts⟩ hM (va_cwS n hts lk.1 rfl rfl rfl lk.2 hrm) ⟨gPre_blind _, fun U hU hW => ⟨rfl, va_K.moved hW.alike hK, State.WarmedH.trans hA hW, by rw [hU]; exact hw.1⟩⟩ rfl hn hls rfl (lv_room hrest) hdg hf) kk
/-- a body's beginning -/
theorem g_body {y : MethodName} {b : ByteArray} {mL : Nat} {ret : Option FieldType} {rm : Room} {av : List Value} {v : Option Value} {G' : gG} (hy : plainName y.cls = true) (hle : (lg_sl av).length ≤ mL)
    (body : ∀ p e s m args below meth c (ls : Array Slot), gFx X p s m args meth c b mL y.cls → meth.sig.returnType = ret → gHw X τ G s.heap [] → lv_has ls mL (lv_args 0 av) → W p l e rm s m args below meth c s.heap [] 0 0 (MQ below (gQ X τ v G') args s rm.cells rm.slots (gFree X)) (F0 m 0 ls [])) : gM l X τ y b mL ret rm av G v G' := by
  refine Met.ofW (cc := b) (maxL := mL) (ret := ret) hy rfl ?_
  intro p e s m args below meth c s₁ B hml hv
  obtain ⟨rfl, hK, hA, hI⟩ := hv
  have hts := atoms_spec (ws := wS y b mL ret) B.pre
  rw [lg_entry_eq]
  exact body p e s m _ below meth c _ ⟨B.exec, B.bytes, hml, findClass_of_methodNamed B.named, fun w h => hts w (List.mem_cons_of_mem _ h), hK, hA, B.notSynchronized⟩ B.returns ⟨hI, fun q h => by cases h⟩ (lv_entry av hle)
/-- the same, of methods that make nothing -/
theorem g_callV0 {idx κ n mL : Nat} {C : String} {y : MethodName} {b : ByteArray} {ret : Option FieldType} {rm : Room} {As : List Value} {a : Nat} {v : Option Value} {G' : gG} (fx : gFx X p s m args meth c cc nL own) (hw : gHw X τ G H locs) (hM : gM l X τ y b mL ret rm (.ref a :: As) G v G') (lk : gLv own idx C y b mL ret n) (h0 : rm.cells = 0 ∧ rm.slots = 0) {r : vw_C} (hc : vwCl[κ]? = some r) (hcr : r.1 = C) (hT : gK τ a κ) (hn : As.length = n) (hls : ls.size = nL) {st0 : List Value} (hst : st0 = As.reverse ++ .ref a :: rest) (hrm : rm.frames + 1 ≤ R.frames ∧ 8 + (mL + 11) + rm.locals ≤ R.locals) (hrest : (rest.map fun v => v.category).sum ≤ 8) (hf : cells ≤ R.cells ∧ slots ≤ R.slots) (hdg : decode cc pc = .ok (.invokevirtual idx, 3))
    (kk : ∀ (H1 : Heap) (locs1 : List Loc), gHw X τ G' H1 locs1 → W p l e R s m args below meth c H1 locs1 cells slots Q (F0 m (pc + 3) ls (v.toList ++ rest))) : W p l e R s m args below meth c H locs cells slots Q (F0 m pc ls st0) :=
  g_callV fx hw hM lk hc hcr hT hn hls hst hrm hrest (by rw [h0.1, h0.2]; exact hf) hdg (by rw [h0.1, h0.2]; exact kk)
theorem g_callS0 {idx n mL : Nat} {y : MethodName} {b : ByteArray} {ret : Option FieldType} {rm : Room} {As : List Value} {v : Option Value} {G' : gG} (fx : gFx X p s m args meth c cc nL own) (hw : gHw X τ G H locs) (hM : gM l X τ y b mL ret rm As G v G') (lk : gLs own idx y b mL ret n) (h0 : rm.cells = 0 ∧ rm.slots = 0) (hn : As.length = n) (hls : ls.size = nL) {st0 : List Value} (hst : st0 = As.reverse ++ rest) (hrm : rm.frames + 1 ≤ R.frames ∧ 8 + (mL + 11) + rm.locals ≤ R.locals) (hrest : (rest.map fun v => v.category).sum ≤ 8) (hf : cells ≤ R.cells ∧ slots ≤ R.slots) (hdg : decode cc pc = .ok (.invokestatic idx, 3))
    (kk : ∀ (H1 : Heap) (locs1 : List Loc), gHw X τ G' H1 locs1 → W p l e R s m args below meth c H1 locs1 cells slots Q (F0 m (pc + 3) ls (v.toList ++ rest))) : W p l e R s m args below meth c H locs cells slots Q (F0 m pc ls st0) :=
  g_callS fx hw hM lk hn hls hst hrm hrest (by rw [h0.1, h0.2]; exact hf) hdg (by rw [h0.1, h0.2]; exact kk)
theorem g_leti {x : Int32} {f : Int32 → Option ρ} (hok : gOk (gLet x f) K) (kk : ∀ v : Int32, gOk (f v) K → W p l e R s m args below meth c H locs cells slots Q (F0 m pc ls (.int v :: rest))) : W p l e R s m args below meth c H locs cells slots Q (F0 m pc ls (.int x :: rest)) := kk x hok
theorem ge_gsw {a : Nat} {f : Nat → Int32} : ge (gsw G a f) a = f := by
  funext i
  simp [ge, gsw]
/-- a row of ints is copied into another, or into itself -/
theorem g_copy (fx : gFx X p s m args meth c cc nL own) (hls : ls.size = nL) (hw : gHw X τ G H locs) {idx : Nat} (hlink : Cond.methodLink own idx arraycopyName ∈ wA) (hnat : Cond.native arraycopyName ∈ wA) (hstat : Cond.static arraycopyName ∈ wA) (hini : Cond.initialized "java/lang/System" ∈ wA) {a0 a : Nat} (hT0 : gK τ a0 13) (hT : gK τ a 13) {sp dp n : Int32} (hR : 1 ≤ R.frames ∧ (rest.map fun v => v.category).sum + (nativeFrameWords "java/lang/System" "arraycopy" 5 + 11) ≤ R.locals) (hdg : decode cc pc = .ok (.invokestatic idx, 3)) {f9 : gG → Option ρ} (hok : gOk (gchk (¬ sp < 0 ∧ ¬ dp < 0 ∧ ¬ n < 0 ∧ sp.toNatClampNeg + n.toNatClampNeg ≤ gn τ a0 ∧ dp.toNatClampNeg + n.toNatClampNeg ≤ gn τ a) (gLet (gsw G a (va_cpy (ge G a0) (ge G a) sp.toNatClampNeg dp.toNatClampNeg n.toNatClampNeg)) f9)) K)
    (kk : ∀ (G1 : gG) (H1 : Heap) (locs1 : List Loc), gHw X τ G1 H1 locs1 → gOk (f9 G1) K → W p l e R s m args below meth c H1 locs1 cells slots Q (F0 m (pc + 3) ls rest)) : W p l e R s m args below meth c H locs cells slots Q (F0 m pc ls (.int n :: .int dp :: .ref a :: .int sp :: .ref a0 :: rest)) := by
  obtain ⟨hexec, hb, hml0, hown, hts, hK, -, -⟩ := fx
  obtain ⟨⟨h1, h2, h3, h4, h5⟩, hok⟩ := gOk_chk hok
  have hml : c.maxLocals = ls.size := hml0.trans hls.symm
  have nn : ∀ z : Int32, ¬ z < 0 → z.toInt = (z.toNatClampNeg : Int) := by
    intro z hz
    have hz0 : (0 : Int) ≤ z.toInt := by
      have := Int32.not_lt.mp hz
      simpa using Int32.le_iff_toInt_le.mp this
    show z.toInt = ((z.toInt.toNat : Nat) : Int)
    omega
  intro T hTe X1
  have hc0 := gArrI hw hT0 (by decide) (by decide)
  have hc1 := gArrI hw hT (by decide) (by decide)
  obtain ⟨-, k0, hk0, cm0, hkk0⟩ := (hK.2 1 _ rfl).1 (gn τ a0) (fun j => .int (ge G a0 j))
  obtain ⟨-, k1, hk1, cm1, hkk1⟩ := (hK.2 1 _ rfl).1 (gn τ a) (fun j => .int (ge G a j))
  obtain ⟨vm', X', step⟩ := X1.arraycopy hexec hown (hts _ hlink) (hts _ hnat) (hts _ hstat) (hts _ hini) (src := a0) (dst := a) (cs := vp_cell (X.2.1 13) (gn τ a0, .inl (ge G a0))) (cd := vp_cell (X.2.1 13) (gn τ a, .inl (ge G a))) (srcPos := sp) (destPos := dp) (n := n) (by rw [hTe]; exact hc0) (by rw [hTe]; exact hc1)
    (fun _ h => by cases h) (fun _ h => by cases h) (fun h => by cases h) (fun h => by cases h) hk0 hk1 hkk0 hkk1 (by simp [refKind]) h1 h2 h3
    (by rw [nn sp h1, nn n h3]; show ¬ _ > ((arrV (X.2.1 13) (gn τ a0) (fun j => .int (ge G a0 j))).slots.size : Int); rw [arrV_size]; omega)
    (by rw [nn dp h2, nn n h3]; show ¬ _ > ((arrV (X.2.1 13) (gn τ a) (fun j => .int (ge G a j))).slots.size : Int); rw [arrV_size]; omega)
    (fun vm₁ _ i hi => by
      have e : (vp_cell (X.2.1 13) (gn τ a0, .inl (ge G a0))).slots.getD (sp.toNatClampNeg + i) .null = .int (ge G a0 (sp.toNatClampNeg + i)) := by
        show (arrV (X.2.1 13) (gn τ a0) (fun j => .int (ge G a0 j))).slots.getD _ _ = _
        rw [Array.getD_eq_getD_getElem?, arrV_read _ _ (by omega)]
        rfl
      refine ⟨?_, ?_⟩
      · rw [e]; rfl
      · rw [e]
        exact trivial)
    (g := F0 m pc ls (.int n :: .int dp :: .ref a :: .int sp :: .ref a0 :: rest)) rfl (by rw [hml]) (rest := rest) rfl (by rw [hb]; exact hdg) hR.1 (by show 2 * 0 + _ + _ ≤ _; have := hR.2; omega)
  have e1 : copied (vp_cell (X.2.1 13) (gn τ a0, .inl (ge G a0))) (vp_cell (X.2.1 13) (gn τ a, .inl (ge G a))) sp dp n = vp_cell (X.2.1 13) (gn τ a, .inl (va_cpy (ge G a0) (ge G a) sp.toNatClampNeg dp.toNatClampNeg n.toNatClampNeg)) := va_copied (fun z => .int z) _ _ (ge G a0) (ge G a) h4
  rw [e1] at X' step
  have hl : a < H.size := (Array.getElem?_eq_some_iff.mp hc1).1
  generalize hcell : vp_cell (X.2.1 13) (gn τ a, .inl (va_cpy (ge G a0) (ge G a) sp.toNatClampNeg dp.toNatClampNeg n.toNatClampNeg)) = cellN at X' step
  have hheap : ((T.setVm vm').setCell a cellN).heap = H.setIfInBounds a cellN := by rw [← hTe]; rfl
  have oq : ∀ q : Nat, q ≠ a → (H.setIfInBounds a cellN)[q]? = H[q]? := fun q hq => by simp [Array.getElem?_setIfInBounds, Ne.symm hq]
  obtain ⟨n0, hTn⟩ := hT
  have hnn := gn_of hTn
  have hba := (hw.1.1 a 13 n0 hTn).2
  obtain ⟨t, a1, b1⟩ := kk _ (H.setIfInBounds a cellN) _ ⟨hw.1.put (G' := gsw G a (va_cpy (ge G a0) (ge G a) sp.toNatClampNeg dp.toNatClampNeg n.toNatClampNeg)) hTn (fun b h => gSame.w h) (by simp) oq (by
      show (H.setIfInBounds a cellN)[a]? = some (vp_cell _ _)
      rw [← hcell, ← hnn]
      rw [ge_gsw]
      simp [Array.getElem?_setIfInBounds, hl]) (hw.1.2.1.ints (fun _ _ _ => rfl) (fun _ _ => rfl)), fun q hq => by
      rcases List.mem_append.mp hq with h | h
      · exact hw.2 q h
      · obtain ⟨z, -, hz⟩ := List.mem_map.mp h
        rw [← hz]
        exact hba⟩ hok _ hheap X'
  exact ⟨t, step t a1, b1⟩
theorem g_letl {x : Int64} {f : Int64 → Option ρ} (hok : gOk (gLet x f) K) (kk : ∀ v : Int64, gOk (f v) K → W p l e R s m args below meth c H locs cells slots Q (F0 m pc ls (.long v :: rest))) : W p l e R s m args below meth c H locs cells slots Q (F0 m pc ls (.long x :: rest)) := kk x hok
def gmax (x y : Int32) : Int32 := if x < y then y else x
def gmin (x y : Int32) : Int32 := if y < x then y else x
theorem g_mmax (fx : gFx X p s m args meth c cc nL own) (hls : ls.size = nL) {idx : Nat} (hlink : Cond.methodLink own idx Lib.Math.max.name ∈ wA) (hst : Cond.static Lib.Math.max.name ∈ wA) (hini : Cond.initialized "java/lang/Math" ∈ wA) (hcode : Cond.code Lib.Math.max.name Lib.Math.max.code 2 (some .int) ∈ wA) (hR : 1 ≤ R.frames ∧ (rest.map fun v => v.category).sum + 13 ≤ R.locals ∧ cells ≤ R.cells ∧ slots ≤ R.slots) {x y : Int32} (hdg : decode cc pc = .ok (.invokestatic idx, 3)) (kk : W p l e R s m args below meth c H locs cells slots Q (F0 m (pc + 3) ls (.int (gmax x y) :: rest))) : W p l e R s m args below meth c H locs cells slots Q (F0 m pc ls (.int y :: .int x :: rest)) := by
  obtain ⟨hexec, hb, hml, hown, hts, -⟩ := fx
  exact va_mmax hexec hb (hml.trans hls.symm) hown (hts _ hlink) (hts _ hst) (hts _ hini) (hts _ hcode) hR.1 hR.2.1 hR.2.2.1 hR.2.2.2 hdg kk
theorem g_mmin (fx : gFx X p s m args meth c cc nL own) (hls : ls.size = nL) {idx : Nat} (hlink : Cond.methodLink own idx Lib.Math.min.name ∈ wA) (hst : Cond.static Lib.Math.min.name ∈ wA) (hini : Cond.initialized "java/lang/Math" ∈ wA) (hcode : Cond.code Lib.Math.min.name Lib.Math.min.code 2 (some .int) ∈ wA) (hR : 1 ≤ R.frames ∧ (rest.map fun v => v.category).sum + 13 ≤ R.locals ∧ cells ≤ R.cells ∧ slots ≤ R.slots) {x y : Int32} (hdg : decode cc pc = .ok (.invokestatic idx, 3)) (kk : W p l e R s m args below meth c H locs cells slots Q (F0 m (pc + 3) ls (.int (gmin x y) :: rest))) : W p l e R s m args below meth c H locs cells slots Q (F0 m pc ls (.int y :: .int x :: rest)) := by
  obtain ⟨hexec, hb, hml, hown, hts, -⟩ := fx
  exact va_mmin hexec hb (hml.trans hls.symm) hown (hts _ hlink) (hts _ hst) (hts _ hini) (hts _ hcode) hR.1 hR.2.1 hR.2.2.1 hR.2.2.2 hdg kk
end GS
