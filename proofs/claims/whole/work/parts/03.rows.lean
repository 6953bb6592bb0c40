/-! ROWS over the pool: an instruction each -/
theorem gHin0 : ∀ r ∈ vwCl, ∀ w ∈ u_ws r.1 r.2.1 r.2.2, w ∈ wA := by
  intro r hr
  simp only [vwCl, List.mem_cons, List.not_mem_nil, or_false] at hr
  rcases hr with rfl | rfl | rfl | rfl | rfl | rfl | rfl | rfl | rfl | rfl | rfl | rfl
  · exact fun w h => wA_t ((by decide +kernel : ∀ w ∈ u_ws RX0 TX0 3, w ∈ tables_1) w h) ((by decide +kernel : ∀ w ∈ u_ws RX0 TX0 3, goodWord w = true) w h)
  · exact fun w h => wA_t ((by decide +kernel : ∀ w ∈ u_ws RX1 TX1 9, w ∈ tables_1) w h) ((by decide +kernel : ∀ w ∈ u_ws RX1 TX1 9, goodWord w = true) w h)
  · exact fun w h => wA_t ((by decide +kernel : ∀ w ∈ u_ws RX2 TX2 2, w ∈ tables_1) w h) ((by decide +kernel : ∀ w ∈ u_ws RX2 TX2 2, goodWord w = true) w h)
  · exact fun w h => wA_t ((by decide +kernel : ∀ w ∈ u_ws RX3 TX3 3, w ∈ tables_1) w h) ((by decide +kernel : ∀ w ∈ u_ws RX3 TX3 3, goodWord w = true) w h)
  · exact fun w h => wA_t ((by decide +kernel : ∀ w ∈ u_ws RX4 TX4 3, w ∈ tables_1) w h) ((by decide +kernel : ∀ w ∈ u_ws RX4 TX4 3, goodWord w = true) w h)
  · exact fun w h => wA_t ((by decide +kernel : ∀ w ∈ u_ws RX5 TX5 10, w ∈ tables_1) w h) ((by decide +kernel : ∀ w ∈ u_ws RX5 TX5 10, goodWord w = true) w h)
  · exact fun w h => wA_t ((by decide +kernel : ∀ w ∈ u_ws RX6 TX6 15, w ∈ tables_1) w h) ((by decide +kernel : ∀ w ∈ u_ws RX6 TX6 15, goodWord w = true) w h)
  · exact fun w h => wA_t ((by decide +kernel : ∀ w ∈ u_ws RX7 TX7 6, w ∈ tables_1) w h) ((by decide +kernel : ∀ w ∈ u_ws RX7 TX7 6, goodWord w = true) w h)
  · exact fun w h => wA_t ((by decide +kernel : ∀ w ∈ u_ws RX8 TX8 2, w ∈ tables_1) w h) ((by decide +kernel : ∀ w ∈ u_ws RX8 TX8 2, goodWord w = true) w h)
  · exact fun w h => wA_t ((by decide +kernel : ∀ w ∈ u_ws RX9 TX9 4, w ∈ tables_1) w h) ((by decide +kernel : ∀ w ∈ u_ws RX9 TX9 4, goodWord w = true) w h)
  · exact fun w h => wA_t ((by decide +kernel : ∀ w ∈ u_ws RX10 TX10 15, w ∈ tables_1) w h) ((by decide +kernel : ∀ w ∈ u_ws RX10 TX10 15, goodWord w = true) w h)
  · exact fun w h => wA_t ((by decide +kernel : ∀ w ∈ u_ws RX11 TX11 20, w ∈ tables_1) w h) ((by decide +kernel : ∀ w ∈ u_ws RX11 TX11 20, goodWord w = true) w h)
theorem gHin {κ : Nat} {r : vw_C} (h : vwCl[κ]? = some r) : ∀ w ∈ u_ws r.1 r.2.1 r.2.2, w ∈ wA := gHin0 r (List.mem_of_getElem? h)
def gTy : Nat → Nat → FieldType := fun c => match c with
  | 0 => tyX0 | 1 => tyX1 | 2 => tyX2 | 3 => tyX3 | 4 => tyX4 | 5 => tyX5 | 6 => tyX6 | 7 => tyX7 | 8 => tyX8 | 9 => tyX9 | 10 => tyX10 | _ => tyX11
theorem gNm {κ : Nat} {r : vw_C} (h : vwCl[κ]? = some r) : (∀ a, a < r.2.2 → ∀ b, b < r.2.2 → a ≠ b → (r.2.1 a).2.1 ≠ (r.2.1 b).2.1) ∧ ∀ k, k < r.2.2 → parseFieldDescriptor (r.2.1 k).2.2.1 = some (gTy κ k) := by
  match κ, h with
  | 0, h => cases h; exact ⟨nmX0, tyX0_ok⟩
  | 1, h => cases h; exact ⟨nmX1, tyX1_ok⟩
  | 2, h => cases h; exact ⟨nmX2, tyX2_ok⟩
  | 3, h => cases h; exact ⟨nmX3, tyX3_ok⟩
  | 4, h => cases h; exact ⟨nmX4, tyX4_ok⟩
  | 5, h => cases h; exact ⟨nmX5, tyX5_ok⟩
  | 6, h => cases h; exact ⟨nmX6, tyX6_ok⟩
  | 7, h => cases h; exact ⟨nmX7, tyX7_ok⟩
  | 8, h => cases h; exact ⟨nmX8, tyX8_ok⟩
  | 9, h => cases h; exact ⟨nmX9, tyX9_ok⟩
  | 10, h => cases h; exact ⟨nmX10, tyX10_ok⟩
  | 11, h => cases h; exact ⟨nmX11, tyX11_ok⟩
  | k + 12, h => simp [vwCl] at h
theorem gCl {κ : Nat} {r : vw_C} (h : vwCl[κ]? = some r) : κ < 12 := (List.getElem?_eq_some_iff.mp h).1
/-- a written link: also not final -/
def gLp (own : String) (idx κ k : Nat) : Prop := ∃ r : vw_C, vwCl[κ]? = some r ∧ k < r.2.2 ∧ Cond.fieldLink own idx r.1 (r.2.1 k).2.1 (r.2.1 k).2.2.1 ∈ wA ∧ (r.2.1 k).1 = r.1 ∧ (r.2.1 k).2.2.2 = false
section GR
variable {X : gX} {p : Program} {l : Launch} {e : Env} {R : Room} {s : State} {m : MethodId} {args : Array Value} {below : List Frame} {meth : Method} {c : Code} {H : Heap} {locs : List Loc} {cells slots : Nat} {Q : State → Prop} {cc : ByteArray} {nL : Nat} {own : String} {τ : gτ} {G : gG} {pc : Nat} {ls : Array Slot} {rest : List Value} {ρ : Type} {K : ρ → Prop}
theorem gObj (hw : gHw X τ G H locs) {a κ : Nat} (hT : gK τ a κ) {r : vw_C} (hr : vwCl[κ]? = some r) : t_OB a (X.1.1 κ) r.2.2 (X.1.2 κ) H (gV G κ a) := by
  obtain ⟨n, hT⟩ := hT
  have h := (hw.1.1 a κ n hT).1
  unfold gAt at h
  rw [if_pos (gCl hr)] at h
  obtain ⟨r', e', h⟩ := h
  have : r' = r := Option.some.inj (e'.symm.trans hr)
  subst this
  exact h
theorem g_get0 (fx : gFx X p s m args meth c cc nL own) (hw : gHw X τ G H locs) {a κ k idx : Nat} (hT : gK τ a κ) (lf : gLf own idx κ k) (hdg : decode cc pc = .ok (.getfield idx, 3)) (kk : W p l e R s m args below meth c H locs cells slots Q (F0 m (pc + 3) ls (gV G κ a k :: rest))) : W p l e R s m args below meth c H locs cells slots Q (F0 m pc ls (.ref a :: rest)) := by
  obtain ⟨hexec, hb, hml, hown, hts, hK, -, -⟩ := fx
  obtain ⟨r, hr, hk, hl, hs⟩ := lf
  obtain ⟨cell, q1, q2, q3, q4⟩ := gObj hw hT hr
  obtain ⟨hS, hfc, kC, hkC, hkind⟩ := hK.1 κ _ hr
  obtain ⟨cf, kf, fi, f, hi, hsl⟩ := hS k hk
  have hi' := hi
  rw [hs] at hi'
  exact W.getf hexec hb hown (hts _ hl) hi' (u_facts hfc hkC (u_lays hts (gHin hr) hk) hi).1 q1 (by rw [q3]; exact fun h => by cases h) (v := gV G κ a k) (by rw [hsl, q4 k hk]) rfl rfl hdg kk
theorem g_geti (fx : gFx X p s m args meth c cc nL own) (hw : gHw X τ G H locs) {a κ k idx : Nat} (hT : gK τ a κ) (lf : gLf own idx κ k) (hz : gFr κ k = none) (hdg : decode cc pc = .ok (.getfield idx, 3)) (kk : W p l e R s m args below meth c H locs cells slots Q (F0 m (pc + 3) ls (.int (gi G κ k a) :: rest))) : W p l e R s m args below meth c H locs cells slots Q (F0 m pc ls (.ref a :: rest)) := by
  refine g_get0 fx hw hT lf hdg ?_
  unfold gV
  rw [hz]
  exact kk
theorem g_getr (fx : gFx X p s m args meth c cc nL own) (hw : gHw X τ G H locs) {a κ k idx κ' : Nat} (hT : gK τ a κ) (lf : gLf own idx κ k) (hz : gFr κ k = some κ') (hdg : decode cc pc = .ok (.getfield idx, 3)) {f : Nat → Option ρ} (hok : gOk ((gr G κ k a).bind f) K) (kk : ∀ b : Nat, gK τ b κ' → gOk (f b) K → W p l e R s m args below meth c H locs cells slots Q (F0 m (pc + 3) ls (.ref b :: rest))) : W p l e R s m args below meth c H locs cells slots Q (F0 m pc ls (.ref a :: rest)) := by
  obtain ⟨b, hb, hok⟩ := gOk_bind hok
  refine g_get0 fx hw hT lf hdg ?_
  unfold gV
  rw [hz, hb]
  obtain ⟨n, hn⟩ := hT
  exact kk b (hw.1.2.1.1 a κ n k b κ' hn hz hb) hok
theorem g_put0 (fx : gFx X p s m args meth c cc nL own) (hw : gHw X τ G H locs) {a κ k idx : Nat} (hT : gK τ a κ) (lf : gLp own idx κ k) {v : Value} (hn : narrow (gTy κ k) v = v) (hfit : fits (gTy κ k) v = true) {G' : gG} (hsm : ∀ b, b ≠ a → gSame G G' b) (hv : ∀ j, gV G' κ a j = if j = k then v else gV G κ a j) (hWT : gWT τ G') (hdg : decode cc pc = .ok (.putfield idx, 3)) (kk : ∀ (H1 : Heap) (locs1 : List Loc), gHw X τ G' H1 locs1 → W p l e R s m args below meth c H1 locs1 cells slots Q (F0 m (pc + 3) ls rest)) : W p l e R s m args below meth c H locs cells slots Q (F0 m pc ls (v :: .ref a :: rest)) := by
  obtain ⟨hexec, hb, hml, hown, hts, hK, -, -⟩ := fx
  obtain ⟨r, hr, hk, hl, hs, hfin⟩ := lf
  have hob := gObj hw hT hr
  obtain ⟨cell, q1, q2, q3, q4⟩ := hob
  obtain ⟨hnm, htyp⟩ := gNm hr
  have hap := va_apart (own := own) hts (gHin hr) (gTy κ) htyp hnm hK hr
  obtain ⟨hS, hfc, kC, hkC, hkind⟩ := hK.1 κ _ hr
  obtain ⟨cf, kf, fi, f, hi, hsl⟩ := hS k hk
  have hi' := hi
  rw [hs] at hi'
  have hlay := hts _ (gHin hr _ (u_in_lay hk))
  unfold u_lay at hlay
  rw [if_neg (by rw [hfin]; decide)] at hlay
  have hst := (u_facts hfc hkC (u_lays hts (gHin hr) hk) hi).1
  have h6 := u_store hfc hkC hkind hlay hi (htyp k hk) hn hfit
  refine W.putK hexec hb (f := f) ⟨hown, hts _ hl, ⟨_, _, _, hi'⟩, hst⟩ (by rw [q2]; exact h6) q1 q3 (by rw [hsl]; exact k2_hasslot (q4 k hk)) rfl rfl hdg fun H' e1 e2 e3 => ?_
  rw [hsl] at e1 ⊢
  obtain ⟨n, hT⟩ := hT
  refine kk H' _ (gHw.put (hw.1.put hT hsm e2 e3 ?_ hWT) hw.2 (hw.1.1 a κ n hT).2)
  unfold gAt
  rw [if_pos (gCl hr)]
  exact ⟨r, hr, t_OB.to (V := updV (gV G κ a) k v) ⟨_, e1, q2, q3, t_set q4 hap hk v⟩ (fun j _ => by rw [hv]; rfl)⟩
theorem g_puti (fx : gFx X p s m args meth c cc nL own) (hw : gHw X τ G H locs) {a κ k idx : Nat} (hT : gK τ a κ) (lf : gLp own idx κ k) (hz : gFr κ k = none) (hty : gTy κ k = .int) {v : Int32} (hdg : decode cc pc = .ok (.putfield idx, 3)) {f : gG → Option ρ} (hok : gOk (gLet (gsi G κ k a v) f) K) (kk : ∀ (G1 : gG) (H1 : Heap) (locs1 : List Loc), gHw X τ G1 H1 locs1 → gOk (f G1) K → W p l e R s m args below meth c H1 locs1 cells slots Q (F0 m (pc + 3) ls rest)) : W p l e R s m args below meth c H locs cells slots Q (F0 m pc ls (.int v :: .ref a :: rest)) := by
  refine g_put0 (G' := gsi G κ k a v) fx hw hT lf (v := .int v) (by rw [hty]; rfl) (by rw [hty]; rfl) (fun b h => gSame.i h) (fun j => ?_) (hw.1.2.1.ints (fun _ _ _ => rfl) (fun _ _ => rfl)) hdg (fun H1 locs1 hw1 => kk _ H1 locs1 hw1 hok)
  unfold gV
  by_cases hj : j = k
  · subst hj; rw [hz]; simp [gi, gsi]
  · rw [if_neg hj]
    have : gi (gsi G κ k a v) κ j a = gi G κ j a := by simp [gi, gsi, hj]
    rw [this]
    rfl
theorem g_putz (fx : gFx X p s m args meth c cc nL own) (hw : gHw X τ G H locs) {a κ k idx : Nat} (hT : gK τ a κ) (lf : gLp own idx κ k) (hz : gFr κ k = none) (hty : gTy κ k = .boolean) {v : Int32} (hv : v = 0 ∨ v = 1) (hdg : decode cc pc = .ok (.putfield idx, 3)) {f : gG → Option ρ} (hok : gOk (gLet (gsi G κ k a v) f) K) (kk : ∀ (G1 : gG) (H1 : Heap) (locs1 : List Loc), gHw X τ G1 H1 locs1 → gOk (f G1) K → W p l e R s m args below meth c H1 locs1 cells slots Q (F0 m (pc + 3) ls rest)) : W p l e R s m args below meth c H locs cells slots Q (F0 m pc ls (.int v :: .ref a :: rest)) := by
  refine g_put0 (G' := gsi G κ k a v) fx hw hT lf (v := .int v) (by rw [hty]; rcases hv with rfl | rfl <;> rfl) (by rw [hty]; rcases hv with rfl | rfl <;> rfl) (fun b h => gSame.i h) (fun j => ?_) (hw.1.2.1.ints (fun _ _ _ => rfl) (fun _ _ => rfl)) hdg (fun H1 locs1 hw1 => kk _ H1 locs1 hw1 hok)
  unfold gV
  by_cases hj : j = k
  · subst hj; rw [hz]; simp [gi, gsi]
  · rw [if_neg hj]
    have : gi (gsi G κ k a v) κ j a = gi G κ j a := by simp [gi, gsi, hj]
    rw [this]
    rfl
theorem gWT.setr {κ k a b κ' : Nat} (h : gWT τ G) (hz : gFr κ k = some κ') (hb : gK τ b κ') : gWT τ (gsr G κ k a (some b)) := by
  refine ⟨fun a1 c1 n k1 b1 κ1 h1 h2 h3 => ?_, h.2⟩
  by_cases hc : c1 = κ ∧ k1 = k ∧ a1 = a
  · have : gr (gsr G κ k a (some b)) c1 k1 a1 = some b := by simp [gr, gsr, hc]
    rw [this] at h3
    cases h3
    obtain ⟨rfl, rfl, rfl⟩ := hc
    rw [hz] at h2
    cases h2
    exact hb
  · have : gr (gsr G κ k a (some b)) c1 k1 a1 = gr G c1 k1 a1 := by simp [gr, gsr, hc]
    rw [this] at h3
    exact h.1 a1 c1 n k1 b1 κ1 h1 h2 h3
theorem g_putr (fx : gFx X p s m args meth c cc nL own) (hw : gHw X τ G H locs) {a b κ k idx κ' : Nat} (hT : gK τ a κ) (lf : gLp own idx κ k) (hz : gFr κ k = some κ') {t : String} (hty : gTy κ k = .object t) (hb : gK τ b κ') (hdg : decode cc pc = .ok (.putfield idx, 3)) {f : gG → Option ρ} (hok : gOk (gLet (gsr G κ k a (some b)) f) K) (kk : ∀ (G1 : gG) (H1 : Heap) (locs1 : List Loc), gHw X τ G1 H1 locs1 → gOk (f G1) K → W p l e R s m args below meth c H1 locs1 cells slots Q (F0 m (pc + 3) ls rest)) : W p l e R s m args below meth c H locs cells slots Q (F0 m pc ls (.ref b :: .ref a :: rest)) := by
  refine g_put0 (G' := gsr G κ k a (some b)) fx hw hT lf (v := .ref b) (by rw [hty]; rfl) (by rw [hty]; rfl) (fun b h => gSame.r h) (fun j => ?_) (hw.1.2.1.setr hz hb) hdg (fun H1 locs1 hw1 => kk _ H1 locs1 hw1 hok)
  unfold gV
  by_cases hj : j = k
  · subst hj; rw [hz]; simp [gr, gsr, va_rf]
  · rw [if_neg hj]
    have : gr (gsr G κ k a (some b)) κ j a = gr G κ j a := by simp [gr, gsr, hj]
    rw [this]
    rfl
end GR
