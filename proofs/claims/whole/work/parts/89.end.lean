/-! CALLS: end -/
section
variable {τ : gτ} {n : Nat} {G G' : gG} {x m s t l l' o : Nat} {ω w : gW} {im : Option gW} {me : List gW} {ta ta' : List Nat} {fa fa' : Int32}
theorem op_end (hm : m = x + 512) (hC : CV τ G x s t l l' ω im me ta fa) (hM : MV τ G m ω im me ta fa) (hI : IV ω im me ta) (v : Int32) : gOk (f_X10_end x v G) (fun q => gOk (f_X11_end m v q.2) (fun p => q.1 = p.1 ∧ ST τ x m p.2)) := by
  have hsl := hC.sl
  have ht4 : ta.length ≤ 400 := hI.2.2.2.2.1
  rcases arg_ix v (N := ta.length + 1) (by omega) with ⟨k, hk, rfl⟩ | ⟨hno, -⟩
  · have hkt : nI k ≤ nI ta.length := nI_le (by omega) (by omega)
    have hlen : (ta.take k).length = k := by rw [List.length_take]; omega
    have hIV : IV ω im me (ta.take k) := by
      obtain ⟨a, b, c, d, e, f⟩ := hI
      exact ⟨a, b, c, d, by omega, fun y hy => f y (List.mem_of_mem_take hy)⟩
    unfold f_X10_end
    rw [if_neg (nI_pos (by omega)), hC.rf.1, ka_bs, hC.2.2.2.2.2.1.1, if_pos hkt, ka_bs, ka_letE]
    have f1 : Fr (fun b => b = x + 1) G (gsi G 7 1 (x + 1) (nI k)) := Fr.i rfl
    have hC1 : CV τ (gsi G 7 1 (x + 1) (nI k)) x s t l l' ω im me (ta.take k) fa := by
      refine hC.tape hI (f1.mono fun b hb => Or.inl hb) (fun _ _ _ => rfl) ⟨?_, fun j b hj => ?_⟩ ?_
      · rw [hlen]; simp [ka_ii]
      · rw [ka_ei]; exact hC.2.2.2.2.2.1.2 j b (take_get hj)
      · rw [ka_ii, if_neg (fun h => absurd h.2.1 (by decide))]; exact hC.2.2.2.2.2.2
    refine ⟨_, rfl, ?_⟩
    have hM1 : MV τ (gsi G 7 1 (x + 1) (nI k)) m ω im me ta fa := hM.out f1 fun b c1 c2 h => by omega
    have hM2 := hM1.th0 (v := 0)
    show gOk (f_X11_end m (nI k) (gsi G 7 1 (x + 1) (nI k))) _
    have fth : Fr (fun b => m ≤ b ∧ b ≤ m + 10) (gsi G 7 1 (x + 1) (nI k)) (gsi (gsi G 7 1 (x + 1) (nI k)) 11 0 m 0) := Fr.i ⟨Nat.le_refl _, by omega⟩
    unfold f_X11_end
    rw [ka_letE]
    generalize gsi (gsi G 7 1 (x + 1) (nI k)) 11 0 m 0 = G2 at hM2 fth
    obtain ⟨hF, hω, ⟨i1, i2⟩, ⟨m1, m2⟩, ⟨t1, t2⟩, t3⟩ := hM2
    rw [if_neg (nI_pos (by omega)), t1, if_pos hkt, ka_letE]
    have f4 : Fr (fun b => m ≤ b ∧ b ≤ m + 10) G2 (gsi G2 11 9 m (nI k)) := Fr.i ⟨Nat.le_refl _, by omega⟩
    have hF4 : FM τ (gsi G2 11 9 m (nI k)) m := hF
    have dn : ∀ j, j ≠ 9 → gi (gsi G2 11 9 m (nI k)) 11 j m = gi G2 11 j m := fun j hj => by rw [ka_ii, if_neg (fun h => hj h.2.1)]
    have d9 : gi (gsi G2 11 9 m (nI k)) 11 9 m = nI k := by simp [ka_ii]
    refine ⟨_, rfl, rfl, ST.mk0 hm hIV hC1 Fr.rf WE.rf ⟨hF4, hω, ⟨(dn 6 (by decide)).trans i1, i2⟩, ⟨(dn 7 (by decide)).trans m1, m2⟩, ⟨?_, fun j b hj => t2 j b (take_get hj)⟩, (dn 14 (by decide)).trans t3⟩ (fth.tr f4)⟩
    rw [hlen]
    exact d9
  · refine join_p (ans := 0) hm hC hM hI ⟨(0, G), ?_, rfl, QC.rf⟩ (fun G1 hM1 => ⟨(0, gsi G1 11 0 m 0), ?_, rfl, QM.th⟩)
    · unfold f_X10_end
      by_cases h0 : v < 0
      · rw [if_pos h0]
      · have hge := hno.resolve_left h0
        have hn : ¬ v ≤ nI ta.length := fun h => by
          have h1 := Int32.le_iff_toInt_le.mp h
          have h2 := Int32.le_iff_toInt_le.mp hge
          rw [nI_toInt (by omega)] at h1 h2
          omega
        rw [if_neg h0, hC.rf.1, ka_bs, hC.2.2.2.2.2.1.1, if_neg hn]
    · have e9 : gi (gsi G1 11 0 m 0) 11 9 m = nI ta.length := hM1.th0.2.2.2.2.1.1
      unfold f_X11_end
      rw [ka_letE]
      by_cases h0 : v < 0
      · rw [if_pos h0]
      · have hge := hno.resolve_left h0
        have hn : ¬ v ≤ nI ta.length := fun h => by
          have h1 := Int32.le_iff_toInt_le.mp h
          have h2 := Int32.le_iff_toInt_le.mp hge
          rw [nI_toInt (by omega)] at h1 h2
          omega
        rw [if_neg h0, e9, if_neg hn]
end
