/-! ROWS FOR ACTS THAT CHANGE HOW MANY THINGS THERE ARE -/
section
variable {ω ω' : gW} {G G' : gG} {a s : Nat}
theorem YV.same {i i' : Nat} (h : YV G a ω i) (hs : gSame G G' a) (e : ∀ k, k < 4 → yv ω' i' k = yv ω i k) : YV G' a ω' i' := by
  unfold YV at h ⊢
  simp only [hs.1]
  rw [e 0 (by decide), e 1 (by decide), e 2 (by decide), e 3 (by decide)]
  exact h
theorem RV.same {i i' : Nat} (h : RV G a ω i) (hs : gSame G G' a) (e : ∀ j, j < 10 → rv ω' i' j = rv ω i j) : RV G' a ω' i' := by
  unfold RV at h ⊢
  simp only [hs.1]
  rw [e 0 (by decide), e 1 (by decide), e 2 (by decide), e 3 (by decide), e 4 (by decide), e 5 (by decide), e 6 (by decide), e 7 (by decide), e 8 (by decide), e 9 (by decide)]
  exact h
theorem OV.same {i i' : Nat} (h : OV G a ω i) (hs : gSame G G' a) (e : ∀ j, j < 3 → ov ω' i' j = ov ω i j) : OV G' a ω' i' := by
  unfold OV at h ⊢
  simp only [hs.1]
  rw [e 0 (by decide), e 1 (by decide), e 2 (by decide)]
  exact h
theorem VS.yv (h : VS G s ω) {i : Nat} (hi : i < cY ω) : YV G (s + 6 + i) ω i := h.2.1 i hi
theorem VS.ov (h : VS G s ω) {i : Nat} (hi : i < cO ω) : OV G (s + 24 + i) ω i := h.2.2.2.1 i hi
theorem vs_acts (hI : WI ω) (hV : VS G s ω) (hd : gi G' 6 4 s = ω' 0 ∧ gi G' 6 5 s = ω' 1 ∧ gi G' 6 6 s = ω' 2 ∧ gi G' 6 7 s = ω' 3 ∧ gi G' 6 8 s = ω' 6 ∧ gi G' 6 9 s = ω' 7 ∧ gi G' 6 10 s = ω' 5 ∧ gi G' 6 11 s = ω' 12 ∧ gi G' 6 12 s = ω' 10 ∧ gi G' 6 13 s = ω' 8 ∧ gi G' 6 14 s = ω' 9) (hy : ∀ i, i < cY ω' → YV G' (s + 6 + i) ω' i) (hr : ∀ i, i < cR ω' → RV G' (s + 16 + i) ω' i) (ho : ∀ i, i < cO ω' → OV G' (s + 24 + i) ω' i) (h11 : ω' 11 = ω 11) (hlg : ∀ j, 167 ≤ j → j < 467 → ω' j = ω j) (h4 : gSame G G' (s + 4)) (h5 : gSame G G' (s + 5)) : VS G' s ω' := by
  obtain ⟨-, -, -, -, l1, nx, l2, l3, l4⟩ := hV
  have hcl := hI.l0.2
  refine ⟨hd, hy, hr, ho, ?_, nx, l2, ?_, fun q w hq hw => ?_⟩
  · rw [h4.1, h11]; exact l1
  · rw [h4.1]; exact l3
  · have e : cL ω' = cL ω := by unfold cL; rw [h11]
    rw [e] at hq
    rw [h5.2.2.1, hlg (167 + 5 * q + w) (by omega) (by omega)]
    exact l4 q w hq hw
theorem wSt_eq {j : Nat} {v : Int32} : wSt ω j v j = v := if_pos rfl
theorem wSt_ne {i j : Nat} {v : Int32} (h : j ≠ i) : wSt ω i v j = ω j := if_neg h
theorem rS_x {i j j' : Nat} {v : Int32} (hj : j < 10) (h : j' < 53 + 10 * i ∨ 63 + 10 * i ≤ j') : rS ω i j v j' = ω j' := wSt_ne (by omega)
theorem rv_lo {i j j' : Nat} {v : Int32} (h : j' < 53 ∨ 143 ≤ j') (hi : i < 9) (hj : j < 10) : rv (wSt ω j' v) i j = rv ω i j := wSt_ne (by omega)
theorem yv_hi {i j j' : Nat} {v : Int32} (h : j' < 13 ∨ 53 ≤ j') (hi : i < 10) (hj : j < 4) : yv (wSt ω j' v) i j = yv ω i j := wSt_ne (by omega)
theorem rok_set2 {i k : Nat} (hK : ROK ω k) (hy : cY ω' = cY ω) (h : ∀ j, j < 3 → rv ω' i j = rv ω k j) (h3 : bt (rv ω' i 3) 0 400) (h4 : bt (rv ω' i 4) 0 9) (h5 : bt (rv ω' i 5) 0 99) (h6 : bt (rv ω' i 6) 0 1) (h8 : bt (rv ω' i 8) 0 1) (h9 : bt (rv ω' i 9) 0 999) (h7 : rv ω' i 7 = nI 1 ∨ rv ω' i 7 = nI 2 ∨ rv ω' i 7 = nI 4 ∨ rv ω' i 7 = nI 8) (h38 : rv ω' i 8 = 0 → bt (rv ω' i 3) 1 400) : ROK ω' i := by
  obtain ⟨a, b, -⟩ := hK
  refine ⟨?_, ?_, ⟨h3, h4, h5, h6, h8, h9⟩, h7, h38⟩
  · unfold ry at a ⊢
    rw [h 0 (by decide), h 1 (by decide), h 2 (by decide), hy]
    exact a
  · unfold ry at b ⊢
    rw [h 0 (by decide), h 1 (by decide), h 2 (by decide)]
    exact b
/-- a rope as another one was -/
theorem rok_mv {i k : Nat} (hK : ROK ω k) (hy : cY ω' = cY ω) (h : ∀ j, j < 10 → rv ω' i j = rv ω k j) : ROK ω' i := by
  obtain ⟨-, -, ⟨c3, c4, c5, c6, c8, c9⟩, c7, c38⟩ := id hK
  refine rok_set2 hK hy (fun j hj => h j (by omega)) ?_ ?_ ?_ ?_ ?_ ?_ ?_ ?_
  · rw [h 3 (by decide)]; exact c3
  · rw [h 4 (by decide)]; exact c4
  · rw [h 5 (by decide)]; exact c5
  · rw [h 6 (by decide)]; exact c6
  · rw [h 8 (by decide)]; exact c8
  · rw [h 9 (by decide)]; exact c9
  · rw [h 7 (by decide)]; exact c7
  · rw [h 8 (by decide), h 3 (by decide)]; exact c38
theorem wi_acts (hI : WI ω) (h0 : ω' 0 = nI (cY ω') ∧ cY ω' ≤ 10) (h1 : ω' 1 = nI (cR ω') ∧ cR ω' ≤ 8) (h2 : ω' 2 = nI (cO ω') ∧ cO ω' ≤ 8) (h3 : ω' 3 = ω 3) (h4 : ω' 4 = ω 4) (h5 : ω' 5 = ω 5) (h6 : ω' 6 = ω 6) (h7 : ω' 7 = ω 7) (h11 : ω' 11 = ω 11) (hy : ∀ i, i < cY ω' → YOK ω' i) (hr : ∀ i, i < cR ω' → ROK ω' i) (ho : ∀ i, i < cO ω' → OOK ω' i) : WI ω' := by
  obtain ⟨-, ⟨d1, d2, d3, d4, d5, d6, d7⟩, -⟩ := id hI
  have e : cL ω' = cL ω := by unfold cL; rw [h11]
  refine ⟨⟨h0, h1, h2⟩, ⟨?_, ?_, ?_, ?_, ?_, ?_, ?_⟩, hy, hr, ho⟩
  · rw [h3]; exact d1
  · rw [h4]; exact d2
  · rw [h5]; exact d3
  · rw [h6]; exact d4
  · rw [h7]; exact d5
  · rw [h11, e]; exact d6
  · rw [e]; exact d7
theorem YOK.mv {i i' : Nat} (h : YOK ω i) (e : ∀ k, k < 4 → yv ω' i' k = yv ω i k) : YOK ω' i' := by
  unfold YOK at h ⊢
  rw [e 0 (by decide), e 1 (by decide), e 2 (by decide), e 3 (by decide)]
  exact h
theorem OOK.mv {i i' : Nat} (h : OOK ω i) (e : ∀ k, k < 3 → ov ω' i' k = ov ω i k) : OOK ω' i' := by
  unfold OOK at h ⊢
  rw [e 0 (by decide), e 1 (by decide), e 2 (by decide)]
  exact h
end
section
variable {τ : gτ} {G : gG} {m : Nat} {ω : gW} {ρ : Type}
/-- a cell of the reference's world is written -/
theorem m_g (hM : FM τ G m) {f : Nat → Option ρ} : (gr G 11 1 m).bind f = f (m + 1) := by rw [hM.rf.1, ka_bs]
theorem m_w (hM : FM τ G m) {f : gG → Option ρ} {x v : Int32} (k : Nat) (hx : x = nI k) (hk : k < 2165) : gchk (gIn x (gn τ (m + 1))) (gLet (gse G (m + 1) (Int32.toNatClampNeg x) v) f) = f (gse G (m + 1) k v) := by
  subst hx
  rw [hM.w k rfl hk, ka_letE, nI_clamp (by omega)]
theorem m_w2 (hM : FM τ G m) {f : gG → Option ρ} {x v : Int32} (k : Nat) (hx : x = nI k) (hk : k < 2165) : gchk (gIn x (gn τ (m + 1))) (gchk (gIn x (gn τ (m + 1))) (gLet (gse G (m + 1) (Int32.toNatClampNeg x) v) f)) = f (gse G (m + 1) k v) := by
  rw [hM.w k hx hk, m_w hM k hx hk]
theorem m_wr (hM : FM τ G m) (hω : ge G (m + 1) = ω) {k : Nat} {v : Int32} : FM τ (gse G (m + 1) k v) m ∧ ge (gse G (m + 1) k v) (m + 1) = wSt ω k v ∧ Fr (fun b => b = m + 1) G (gse G (m + 1) k v) := by
  refine ⟨Fr.fm (A := fun b => b = m + 1) (Fr.e rfl) hM (by omega), ?_, Fr.e rfl⟩
  rw [ge_wSt, hω]
end
