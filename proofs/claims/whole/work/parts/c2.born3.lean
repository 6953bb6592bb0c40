/-! BEHIND THE CONSTRUCTORS: the reference -/
section
variable {τ τ' τ1 : gτ} {G G' G1 : gG} {a b x y z s m κ n c k i lo hi : Nat} {A B : Nat → Prop}
/-- rows of numbers, one behind another, each laid into a field -/
def rwT : List (Nat × Nat × Nat) → Nat → gτ → gτ
  | [], _, τ => τ
  | q :: r, v, τ => rwT r (v + 1) (gnt τ v q.2.1 q.2.2)
def rwG (c m : Nat) : List (Nat × Nat × Nat) → Nat → gG → gG
  | [], _, G => G
  | q :: r, v, G => rwG c m r (v + 1) (gsr (gnw G v) c q.1 m (some v))
theorem bo_rw : ∀ {l : List (Nat × Nat × Nat)} {v : Nat} {τ : gτ} {G : gG}, m < v → l.Pairwise (fun p q => p.1 ≠ q.1) → BF (fun b => b = m ∨ (v ≤ b ∧ b < v + l.length)) τ G (rwT l v τ) (rwG c m l v G) ∧ (∀ k k', gi (rwG c m l v G) k k' m = gi G k k' m) ∧ (∀ k, (∀ q, q ∈ l → q.1 ≠ k) → gr (rwG c m l v G) c k m = gr G c k m) ∧ (∀ i q, l[i]? = some q → gr (rwG c m l v G) c q.1 m = some (v + i) ∧ gn (rwT l v τ) (v + i) = q.2.2 ∧ ∀ j, ge (rwG c m l v G) (v + i) j = 0)
  | [], v, τ, G, hv, hd => ⟨BF.rf, fun _ _ => rfl, fun _ _ => rfl, fun i q h => by cases h⟩
  | q :: r, v, τ, G, hv, hd => by
    obtain ⟨d1, d2⟩ := List.pairwise_cons.mp hd
    obtain ⟨h1, h2, h3, h4⟩ := bo_rw (l := r) (v := v + 1) (τ := gnt τ v q.2.1 q.2.2) (G := gsr (gnw G v) c q.1 m (some v)) (by omega) d2
    show BF (fun b => b = m ∨ (v ≤ b ∧ b < v + (r.length + 1))) τ G (rwT r (v + 1) (gnt τ v q.2.1 q.2.2)) (rwG c m r (v + 1) (gsr (gnw G v) c q.1 m (some v))) ∧ (∀ k k', gi (rwG c m r (v + 1) (gsr (gnw G v) c q.1 m (some v))) k k' m = gi G k k' m) ∧ (∀ k, (∀ p, p ∈ q :: r → p.1 ≠ k) → gr (rwG c m r (v + 1) (gsr (gnw G v) c q.1 m (some v))) c k m = gr G c k m) ∧ (∀ i p, (q :: r)[i]? = some p → gr (rwG c m r (v + 1) (gsr (gnw G v) c q.1 m (some v))) c p.1 m = some (v + i) ∧ gn (rwT r (v + 1) (gnt τ v q.2.1 q.2.2)) (v + i) = p.2.2 ∧ ∀ j, ge (rwG c m r (v + 1) (gsr (gnw G v) c q.1 m (some v))) (v + i) j = 0)
    have hs : BF (fun b => b = m ∨ (v ≤ b ∧ b < v + (r.length + 1))) τ G (gnt τ v q.2.1 q.2.2) (gsr (gnw G v) c q.1 m (some v)) := ⟨(bo_fn (by omega)).tr (Fr.r (by omega)), fun b hb => by unfold gnt; rw [if_neg (by omega)]⟩
    have hmv : m ≠ v := by omega
    have g0 : ∀ k k', gi (gsr (gnw G v) c q.1 m (some v)) k k' m = gi G k k' m := fun k k' => by rw [ka_ir, bo_in, if_neg hmv]
    have g1 : gr (gsr (gnw G v) c q.1 m (some v)) c q.1 m = some v := by rw [ka_rr, if_pos ⟨rfl, rfl, rfl⟩]
    have g2 : ∀ k, q.1 ≠ k → gr (gsr (gnw G v) c q.1 m (some v)) c k m = gr G c k m := fun k hk => by rw [ka_rr, if_neg (fun h => hk h.2.1.symm), bo_rn, if_neg hmv]
    have g3 : ∀ j, ge (gsr (gnw G v) c q.1 m (some v)) v j = 0 := fun j => by rw [ka_er, bo_en, if_pos rfl]
    have g4 : gn (gnt τ v q.2.1 q.2.2) v = q.2.2 := gn_new
    generalize gsr (gnw G v) c q.1 m (some v) = G1 at h1 h2 h3 h4 hs g0 g1 g2 g3 ⊢
    generalize gnt τ v q.2.1 q.2.2 = τ1 at h1 h4 hs g4 ⊢
    refine ⟨hs.tr (h1.mono fun b hb => by omega), fun k k' => (h2 k k').trans (g0 k k'), fun k hk => ?_, fun i p hp => ?_⟩
    · rw [h3 k fun p hp => hk p (List.mem_cons_of_mem _ hp)]
      exact g2 k (hk q List.mem_cons_self)
    · cases i with
      | zero =>
        cases hp
        refine ⟨?_, ?_, fun j => ?_⟩
        · rw [h3 q.1 fun p hp => (d1 p hp).symm]; exact g1
        · rw [gn_at2 (h1.2 (v + 0) (by omega))]; exact g4
        · rw [(h1.1 (v + 0) (by omega)).2.2.1]; exact g3 j
      | succ i =>
        have hp : r[i]? = some p := hp
        obtain ⟨e1, e2, e3⟩ := h4 i p hp
        rw [show v + (i + 1) = v + 1 + i by omega]
        exact ⟨e1, e2, e3⟩
def m1L : List (Nat × Nat × Nat) := [(1, 13, 2165), (2, 13, 1316), (3, 13, 1316), (4, 13, 467), (5, 13, 5604), (8, 12, 400)]
def m2L : List (Nat × Nat × Nat) := [(15, 13, 5), (17, 13, 400), (18, 13, 256), (19, 13, 10)]
theorem bo_X11 : BF (fun b => m ≤ b ∧ b ≤ m + 10) τ G (iT_X11_init (m + 1) (gnt τ m 11 0)) (iG_X11_init (m + 1) m (gnw G m)) ∧ FM (iT_X11_init (m + 1) (gnt τ m 11 0)) (iG_X11_init (m + 1) m (gnw G m)) m ∧ (∀ j, ge (iG_X11_init (m + 1) m (gnw G m)) (m + 1) j = if j = 12 then 1 else 0) ∧ (∀ k, gi (iG_X11_init (m + 1) m (gnw G m)) 11 k m = if k = 14 then -1 else 0) := by
  have h0 : BF (fun b => m ≤ b ∧ b ≤ m + 10) τ G (gnt τ m 11 0) (gnw G m) := BF.nw (by omega)
  have z0 : ∀ k, gi (gnw G m) 11 k m = 0 := fun k => by rw [bo_in, if_pos rfl]
  generalize gnt τ m 11 0 = τ0 at h0
  generalize gnw G m = G0 at h0 z0
  have eT : iT_X11_init (m + 1) τ0 = rwT m2L (m + 7) (rwT m1L (m + 1) τ0) := rfl
  have eG : iG_X11_init (m + 1) m G0 = gse (rwG 11 m m2L (m + 7) (gsi (rwG 11 m m1L (m + 1) G0) 11 14 m (-1))) (m + 1) 12 1 := rfl
  rw [eT, eG]
  clear eT eG
  obtain ⟨a1, a2, a3, a4⟩ := bo_rw (c := 11) (m := m) (l := m1L) (v := m + 1) (τ := τ0) (G := G0) (by omega) (by decide)
  have a1 : BF (fun b => b = m ∨ (m + 1 ≤ b ∧ b < m + 1 + 6)) τ0 G0 (rwT m1L (m + 1) τ0) (rwG 11 m m1L (m + 1) G0) := a1
  have b1 := a4 0 _ rfl
  have b2 := a4 1 _ rfl
  have b3 := a4 2 _ rfl
  have b4 := a4 3 _ rfl
  have b5 := a4 4 _ rfl
  have b6 := a4 5 _ rfl
  clear a4 a3
  generalize rwT m1L (m + 1) τ0 = τ1 at a1 b1 b2 b3 b4 b5 b6 ⊢
  generalize rwG 11 m m1L (m + 1) G0 = G1 at a1 a2 b1 b2 b3 b4 b5 b6 ⊢
  have i1 : BF (fun b => b = m) τ1 G1 τ1 (gsi G1 11 14 m (-1)) := ⟨Fr.i rfl, fun _ _ => rfl⟩
  have z1 : ∀ k, gi (gsi G1 11 14 m (-1)) 11 k m = if k = 14 then -1 else 0 := fun k => by
    rw [ka_ii]
    by_cases hk : k = 14
    · rw [if_pos ⟨rfl, hk, rfl⟩, if_pos hk]
    · rw [if_neg (fun h => hk h.2.1), if_neg hk, a2, z0]
  have r1 : ∀ k, gr (gsi G1 11 14 m (-1)) 11 k m = gr G1 11 k m := fun k => rfl
  generalize gsi G1 11 14 m (-1) = G2 at i1 z1 r1 ⊢
  obtain ⟨c1, c2, c3, c4⟩ := bo_rw (c := 11) (m := m) (l := m2L) (v := m + 7) (τ := τ1) (G := G2) (by omega) (by decide)
  have c1 : BF (fun b => b = m ∨ (m + 7 ≤ b ∧ b < m + 7 + 4)) τ1 G2 (rwT m2L (m + 7) τ1) (rwG 11 m m2L (m + 7) G2) := c1
  have d1 := c4 0 _ rfl
  have d2 := c4 1 _ rfl
  have d3 := c4 2 _ rfl
  have d4 := c4 3 _ rfl
  clear c4
  have p1 := (c3 1 (by decide)).trans (r1 1)
  have p2 := (c3 2 (by decide)).trans (r1 2)
  have p3 := (c3 3 (by decide)).trans (r1 3)
  have p4 := (c3 4 (by decide)).trans (r1 4)
  have p5 := (c3 5 (by decide)).trans (r1 5)
  have p6 := (c3 8 (by decide)).trans (r1 8)
  clear c3
  generalize rwT m2L (m + 7) τ1 = τ2 at c1 d1 d2 d3 d4 ⊢
  generalize rwG 11 m m2L (m + 7) G2 = G3 at c1 c2 d1 d2 d3 d4 p1 p2 p3 p4 p5 p6 ⊢
  have e1 : BF (fun b => m ≤ b ∧ b ≤ m + 10) τ2 G3 τ2 (gse G3 (m + 1) 12 1) := ⟨Fr.e (by omega), fun _ _ => rfl⟩
  have hA : BF (fun b => m ≤ b ∧ b ≤ m + 10) τ0 G0 τ2 G3 := ((a1.mono fun b hb => by omega).tr (i1.mono fun b hb => by omega)).tr (c1.mono fun b hb => by omega)
  refine ⟨(h0.tr hA).tr e1, ⟨⟨p1.trans b1.1, p2.trans b2.1, p3.trans b3.1, p4.trans b4.1, p5.trans b5.1, p6.trans b6.1, d1.1, d2.1, d3.1, d4.1⟩, ?_, ?_, ?_, ?_, ?_, ?_, d1.2.1, d2.2.1, d3.2.1, d4.2.1⟩, fun j => ?_, fun k => ?_⟩
  · exact (gn_at2 (c1.2 (m + 1) (by omega))).trans b1.2.1
  · exact (gn_at2 (c1.2 (m + 2) (by omega))).trans b2.2.1
  · exact (gn_at2 (c1.2 (m + 3) (by omega))).trans b3.2.1
  · exact (gn_at2 (c1.2 (m + 4) (by omega))).trans b4.2.1
  · exact (gn_at2 (c1.2 (m + 5) (by omega))).trans b5.2.1
  · exact (gn_at2 (c1.2 (m + 6) (by omega))).trans b6.2.1
  · rw [ka_ee]
    by_cases hj : j = 12
    · rw [if_pos ⟨rfl, hj⟩, if_pos hj]
    · rw [if_neg (fun h => hj h.2), if_neg hj, (c1.1 (m + 1) (by omega)).2.2.1, (i1.1 (m + 1) (by omega)).2.2.1]
      exact b1.2.2 j
  · rw [ka_ie, c2]
    exact z1 k
end
