/-! TEXTS: all lines of the law, in the class -/
section
variable {τ : gτ} {n : Nat} {G G' G'' : gG} {x l' : Nat} {tb : Nat → Nat} {L a b f c : Nat} {P Q : List (Nat × Int32)} {Λ : List lwL} {r : Nat ⊕ Nat} {W : (List lwL × List (Nat × Int32)) ⊕ Nat}
def isE : (List lwL × List (Nat × Int32)) ⊕ Nat → Int32
  | .inl _ => 1
  | .inr _ => 0
/-- the class at the end of a text of the law -/
def LEz (τ : gτ) (G : gG) (x l' : Nat) (tb : Nat → Nat) (L : Nat) : (List lwL × List (Nat × Int32)) ⊕ Nat → Prop
  | .inl w => LQ τ G x l' tb L (.inl (L, w.2)) ∧ LRw G l' w.1
  | .inr f => LQ τ G x l' tb L (.inr f)
theorem LEz.ls (h : LEz τ G x l' tb L W) : LRS τ G x l' := by
  cases W with
  | inl w => exact h.1.ls
  | inr f => exact LQ.ls (z := .inr f) h
theorem c_lawLines (h : LQ τ G x l' tb L (.inl (a, []))) (hR : LRw G l' []) (hn : 500 < n) : gOk (l_X2_read_37 τ n (x + 4) 1 0 G) (fun q => LPf x l' G q.2 ∧ ((q.1 = 0 ∧ LEz τ q.2 x l' tb L (laA tb L 12 [] [] a)) ∨ (¬ q.1 = 0 ∧ ∃ e, laA tb L 12 [] [] a = .inr e ∧ ∃ P, P.length ≤ 400 ∧ LQ τ q.2 x l' tb L (.inl (e, P))))) := by
  generalize hW : laA tb L 12 [] [] a = W
  unfold l_X2_read_37
  refine ka_loop 12 (fun c q => (q.2.1 = nI c ∧ LPf x l' G q.2.2) ∧ ((q.1 = 1 ∧ ∃ a' Λ P, LQ τ q.2.2 x l' tb L (.inl (a', P)) ∧ LRw q.2.2 l' Λ ∧ Λ.length = c ∧ P.length ≤ a' ∧ laA tb L (12 - c) Λ P a' = W) ∨ (q.1 = 0 ∧ LEz τ q.2.2 x l' tb L W))) (by omega) ⟨⟨rfl, LPf.rf⟩, Or.inl ⟨rfl, a, [], [], h, hR, rfl, Nat.zero_le _, hW⟩⟩ (fun c q hc hq => ?_)
  obtain ⟨x2, x3, G1⟩ := q
  obtain ⟨⟨e3, p1⟩, hq⟩ := hq
  have e3 : x3 = nI c := e3
  have p1 : LPf x l' G G1 := p1
  subst e3
  show gOk (b_X2_read_37 τ n (x + 4) x2 (nI c) G1) _
  by_cases h12 : c = 12
  · subst h12
    unfold b_X2_read_37
    rw [if_pos (show (12 : Int32) ≤ nI 12 from nI_le (Nat.le_refl 12) (by decide))]
    rcases hq with ⟨e2, a', Λ, P, h1, r1, l1, n1, er⟩ | ⟨e2, h1⟩
    · have e2 : x2 = 1 := e2
      have h1 : LQ τ G1 x l' tb L (.inl (a', P)) := h1
      subst e2
      have hle := h1.le
      refine ⟨_, rfl, p1, Or.inr ⟨ka_n10, a', ?_, P, by omega, h1⟩⟩
      rw [← er]
      rfl
    · exact ⟨_, rfl, p1, Or.inl ⟨e2, h1⟩⟩
  · rcases hq with ⟨e2, a', Λ, P, h1, r1, l1, n1, er⟩ | ⟨e2, h1⟩
    · have e2 : x2 = 1 := e2
      have h1 : LQ τ G1 x l' tb L (.inl (a', P)) := h1
      have r1 : LRw G1 l' Λ := r1
      subst e2
      have hle := h1.le
      rw [show 12 - c = (12 - (c + 1)) + 1 by omega] at er
      refine gOk.mono (c_lawLine h1 r1 l1 (by omega) n1 hn) fun q hq => ?_
      obtain ⟨v, G2, eq, p2, hz⟩ := hq
      subst eq
      refine ⟨show c < 12 by omega, ⟨rfl, p1.tr p2⟩, ?_⟩
      show (v = 1 ∧ ∃ a' Λ P, LQ τ G2 x l' tb L (.inl (a', P)) ∧ LRw G2 l' Λ ∧ Λ.length = c + 1 ∧ P.length ≤ a' ∧ laA tb L (12 - (c + 1)) Λ P a' = W) ∨ (v = 0 ∧ LEz τ G2 x l' tb L W)
      rcases hz with ⟨f, ez, ev, h2⟩ | ⟨r, ez, r2, ev, h2⟩
      · rw [laA_f ez] at er
        right
        rw [← er]
        exact ⟨ev, h2⟩
      · obtain ⟨e, κ, v', Q⟩ := r
        obtain ⟨⟨o1, o2⟩, o3, -⟩ := ll_ok hle.1 ez
        have hx : (P ++ Q).length = P.length + Q.length := List.length_append
        have hl : (lnX Λ P (e, κ, v', Q)).length = Λ.length + 1 := List.length_append
        have ev : v = enV tb L (.inl e) := ev
        have h2 : LQ τ G2 x l' tb L (enK (P ++ Q) (enS tb L (.inl e))) := h2
        rw [enV_i] at ev
        rw [enS_i] at h2
        by_cases hL : e = L
        · rw [if_pos hL] at ev h2
          rw [laA_e ez hL] at er
          right
          rw [← er]
          have h2 : LQ τ G2 x l' tb L (.inl (e, P ++ Q)) := h2
          rw [hL] at h2
          exact ⟨ev, h2, r2⟩
        · rw [if_neg hL] at ev h2
          by_cases h59 : tb e = 59
          · rw [if_pos h59] at ev h2
            rw [laA_n ez hL h59] at er
            left
            have hb := bl_le (tb := tb) (L := L) (p := e + 1) (by omega)
            exact ⟨ev, bl tb L (e + 1), _, P ++ Q, h2, r2, by omega, by omega, er⟩
          · rw [if_neg h59] at ev h2
            rw [laA_x ez hL h59] at er
            right
            rw [← er]
            exact ⟨ev, h2⟩
    · have e2 : x2 = 0 := e2
      subst e2
      unfold b_X2_read_37
      rw [if_neg (show ¬ (12 : Int32) ≤ nI c from nI_ge (b := 12) (by omega) (by decide)), if_pos rfl]
      exact ⟨_, rfl, p1, Or.inl ⟨rfl, h1⟩⟩
theorem c_k149 (h20 : gr G 2 0 (x + 4) = some (x + 1)) (h : TJ τ G x tb L r) : k_X2_read_149 τ n (x + 4) G = some (isL r, G) := by
  unfold k_X2_read_149
  rw [h20, ka_bs]
  cases r with
  | inl a =>
    rw [c_rt1 h, ka_bs, ka_chkT (Or.inr rfl)]
    rfl
  | inr f =>
    rw [c_rt0 h, ka_bs, ka_chkT (Or.inl rfl)]
    rfl
theorem LEz.end (h : LEz τ G x l' tb L W) : k_X2_read_149 τ n (x + 4) G = some (isE W, G) := by
  cases W with
  | inl w => exact c_k149 (r := .inl L) h.1.1.1.1 h.1.2.1
  | inr f => exact c_k149 (r := .inr f) (LQ.ls (z := .inr f) h).1.1 (LQ.tj (z := .inr f) h)
theorem c_lread (hT : TB τ G x tb L) (h20 : gr G 2 0 (x + 4) = some (x + 1)) (hF : FL τ G l') (hx : x + 4 < l') (hn : 500 < n) : gOk (f_X2_read τ n (x + 4) l' G) (fun q => (Fr (fun b => b = x + 1 ∨ b = x + 4 ∨ (l' ≤ b ∧ b ≤ l' + 4)) G q.2 ∧ ∀ c k d, ¬ (c = 2 ∧ k = 1) → gr q.2 c k d = gr G c k d) ∧ gi q.2 1 8 l' = 1 ∧ q.1 = isE (laW tb L) ∧ LEz τ q.2 x l' tb L (laW tb L)) := by
  have hL := hT.2.1.1
  unfold f_X2_read
  rw [ka_letE]
  have r20 : gr (gsr G 2 1 (x + 4) (some l')) 2 0 (x + 4) = some (x + 1) := by rw [ka_rr, if_neg (fun h => absurd h.2.1 (by decide))]; exact h20
  have r21 : gr (gsr G 2 1 (x + 4) (some l')) 2 1 (x + 4) = some l' := by rw [ka_rr, if_pos ⟨rfl, rfl, rfl⟩]
  have rr : ∀ c k d, ¬ (c = 2 ∧ k = 1) → gr (gsr G 2 1 (x + 4) (some l')) c k d = gr G c k d := fun c k d hn => by rw [ka_rr, if_neg (fun h => hn ⟨h.1, h.2.1⟩)]
  have fr1 : Fr (fun b => b = x + 4) G (gsr G 2 1 (x + 4) (some l')) := Fr.r rfl
  generalize gsr G 2 1 (x + 4) (some l') = G1 at r20 r21 rr fr1
  rw [r21, ka_bs]
  unfold f_X1_beginText
  rw [ka_letE, ka_letE, ka_letE, ka_bs]
  have fr3 : Fr (fun b => b = l') G1 (gsi (gsi (gsi G1 1 6 l' 0) 1 7 l' 0) 1 8 l' 1) := ((Fr.i (A := fun b => b = l') rfl).tr (Fr.i (A := fun b => b = l') rfl)).tr (Fr.i (A := fun b => b = l') rfl)
  have r3 : ∀ c k d, gr (gsi (gsi (gsi G1 1 6 l' 0) 1 7 l' 0) 1 8 l' 1) c k d = gr G1 c k d := fun _ _ _ => rfl
  have v3 : gi (gsi (gsi (gsi G1 1 6 l' 0) 1 7 l' 0) 1 8 l' 1) 1 6 l' = 0 ∧ gi (gsi (gsi (gsi G1 1 6 l' 0) 1 7 l' 0) 1 8 l' 1) 1 7 l' = 0 ∧ gi (gsi (gsi (gsi G1 1 6 l' 0) 1 7 l' 0) 1 8 l' 1) 1 8 l' = 1 := by
    simp only [ka_ii]
    simp
  generalize gsi (gsi (gsi G1 1 6 l' 0) 1 7 l' 0) 1 8 l' 1 = G3 at fr3 r3 v3
  have hT3 : TB τ G3 x tb L := (hT.mv fr1 (by omega) (by omega)).mv fr3 (by omega) (by omega)
  rw [r3, r20, ka_bs, ka_bind]
  refine gOk.mono (c_begin hT3 hn) fun G5 g5 => ?_
  obtain ⟨d5, j5⟩ := g5
  have r5 : ∀ c k d, ¬ (c = 2 ∧ k = 1) → gr G5 c k d = gr G c k d := fun c k d h => by rw [d5.1, r3, rr c k d h]
  have l5 : LRS τ G5 x l' := by
    refine ⟨⟨by rw [d5.1, r3]; exact r20, by rw [d5.1, r3]; exact r21⟩, ?_, hx⟩
    unfold FL at hF ⊢
    rw [r5 1 0 l' (by decide), r5 1 1 l' (by decide), r5 1 2 l' (by decide), r5 1 3 l' (by decide), r5 1 4 l' (by decide), r5 1 5 l' (by decide)]
    exact hF
  have v5 : ∀ k, gi G5 1 k l' = gi G3 1 k l' := fun k => d5.2.2.2.2 1 k l' (fun e => absurd e.1 (by decide))
  have h5 : LQ τ G5 x l' tb L (.inl (bl tb L 0, [])) := ⟨l5, j5, by rw [v5, v3.2.1]; rfl, fun k s hk => by cases hk⟩
  have R5 : LRw G5 l' [] := ⟨by rw [v5, v3.1]; rfl, fun j r hj => by cases hj⟩
  have f5 : Fr (fun b => b = x + 1 ∨ b = x + 4 ∨ (l' ≤ b ∧ b ≤ l' + 4)) G G5 := ((fr1.mono fun b hb => Or.inr (Or.inl hb)).tr (fr3.mono fun b hb => by omega)).tr (d5.fr.mono fun b hb => Or.inl hb)
  have w5 : gi G5 1 8 l' = 1 := by rw [v5]; exact v3.2.2
  -- the end of it
  have fin : ∀ {G' : gG} {W : (List lwL × List (Nat × Int32)) ⊕ Nat}, LPf x l' G5 G' → LEz τ G' x l' tb L W → gOk (k_X2_read_149 τ n (x + 4) G') (fun q => (Fr (fun b => b = x + 1 ∨ b = x + 4 ∨ (l' ≤ b ∧ b ≤ l' + 4)) G q.2 ∧ ∀ c k d, ¬ (c = 2 ∧ k = 1) → gr q.2 c k d = gr G c k d) ∧ gi q.2 1 8 l' = 1 ∧ q.1 = isE W ∧ LEz τ q.2 x l' tb L W) := fun {G' W} p h => by
    refine ⟨_, h.end, ⟨f5.tr (p.1.mono fun b hb => by omega), fun c k d hc => by rw [p.2.1]; exact r5 c k d hc⟩, p.2.2.trans w5, rfl, h⟩
  rw [l5.1.1, ka_bs]
  unfold f_X7_isAtEnd
  rw [j5.2.2.1.1, j5.1.2.1.2]
  have hb := j5.2.1
  unfold laW
  by_cases h0 : bl tb L 0 = L
  · rw [if_pos h0, if_neg (show ¬ nI (bl tb L 0) < nI L from nI_nlt (by omega) (by omega)), ka_bs, if_neg ka_n10]
    unfold k_X2_read_34
    have hl : gOk (l_X2_read_37 τ n (x + 4) 0 0 G5) (fun q => q = (0, G5)) := by
      unfold l_X2_read_37
      refine ka_loop 0 (fun c q => q = (0, 0, G5)) (by omega) rfl (fun c q hc hq => ?_)
      subst hq
      show gOk (b_X2_read_37 τ n (x + 4) 0 0 G5) _
      unfold b_X2_read_37
      rw [if_neg (by decide), if_pos rfl]
      exact ⟨_, rfl, rfl⟩
    rw [ka_bind]
    refine gOk.mono hl fun q hq => ?_
    subst hq
    rw [ka_letE, ka_letE]
    unfold k_X2_read_138
    rw [if_pos rfl]
    rw [h0] at h5
    exact fin LPf.rf ⟨h5, R5⟩
  · rw [if_neg h0, if_pos (nI_lt (show bl tb L 0 < L by omega) (by omega)), ka_bs, if_pos rfl]
    unfold k_X2_read_34
    rw [ka_bind]
    refine gOk.mono (c_lawLines h5 R5 hn) fun q hq => ?_
    obtain ⟨z, G6⟩ := q
    rw [ka_letE, ka_letE]
    obtain ⟨p6, hq⟩ := hq
    have p6 : LPf x l' G5 G6 := p6
    show gOk (k_X2_read_138 τ n (x + 4) z G6) _
    unfold k_X2_read_138
    rcases hq with ⟨e1, h1⟩ | ⟨e1, e, er, P, hP, h1⟩
    · have e1 : z = 0 := e1
      rw [if_pos e1]
      exact fin p6 h1
    · have e1 : ¬ z = 0 := e1
      have h1 : LQ τ G6 x l' tb L (.inl (e, P)) := h1
      rw [if_neg e1, h1.1.1.1, ka_bs, ka_bind]
      refine gOk.mono (c_refuse h1.2.1) fun G16 g16 => ?_
      obtain ⟨d16, j16⟩ := g16
      obtain ⟨m16, h16⟩ := h1.no hP d16 j16
      rw [er]
      exact fin (p6.tr (LPf.lm m16)) h16
end
