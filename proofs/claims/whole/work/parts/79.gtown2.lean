theorem G_town {N : Nat} (hN : 3000 ≤ N) : Gd_town N RelY := by
  intro b mb L S Rf I J I' J' hR
  obtain ⟨P, C, D, M, K, Rl, h⟩ := hR
  have hmb := h.1
  have hTape := h.2.2.2.1
  obtain ⟨n, hn, en⟩ := inr_nI (n := 400) hTape.2.1
  have en' : I' mb 1 = nI n := hTape.1.symm.trans en
  obtain ⟨w, hw⟩ := tape_w (n := n) (t := I (b + 1)) (t' := I' (mb + 1)) (by rw [← en', ← hTape.1] at *; exact hTape) hn
  unfold f11_town f12_town
  obtain ⟨A, a1, a2, a3, a4, a5⟩ := q_open (N := N) (S := S) (Rf := Rf) (J := J) (by omega) hn en (fun k hk => ⟨(hw k hk).1, (hw k hk).2.1⟩)
  obtain ⟨B, b1, b2, b3, b4⟩ := q_clear (N := N) (b := b) (S := S) (Rf := Rf) (I := A) (J := J) (t := b + 52) (by omega)
  obtain ⟨A', c1, c2, c3, c4⟩ := town_L8 (N := N) (mb := mb) (J := J') 10 0 N (up2 I' mb 11 6) (by omega) (by omega)
  rw [show nI 0 = (0 : Int32) from rfl] at c1
  have d11 : A' mb 11 = nI 6 := by rw [c2 mb (by omega), up2_same]; rfl
  rw [a1, b3s, lts, c1, b3s, readsAll_eq, d11, yb_ck_t (inb_nI (by omega) (by decide)), nI_clamp (by omega)]
  unfold f10_reads
  rw [b1, b3s, lts, lts, lts]
  have kA : ∀ a k, a ≠ b + 2 → (a ≠ b ∨ k ≠ 14) → a ≠ b + 52 → a ≠ b + 56 → B a k = I a k := fun a k h1 h2 h3 h4 => by rw [b2 a h3 (by omega), a5 a k h1 h2]
  generalize hB3 : up2 (up2 (up2 B (b + 61) 3 0) (b + 61) 4 0) (b + 61) 2 0 = B3
  generalize hB' : up2 (up2 (up2 (up2 (up2 A' (mb + 3) 6 0) mb 14 0) mb 8 0) mb 9 0) mb 12 0 = B'
  have B3n : ∀ a, a ≠ b + 61 → B3 a = B a := fun a ha => by rw [← hB3, up2_ne _ _ _ ha, up2_ne _ _ _ ha, up2_ne _ _ _ ha]
  have B'n : ∀ a, a ≠ mb → a ≠ mb + 3 → B' a = A' a := fun a h1 h2 => by rw [← hB', up2_ne _ _ _ h1, up2_ne _ _ _ h1, up2_ne _ _ _ h1, up2_ne _ _ _ h1, up2_ne _ _ _ h2]
  have B'm : ∀ k, k ≠ 8 → k ≠ 9 → k ≠ 12 → k ≠ 14 → B' mb k = A' mb k := fun k h1 h2 h3 h4 => by rw [← hB', up2_at (Or.inr h3), up2_at (Or.inr h2), up2_at (Or.inr h1), up2_at (Or.inr h4), up2_ne _ _ _ (by omega)]
  have A'n : ∀ a, a ≠ mb → a ≠ mb + 6 → A' a = I' a := fun a h1 h2 => by rw [c2 a h2, up2_ne _ _ _ h1]
  have A'm : ∀ k, k ≠ 11 → A' mb k = I' mb k := fun k h1 => by rw [c2 mb (by omega), up2_at (Or.inr h1)]
  have hRd : Rd b mb n w (skp w n 0) 0 B3 B' := by
    refine ⟨a2.keep ?_ ?_, ⟨hn, ?_, fun k hk => ⟨(hw k hk).1, ?_⟩⟩, by omega, rfl, ?_, ?_, ?_⟩
    · rw [B3n _ (by omega), b2 _ (by omega) (by omega)]
    · rw [B3n _ (by omega), b2 _ (by omega) (by omega)]
    · rw [B'm 1 (by decide) (by decide) (by decide) (by decide), A'm 1 (by decide)]; exact en'
    · rw [B'n _ (by omega) (by omega), A'n _ (by omega) (by omega)]; exact (hw k hk).2.2
    · rw [B3n _ (by omega), b2 _ (by omega) (by omega)]; exact a3
    · rw [← hB', up2_at (Or.inr (by decide)), up2_at (Or.inr (by decide)), up2_same]; rfl
    · rw [← hB', up2_at (Or.inr (by decide)), up2_same]
  have v6 : ∀ i, i < 10 → B' (mb + 6) i = if i = 5 ∨ i = 6 then -1 else 0 := fun i hi => by rw [B'n _ (by omega) (by omega)]; exact c4 i (by omega) hi
  have hTw : TwS b mb B3 B' 0 0 0 := by
    obtain ⟨t8, t9, t10, t11, t12, t13, t14⟩ := b3
    have e52 : B3 (b + 52) = B (b + 52) := B3n _ (by omega)
    refine ⟨⟨v6 2 (by omega), by omega, ?_⟩, ⟨v6 3 (by omega), by omega, ?_⟩, v6 4 (by omega), Or.inl ⟨v6 0 (by omega), v6 1 (by omega), rfl, rfl, ?_, ?_, ?_, v6 5 (by omega)⟩, Or.inl ⟨v6 5 (by omega), ?_, ?_, ?_⟩, ⟨v6 7 (by omega), ?_, by omega⟩, fun p hp => by omega, fun p _ hp => ?_, fun c hc => by omega, fun j a hj => by omega⟩
    · show B3 (b + 52) 13 = _
      rw [e52]; exact t13
    · show B3 (b + 52) 14 = _
      rw [e52]; exact t14
    · show B3 (b + 52) 8 = _
      rw [e52]; exact t8
    · show B3 (b + 52) 9 = _
      rw [e52]; exact t9
    · show B3 (b + 52) 10 = _
      rw [e52]; exact t10
    · rw [← hB3, up2_at (Or.inr (by decide)), up2_same]
    · show B3 (b + 52) 11 = _
      rw [e52]; exact t11
    · show B3 (b + 52) 12 = _
      rw [e52]; exact t12
    · rw [← hB3, up2_at (Or.inr (by decide)), up2_at (Or.inr (by decide)), up2_same]; rfl
    · show B3 (b + 52 + 4) p = 0
      rw [B3n _ (by omega)]; exact b4 p hp
  have h11 : B' mb 11 = 6 := by rw [B'm 11 (by decide) (by decide) (by decide) (by decide), d11]; rfl
  have c61 : B3 (b + 61) 2 = nI 0 := by rw [← hB3, up2_same]; rfl
  have m14 : B' mb 14 = nI 0 := by rw [← hB', up2_at (Or.inr (by decide)), up2_at (Or.inr (by decide)), up2_at (Or.inr (by decide)), up2_same]; rfl
  have kB : ∀ a k, a ≠ b + 2 → (a ≠ b ∨ k ≠ 14) → (a < b + 52 ∨ b + 61 < a) → B3 a k = I a k := fun a k h1 h2 h3 => by rw [B3n a (by omega), kA a k h1 h2 (by omega) (by omega)]
  have kB0 : B3 b 14 = 0 := by rw [B3n b (by omega), b2 b (by omega) (by omega), a4]
  have kM : ∀ a k, (a = mb → k ≠ 8 ∧ k ≠ 9 ∧ k ≠ 11 ∧ k ≠ 12 ∧ k ≠ 14) → a ≠ mb + 3 → a ≠ mb + 6 → B' a k = I' a k := fun a k h1 h2 h3 => by
    by_cases ca : a = mb
    · subst ca
      obtain ⟨q1, q2, q3, q4, q5⟩ := h1 rfl
      rw [B'm k q1 q2 q4 q5, A'm k q3]
    · rw [B'n a ca h2, A'n a ca h3]
  rcases tw_loop (N := N) (S := S) (Rf := Rf) (J := J) (J' := J') (I0 := B3) (I0' := B') (by omega) 40 0 N N _ _ 0 0 0 B3 B' hRd hTw h11 c61 m14 (by omega) (by omega) (by omega) (FW.rf _ _) with ⟨E, E', e1, e2, e3, e4, e5⟩ | ⟨P1, C1, T1, E, E', e1, e2, e3, e4, e5⟩
  all_goals have kE : ∀ a k, a ≠ b + 2 → (a ≠ b ∨ k ≠ 14) → (a < b + 52 ∨ b + 61 < a) → E a k = I a k := fun a k h1 h2 h3 => by rw [e5.1 a h1 h3, kB a k h1 h2 h3]
  all_goals have kE0 : E b 14 = 0 := by rw [e5.1 b (by omega) (Or.inl (by omega)), kB0]
  all_goals have kEM : ∀ a k, (a = mb → k ≠ 1 ∧ k ≠ 8 ∧ k ≠ 9 ∧ k ≠ 10 ∧ k ≠ 11 ∧ k ≠ 12 ∧ k ≠ 14) → a ≠ mb + 3 → a ≠ mb + 6 → E' a k = I' a k := fun a k h1 h2 h3 => by rw [e5.2 a k (fun q => ⟨(h1 q).1, (h1 q).2.1, (h1 q).2.2.1, (h1 q).2.2.2.1, (h1 q).2.2.2.2.2.2⟩) h3, kM a k (fun q => ⟨(h1 q).2.1, (h1 q).2.2.1, (h1 q).2.2.2.2.1, (h1 q).2.2.2.2.2.1, (h1 q).2.2.2.2.2.2⟩) h2 h3]
  all_goals have kEA : ∀ a, a ≠ b → a ≠ b + 2 → (a < b + 52 ∨ b + 61 < a) → E a = I a := fun a h0 h1 h2 => funext fun k => kE a k h1 (Or.inl h0) h2
  all_goals have kEMA : ∀ a, a ≠ mb → a ≠ mb + 3 → a ≠ mb + 6 → E' a = I' a := fun a h0 h1 h2 => funext fun k => kEM a k (fun q => absurd q h0) h1 h2
  all_goals have hTp : TapeR (0 : Int32) (E (b + 1)) (0 : Int32) (E' (mb + 1)) := ⟨rfl, nI_inr (k := 0) (n := 400) (by omega) (by omega), fun k hk => absurd hk (by show ¬ (k : Int) < 0; omega)⟩
  · rw [e1, b3s, sml, b3s, if_pos rfl, e2, b3s, if_pos rfl, e3]
    refine ⟨_, _, _, _, _, rfl, rfl, P, C, D, M, K, Rl, h.swap (fun a _ _ => kEA a (by omega) (by omega) (by omega)) (fun a ha => kEA a (by omega) (by omega) (by omega)) (kE b 15 (by omega) (Or.inr (by decide)) (by omega)) (kEA _ (by omega) (by omega) (by omega)) (fun a h1 h2 => kEA a (by omega) (by omega) (by omega)) (kEM mb 2 (fun _ => by decide) (by omega) (by omega)) (kEM mb 24 (fun _ => by decide) (by omega) (by omega)) (fun k hk => kEMA _ (by omega) (by omega) (by omega)) ?_ ?_ ?_⟩
    · rw [kE0, e4]; exact hTp
    · rw [kEMA (mb + 10) (by omega) (by omega) (by omega), kEM mb 21 (fun _ => by decide) (by omega) (by omega), kEM mb 22 (fun _ => by decide) (by omega) (by omega)]
      exact h.2.2.2.2.1.congr (fun k hk => kEA _ (by omega) (by omega) (by omega))
    · rw [kEM mb 21 (fun _ => by decide) (by omega) (by omega)]; exact h.fo
  · have t8 : bz (E (b + 52) 8) = true := by
      rcases e3.2.2.2.1 with ⟨_, _, _, _, q, _⟩ | ⟨q, _⟩
      · have q' : E (b + 52) 8 = 0 := q
        rw [q']; rfl
      · have q' : E (b + 52) 8 = 1 := q
        rw [q']; rfl
    obtain ⟨F, f1, f2⟩ := q9_copy (b := b) (t0 := b + 5) (t1 := b + 52) (S := S) (Rf := Rf) (I := E) (J := J) (by omega) t8
    obtain ⟨G, g1, g2, g3, g4, g5⟩ := q_start (N := N) (b := b) (t0 := b + 14) (t1 := b + 52) (S := S) (Rf := Rf) (I := F) (J := J) (by omega) (by omega)
    obtain ⟨F', i1, i2, i3, i4⟩ := town_L59 (N := N) (mb := mb) (J := J') 142 0 N E' (by omega) (by omega)
    rw [show nI 0 = (0 : Int32) from rfl] at i1
    unfold f8_settle f2_forget
    rw [e1, b3s, sml, b3s, if_neg i10, show b + 4 + 1 = b + 5 from rfl, show b + 4 + 10 = b + 14 from rfl, f1, b3s, g1, b3s, lts, b3s, lts, b3s, e2, b3s, if_neg i10, i1, b3s]
    have hP7 : P1 ≤ 7 := e3.1.2.1
    have hC6 : C1 ≤ 6 := e3.2.1.2.1
    have vL : ∀ i, i < 111 → F' (mb + 10) i = E' (mb + 6) i := fun i hi => by rw [i4 i (by omega) (by omega), if_pos hi]
    have fin : ∀ V : IT, (∀ a, a ≠ mb → a ≠ mb + 10 → V a = F' a) → (∀ k, k ≠ 24 → V mb k = F' mb k) → V mb 24 = 0 → (∀ i, i ≠ 5 → i ≠ 6 → V (mb + 10) i = F' (mb + 10) i) → ((E' (mb + 6) 5 < 0 ∧ V (mb + 10) 5 = 0 ∧ V (mb + 10) 6 = 9999) ∨ (¬ E' (mb + 6) 5 < 0 ∧ V (mb + 10) 5 = E' (mb + 6) 5 ∧ V (mb + 10) 6 = E' (mb + 6) 6)) → ∃ (r : Int32) (I1 : IT) (J1 : JT) (I1' : IT) (J1' : JT), some (up2 (up2 G (b + 4) 5 0) (b + 28) 2 0 (b + 5) 13, up2 (up2 G (b + 4) 5 0) (b + 28) 2 0, J) = some (r, I1, J1) ∧ some (V (mb + 10) 2, V, J') = some (r, I1', J1') ∧ RelY b mb L S Rf I1 J1 I1' J1' := by
      intro V V1 V2 V3 V4 V5
      have hv : ∀ i, i < 111 → i ≠ 5 → i ≠ 6 → V (mb + 10) i = E' (mb + 6) i := fun i h1 h2 h3 => (V4 i h2 h3).trans (vL i h1)
      obtain ⟨s1, s2⟩ := TwP.said e3 hv V5
      have VM : ∀ a, a ≠ mb → a ≠ mb + 3 → a ≠ mb + 6 → a ≠ mb + 10 → V a = I' a := fun a h0 h1 h2 h3 => by rw [V1 a h0 h3, i2 a h3, kEMA a h0 h1 h2]
      have Vm : ∀ k, k ≠ 1 → k ≠ 8 → k ≠ 9 → k ≠ 10 → k ≠ 11 → k ≠ 12 → k ≠ 14 → k ≠ 24 → V mb k = I' mb k := fun k q1 q2 q3 q4 q5 q6 q7 q8 => by rw [V2 k q8, i2 mb (by omega), kEM mb k (fun _ => ⟨q1, q2, q3, q4, q5, q6, q7⟩) (by omega) (by omega)]
      have kG : ∀ a, (a < b + 14 ∨ b + 23 < a) → a ≠ b + 4 → a ≠ b + 28 → up2 (up2 G (b + 4) 5 0) (b + 28) 2 0 a = F a := fun a h1 h2 h3 => by rw [up2_ne _ _ _ h3, up2_ne _ _ _ h2, g2 a (by omega)]
      have kF : ∀ a, (a < b + 5 ∨ b + 13 < a) → F a = E a := fun a ha => f2.1 a (by omega)
      have kZ : ∀ a, (a < b + 4 ∨ b + 23 < a) → a ≠ b + 28 → up2 (up2 G (b + 4) 5 0) (b + 28) 2 0 a = E a := fun a h1 h2 => by rw [kG a (by omega) (by omega) h2, kF a (by omega)]
      have kZI : ∀ a, (a < b + 4 ∨ b + 23 < a) → a ≠ b → a ≠ b + 28 → a ≠ b + 2 → (a < b + 52 ∨ b + 61 < a) → up2 (up2 G (b + 4) 5 0) (b + 28) 2 0 a = I a := fun a h1 h2 h3 h4 h5 => by rw [kZ a h1 h3, kEA a h2 h4 h5]
      have kd : ∀ a, b + 105 ≤ a → up2 (up2 G (b + 4) 5 0) (b + 28) 2 0 a = I a := fun a ha => kZI a (by omega) (by omega) (by omega) (by omega) (by omega)
      have kC : ∀ a, b + 14 ≤ a → a ≤ b + 23 → up2 (up2 G (b + 4) 5 0) (b + 28) 2 0 a = G a := fun a h1 h2 => by rw [up2_ne _ _ _ (by omega), up2_ne _ _ _ (by omega)]
      have hTo : TownR (fun k => up2 (up2 G (b + 4) 5 0) (b + 28) 2 0 (b + 4 + (1 + k))) (V (mb + 10)) P1 C1 := by
        refine (TownR.copy hP7 hC6 f2 s2).congr (fun k hk => ?_)
        rw [kG _ (by omega) (by omega) (by omega)]
        show F (b + 4 + (1 + k)) = F (b + 5 + k)
        congr 1; omega
      have hrow := e3.2.2.2.2.2.2
      have hCo : CourseR (fun k => up2 (up2 G (b + 4) 5 0) (b + 28) 2 0 (b + 4 + (10 + k))) (V (mb + 10)) P1 C1 := by
        have hg : ∀ k, k ≤ 9 → up2 (up2 G (b + 4) 5 0) (b + 28) 2 0 (b + 4 + (10 + k)) = G (b + 14 + k) := fun k hk => by
          rw [kC _ (by omega) (by omega)]
          congr 1; omega
        refine CourseR.congr (g := fun k => G (b + 14 + k)) hg ⟨?_, fun p hp => ?_, fun c hc => ?_, fun _ c h1 h2 => (g5 c h2).1⟩
        · show G (b + 14) 9 = _
          rw [g3, s1.2.2.1.1]; rfl
        · obtain ⟨Ag, W, Z, m, z1, z2, z3, z4, z5, z6, z7, z8⟩ := hrow.1 p hp
          obtain ⟨q1, q2⟩ := g4 p (by omega)
          refine ⟨?_, ?_⟩
          · show G (b + 14 + 1) p = _
            rw [q1, kF _ (by omega), hv _ (by omega) (by omega) (by omega), z2]
            exact z7
          · show G (b + 14 + 2) p = _
            rw [q2, hv _ (by omega) (by omega) (by omega), z5]
        · obtain ⟨a, q, l, f, z1, z2, z3, z4, z5, z6, z7, z8, z9, z10, z11, z12, z13, z14, y49, y50, y51, y52, y53, y54, y55⟩ := hrow.2.2.1 c hc
          obtain ⟨x3, x4, x6, x7, x8, x9⟩ := g5 c (by omega)
          refine ⟨?_, ?_, fun q => ?_, ?_, ?_, ?_, ?_⟩
          · rw [hv _ (by omega) (by omega) (by omega), y49]; exact x3
          · rw [hv _ (by omega) (by omega) (by omega), y50]; exact x4
          · exact absurd ((hv _ (by omega) (by omega) (by omega)).trans y49) q
          · rw [hv _ (by omega) (by omega) (by omega), y51]; exact x6
          · rw [hv _ (by omega) (by omega) (by omega), y52]; exact x7
          · rw [hv _ (by omega) (by omega) (by omega), y53]; exact x8
          · rw [hv _ (by omega) (by omega) (by omega), y54]; exact x9
      obtain ⟨h1, h2, h3, h4, h5, h6, ⟨h7, h8, h9⟩, h10, nx, u, j1, j2, j3, j4, j5, j6⟩ := id h
      have e4' : up2 (up2 G (b + 4) 5 0) (b + 28) 2 0 (b + 4) = upd (I (b + 4)) 5 0 := by rw [up2_ne _ _ _ (by omega), up2_self, g2 _ (by omega), kF _ (by omega), kEA _ (by omega) (by omega) (by omega)]
      have e141 : V (mb + 10) 141 = 0 := by rw [V4 141 (by omega) (by omega), i4 141 (by omega) (by omega)]; rfl
      have hst : StateR (fun k => up2 (up2 G (b + 4) 5 0) (b + 28) 2 0 (b + 4 + k)) (V (mb + 10)) (V mb 21) (V mb 22) P1 C1 0 0 := by
        rw [Vm 21 (by decide) (by decide) (by decide) (by decide) (by decide) (by decide) (by decide) (by decide), Vm 22 (by decide) (by decide) (by decide) (by decide) (by decide) (by decide) (by decide) (by decide)]
        refine ⟨s1, ⟨e141, by omega, fun k hk => by omega⟩, hTo, hCo, by omega, ⟨?_, ?_, h5.2.2.2.2.2.1.2.2⟩, ?_, fun k hk => by omega⟩
        · show up2 (up2 G (b + 4) 5 0) (b + 28) 2 0 (b + 4) 6 = _
          rw [e4', pk_un (by decide)]; exact h5.2.2.2.2.2.1.1
        · show up2 (up2 G (b + 4) 5 0) (b + 28) 2 0 (b + 4) 7 = _
          rw [e4', pk_un (by decide)]; exact h5.2.2.2.2.2.1.2.1
        · show up2 (up2 G (b + 4) 5 0) (b + 28) 2 0 (b + 4) 5 = _
          rw [e4', pk_us, e141]
      have ep : up2 (up2 G (b + 4) 5 0) (b + 28) 2 0 (b + 5) 13 = V (mb + 10) 2 := hTo.1.2.2.1
      rw [ep]
      refine ⟨_, _, _, _, _, rfl, rfl, P1, C1, 0, 0, K, Rl, h1, ⟨h2.1, h2.2.cg (fun a g1 g2 => kZI a (by omega) (by omega) (by omega) (by omega) (by omega))⟩, h3, ?_, hst, ?_, ⟨?_, ?_, ?_⟩, ?_, nx, 0, j1, by omega, ?_, up2_same _ _ _ _, V3, fun j hj => by omega⟩
      · rw [kZ b (by omega) (by omega), kE0, V2 1 (by decide), i2 mb (by omega), e4]
        exact ⟨rfl, nI_inr (k := 0) (n := 400) (by omega) (by omega), fun k hk => absurd hk (by show ¬ (k : Int) < 0; omega)⟩
      · rw [Vm 21 (by decide) (by decide) (by decide) (by decide) (by decide) (by decide) (by decide) (by decide)]; exact h6
      · rw [kZ b (by omega) (by omega), kE b 15 (by omega) (Or.inr (by decide)) (by omega)]; exact h7
      · rw [Vm 2 (by decide) (by decide) (by decide) (by decide) (by decide) (by decide) (by decide) (by decide)]; exact h8
      · exact h9.keep (fun k q e => (h3.2.1 _ k q (Or.inl rfl) e).1) kd (VM _ (by omega) (by omega) (by omega) (by omega)) (VM _ (by omega) (by omega) (by omega) (by omega)) (VM _ (by omega) (by omega) (by omega) (by omega))
      · intro j hj
        rw [VM (mb + 29) (by omega) (by omega) (by omega) (by omega), VM (mb + 26) (by omega) (by omega) (by omega) (by omega), VM (mb + 27) (by omega) (by omega) (by omega) (by omega), VM (mb + 28) (by omega) (by omega) (by omega) (by omega)]
        rcases h10 j hj with q | ⟨q, Pq, Cq, Dq, Mq, x1, x2, x3, x4⟩
        · exact Or.inl q
        · have hq := (h3.2.1 _ j q (Or.inr (Or.inl rfl)) x1).1
          exact Or.inr ⟨q, Pq, Cq, Dq, Mq, x1, x2, x3.congr (fun i _ => kd _ (by omega)), x4⟩
      · rw [up2_at (Or.inr (by decide)), up2_ne _ _ _ (by omega), g2 _ (by omega), kF _ (by omega), kEA _ (by omega) (by omega) (by omega)]; exact j3
    have ev5 : F' (mb + 10) 5 = E' (mb + 6) 5 := vL 5 (by omega)
    by_cases c5 : E' (mb + 6) 5 < 0
    · rw [ev5, if_neg (Int32.not_le.mpr c5), lts, lts, lts]
      exact fin _ (fun a h1 h2 => by rw [up2_ne _ _ _ h1, up2_ne _ _ _ h2, up2_ne _ _ _ h2]) (fun k hk => by rw [up2_at (Or.inr hk), up2_ne _ _ _ (by omega), up2_ne _ _ _ (by omega)]) (up2_same _ _ _ _) (fun i h1 h2 => by rw [up2_ne _ _ _ (by omega), up2_at (Or.inr h2), up2_at (Or.inr h1)]) (Or.inl ⟨c5, by rw [up2_ne _ _ _ (by omega), up2_at (Or.inr (by decide)), up2_same], by rw [up2_ne _ _ _ (by omega), up2_same]⟩)
    · rw [ev5, if_pos (Int32.not_lt.mp c5), lts]
      exact fin _ (fun a h1 h2 => by rw [up2_ne _ _ _ h1]) (fun k hk => by rw [up2_at (Or.inr hk)]) (up2_same _ _ _ _) (fun i h1 h2 => by rw [up2_ne _ _ _ (by omega)]) (Or.inr ⟨c5, by rw [up2_ne _ _ _ (by omega)]; exact vL 5 (by omega), by rw [up2_ne _ _ _ (by omega)]; exact vL 6 (by omega)⟩)
