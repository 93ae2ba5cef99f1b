/-! TOWN -/
theorem lo8 (x : Int32) : (x &&& 255).toInt8 = x.toInt8 := by
  apply Int8.toBitVec_inj.mp
  rw [Int32.toBitVec_toInt8, Int32.toBitVec_toInt8, Int32.toBitVec_and]
  apply BitVec.eq_of_getLsbD_eq
  intro i hi
  have hm : ∀ i < 8, (255 : Int32).toBitVec.getLsbD i = true := by decide
  rw [BitVec.getLsbD_signExtend, BitVec.getLsbD_signExtend, if_pos (show i < 32 by omega), if_pos (show i < 32 by omega), BitVec.getLsbD_and, hm i hi, Bool.and_true]
theorem sx_ext : ∀ c, c < 256 → (nI c).toInt8.toInt32 = sx c := by decide +kernel
/-- the TAPE as bytes -/
theorem tape_w {n : Nat} {t t' : Nat → Int32} (h : TapeR (nI n) t (nI n) t') (hn : n ≤ 400) : ∃ w : Nat → Nat, ∀ k, k < n → w k < 256 ∧ t k = nI (w k) ∧ t' k = sx (w k) := by
  refine ⟨fun k => (t' k).toBitVec.toNat % 2 ^ 8, fun k hk => ?_⟩
  obtain ⟨h1, h2⟩ := h.2.2 k (by rw [nI_toInt (by omega)]; omega)
  have e : t' k &&& 255 = nI ((t' k).toBitVec.toNat % 2 ^ 8) := pk_and (t' k) 8 rfl
  have hlt : (t' k).toBitVec.toNat % 2 ^ 8 < 256 := Nat.mod_lt _ (by decide)
  refine ⟨hlt, h1.trans e, ?_⟩
  rw [← h2, ← lo8, e]
  exact sx_ext _ hlt
section OPEN
variable {N b n : Nat} {w : Nat → Nat} {S : ST} {Rf : RT} {I : IT} {J : JT}
theorem q_open (hN : 1000 ≤ N) (hn : n ≤ 400) (h14 : I b 14 = nI n) (hw : ∀ k, k < n → w k < 256 ∧ I (b + 1) k = nI (w k)) : ∃ I1, f11_openTape N b S Rf I J = some ((), I1, J) ∧ TC b n w I1 ∧ I1 (b + 2) 2 = nI (skp w n 0) ∧ I1 b 14 = 0 ∧ ∀ a k, a ≠ b + 2 → (a ≠ b ∨ k ≠ 14) → I1 a k = I a k := by
  unfold f11_openTape f3_open
  have e : (if nI 400 < nI n then nI 400 else nI n) = nI n := if_neg (nI_nlt hn (by omega))
  rw [h14, e, lts, lts]
  have hT : TC b n w (up2 (up2 I (b + 2) 1 (nI n)) (b + 2) 4 0) := ⟨hn, (up2_at (Or.inr (by decide))).trans (up2_same _ _ _ _), fun k hk => by rw [up2_ne _ _ _ (by omega), up2_ne _ _ _ (by omega)]; exact hw k hk⟩
  have := c_move (S := S) (Rf := Rf) (J := J) (p := 0) hN hT (by omega)
  rw [show nI 0 = (0 : Int32) from rfl] at this
  rw [this, b3s, b3s, lts]
  refine ⟨_, rfl, hT.keep (by rw [up2_ne _ _ _ (by omega), up2_at (Or.inr (by decide))]) (by rw [up2_ne _ _ _ (by omega), up2_ne _ _ _ (by omega)]), by rw [up2_ne _ _ _ (by omega), up2_same], up2_same _ _ _ _, fun a k h1 h2 => ?_⟩
  rw [up2_at h2, up2_ne _ _ _ h1, up2_ne _ _ _ h1, up2_ne _ _ _ h1]
theorem q_clear {t : Nat} (hN : 1000 ≤ N) : ∃ I1, f9_clear N b S Rf t I J = some ((), I1, J) ∧ (∀ a, a ≠ t → a ≠ t + 4 → I1 a = I a) ∧ (I1 t 8 = 0 ∧ I1 t 9 = 0 ∧ I1 t 10 = 0 ∧ I1 t 11 = 0 ∧ I1 t 12 = 9999 ∧ I1 t 13 = 0 ∧ I1 t 14 = 0) ∧ ∀ p, p < 7 → I1 (t + 4) p = 0 := by
  unfold f9_clear
  rw [lts, lts, lts, lts, lts, lts, lts]
  obtain ⟨I1, e1, e2, e3⟩ := q_fill (N := N) (t := t + 4) (n0 := 7) (x := 0) (I := up2 (up2 (up2 (up2 (up2 (up2 (up2 I t 8 0) t 9 0) t 10 0) t 11 0) t 12 9999) t 13 0) t 14 0) (J := J) (by omega) (by omega)
  rw [e1, b3s]
  refine ⟨I1, rfl, fun a h1 h2 => ?_, ?_, e3⟩
  · rw [e2 a h2, up2_ne _ _ _ h1, up2_ne _ _ _ h1, up2_ne _ _ _ h1, up2_ne _ _ _ h1, up2_ne _ _ _ h1, up2_ne _ _ _ h1, up2_ne _ _ _ h1]
  · rw [e2 t (by omega)]
    simp [up2, upd]
theorem q_start {t0 t1 : Nat} (hN : 1000 ≤ N) (hd : t0 + 9 < t1) : ∃ I1, f0_start N b S Rf t0 t1 I J = some ((), I1, J) ∧ (∀ a, (a < t0 ∨ t0 + 9 < a) → I1 a = I a) ∧ I1 t0 9 = 0 ∧ (∀ p, p < 7 → I1 (t0 + 1) p = I (t1 + 2) p ∧ I1 (t0 + 2) p = 0) ∧ ∀ c, c < 6 → I1 (t0 + 3) c = -1 ∧ I1 (t0 + 4) c = 0 ∧ I1 (t0 + 6) c = -1 ∧ I1 (t0 + 7) c = -1 ∧ I1 (t0 + 8) c = -1 ∧ I1 (t0 + 9) c = 0 := by
  unfold f0_start
  rw [lts, lts]
  obtain ⟨A2, a1, a2, a3⟩ := q_fill (N := N) (t := t0 + 2) (n0 := 7) (x := 0) (I := cpy2 (up2 I t0 9 0) (t1 + 2) (t0 + 1) 7) (J := J) (by omega) (by omega)
  obtain ⟨A3, b1, b2, b3⟩ := q_fill (N := N) (t := t0 + 3) (n0 := 6) (x := -1) (I := A2) (J := J) (by omega) (by omega)
  obtain ⟨A4, c1, c2, c3⟩ := q_fill (N := N) (t := t0 + 4) (n0 := 6) (x := 0) (I := A3) (J := J) (by omega) (by omega)
  obtain ⟨A5, d1, d2, d3⟩ := q_fill (N := N) (t := t0 + 5) (n0 := 6) (x := -1) (I := A4) (J := J) (by omega) (by omega)
  obtain ⟨A6, e1, e2, e3⟩ := q_fill (N := N) (t := t0 + 6) (n0 := 6) (x := -1) (I := A5) (J := J) (by omega) (by omega)
  obtain ⟨A7, f1, f2, f3⟩ := q_fill (N := N) (t := t0 + 7) (n0 := 6) (x := -1) (I := A6) (J := J) (by omega) (by omega)
  obtain ⟨A8, g1, g2, g3⟩ := q_fill (N := N) (t := t0 + 8) (n0 := 6) (x := -1) (I := A7) (J := J) (by omega) (by omega)
  obtain ⟨A9, h1, h2, h3⟩ := q_fill (N := N) (t := t0 + 9) (n0 := 6) (x := 0) (I := A8) (J := J) (by omega) (by omega)
  rw [a1, b3s, b1, b3s, c1, b3s, d1, b3s, e1, b3s, f1, b3s, g1, b3s, h1, b3s]
  have lo : ∀ a, a < t0 + 2 → A9 a = cpy2 (up2 I t0 9 0) (t1 + 2) (t0 + 1) 7 a := fun a ha => by rw [h2 a (by omega), g2 a (by omega), f2 a (by omega), e2 a (by omega), d2 a (by omega), c2 a (by omega), b2 a (by omega), a2 a (by omega)]
  refine ⟨A9, rfl, fun a ha => ?_, ?_, fun p hp => ⟨?_, ?_⟩, fun c hc => ⟨?_, ?_, ?_, ?_, ?_, ?_⟩⟩
  · rw [h2 a (by omega), g2 a (by omega), f2 a (by omega), e2 a (by omega), d2 a (by omega), c2 a (by omega), b2 a (by omega), a2 a (by omega), cpy2_ne (by omega), up2_ne _ _ _ (by omega)]
  · rw [lo t0 (by omega), cpy2_ne (by omega), up2_same]
  · rw [lo (t0 + 1) (by omega), cpy2_in hp, up2_ne _ _ _ (by omega)]
  · rw [h2 _ (by omega), g2 _ (by omega), f2 _ (by omega), e2 _ (by omega), d2 _ (by omega), c2 _ (by omega), b2 _ (by omega), a3 p hp]
  · rw [h2 _ (by omega), g2 _ (by omega), f2 _ (by omega), e2 _ (by omega), d2 _ (by omega), c2 _ (by omega), b3 c hc]
  · rw [h2 _ (by omega), g2 _ (by omega), f2 _ (by omega), e2 _ (by omega), d2 _ (by omega), c3 c hc]
  · rw [h2 _ (by omega), g2 _ (by omega), f2 _ (by omega), e3 c hc]
  · rw [h2 _ (by omega), g2 _ (by omega), f3 c hc]
  · rw [h2 _ (by omega), g3 c hc]
  · rw [h3 c hc]
end OPEN
theorem town_L8 {N mb : Nat} {J : JT} : ∀ r k m (I : IT), k + r = 10 → r < m → ∃ I1, f12_town_L8 N mb m (nI k) I J = some ((), I1, J) ∧ (∀ a, a ≠ mb + 6 → I1 a = I a) ∧ (∀ i, i < k → I1 (mb + 6) i = I (mb + 6) i) ∧ ∀ i, k ≤ i → i < 10 → I1 (mb + 6) i = if i = 5 ∨ i = 6 then -1 else 0 := by
  intro r
  induction r with
  | zero =>
    intro k m I hk hm
    obtain ⟨m, rfl⟩ : ∃ q, m = q + 1 := ⟨m - 1, by omega⟩
    rw [f12_town_L8, if_pos (show (10 : Int32) ≤ nI k from nI_le (a := 10) (by omega) (by omega))]
    exact ⟨I, rfl, fun _ _ => rfl, fun _ _ => rfl, fun i h1 h2 => by omega⟩
  | succ r ih =>
    intro k m I hk hm
    obtain ⟨m, rfl⟩ : ∃ q, m = q + 1 := ⟨m - 1, by omega⟩
    rw [f12_town_L8, if_neg (show ¬ (10 : Int32) ≤ nI k from nI_ge (b := 10) (by omega) (by omega))]
    have go : ∀ x, x = (if k = 5 ∨ k = 6 then (-1 : Int32) else 0) → ∃ I1, f12_town_L8 N mb m (nI (k + 1)) (up2 I (mb + 6) k x) J = some ((), I1, J) ∧ (∀ a, a ≠ mb + 6 → I1 a = I a) ∧ (∀ i, i < k → I1 (mb + 6) i = I (mb + 6) i) ∧ ∀ i, k ≤ i → i < 10 → I1 (mb + 6) i = if i = 5 ∨ i = 6 then -1 else 0 := by
      intro x hx
      obtain ⟨I1, e1, e2, e3, e4⟩ := ih (k + 1) m (up2 I (mb + 6) k x) (by omega) (by omega)
      refine ⟨I1, e1, fun a ha => (e2 a ha).trans (up2_ne _ _ _ ha), fun i hi => (e3 i (by omega)).trans (up2_at (Or.inr (by omega))), fun i h1 h2 => ?_⟩
      rcases Nat.eq_or_lt_of_le h1 with rfl | h3
      · rw [e3 k (by omega), up2_same]; exact hx
      · exact e4 i (by omega) h2
    by_cases c5 : k = 5
    · rw [if_pos (show nI k = (5 : Int32) by rw [c5]; rfl), yb_ck_t (inb_nI (by omega) (by decide)), nI_clamp (by omega), lts, lts, nI_1]
      exact go _ (by rw [if_pos (Or.inl c5)])
    · rw [if_neg (show ¬ nI k = (5 : Int32) from nI_nl 5 rfl (by omega) (by omega) c5)]
      by_cases c6 : k = 6
      · rw [if_pos (show nI k = (6 : Int32) by rw [c6]; rfl), yb_ck_t (inb_nI (by omega) (by decide)), nI_clamp (by omega), lts, lts, nI_1]
        exact go _ (by rw [if_pos (Or.inr c6)])
      · rw [if_neg (show ¬ nI k = (6 : Int32) from nI_nl 6 rfl (by omega) (by omega) c6), yb_ck_t (inb_nI (by omega) (by decide)), nI_clamp (by omega), lts, lts, nI_1]
        exact go _ (by rw [if_neg (fun q => q.elim c5 c6)])
theorem town_L59 {N mb : Nat} {J : JT} : ∀ r k m (I : IT), k + r = 142 → r < m → ∃ I1, f12_town_L59 N mb m (nI k) I J = some ((), I1, J) ∧ (∀ a, a ≠ mb + 10 → I1 a = I a) ∧ (∀ i, (i < k ∨ 142 ≤ i) → I1 (mb + 10) i = I (mb + 10) i) ∧ ∀ i, k ≤ i → i < 142 → I1 (mb + 10) i = if i < 111 then I (mb + 6) i else 0 := by
  intro r
  induction r with
  | zero =>
    intro k m I hk hm
    obtain ⟨m, rfl⟩ : ∃ q, m = q + 1 := ⟨m - 1, by omega⟩
    rw [f12_town_L59, if_pos (show (142 : Int32) ≤ nI k from nI_le (a := 142) (by omega) (by omega))]
    exact ⟨I, rfl, fun _ _ => rfl, fun _ _ => rfl, fun i h1 h2 => by omega⟩
  | succ r ih =>
    intro k m I hk hm
    obtain ⟨m, rfl⟩ : ∃ q, m = q + 1 := ⟨m - 1, by omega⟩
    rw [f12_town_L59, if_neg (show ¬ (142 : Int32) ≤ nI k from nI_ge (b := 142) (by omega) (by omega))]
    have go : ∀ x, x = (if k < 111 then I (mb + 6) k else 0) → ∃ I1, f12_town_L59 N mb m (nI (k + 1)) (up2 I (mb + 10) k x) J = some ((), I1, J) ∧ (∀ a, a ≠ mb + 10 → I1 a = I a) ∧ (∀ i, (i < k ∨ 142 ≤ i) → I1 (mb + 10) i = I (mb + 10) i) ∧ ∀ i, k ≤ i → i < 142 → I1 (mb + 10) i = if i < 111 then I (mb + 6) i else 0 := by
      intro x hx
      obtain ⟨I1, e1, e2, e3, e4⟩ := ih (k + 1) m (up2 I (mb + 10) k x) (by omega) (by omega)
      refine ⟨I1, e1, fun a ha => (e2 a ha).trans (up2_ne _ _ _ ha), fun i hi => (e3 i (by omega)).trans (up2_at (Or.inr (by omega))), fun i h1 h2 => ?_⟩
      rcases Nat.eq_or_lt_of_le h1 with rfl | h3
      · rw [e3 k (by omega), up2_same]; exact hx
      · rw [e4 i (by omega) h2, up2_ne _ _ _ (show mb + 6 ≠ mb + 10 by omega)]
    by_cases c : 111 ≤ k
    · rw [if_pos (show (111 : Int32) ≤ nI k from nI_le (a := 111) c (by omega)), yb_ck_t (inb_nI (by omega) (by decide)), nI_clamp (by omega), lts, lts, nI_1]
      exact go _ (by rw [if_neg (by omega)])
    · rw [if_neg (show ¬ (111 : Int32) ≤ nI k from nI_ge (b := 111) (by omega) (by omega)), yb_ck_t (inb_nI (show k < 111 by omega) (by decide)), yb_ck_t (inb_nI (show k < 142 by omega) (by decide)), nI_clamp (by omega), lts, lts, nI_1]
      exact go _ (by rw [if_pos (by omega)])
/-- what was read is a TOWN's text -/
theorem TwP.said {g : Nat → Nat → Int32} {x3 x4 : Int32} {v v1 : Nat → Int32} {P C T : Nat} (h : TwP g x3 x4 v P C T) (hv : ∀ i, i < 111 → i ≠ 5 → i ≠ 6 → v1 i = v i) (h56 : (v 5 < 0 ∧ v1 5 = 0 ∧ v1 6 = 9999) ∨ (¬ v 5 < 0 ∧ v1 5 = v 5 ∧ v1 6 = v 6)) : SaidOK v1 P C 0 ∧ TownR g v1 P C := by
  obtain ⟨⟨a1, a2, a3⟩, ⟨b1, b2, b3⟩, c1, d, e, f, i, j, k, l⟩ := h
  have bench : ∃ F La : Nat, v1 5 = nI F ∧ v1 6 = nI La ∧ g 0 11 = nI F ∧ g 0 12 = nI La ∧ F ≤ 9999 ∧ La ≤ 9999 := by
    rcases e with ⟨q1, q2, q3, q4⟩ | ⟨q1, F, La, q2, q3, q4, q5, q6, q7⟩
    · rcases h56 with ⟨_, z2, z3⟩ | ⟨z1, _⟩
      · exact ⟨0, 9999, z2, z3, q3, q4, by omega, by omega⟩
      · exact absurd (by rw [q1]; decide) z1
    · rcases h56 with ⟨z1, _⟩ | ⟨_, z2, z3⟩
      · rw [q2] at z1; exact absurd z1 (nI_pos (by omega))
      · exact ⟨F, La, z2.trans q2, z3.trans q3, q4, q5, q6, q7⟩
  obtain ⟨F, La, f5, f6, f11, f12, hF, hL⟩ := bench
  have tw : ∀ a j, a < P → twM v1 a j = twM v a j := fun a j ha => by unfold twM; rw [hv _ (by omega) (by omega) (by omega)]
  have e0 := hv 0 (by omega) (by omega) (by omega)
  have e1 := hv 1 (by omega) (by omega) (by omega)
  have e2 := hv 2 (by omega) (by omega) (by omega)
  have e3 := hv 3 (by omega) (by omega) (by omega)
  refine ⟨⟨⟨e2.trans a1, a2⟩, ⟨e3.trans b1, b2⟩, ⟨(hv 4 (by omega) (by omega) (by omega)).trans c1, by omega⟩, ?_, fun p hp => ?_, fun c hc => ?_, fun c hc => ?_, fun j a hj ha => ?_⟩, ⟨?_, ?_, ?_, ?_⟩, fun h0 => ?_, fun h0 => ?_, fun p hp => ?_, fun c hc => ?_⟩
  · rcases d with ⟨q1, q2, q3, q4, _⟩ | ⟨_, G, Y, q1, q2, _, _, q3, q4, q5, q6⟩
    · exact Or.inl ⟨e0.trans q1, e1.trans q2, q3, q4, rfl⟩
    · exact Or.inr ⟨G, Y, F, La, e0.trans q1, e1.trans q2, f5, f6, q3, q4, q5, q6, hF, hL⟩
  · obtain ⟨A, W, Z, m, z1, z2, z3, z4, z5, z6, z7, z8, z9, z10, z11, z12, z13⟩ := i p hp
    exact ⟨A, W, Z, (hv _ (by omega) (by omega) (by omega)).trans z1, (hv _ (by omega) (by omega) (by omega)).trans z2, (hv _ (by omega) (by omega) (by omega)).trans z3, z10, z11, z12⟩
  · obtain ⟨a, q, n, f, z1, z2, z3, z4, z5, z6, z7, z8, z9, z10, z11, z12, z13, z14, z15⟩ := k c hc
    exact ⟨a, q, n, f, (hv _ (by omega) (by omega) (by omega)).trans z1, (hv _ (by omega) (by omega) (by omega)).trans z2, (hv _ (by omega) (by omega) (by omega)).trans z3, (hv _ (by omega) (by omega) (by omega)).trans z4, z9, z10, z11, z12, z13, z14⟩
  · obtain ⟨a, q, n, f, z1, z2, z3, z4, z5, z6, z7, z8, z9, z10, z11, z12, z13, z14, y49, y50, y51, y52, y53, y54, y55⟩ := k c hc
    exact ⟨Or.inl ((hv _ (by omega) (by omega) (by omega)).trans y49), Or.inl ⟨(hv _ (by omega) (by omega) (by omega)).trans y51, (hv _ (by omega) (by omega) (by omega)).trans y54⟩⟩
  · rw [tw a j ha, tw j a hj]; exact l j a hj ha
  · rw [e0]; rcases d with ⟨q1, q2, q3, q4, q8, q9, q10, _⟩ | ⟨_, G, Y, q1, q2, q9, q10, _⟩
    · rw [q9, q1]
    · rw [q9, q1]
  · rw [e1]; rcases d with ⟨q1, q2, q3, q4, q8, q9, q10, _⟩ | ⟨_, G, Y, q1, q2, q9, q10, _⟩
    · rw [q10, q2]
    · rw [q10, q2]
  · exact a3.trans (e2.trans a1).symm
  · exact b3.trans (e3.trans b1).symm
  · rcases d with ⟨q1, _⟩ | ⟨q8, _⟩
    · exact absurd (e0.trans q1) h0
    · exact ⟨q8, f11.trans f5.symm, f12.trans f6.symm⟩
  · rcases d with ⟨q1, q2, q3, q4, q8, _⟩ | ⟨_, G, Y, q1, _, _, _, q3, q4, _⟩
    · exact q8
    · exact absurd ((e0.symm.trans h0).symm.trans q1).symm (nI_ne0 q3 (by omega))
  · obtain ⟨A, W, Z, m, z1, z2, z3, z4, z5, z6, z7, z8, z9, z10⟩ := i p hp
    exact ⟨z6.trans ((hv _ (by omega) (by omega) (by omega)).trans z1).symm, z8.trans ((hv _ (by omega) (by omega) (by omega)).trans z3).symm, z9.trans ((hv _ (by omega) (by omega) (by omega)).trans z4).symm⟩
  · obtain ⟨a, q, n, f, z1, z2, z3, z4, z5, z6, z7, z8, z9⟩ := k c hc
    exact ⟨z5.trans ((hv _ (by omega) (by omega) (by omega)).trans z1).symm, z6.trans ((hv _ (by omega) (by omega) (by omega)).trans z2).symm, z7.trans ((hv _ (by omega) (by omega) (by omega)).trans z3).symm, z8.trans ((hv _ (by omega) (by omega) (by omega)).trans z4).symm⟩
