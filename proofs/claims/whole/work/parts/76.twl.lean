/-! A TOWN READ WHOLE -/
def FW (b mb : Nat) (I0 I I0' I' : IT) : Prop := (∀ a, a ≠ b + 2 → (a < b + 52 ∨ b + 61 < a) → I a = I0 a) ∧ ∀ a k, (a = mb → k ≠ 8 ∧ k ≠ 9 ∧ k ≠ 10 ∧ k ≠ 14) → a ≠ mb + 6 → I' a k = I0' a k
def COut (b mb n : Nat) (w : Nat → Nat) (k : Nat) (I0 I0' : IT) (J J' : JT) (A A' : Option (Int32 × IT × JT)) : Prop :=
  (∃ I1 I1', A = some (0, I1, J) ∧ A' = some (0, I1', J') ∧ (I1 (b + 2) 4 = I1' mb 9 ∧ I1' mb 9 ≠ 0) ∧ FW b mb I0 I1 I0' I1') ∨ (∃ p p' P C T I1 I1', A = some (1, I1, J) ∧ A' = some (1, I1', J') ∧ Rd b mb n w p p' I1 I1' ∧ TwS b mb I1 I1' P C T ∧ I1 (b + 61) 2 = nI k ∧ I1' mb 14 = nI (k + 1) ∧ k < 40 ∧ FW b mb I0 I1 I0' I1')
section TWL
variable {N b mb n p p' : Nat} {w : Nat → Nat} {S : ST} {Rf : RT} {I I1 I' I1' I0 I0' : IT} {J J' : JT} {P C T k : Nat} {r : Int32}
theorem FW.rf (I I' : IT) : FW b mb I I I' I' := ⟨fun _ _ _ => rfl, fun _ _ _ _ => rfl⟩
theorem FW.tr (h : FW b mb I0 I I0' I') (g : FW b mb I I1 I' I1') : FW b mb I0 I1 I0' I1' := ⟨fun a h1 h2 => (g.1 a h1 h2).trans (h.1 a h1 h2), fun a k h1 h2 => (g.2 a k h1 h2).trans (h.2 a k h1 h2)⟩
theorem FT.wk (h : FT b mb I0 I I0' I') : FW b mb I0 I I0' I' := ⟨h.1, fun a k h1 h2 => h.2.2 a k (fun e => ⟨(h1 e).1, (h1 e).2.1, (h1 e).2.2.1⟩) h2⟩
theorem FrN.wk (h : FrN b mb I I1 I' I1') : FW b mb I I1 I' I1' := ((FT.rf I I').nn h).wk
theorem q_isWS {j : Nat} {W : Int64} (hN : 1000 ≤ N) (h : Rd b mb n w p p I I') (hr : WIx w n p r) (hj : j < 22) (hW : W = wcst j) : f12_isWord N mb W I' J' = some (if r = nI j then 1 else 0, I', J') := by
  rw [q_isWord hN h hr hj hW, up2_eta _ _ _ h.2.2.2.2.2.1]
theorem q_isWY {j : Nat} {W : Int64} (hN : 1000 ≤ N) (h : Rd b mb n w p p I I') (hr : WIx w n p r) (hj : j < 22) (hW : W = wcst j) (e : r = nI j) : f12_isWord N mb W I' J' = some (1, I', J') := by
  rw [q_isWS hN h hr hj hW, if_pos e]
theorem q_isWN {j : Nat} {W : Int64} (hN : 1000 ≤ N) (h : Rd b mb n w p p I I') (hr : WIx w n p r) (hj : j < 22) (hW : W = wcst j) (e : ¬ r = nI j) : f12_isWord N mb W I' J' = some (0, I', J') := by
  rw [q_isWS hN h hr hj hW, if_neg e]
theorem wc17 : (1953462126 : Int64) = wcst 17 := by decide +kernel
theorem wc18 : (422608528232 : Int64) = wcst 18 := by decide +kernel
theorem wc19 : (123581014175598 : Int64) = wcst 19 := by decide +kernel
theorem wc20 : (500219604595 : Int64) = wcst 20 := by decide +kernel
theorem wc21 : (1667330917 : Int64) = wcst 21 := by decide +kernel
theorem q_townN (hN : 1000 ≤ N) (h : Rd b mb n w p p I I') (hr : WIx w n p r) (hn : ∀ i, 17 ≤ i → i ≤ 21 → ¬ r = nI i) : f12_isTownWord N mb I' J' = some (0, I', J') := by
  unfold f12_isTownWord
  rw [q_isWN hN h hr (by decide) wc17 (hn 17 (by omega) (by omega)), b3s, if_pos rfl, q_isWN hN h hr (by decide) wc18 (hn 18 (by omega) (by omega)), b3s, if_pos rfl, q_isWN hN h hr (by decide) wc19 (hn 19 (by omega) (by omega)), b3s, if_pos rfl, q_isWN hN h hr (by decide) wc20 (hn 20 (by omega) (by omega)), b3s, if_pos rfl, q_isWN hN h hr (by decide) wc21 (hn 21 (by omega) (by omega)), b3s, if_pos rfl]
theorem q_townY (hN : 1000 ≤ N) (h : Rd b mb n w p p I I') (hr : WIx w n p r) {i : Nat} (h1 : 17 ≤ i) (h2 : i ≤ 21) (e : r = nI i) : f12_isTownWord N mb I' J' = some (1, I', J') := by
  have ne : ∀ j, j < 22 → j ≠ i → ¬ r = nI j := fun j hj hji q => hji ((nI_eq (by omega) (by omega)).mp (q.symm.trans e))
  unfold f12_isTownWord
  obtain rfl | rfl | rfl | rfl | rfl : i = 17 ∨ i = 18 ∨ i = 19 ∨ i = 20 ∨ i = 21 := by omega
  · rw [q_isWY hN h hr (by decide) wc17 e, b3s, if_neg i10]
  · rw [q_isWN hN h hr (by decide) wc17 (ne 17 (by omega) (by omega)), b3s, if_pos rfl, q_isWY hN h hr (by decide) wc18 e, b3s, if_neg i10]
  · rw [q_isWN hN h hr (by decide) wc17 (ne 17 (by omega) (by omega)), b3s, if_pos rfl, q_isWN hN h hr (by decide) wc18 (ne 18 (by omega) (by omega)), b3s, if_pos rfl, q_isWY hN h hr (by decide) wc19 e, b3s, if_neg i10]
  · rw [q_isWN hN h hr (by decide) wc17 (ne 17 (by omega) (by omega)), b3s, if_pos rfl, q_isWN hN h hr (by decide) wc18 (ne 18 (by omega) (by omega)), b3s, if_pos rfl, q_isWN hN h hr (by decide) wc19 (ne 19 (by omega) (by omega)), b3s, if_pos rfl, q_isWY hN h hr (by decide) wc20 e, b3s, if_neg i10]
  · rw [q_isWN hN h hr (by decide) wc17 (ne 17 (by omega) (by omega)), b3s, if_pos rfl, q_isWN hN h hr (by decide) wc18 (ne 18 (by omega) (by omega)), b3s, if_pos rfl, q_isWN hN h hr (by decide) wc19 (ne 19 (by omega) (by omega)), b3s, if_pos rfl, q_isWN hN h hr (by decide) wc20 (ne 20 (by omega) (by omega)), b3s, if_pos rfl, q_isWY hN h hr (by decide) wc21 e, b3s, if_neg i10]
theorem tw_clause (hN : 1000 ≤ N) (h : Rd b mb n w p p' I I') (hT : TwS b mb I I' P C T) (h11 : I' mb 11 = 6) (c2 : I (b + 61) 2 = nI k) (m14 : I' mb 14 = nI k) (hk : k ≤ 40) : COut b mb n w k I I' J J' (f10_readsClause N b S Rf I J) (f12_clauseHere N mb I' J') := by
  have hpn := h.le
  have h4 := h.n4
  obtain ⟨r, w1, hr⟩ := q_word (S := S) (Rf := Rf) (J := J) hN h
  have hs2 : Rd b mb n w p p (up2 I (b + 2) 3 (nI (ltr w n p))) (up2 I' mb 8 (nI p)) := h.seen.word _
  have fr0 : FrN b mb I (up2 I (b + 2) 3 (nI (ltr w n p))) I' (up2 I' mb 8 (nI p)) := ⟨fun a k q => up2_at (by omega), fun a k q => up2_at (by omega)⟩
  have f0 : FW b mb I (up2 I (b + 2) 3 (nI (ltr w n p))) I' (up2 I' mb 8 (nI p)) := fr0.wk
  have z9 : up2 I' mb 8 (nI p) mb 9 = 0 := hs2.2.2.2.2.2.2
  have x8 : up2 I' mb 8 (nI p) mb 8 = nI p := up2_same _ _ _ _
  have x11 : up2 I' mb 8 (nI p) mb 11 = 6 := (up2_at (Or.inr (by decide))).trans h11
  have x14 : up2 I' mb 8 (nI p) mb 14 = nI k := (up2_at (Or.inr (by decide))).trans m14
  have c61 : up2 I (b + 2) 3 (nI (ltr w n p)) (b + 61) 2 = nI k := (up2_at (Or.inl (by omega))).trans c2
  have hT2 : TwS b mb (up2 I (b + 2) 3 (nI (ltr w n p))) (up2 I' mb 8 (nI p)) P C T := by
    have e1 : (fun q => up2 I (b + 2) 3 (nI (ltr w n p)) (b + 52 + q)) = fun q => I (b + 52 + q) := funext fun q => up2_ne _ _ _ (by omega)
    unfold TwS
    rw [e1, up2_ne _ _ _ (show b + 61 ≠ b + 2 by omega), up2_ne _ _ _ (show mb + 6 ≠ mb by omega)]
    exact hT
  have cp : up2 I (b + 2) 3 (nI (ltr w n p)) (b + 2) 2 = nI p := hs2.2.2.2.2.1
  have ce : up2 I (b + 2) 3 (nI (ltr w n p)) (b + 2) 3 = nI (ltr w n p) := up2_same _ _ _ _
  generalize hI2 : up2 I (b + 2) 3 (nI (ltr w n p)) = I2 at *
  generalize hI2' : up2 I' mb 8 (nI p) = I2' at *
  have bad : ∀ (x : Int32) (q : Nat), x = nI q → q ≤ 4 → ∀ Z', FW b mb I I2 I' Z' → COut b mb n w k I I' J J' (some (0, up2 I2 (b + 2) 4 ((1 + 8 * nI p) + x), J)) (some (0, up2 Z' mb 9 ((1 + 8 * nI p) + x), J')) := by
    intro x q hx hq Z' hZ
    refine Or.inl ⟨_, _, rfl, rfl, ⟨by rw [up2_same, up2_same], by rw [up2_same]; exact flt_ne hx (by omega) hq⟩, fun a h1 h2 => (up2_ne _ _ _ h1).trans (hZ.1 a h1 h2), fun a j h1 h2 => (up2_at ?_).trans (hZ.2 a j h1 h2)⟩
    by_cases ca : a = mb
    · exact Or.inr (h1 ca).2.1
    · exact Or.inl ca
  unfold f10_readsClause f12_clauseHere
  rw [w1, b3s, q_see hN h, b3s, hI2', x8, lts, x11, if_pos rfl]
  by_cases ht : ∃ i, 17 ≤ i ∧ i ≤ 21 ∧ r = nI i
  · obtain ⟨j, j1, j2, rfl⟩ := ht
    rw [if_pos (show (17 : Int32) ≤ nI j from nI_le (a := 17) j1 (by omega)), q_townY hN hs2 hr j1 j2 rfl, b3s, if_neg i10, x14]
    by_cases c40 : k = 40
    · have c40' : (40 : Int32) ≤ nI k := nI_le (a := 40) (by omega) (by omega)
      unfold f10_isOneTooMany
      rw [c61, if_pos c40', b3s, if_neg i10, c_fail cp, b3s, yb_ck_t (show bz 0 = true from rfl), if_pos (show nI k = (40 : Int32) by rw [c40]; rfl), m_fails z9, b3s, yb_ck_t (show bz 0 = true from rfl)]
      exact bad 4 4 rfl (by omega) _ f0
    · have n40 : ¬ nI k = (40 : Int32) := nI_nl 40 rfl (by omega) (by omega) c40
      have l40 : ¬ (40 : Int32) ≤ nI k := nI_ge (b := 40) (by omega) (by omega)
      have hs3 : Rd b mb n w p p I2 (up2 I2' mb 14 (nI (k + 1))) := hs2.keep rfl rfl rfl (up2_at (Or.inr (by decide))) (up2_at (Or.inr (by decide))) (up2_at (Or.inr (by decide))) (up2_ne _ _ _ (by omega))
      have hT3 : TwS b mb I2 (up2 I2' mb 14 (nI (k + 1))) P C T := by
        unfold TwS
        rw [up2_ne _ _ _ (show mb + 6 ≠ mb by omega)]
        exact hT2
      have f3 : FW b mb I I2 I' (up2 I2' mb 14 (nI (k + 1))) := ⟨f0.1, fun a j h1 h2 => (up2_at (by
        by_cases ca : a = mb
        · exact Or.inr (h1 ca).2.2.2
        · exact Or.inl ca)).trans (f0.2 a j h1 h2)⟩
      have z9' : up2 I2' mb 14 (nI (k + 1)) mb 9 = 0 := hs3.2.2.2.2.2.2
      have y14 : up2 I2' mb 14 (nI (k + 1)) mb 14 = nI (k + 1) := up2_same _ _ _ _
      have y6 : up2 I2' mb 14 (nI (k + 1)) (mb + 6) = I2' (mb + 6) := up2_ne _ _ _ (by omega)
      rw [if_neg n40, nI_1, lts]
      generalize hI3' : up2 I2' mb 14 (nI (k + 1)) = I3' at *
      have fin : ∀ A A', TOut b mb n w I2 I3' J J' A A' → COut b mb n w k I I' J J' (yb_b3 A fun r I1 J1 => yb_ck (bz r) fun _ => some (r, I1, J1)) (yb_b3 (yb_b3 A' fun r I1 J1 => yb_ck (bz r) fun _ => some (r, I1, J1)) fun r I1 J1 => yb_ck (bz r) fun _ => some (r, I1, J1)) := by
        intro A A' hO
        rcases hO with ⟨I1, I1', e1, e2, e3, e4⟩ | ⟨q, q', P1, C1, T1, I1, I1', e1, e2, e3, e4, e5⟩
        · rw [e1, e2, b3s, b3s, yb_ck_t (show bz 0 = true from rfl), yb_ck_t (show bz 0 = true from rfl), b3s, yb_ck_t (show bz 0 = true from rfl)]
          exact Or.inl ⟨_, _, rfl, rfl, e3, f3.tr e4.wk⟩
        · rw [e1, e2, b3s, b3s, yb_ck_t (show bz 1 = true from rfl), yb_ck_t (show bz 1 = true from rfl), b3s, yb_ck_t (show bz 1 = true from rfl)]
          exact Or.inr ⟨q, q', P1, C1, T1, _, _, rfl, rfl, e3, e4, e5.2.1.trans c61, (e5.2.2 mb 14 (fun _ => ⟨by decide, by decide, by decide⟩) (by omega)).trans y14, by omega, f3.tr e5.wk⟩
      obtain ⟨pw1, pw2, pw3⟩ := q_passW (S := S) (Rf := Rf) (J := J) (J' := J') hN hs3 ce
      have told := hT3.2.2.2.1
      rw [y6] at told
      unfold f12_townLineHere f10_isOneTooMany
      rw [c61, if_neg l40]
      obtain rfl | rfl | rfl | rfl | rfl : j = 17 ∨ j = 18 ∨ j = 19 ∨ j = 20 ∨ j = 21 := by omega
      · rw [if_pos (show nI 17 = 17 from rfl), q_isWY hN hs3 hr (by decide) wc17 rfl, b3s, if_neg i10]
        rcases told with ⟨v0, _, _, _, t8, _⟩ | ⟨t8, G, Y, v0, _, _, _, hG1, hG9, _⟩
        · have t8' : I2 (b + 52) 8 = 0 := t8
          rw [t8', if_neg (show ¬ (0 : Int32) = 1 by decide), if_neg (show ¬ nI 17 = 18 by decide), if_neg (show ¬ nI 17 = 19 by decide), if_neg (show ¬ nI 17 = 20 by decide), if_neg (show ¬ nI 17 = 21 by decide), b3s, if_pos rfl, pw1, b3s, if_pos (show nI 17 = 17 from rfl)]
          have t := tw_town (S := S) (Rf := Rf) (J := J) (J' := J') (x := nI p) hN hs3 ce hT3 (by rw [y6]; exact v0)
          rw [pw1, b3s] at t
          exact fin _ _ t
        · have t8' : I2 (b + 52) 8 = 1 := t8
          unfold f12_isTownHere
          rw [t8', if_pos rfl, b3s, if_neg i10, c_fail cp, b3s, yb_ck_t (show bz 0 = true from rfl), y6, v0, if_neg (nI_nle hG1 (by omega)), m_fails z9', b3s, yb_ck_t (show bz 0 = true from rfl), b3s, yb_ck_t (show bz 0 = true from rfl), b3s, yb_ck_t (show bz 0 = true from rfl)]
          exact bad 4 4 rfl (by omega) _ f3
      all_goals rcases told with ⟨v0, _, _, _, t8, _⟩ | ⟨t8, G, Y, v0, _, _, _, hG1, hG9, _⟩
      all_goals have t8' : _ = _ := t8
      · have t8' : I2 (b + 52) 8 = 0 := t8
        rw [if_neg (show ¬ nI 18 = 17 by decide), t8', if_pos rfl, b3s, if_neg i10, c_fail cp, b3s, yb_ck_t (show bz 0 = true from rfl), q_isWN hN hs3 hr (by decide) wc17 (by decide), b3s, if_pos rfl, y6, v0, if_pos rfl, m_fails z9', b3s, yb_ck_t (show bz 0 = true from rfl), b3s, yb_ck_t (show bz 0 = true from rfl)]
        exact bad 4 4 rfl (by omega) _ f3
      · have t8' : I2 (b + 52) 8 = 1 := t8
        have v0n : ¬ I2' (mb + 6) 0 = 0 := by rw [v0]; exact nI_ne0 hG1 (by omega)
        rw [if_neg (show ¬ nI 18 = 17 by decide), t8', if_neg i10, if_pos (show nI 18 = 18 from rfl), q_isWN hN hs3 hr (by decide) wc17 (by decide), b3s, if_pos rfl, y6, if_neg v0n, q_isWY hN hs3 hr (by decide) wc18 rfl, b3s, if_neg i10]
        have bn := hT3.2.2.2.2.1
        rw [y6] at bn
        rcases bn with ⟨v5, b4, _⟩ | ⟨b4, F, La, v5, _, _, _, hF, _⟩
        · rw [b4, yb_ck_t (show bz 0 = true from rfl), b3s, if_pos rfl, pw1, b3s, if_neg (show ¬ nI 18 = 17 by decide), if_pos (show nI 18 = 18 from rfl)]
          have t := tw_bench (S := S) (Rf := Rf) (J := J) (J' := J') (x := nI p) hN hs3 ce hT3 (by rw [y6]; exact v0n) (by rw [y6, v5]; decide)
          rw [pw1, b3s] at t
          exact fin _ _ t
        · unfold f12_isBenchHere
          rw [b4, yb_ck_t (show bz 1 = true from rfl), b3s, if_neg i10, c_fail cp, b3s, yb_ck_t (show bz 0 = true from rfl), y6, v5, if_neg (nI_pos (by omega)), m_fails z9', b3s, yb_ck_t (show bz 0 = true from rfl), b3s, yb_ck_t (show bz 0 = true from rfl), b3s, yb_ck_t (show bz 0 = true from rfl)]
          exact bad 4 4 rfl (by omega) _ f3
      · have t8' : I2 (b + 52) 8 = 0 := t8
        rw [if_neg (show ¬ nI 19 = 17 by decide), t8', if_pos rfl, b3s, if_neg i10, c_fail cp, b3s, yb_ck_t (show bz 0 = true from rfl), q_isWN hN hs3 hr (by decide) wc17 (by decide), b3s, if_pos rfl, y6, v0, if_pos rfl, m_fails z9', b3s, yb_ck_t (show bz 0 = true from rfl), b3s, yb_ck_t (show bz 0 = true from rfl)]
        exact bad 4 4 rfl (by omega) _ f3
      · have t8' : I2 (b + 52) 8 = 1 := t8
        have v0n : ¬ I2' (mb + 6) 0 = 0 := by rw [v0]; exact nI_ne0 hG1 (by omega)
        have cP : I2 (b + 52) 13 = nI P := hT3.1.2.2
        have eP : I3' (mb + 6) 2 = nI P := hT3.1.1
        have hP7 : P ≤ 7 := hT3.1.2.1
        rw [if_neg (show ¬ nI 19 = 17 by decide), t8', if_neg i10, if_neg (show ¬ nI 19 = 18 by decide), if_pos (show nI 19 = 19 from rfl), cP, q_isWN hN hs3 hr (by decide) wc17 (by decide), b3s, if_pos rfl, y6, if_neg v0n, q_isWN hN hs3 hr (by decide) wc18 (by decide), b3s, if_pos rfl, q_isWY hN hs3 hr (by decide) wc19 rfl, b3s, if_neg i10]
        by_cases cc : P < 7
        · rw [if_pos (show nI P < (7 : Int32) from nI_lt (b := 7) cc (by omega)), b3s, if_pos rfl, pw1, b3s, if_neg (show ¬ nI 19 = 17 by decide), if_neg (show ¬ nI 19 = 18 by decide), if_pos (show nI 19 = 19 from rfl)]
          have t := tw_person (S := S) (Rf := Rf) (J := J) (J' := J') (x := nI p) hN hs3 ce hT3 (by rw [y6]; exact v0n) cc
          rw [pw1, b3s] at t
          exact fin _ _ t
        · obtain rfl : P = 7 := by omega
          unfold f12_isPersonHere
          rw [if_neg (show ¬ nI 7 < (7 : Int32) by decide), b3s, if_neg i10, c_fail cp, b3s, yb_ck_t (show bz 0 = true from rfl), eP, if_pos (show nI 7 = 7 from rfl), m_fails z9', b3s, yb_ck_t (show bz 0 = true from rfl), b3s, yb_ck_t (show bz 0 = true from rfl), b3s, yb_ck_t (show bz 0 = true from rfl)]
          exact bad 4 4 rfl (by omega) _ f3
      · have t8' : I2 (b + 52) 8 = 0 := t8
        rw [if_neg (show ¬ nI 20 = 17 by decide), t8', if_pos rfl, b3s, if_neg i10, c_fail cp, b3s, yb_ck_t (show bz 0 = true from rfl), q_isWN hN hs3 hr (by decide) wc17 (by decide), b3s, if_pos rfl, y6, v0, if_pos rfl, m_fails z9', b3s, yb_ck_t (show bz 0 = true from rfl), b3s, yb_ck_t (show bz 0 = true from rfl)]
        exact bad 4 4 rfl (by omega) _ f3
      · have t8' : I2 (b + 52) 8 = 1 := t8
        have v0n : ¬ I2' (mb + 6) 0 = 0 := by rw [v0]; exact nI_ne0 hG1 (by omega)
        have cT : I2 (b + 61) 3 = nI T := hT3.2.2.2.2.2.1.2.1
        have eT : I3' (mb + 6) 7 = nI T := hT3.2.2.2.2.2.1.1
        have hT4 : T ≤ 4 := hT3.2.2.2.2.2.1.2.2
        rw [if_neg (show ¬ nI 20 = 17 by decide), t8', if_neg i10, if_neg (show ¬ nI 20 = 18 by decide), if_neg (show ¬ nI 20 = 19 by decide), if_pos (show nI 20 = 20 from rfl), cT, q_isWN hN hs3 hr (by decide) wc17 (by decide), b3s, if_pos rfl, y6, if_neg v0n, q_isWN hN hs3 hr (by decide) wc18 (by decide), b3s, if_pos rfl, q_isWN hN hs3 hr (by decide) wc19 (by decide), b3s, if_pos rfl, q_isWY hN hs3 hr (by decide) wc20 rfl, b3s, if_neg i10]
        by_cases cc : T < 4
        · rw [if_pos (show nI T < (4 : Int32) from nI_lt (b := 4) cc (by omega)), b3s, if_pos rfl, pw1, b3s, if_neg (show ¬ nI 20 = 17 by decide), if_neg (show ¬ nI 20 = 18 by decide), if_neg (show ¬ nI 20 = 19 by decide), if_pos (show nI 20 = 20 from rfl)]
          have t := tw_twins (S := S) (Rf := Rf) (J := J) (J' := J') (x := nI p) hN hs3 ce hT3 cc
          rw [pw1, b3s] at t
          exact fin _ _ t
        · obtain rfl : T = 4 := by omega
          unfold f12_areTwinsHere
          rw [if_neg (show ¬ nI 4 < (4 : Int32) by decide), b3s, if_neg i10, c_fail cp, b3s, yb_ck_t (show bz 0 = true from rfl), eT, if_pos (show nI 4 = 4 from rfl), m_fails z9', b3s, yb_ck_t (show bz 0 = true from rfl), b3s, yb_ck_t (show bz 0 = true from rfl), b3s, yb_ck_t (show bz 0 = true from rfl)]
          exact bad 4 4 rfl (by omega) _ f3
      · have t8' : I2 (b + 52) 8 = 0 := t8
        rw [if_neg (show ¬ nI 21 = 17 by decide), t8', if_pos rfl, b3s, if_neg i10, c_fail cp, b3s, yb_ck_t (show bz 0 = true from rfl), q_isWN hN hs3 hr (by decide) wc17 (by decide), b3s, if_pos rfl, y6, v0, if_pos rfl, m_fails z9', b3s, yb_ck_t (show bz 0 = true from rfl), b3s, yb_ck_t (show bz 0 = true from rfl)]
        exact bad 4 4 rfl (by omega) _ f3
      · have t8' : I2 (b + 52) 8 = 1 := t8
        have v0n : ¬ I2' (mb + 6) 0 = 0 := by rw [v0]; exact nI_ne0 hG1 (by omega)
        have cC : I2 (b + 52) 14 = nI C := hT3.2.1.2.2
        have eC : I3' (mb + 6) 3 = nI C := hT3.2.1.1
        have hC6 : C ≤ 6 := hT3.2.1.2.1
        rw [if_neg (show ¬ nI 21 = 17 by decide), t8', if_neg i10, if_neg (show ¬ nI 21 = 18 by decide), if_neg (show ¬ nI 21 = 19 by decide), if_neg (show ¬ nI 21 = 20 by decide), if_pos (show nI 21 = 21 from rfl), cC, q_isWN hN hs3 hr (by decide) wc17 (by decide), b3s, if_pos rfl, y6, if_neg v0n, q_isWN hN hs3 hr (by decide) wc18 (by decide), b3s, if_pos rfl, q_isWN hN hs3 hr (by decide) wc19 (by decide), b3s, if_pos rfl, q_isWN hN hs3 hr (by decide) wc20 (by decide), b3s, if_pos rfl]
        by_cases cc : C < 6
        · rw [if_pos (show nI C < (6 : Int32) from nI_lt (b := 6) cc (by omega)), b3s, if_pos rfl, pw1, b3s, if_neg (show ¬ nI 21 = 17 by decide), if_neg (show ¬ nI 21 = 18 by decide), if_neg (show ¬ nI 21 = 19 by decide), if_neg (show ¬ nI 21 = 20 by decide)]
          have t := tw_case (S := S) (Rf := Rf) (J := J) (J' := J') (x := nI p) hN hs3 ce hT3 cc
          rw [pw1, b3s] at t
          exact fin _ _ t
        · obtain rfl : C = 6 := by omega
          unfold f12_isCaseHere
          rw [if_neg (show ¬ nI 6 < (6 : Int32) by decide), b3s, if_neg i10, c_fail cp, b3s, yb_ck_t (show bz 0 = true from rfl), eC, if_pos (show nI 6 = 6 from rfl), m_fails z9', b3s, yb_ck_t (show bz 0 = true from rfl), b3s, yb_ck_t (show bz 0 = true from rfl), b3s, yb_ck_t (show bz 0 = true from rfl)]
          exact bad 4 4 rfl (by omega) _ f3
  · have hn : ∀ i, 17 ≤ i → i ≤ 21 → ¬ r = nI i := fun i h1 h2 e => ht ⟨i, h1, h2, e⟩
    have hlt : ¬ (17 : Int32) ≤ r := by
      rcases WIx_rng hr with e | ⟨j, hj, e, _⟩
      · rw [e]; decide
      · have : j < 17 := by
          rcases Nat.lt_or_ge j 17 with q | q
          · exact q
          · exact absurd e (hn j q (by omega))
        rw [e]
        exact nI_ge (b := 17) this (by omega)
    rw [if_neg hlt, q_townN hN hs2 hr hn, b3s, if_pos rfl, c_fail cp, b3s, yb_ck_t (show bz 0 = true from rfl), m_fails z9, b3s, yb_ck_t (show bz 0 = true from rfl)]
    exact bad 0 0 rfl (by omega) _ f0
end TWL
