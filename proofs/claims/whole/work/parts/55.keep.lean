/-! AN ACT IS KEPT, and taken back -/
theorem RelB.swapK {b mb P C D D1 M K : Nat} {L : List Nat} {S : ST} {Rf : RT} {I I' I1 I1' : IT} {Rl : Nat → List (List Tk × Option (List Tk))} (h : RelB b mb L S Rf I I' P C D M K Rl)
    (hb : ∀ k, k ≤ 13 → I1 (b + k) = I (b + k)) (hf : ∀ k, 24 ≤ k → k ≤ 26 → I1 (b + k) = I (b + k)) (hz : ∀ a, b + 34 ≤ a → a ≤ b + 36 → I1 a = I a)
    (hr : ∀ k q, Rf (b + 3) k = some q → I1 (q + 1) = I (q + 1)) (hi : ∀ k q i, Rf (b + 27) k = some q → i < 23 → I1 (q + i) = I (q + i))
    (m : I1' mb 1 = I' mb 1 ∧ I1' mb 2 = I' mb 2 ∧ I1' mb 21 = I' mb 21 ∧ I1' mb 22 = I' mb 22) (mk : ∀ k, (k = 1 ∨ k = 2 ∨ k = 4 ∨ k = 5 ∨ (26 ≤ k ∧ k ≤ 29)) → I1' (mb + k) = I' (mb + k))
    (mv : ∀ i, 111 ≤ i → I1' (mb + 10) i = I' (mb + 10) i) (hd : D1 ≤ 999)
    (hS : SaidOK (I1' (mb + 10)) P C D1) (hT : TownR (fun k => I1 (b + 5 + k)) (I1' (mb + 10)) P C) (hC : CourseR (fun k => I1 (b + 14 + k)) (I1' (mb + 10)) P C) (hP : PastR b mb P C Rf I1 I1') : RelB b mb L S Rf I1 I1' P C D1 M K Rl := by
  obtain ⟨h1, h2, h3, h4, ⟨q1, q2, q3, q4, q5, q6, q7, q8⟩, h6, ⟨h7, h8, h9⟩, h10, h11⟩ := h
  obtain ⟨m1, m2, m21, m22⟩ := m
  have hb0 : I1 b = I b := hb 0 (by omega)
  have hb4 : I1 (b + 4 + 0) = I (b + 4 + 0) := hb 4 (by omega)
  refine ⟨h1, ⟨h2.1, h2.2.cg hz⟩, h3, ?_, ⟨hS, ?_, hT.congr (fun k hk => ?_), hC.congr (fun k hk => ?_), hd, ?_, ?_, fun k hk => ?_⟩, ?_, ⟨?_, ?_, ?_⟩, ?_, hP⟩
  · rw [hb0, hb 1 (by omega), m1, mk 1 (by decide)]; exact h4
  · refine ⟨(mv 141 (by omega)).trans q2.1, q2.2.1, fun k hk => ?_⟩
    rw [mv _ (by omega)]; exact q2.2.2 k hk
  · show I1 (b + 4 + (1 + k)) = I1 (b + 5 + k); congr 1; omega
  · show I1 (b + 4 + (10 + k)) = I1 (b + 14 + k); congr 1; omega
  · show I1 (b + 4 + 0) 6 = I1' mb 21 ∧ I1 (b + 4 + 0) 7 = I1' mb 22 ∧ ¬ I1' mb 22 < 0
    rw [hb4, m21, m22]; exact q6
  · show I1 (b + 4 + 0) 5 = I1' (mb + 10) 141
    rw [hb4, mv 141 (by omega)]; exact q7
  · have e20 : I1 (b + 4 + 20) = I (b + 4 + 20) := hf 24 (by omega) (by omega)
    have e21 : I1 (b + 4 + 21) = I (b + 4 + 21) := hf 25 (by omega) (by omega)
    have e22 : I1 (b + 4 + 22) = I (b + 4 + 22) := hf 26 (by omega) (by omega)
    show I1 (b + 4 + 20) k = I1' (mb + 10) (111 + 3 * k) ∧ I1 (b + 4 + 21) k = I1' (mb + 10) (112 + 3 * k) ∧ I1 (b + 4 + 22) k = I1' (mb + 10) (113 + 3 * k)
    rw [e20, e21, e22, mv _ (by omega), mv _ (by omega), mv _ (by omega)]; exact q8 k hk
  · rw [m21]; exact h6
  · rw [hb0]; exact h7
  · rw [m2]; exact h8
  · refine ⟨h9.1, fun k hk => ?_⟩
    obtain ⟨q, e1, e2, e3, e4, e5, e6, e7, e8⟩ := h9.2 k hk
    exact ⟨q, e1, e2, e3, by rw [hr k q e1]; exact e4, e5, by rw [mk 5 (by decide)]; exact e6, e7, e8.congr (mk 4 (by decide)) (mk 2 (by decide))⟩
  · intro k hk
    rw [mk 29 (by decide), mk 26 (by decide), mk 27 (by decide), mk 28 (by decide)]
    rcases h10 k hk with q | ⟨q, P, C, D, M, e1, e2, e3, e4⟩
    · exact Or.inl q
    · exact Or.inr ⟨q, P, C, D, M, e1, e2, e3.congr (fun i hh => hi k q i e1 (by omega)), e4⟩
theorem mod20 {nx u j : Nat} (h1 : nx < 20) (h2 : u ≤ 20) (h3 : j < u) : (nx + 20 - u + j) % 20 < 20 := Nat.mod_lt _ (by omega)
/-- what a kept act leaves: one more to take back, nothing else changed -/
theorem q_keep {N b mb P C D M K : Nat} {L : List Nat} {S : ST} {Rf : RT} {I I' : IT} {J J' : JT} {Rl : Nat → List (List Tk × Option (List Tk))} (hN : 3000 ≤ N) (h : RelB b mb L S Rf I I' P C D M K Rl) (hs : ∃ q, Rf (b + 29) (I (b + 28) 1).toNatClampNeg = some q) :
    ∃ I1 I1', f2_keep b S Rf (b + 14) I J = some ((), I1, J) ∧ f12_keepsAct N mb I' J' = some ((), I1', J') ∧ RelB b mb L S Rf I1 I1' P C D M K Rl ∧ I1' (mb + 10) = I' (mb + 10) ∧ I1' mb 21 = I' mb 21 := by
  obtain ⟨q, hq⟩ := hs
  obtain ⟨nx, u, g1, g2, g3, g4, g5, g6⟩ := h.2.2.2.2.2.2.2.2
  have hc := h.core
  have hP7 := co_P7 hc
  have hC6 := co_C6 hc
  have h3 := h.2.2.1
  have hmb := h.1
  rw [g3, nI_clamp (by omega)] at hq
  have hqb := (h3.2.1 _ _ _ (Or.inr (Or.inr rfl)) hq).1
  obtain ⟨I0, c1, c2⟩ := q0_copy (b := b) (t0 := q) (t1 := b + 14) (S := S) (Rf := Rf) (I := I) (J := J) (Or.inl (by omega))
  have k28 : I0 (b + 28) = I (b + 28) := c2.1 _ (Or.inl (by omega))
  -- the class
  have hcl : ∃ I1, f2_keep b S Rf (b + 14) I J = some ((), I1, J) ∧ (∀ a, a ≠ b + 28 → I1 a = I0 a) ∧ I1 (b + 28) 1 = nI ((nx + 1) % 20) ∧ I1 (b + 28) 2 = nI (min 20 (u + 1)) := by
    unfold f2_keep
    rw [g3, yb_ck_t (inb_nI g1 (by decide)), nI_clamp (by omega), hq, ops, c1, b3s, k28, g3, nI_1]
    have hm : ∀ x : Int32, up2 I0 (b + 28) 1 x (b + 28) 2 = nI u := fun x => by rw [up2_at (Or.inr (by decide)), k28, g4]
    have e2 : (if (20 : Int32) < nI u + 1 then (20 : Int32) else nI u + 1) = nI (min 20 (u + 1)) := by
      rw [nI_1]
      by_cases cu : u = 20
      · subst cu; decide
      · rw [if_neg (show ¬ (20 : Int32) < nI (u + 1) from nI_nlt (a := 20) (by omega) (by omega)), Nat.min_eq_right (by omega)]
    by_cases cn : nx = 19
    · subst cn
      rw [if_pos (by decide), lts, lts, hm, e2]
      exact ⟨_, rfl, fun a ha => by rw [up2_ne _ _ _ ha, up2_ne _ _ _ ha], by rw [up2_at (Or.inr (by decide)), up2_same]; rfl, up2_same _ _ _ _⟩
    · rw [if_neg (show ¬ (20 : Int32) ≤ nI (nx + 1) from nI_ge (b := 20) (by omega) (by omega)), lts, lts, hm, e2]
      exact ⟨_, rfl, fun a ha => by rw [up2_ne _ _ _ ha, up2_ne _ _ _ ha], by rw [up2_at (Or.inr (by decide)), up2_same, Nat.mod_eq_of_lt (by omega)], up2_same _ _ _ _⟩
  obtain ⟨I1, d1, d2, d3, d4⟩ := hcl
  -- the reference
  have hre : ∃ I1', f12_keepsAct N mb I' J' = some ((), I1', J') ∧ (∀ a, a ≠ mb → a ≠ mb + 11 → I1' a = I' a) ∧ (∀ k, k ≠ 24 → I1' mb k = I' mb k) ∧ I1' mb 24 = nI (min 20 (u + 1)) ∧ (∀ i, i < 111 → I1' (mb + 11) (111 * (min 20 (u + 1) - 1) + i) = I' (mb + 10) i) ∧ (∀ j i, j + 1 < min 20 (u + 1) → i < 111 → I1' (mb + 11) (111 * j + i) = I' (mb + 11) (111 * (if u = 20 then j + 1 else j) + i)) := by
    unfold f12_keepsAct
    rw [g5]
    by_cases cu : u = 20
    · subst cu
      obtain ⟨I2, r1, r2, r3, r4⟩ := cl_shift (N := N) (mb := mb) (J := J') (2220 - 111) 111 N I' (by omega) (by omega) (by omega)
      rw [if_pos (show nI 20 = 20 from rfl), show (111 : Int32) = nI 111 from rfl, r1, b3s, lts, r2 mb (by omega), g5, show nI 20 - 1 = nI 19 from rfl]
      obtain ⟨I3, s1, s2, s3, s4⟩ := cl_keepsAct_L52 (N := N) (mb := mb) (u := 19) (J := J') (by omega) 111 0 N (up2 I2 mb 24 (nI 19)) (by omega) (by omega) (up2_same _ _ _ _)
      rw [show nI 0 = (0 : Int32) from rfl] at s1
      rw [s1, b3s, lts, s2 mb (by omega), up2_same, nI_1]
      refine ⟨_, rfl, fun a h1 h2 => ?_, fun k hk => ?_, up2_same _ _ _ _, fun i hi => ?_, fun j i hj hi => ?_⟩
      · rw [up2_ne _ _ _ h1, s2 a h2, up2_ne _ _ _ h1, r2 a h2]
      · rw [up2_at (Or.inr hk), s2 mb (by omega), up2_at (Or.inr hk), r2 mb (by omega)]
      · rw [up2_ne _ _ _ (by omega)]
        have := s4 i (by omega) hi
        rw [show 111 * (min 20 (20 + 1) - 1) + i = 111 * 19 + i from rfl, this, up2_ne _ _ _ (by omega), r2 _ (by omega)]
      · have hj : j < 19 := by omega
        rw [up2_ne _ _ _ (by omega), s3 _ (by omega), up2_ne _ _ _ (by omega), r4 _ (by omega) (by omega), if_pos rfl, show 111 * j + i + 111 = 111 * (j + 1) + i by omega]
    · rw [if_neg (show ¬ nI u = (20 : Int32) from nI_nl 20 rfl (by omega) (by omega) cu)]
      obtain ⟨I3, s1, s2, s3, s4⟩ := cl_keepsAct_L52 (N := N) (mb := mb) (u := u) (J := J') (by omega) 111 0 N I' (by omega) (by omega) g5
      rw [show nI 0 = (0 : Int32) from rfl] at s1
      rw [s1, b3s, lts, s2 mb (by omega), g5, nI_1, Nat.min_eq_right (by omega)]
      refine ⟨_, rfl, fun a h1 h2 => ?_, fun k hk => ?_, up2_same _ _ _ _, fun i hi => ?_, fun j i hj hi => ?_⟩
      · rw [up2_ne _ _ _ h1, s2 a h2]
      · rw [up2_at (Or.inr hk), s2 mb (by omega)]
      · rw [up2_ne _ _ _ (by omega), show u + 1 - 1 = u by omega, s4 i (by omega) hi]
      · rw [up2_ne _ _ _ (by omega), s3 _ (by omega), if_neg cu]
  obtain ⟨I1', e1, e2, e3, e4, e5, e6⟩ := hre
  have v10 : I1' (mb + 10) = I' (mb + 10) := e2 _ (by omega) (by omega)
  have hI : ∀ a, a ≠ b + 28 → (a < q ∨ q + 9 < a) → I1 a = I a := fun a h1 h2 => (d2 a h1).trans (c2.1 a h2)
  refine ⟨I1, I1', d1, e1, ?_, v10, e3 21 (by decide)⟩
  refine h.swapK (D1 := D) (fun k hk => hI _ (by omega) (Or.inl (by omega))) (fun k h1 h2 => hI _ (by omega) (Or.inl (by omega))) (fun a h1 h2 => hI _ (by omega) (Or.inl (by omega))) (fun k p hp => ?_) (fun k p i hp hi => ?_) ⟨e3 1 (by decide), e3 2 (by decide), e3 21 (by decide), e3 22 (by decide)⟩ (fun k hk => e2 _ (by omega) (by omega)) (fun i hi => by rw [v10]) h.d999 ?_ ?_ ?_ ?_
  · have hb1 := (h3.2.1 _ _ _ (Or.inl rfl) hp).1
    have := h3.2.2 _ _ _ _ _ _ (Or.inl rfl) (Or.inr (Or.inr rfl)) hp hq (Or.inl (by omega))
    have l1 : slotLen b (b + 3) = 2 := by unfold slotLen; rw [if_pos rfl]
    have l2 : slotLen b (b + 29) = 10 := by unfold slotLen; rw [if_neg (by omega), if_neg (by omega)]
    rw [l1, l2] at this
    exact hI _ (by omega) (by omega)
  · have hb1 := (h3.2.1 _ _ _ (Or.inr (Or.inl rfl)) hp).1
    have := h3.2.2 _ _ _ _ _ _ (Or.inr (Or.inl rfl)) (Or.inr (Or.inr rfl)) hp hq (Or.inl (by omega))
    have l1 : slotLen b (b + 27) = 23 := by unfold slotLen; rw [if_neg (by omega), if_pos rfl]
    have l2 : slotLen b (b + 29) = 10 := by unfold slotLen; rw [if_neg (by omega), if_neg (by omega)]
    rw [l1, l2] at this
    exact hI _ (by omega) (by omega)
  · rw [v10]; exact hc.1
  · rw [v10]; exact hc.2.1.congr (fun k hk => hI _ (by omega) (Or.inl (by omega)))
  · rw [v10]; exact hc.2.2.congr (fun k hk => hI _ (by omega) (Or.inl (by omega)))
  · refine ⟨(nx + 1) % 20, min 20 (u + 1), Nat.mod_lt _ (by omega), Nat.min_le_left .., d3, d4, e4, fun j hj => ?_⟩
    have hTk : ∀ k, k ≤ 8 → I1 (b + 5 + k) = I (b + 5 + k) := fun k hk => hI _ (by omega) (Or.inl (by omega))
    by_cases cj : j + 1 = min 20 (u + 1)
    · -- the one just kept
      have hidx : ((nx + 1) % 20 + 20 - min 20 (u + 1) + j) % 20 = nx := by omega
      have hv : ∀ i, i < 111 → I1' (mb + 11) (111 * j + i) = I' (mb + 10) i := fun i hi => by
        have := e5 i hi
        rw [show min 20 (u + 1) - 1 = j by omega] at this
        exact this
      refine ⟨q, D, by rw [hidx]; exact hq, h.d999, hc.1.vc hv, (hc.2.1.congr hTk).vc hP7 hC6 hv, ?_⟩
      have hcc : CourseR (fun k => I0 (q + k)) (I' (mb + 10)) P C := CourseR.copy hP7 hC6 c2 hc.2.2
      exact (hcc.congr (fun k hk => d2 _ (by omega))).vc hP7 hC6 hv
    · obtain ⟨p, D2, f1, f2, f3, f4, f5⟩ := g6 (if u = 20 then j + 1 else j) (by split <;> omega)
      have hidx : ((nx + 1) % 20 + 20 - min 20 (u + 1) + j) % 20 = (nx + 20 - u + (if u = 20 then j + 1 else j)) % 20 := by
        split <;> omega
      have hv : ∀ i, i < 111 → I1' (mb + 11) (111 * j + i) = I' (mb + 11) (111 * (if u = 20 then j + 1 else j) + i) := fun i hi => e6 j i (by omega) hi
      have hne : (nx + 20 - u + (if u = 20 then j + 1 else j)) % 20 ≠ nx := by
        split <;> omega
      have hb1 := (h3.2.1 _ _ _ (Or.inr (Or.inr rfl)) f1).1
      have := h3.2.2 _ _ _ _ _ _ (Or.inr (Or.inr rfl)) (Or.inr (Or.inr rfl)) f1 hq (Or.inr hne)
      have l2 : slotLen b (b + 29) = 10 := by unfold slotLen; rw [if_neg (by omega), if_neg (by omega)]
      rw [l2] at this
      exact ⟨p, D2, by rw [hidx]; exact f1, f2, f3.vc hv, (f4.congr hTk).vc hP7 hC6 hv, (f5.congr (fun k hk => hI _ (by omega) (by omega))).vc hP7 hC6 hv⟩
