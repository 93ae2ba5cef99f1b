theorem G_image {N : Nat} (hN : 3000 ≤ N) : Gd_image N RelY := by
  intro b mb L S Rf I J I' J' x1 hR
  obtain ⟨P, C, D, M, K, Rl, h⟩ := hR
  have hDy := h.2.2.1
  have hCW := h.2.1.1
  by_cases hk : ∃ k, k ≤ 3 ∧ x1 = nI k
  · obtain ⟨k, hk3, rfl⟩ := hk
    cases hq : Rf (b + 27) k with
    | some q =>
      left
      obtain ⟨r, I1, I1', e1, e2, e3, e4⟩ := img_core (J := J) (J' := J') (I2 := I) hN h (show k < 4 by omega) hCW hDy hq (fun _ _ => rfl) (fun j p e => ⟨e, rfl, rfl⟩) (fun j p e => ⟨e, fun _ _ => rfl⟩) (fun j _ => ⟨rfl, fun _ _ _ _ => rfl⟩)
      refine ⟨r, I1, J, I1', J', ?_, e3, P, C, D, M, K, Rl, e4⟩
      unfold f11_image
      rw [if_neg (nI_pos (by omega)), if_pos (show nI k < (4 : Int32) from nI_lt (b := 4) (by omega) (by omega)), yb_ck_t (inb_nI (by omega) (by decide)), nI_clamp (by omega), hq, ops, e1, b3s, e2]
    | none =>
      right
      intro z hz hzm
      have hmb := h.1
      have hzb : b + 105 ≤ z := by
        have := hzm _ (ml_mem mb 29 (by decide))
        omega
      have hR : ∀ a j, a < z → a ≠ b + 27 → imR b z (nI k) S Rf I J a j = Rf a j := fun a j ha hne => by unfold imR; rw [up2R_ne _ _ _ hne, nwS_R ha]
      have hR27 : imR b z (nI k) S Rf I J (b + 27) = va_up (Rf (b + 27)) k (some z) := by unfold imR; rw [up2R_self, nwS_R (by omega), nI_clamp (by omega)]
      have hq1 : imR b z (nI k) S Rf I J (b + 27) k = some z := by rw [hR27, va_up_self]
      obtain ⟨r, I1, I1', e1, e2, e3, e4⟩ := img_core (J := (nwS z S Rf I J).2.2.2) (J' := J') (I2 := (nwS z S Rf I J).2.2.1) hN h (show k < 4 by omega) (im_cw hCW hz) (hDy.grow (Rf1 := imR b z (nI k) S Rf I J) (n0 := k) (Or.inr (Or.inl rfl)) (slot27 b) hz hzb hq1 (fun a j ha hne => by
          by_cases c : a = b + 27
          · subst c; rw [hR27, va_up_ne _ _ (hne.elim (fun g => absurd rfl g) id)]
          · refine hR a j ?_ c
            rcases ha with rfl | rfl | rfl <;> omega)) hq1 (fun j hj => nwS_I (by omega)) (fun j p e => by
          have hp := hz _ ((hDy.2.1 _ j p (Or.inl rfl) e).2 1 (by rw [slot3]; omega))
          exact ⟨by rw [hR _ _ (by omega) (by omega)]; exact e, nwS_I hp, nwS_S hp⟩) (fun j p e => ⟨by rw [hR _ _ (by omega) (by omega)]; exact e, fun i hi => nwS_I (hz _ ((hDy.2.1 _ j p (Or.inr (Or.inr rfl)) e).2 i (by rw [slot29]; omega)))⟩) (fun j hj => ⟨by rw [hR27, va_up_ne _ _ hj], fun p i e hi => nwS_I (hz _ ((hDy.2.1 _ j p (Or.inr (Or.inl rfl)) e).2 i (by rw [slot27]; omega)))⟩)
      refine ⟨r, _, _, I1, (nwS z S Rf I J).2.2.2, I1', J', ?_, e3, P, C, D, M, K, Rl, e4⟩
      unfold f11_imageN h11_image_B
      rw [if_neg (nI_pos (by omega)), if_pos (show nI k < (4 : Int32) from nI_lt (b := 4) (by omega) (by omega)), yb_ck_t (inb_nI (by omega) (by decide)), nI_clamp (by omega), hq, opn, yb_ck_t (inb_nI (by omega) (by decide)), hq1, ops, e1, b3s, b3s, e2]
  · have hn : ∀ d, d ≤ 3 → x1 ≠ nI d := fun d hd e => hk ⟨d, hd, e⟩
    left
    refine ⟨-1, I, J, I', J', ?_, ?_, P, C, D, M, K, Rl, h⟩
    · unfold f11_image
      by_cases c0 : x1 < 0
      · rw [if_pos c0]
      · rw [if_neg c0, if_neg (fun q => by
          obtain ⟨d, hd, e⟩ := nI_of c0
          have : d < 4 := by
            rw [e, show (4 : Int32) = nI 4 from rfl, nI_ltI hd (by omega)] at q
            exact q
          exact hn d (by omega) e)]
    · unfold f12_image
      rw [l_inc (a := 0) (c := 3) 0 3 rfl rfl, b3s, rngN (hi := 3) 3 rfl hn, if_pos rfl]
theorem G_back {N : Nat} (hN : 3000 ≤ N) : Gd_back N RelY := by
  intro b mb L S Rf I J I' J' x1 hR
  obtain ⟨P, C, D, M, K, Rl, h⟩ := hR
  have hDy := h.2.2.1
  have hCW := h.2.1.1
  have hh : ∀ r, ∃ (r_1 : Int32) (I1 : IT) (J1 : JT) (I1' : IT) (J1' : JT), some (r, I, J) = some (r_1, I1, J1) ∧ some (r, I', J') = some (r_1, I1', J1') ∧ RelY b mb L S Rf I1 J1 I1' J1' := fun r => ⟨r, I, J, I', J', rfl, rfl, P, C, D, M, K, Rl, h⟩
  unfold f11_back f12_back
  rw [l_inc (a := 0) (c := 3) 0 3 rfl rfl, b3s]
  by_cases hk : ∃ k, k ≤ 3 ∧ x1 = nI k
  · obtain ⟨k, hk3, rfl⟩ := hk
    rw [rngY (hi := 3) 3 rfl (by omega) hk3, if_neg i10, if_neg (nI_pos (by omega)), if_neg (show ¬ (4 : Int32) ≤ nI k from nI_ge (b := 4) (by omega) (by omega)), yb_ck_t (inb_nI (by omega) (by decide)), yb_ck_t (inb_nI (by omega) (by decide)), nI_clamp (by omega)]
    rcases h.2.2.2.2.2.2.2.1 k (by omega) with ⟨g1, g2⟩ | ⟨q, P2, C2, D2, M2, g1, g2, g3, g4⟩
    · rw [g1, g2, opn, if_pos rfl]; exact hh _
    · have hqb := (hDy.2.1 _ _ _ (Or.inr (Or.inl rfl)) g1).1
      rw [g1, g2, ops, if_neg i10]
      obtain ⟨I1, c1, c2, c3⟩ := q8_copy (b := b) (t0 := b + 4) (t1 := q) (S := S) (Rf := Rf) (I := I) (J := J) (by omega) g3
      unfold f2_forget
      rw [c1, b3s, lts, b3s]
      obtain ⟨I1', r1, r2, r3, r4⟩ := cl_back_L50 (N := N) (mb := mb) (u := k) (J := J') (by omega) 142 0 N (up2 (up2 (up2 I' mb 21 (I' (mb + 27) k)) mb 22 (I' (mb + 28) k)) mb 24 0) (by omega) (by omega)
      rw [show nI 0 = (0 : Int32) from rfl] at r1
      rw [lts, up2_ne I' _ _ (show mb + 28 ≠ mb by omega), lts, lts, r1, b3s]
      have hv : ∀ i, i < 142 → I1' (mb + 10) i = I' (mb + 26) (142 * k + i) := fun i hi => by rw [r4 i (by omega) hi, up2_ne _ _ _ (by omega), up2_ne _ _ _ (by omega), up2_ne _ _ _ (by omega)]
      have hM : ∀ a, a ≠ mb → a ≠ mb + 10 → I1' a = I' a := fun a h1 h2 => by rw [r2 a h2, up2_ne _ _ _ h1, up2_ne _ _ _ h1, up2_ne _ _ _ h1]
      have hMb : ∀ j, j ≠ 21 → j ≠ 22 → j ≠ 24 → I1' mb j = I' mb j := fun j h1 h2 h3 => by rw [r2 mb (by omega), up2_at (Or.inr h3), up2_at (Or.inr h2), up2_at (Or.inr h1)]
      have m21 : I1' mb 21 = I' (mb + 27) k := by rw [r2 mb (by omega), up2_at (Or.inr (by decide)), up2_at (Or.inr (by decide)), up2_same]
      have m22 : I1' mb 22 = I' (mb + 28) k := by rw [r2 mb (by omega), up2_at (Or.inr (by decide)), up2_same]
      have m24 : I1' mb 24 = 0 := by rw [r2 mb (by omega), up2_same]
      have u1 : ∀ a, a ≠ b + 28 → up2 I1 (b + 28) 2 0 a = I1 a := fun a ha => up2_ne _ _ _ ha
      have hst : StateR (fun i => up2 I1 (b + 28) 2 0 (b + 4 + i)) (I1' (mb + 10)) (I1' mb 21) (I1' mb 22) P2 C2 D2 M2 := by
        rw [m21, m22]
        have g5 : StateR (fun i => up2 I1 (b + 28) 2 0 (b + 4 + i)) (fun i => I' (mb + 26) (142 * k + i)) (I' (mb + 27) k) (I' (mb + 28) k) P2 C2 D2 M2 := c3.congr (fun i hi => u1 _ (by omega))
        obtain ⟨q1, q2, q3, q4, q5, q6, q7, q8⟩ := g5
        have hP7 := q1.1.2
        have hC6 := q1.2.1.2
        have hM10 := q2.2.1
        refine ⟨q1.vc (fun i hi => hv i (by omega)), ⟨(hv 141 (by omega)).trans q2.1, hM10, fun i hi => ?_⟩, q3.vc hP7 hC6 (fun i hi => hv i (by omega)), q4.vc hP7 hC6 (fun i hi => hv i (by omega)), q5, q6, q7.trans (hv 141 (by omega)).symm, fun i hi => ?_⟩
        · have := hv (112 + 3 * i) (by omega)
          obtain ⟨w, w1, w2⟩ := q2.2.2 i hi
          exact ⟨w, this.trans w1, w2⟩
        · obtain ⟨z1, z2, z3⟩ := q8 i hi
          exact ⟨z1.trans (hv _ (by omega)).symm, z2.trans (hv _ (by omega)).symm, z3.trans (hv _ (by omega)).symm⟩
      have eD1 : up2 I1 (b + 28) 2 0 (b + 14) 9 = I1' (mb + 10) 4 := hst.2.2.2.1.1
      rw [eD1]
      obtain ⟨h1, h2, h3, h4, h5, h6, ⟨h7, h8, h9⟩, h10, nx, u, f1, f2, f3, f4, f5, f6⟩ := h
      have keepI : ∀ a, a ≠ b + 28 → (a < b + 4 ∨ b + 26 < a) → up2 I1 (b + 28) 2 0 a = I a := fun a ha hb => (u1 a ha).trans (c2 a (by omega))
      have keep0 : up2 I1 (b + 28) 2 0 b = I b := keepI b (by omega) (Or.inl (by omega))
      have keepd : ∀ a, b + 105 ≤ a → up2 I1 (b + 28) 2 0 a = I a := fun a ha => keepI a (by omega) (Or.inr (by omega))
      refine ⟨_, _, _, _, _, rfl, rfl, P2, C2, D2, M2, K, Rl, h1, ⟨h2.1, h2.2.cg (fun a g1 g2 => keepI a (by omega) (Or.inr (by omega)))⟩, h3, ?_, hst, by rw [m21]; exact g4, ⟨?_, ?_, ?_⟩, ?_, nx, 0, f1, by omega, ?_, up2_same _ _ _ _, m24, fun j hj => by omega⟩
      · rw [keep0, keepI (b + 1) (by omega) (Or.inl (by omega)), hMb 1 (by decide) (by decide) (by decide), hM (mb + 1) (by omega) (by omega)]; exact h4
      · rw [keep0]; exact h7
      · rw [hMb 2 (by decide) (by decide) (by decide)]; exact h8
      · exact h9.keep (fun k q e => (h3.2.1 _ k q (Or.inl rfl) e).1) keepd (hM _ (by omega) (by omega)) (hM _ (by omega) (by omega)) (hM _ (by omega) (by omega))
      · intro j hj
        rw [hM (mb + 29) (by omega) (by omega), hM (mb + 26) (by omega) (by omega), hM (mb + 27) (by omega) (by omega), hM (mb + 28) (by omega) (by omega)]
        rcases h10 j hj with q | ⟨p, P, C, D, M, e1, e2, e3, e4⟩
        · exact Or.inl q
        · have hp := (h3.2.1 _ j p (Or.inr (Or.inl rfl)) e1).1
          exact Or.inr ⟨p, P, C, D, M, e1, e2, e3.congr (fun i _ => keepd _ (by omega)), e4⟩
      · rw [up2_at (Or.inr (by decide)), c2 _ (Or.inr (by omega))]; exact f3
  · have hn : ∀ d, d ≤ 3 → x1 ≠ nI d := fun d hd e => hk ⟨d, hd, e⟩
    rw [rngN (hi := 3) 3 rfl hn, if_pos rfl]
    by_cases c0 : x1 < 0
    · rw [if_pos c0]; exact hh _
    · rw [if_neg c0, if_pos (Int32.not_lt.mp (fun q => by
          obtain ⟨d, hd, e⟩ := nI_of c0
          have : d < 4 := by
            rw [e, show (4 : Int32) = nI 4 from rfl, nI_ltI hd (by omega)] at q
            exact q
          exact hn d (by omega) e))]; exact hh _
