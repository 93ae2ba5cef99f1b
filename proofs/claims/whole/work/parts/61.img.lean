/-! IMAGES: a whole state copied -/
def CopyT (t0 t1 : Nat) (I I1 : IT) : Prop := (∀ a, (a < t0 ∨ t0 + 8 < a) → I1 a = I a) ∧ (∀ k, 8 ≤ k → k ≤ 14 → I1 t0 k = I t1 k) ∧ (∀ k p, 1 ≤ k → k ≤ 4 → p < 7 → I1 (t0 + k) p = I (t1 + k) p) ∧ ∀ k c, 5 ≤ k → k ≤ 8 → c < 6 → I1 (t0 + k) c = I (t1 + k) c
theorem q9_copy {b t0 t1 : Nat} {S : ST} {Rf : RT} {I : IT} {J : JT} (hd : t1 + 8 < t0 ∨ t0 + 8 < t1) (hb : bz (I t1 8) = true) : ∃ I1, f9_copy b S Rf t0 t1 I J = some ((), I1, J) ∧ CopyT t0 t1 I I1 := by
  unfold f9_copy
  rw [yb_ck_t hb, lts, lts, lts, lts, lts, lts, lts, lts, lts, lts, lts, lts, lts, lts, lts]
  have e : ∀ (A : IT) (k : Nat) (x : Int32), up2 A t0 k x t1 = A t1 := fun A k x => up2_ne _ _ _ (by omega)
  rw [e, e, e, e, e, e, e, e, e, e, e, e, e, e, e, e, e, e, e, e, e]
  refine ⟨_, rfl, ?_, ?_, ?_, ?_⟩
  · intro a ha
    rw [cpy2_ne (by omega), cpy2_ne (by omega), cpy2_ne (by omega), cpy2_ne (by omega), cpy2_ne (by omega), cpy2_ne (by omega), cpy2_ne (by omega), cpy2_ne (by omega), up2_ne _ _ _ (by omega), up2_ne _ _ _ (by omega), up2_ne _ _ _ (by omega), up2_ne _ _ _ (by omega), up2_ne _ _ _ (by omega), up2_ne _ _ _ (by omega), up2_ne _ _ _ (by omega)]
  · intro k h1 h2
    rw [cpy2_ne (by omega), cpy2_ne (by omega), cpy2_ne (by omega), cpy2_ne (by omega), cpy2_ne (by omega), cpy2_ne (by omega), cpy2_ne (by omega), cpy2_ne (by omega)]
    obtain rfl | rfl | rfl | rfl | rfl | rfl | rfl : k = 8 ∨ k = 9 ∨ k = 10 ∨ k = 11 ∨ k = 12 ∨ k = 13 ∨ k = 14 := by omega
    · rw [up2_at (Or.inr (by decide)), up2_at (Or.inr (by decide)), up2_at (Or.inr (by decide)), up2_at (Or.inr (by decide)), up2_at (Or.inr (by decide)), up2_at (Or.inr (by decide)), up2_same]
    · rw [up2_at (Or.inr (by decide)), up2_at (Or.inr (by decide)), up2_at (Or.inr (by decide)), up2_at (Or.inr (by decide)), up2_at (Or.inr (by decide)), up2_same]
    · rw [up2_at (Or.inr (by decide)), up2_at (Or.inr (by decide)), up2_at (Or.inr (by decide)), up2_at (Or.inr (by decide)), up2_same]
    · rw [up2_at (Or.inr (by decide)), up2_at (Or.inr (by decide)), up2_at (Or.inr (by decide)), up2_same]
    · rw [up2_at (Or.inr (by decide)), up2_at (Or.inr (by decide)), up2_same]
    · rw [up2_at (Or.inr (by decide)), up2_same]
    · rw [up2_same]
  · intro k p h1 h2 hp
    obtain rfl | rfl | rfl | rfl : k = 1 ∨ k = 2 ∨ k = 3 ∨ k = 4 := by omega
    · rw [cpy2_ne (by omega), cpy2_ne (by omega), cpy2_ne (by omega), cpy2_ne (by omega), cpy2_ne (by omega), cpy2_ne (by omega), cpy2_ne (by omega), cpy2_in hp, up2_ne _ _ _ (by omega), up2_ne _ _ _ (by omega), up2_ne _ _ _ (by omega), up2_ne _ _ _ (by omega), up2_ne _ _ _ (by omega), up2_ne _ _ _ (by omega), up2_ne _ _ _ (by omega)]
    · rw [cpy2_ne (by omega), cpy2_ne (by omega), cpy2_ne (by omega), cpy2_ne (by omega), cpy2_ne (by omega), cpy2_ne (by omega), cpy2_in hp, cpy2_ne (by omega), up2_ne _ _ _ (by omega), up2_ne _ _ _ (by omega), up2_ne _ _ _ (by omega), up2_ne _ _ _ (by omega), up2_ne _ _ _ (by omega), up2_ne _ _ _ (by omega), up2_ne _ _ _ (by omega)]
    · rw [cpy2_ne (by omega), cpy2_ne (by omega), cpy2_ne (by omega), cpy2_ne (by omega), cpy2_ne (by omega), cpy2_in hp, cpy2_ne (by omega), cpy2_ne (by omega), up2_ne _ _ _ (by omega), up2_ne _ _ _ (by omega), up2_ne _ _ _ (by omega), up2_ne _ _ _ (by omega), up2_ne _ _ _ (by omega), up2_ne _ _ _ (by omega), up2_ne _ _ _ (by omega)]
    · rw [cpy2_ne (by omega), cpy2_ne (by omega), cpy2_ne (by omega), cpy2_ne (by omega), cpy2_in hp, cpy2_ne (by omega), cpy2_ne (by omega), cpy2_ne (by omega), up2_ne _ _ _ (by omega), up2_ne _ _ _ (by omega), up2_ne _ _ _ (by omega), up2_ne _ _ _ (by omega), up2_ne _ _ _ (by omega), up2_ne _ _ _ (by omega), up2_ne _ _ _ (by omega)]
  · intro k p h1 h2 hp
    obtain rfl | rfl | rfl | rfl : k = 5 ∨ k = 6 ∨ k = 7 ∨ k = 8 := by omega
    · rw [cpy2_ne (by omega), cpy2_ne (by omega), cpy2_ne (by omega), cpy2_in hp, cpy2_ne (by omega), cpy2_ne (by omega), cpy2_ne (by omega), cpy2_ne (by omega), up2_ne _ _ _ (by omega), up2_ne _ _ _ (by omega), up2_ne _ _ _ (by omega), up2_ne _ _ _ (by omega), up2_ne _ _ _ (by omega), up2_ne _ _ _ (by omega), up2_ne _ _ _ (by omega)]
    · rw [cpy2_ne (by omega), cpy2_ne (by omega), cpy2_in hp, cpy2_ne (by omega), cpy2_ne (by omega), cpy2_ne (by omega), cpy2_ne (by omega), cpy2_ne (by omega), up2_ne _ _ _ (by omega), up2_ne _ _ _ (by omega), up2_ne _ _ _ (by omega), up2_ne _ _ _ (by omega), up2_ne _ _ _ (by omega), up2_ne _ _ _ (by omega), up2_ne _ _ _ (by omega)]
    · rw [cpy2_ne (by omega), cpy2_in hp, cpy2_ne (by omega), cpy2_ne (by omega), cpy2_ne (by omega), cpy2_ne (by omega), cpy2_ne (by omega), cpy2_ne (by omega), up2_ne _ _ _ (by omega), up2_ne _ _ _ (by omega), up2_ne _ _ _ (by omega), up2_ne _ _ _ (by omega), up2_ne _ _ _ (by omega), up2_ne _ _ _ (by omega), up2_ne _ _ _ (by omega)]
    · rw [cpy2_in hp, cpy2_ne (by omega), cpy2_ne (by omega), cpy2_ne (by omega), cpy2_ne (by omega), cpy2_ne (by omega), cpy2_ne (by omega), cpy2_ne (by omega), up2_ne _ _ _ (by omega), up2_ne _ _ _ (by omega), up2_ne _ _ _ (by omega), up2_ne _ _ _ (by omega), up2_ne _ _ _ (by omega), up2_ne _ _ _ (by omega), up2_ne _ _ _ (by omega)]
theorem TownR.copy {t0 t1 P C : Nat} {I I1 : IT} {v : Nat → Int32} (hP : P ≤ 7) (hC : C ≤ 6) (hc : CopyT t0 t1 I I1) (h : TownR (fun k => I (t1 + k)) v P C) : TownR (fun k => I1 (t0 + k)) v P C := by
  obtain ⟨c1, c2, c3, c4⟩ := hc
  obtain ⟨a, d, e, f, g⟩ := h
  have f0 : ∀ k, 8 ≤ k → k ≤ 14 → I1 (t0 + 0) k = I (t1 + 0) k := c2
  refine ⟨?_, ?_, ?_, fun p hp => ?_, fun c hc => ?_⟩
  · show I1 (t0 + 0) 9 = _ ∧ I1 (t0 + 0) 10 = _ ∧ I1 (t0 + 0) 13 = _ ∧ I1 (t0 + 0) 14 = _
    rw [f0 9 (by omega) (by omega), f0 10 (by omega) (by omega), f0 13 (by omega) (by omega), f0 14 (by omega) (by omega)]; exact a
  · show _ → I1 (t0 + 0) 8 = 1 ∧ I1 (t0 + 0) 11 = _ ∧ I1 (t0 + 0) 12 = _
    rw [f0 8 (by omega) (by omega), f0 11 (by omega) (by omega), f0 12 (by omega) (by omega)]; exact d
  · show _ → I1 (t0 + 0) 8 = 0
    rw [f0 8 (by omega) (by omega)]; exact e
  · exact ⟨(c3 1 p (by omega) (by omega) (by omega)).trans (f p hp).1, (c3 3 p (by omega) (by omega) (by omega)).trans (f p hp).2.1, (c3 4 p (by omega) (by omega) (by omega)).trans (f p hp).2.2⟩
  · exact ⟨(c4 5 c (by omega) (by omega) (by omega)).trans (g c hc).1, (c4 6 c (by omega) (by omega) (by omega)).trans (g c hc).2.1, (c4 7 c (by omega) (by omega) (by omega)).trans (g c hc).2.2.1, (c4 8 c (by omega) (by omega) (by omega)).trans (g c hc).2.2.2⟩
theorem q8_copy {b t0 t1 P C D M : Nat} {S : ST} {Rf : RT} {I : IT} {J : JT} {v : Nat → Int32} {fo x : Int32} (hd : t1 + 22 < t0 ∨ t0 + 22 < t1) (h : StateR (fun k => I (t1 + k)) v fo x P C D M) : ∃ I1, f8_copy b S Rf t0 t1 I J = some ((), I1, J) ∧ (∀ a, (a < t0 ∨ t0 + 22 < a) → I1 a = I a) ∧ StateR (fun k => I1 (t0 + k)) v fo x P C D M := by
  obtain ⟨q1, q2, q3, q4, q5, q6, q7, q8⟩ := h
  have hP7 := q1.1.2
  have hC6 := q1.2.1.2
  have hbz : bz (I (t1 + 1) 8) = true := by
    by_cases c : v 0 = 0
    · have : I (t1 + 1) 8 = 0 := q3.2.2.1 c
      rw [this]; rfl
    · have : I (t1 + 1) 8 = 1 := (q3.2.1 c).1
      rw [this]; rfl
  obtain ⟨A, a1, a2⟩ := q9_copy (b := b) (t0 := t0 + 1) (t1 := t1 + 1) (S := S) (Rf := Rf) (I := I) (J := J) (by omega) hbz
  obtain ⟨B, b1, b2⟩ := q0_copy (b := b) (t0 := t0 + 10) (t1 := t1 + 10) (S := S) (Rf := Rf) (I := A) (J := J) (by omega)
  have hA : ∀ k, k ≤ 22 → A (t1 + k) = I (t1 + k) := fun k hk => a2.1 _ (by omega)
  have hB : ∀ k, k ≤ 22 → B (t1 + k) = I (t1 + k) := fun k hk => (b2.1 _ (by omega)).trans (hA k hk)
  unfold f8_copy
  rw [a1, b3s, b1, b3s, lts, lts, lts, lts, lts, lts]
  have s1 : ∀ (X : IT) (k : Nat) (y : Int32), up2 X t0 k y t1 = X t1 := fun X k y => up2_ne _ _ _ (by omega)
  have s2 : ∀ (X : IT) (a n j : Nat), j ≤ 2 → cpy2 X a (t0 + (20 + j)) n t1 = X t1 := fun X a n j hj => cpy2_ne (by omega)
  have F : ∀ a, a ≠ t0 → a ≠ t0 + 20 → a ≠ t0 + 21 → a ≠ t0 + 22 → ∀ y1 y2 y3 : Int32, up2 (up2 (cpy2 (cpy2 (cpy2 (up2 B t0 5 y1) (t1 + 20) (t0 + 20) 10) (t1 + 21) (t0 + 21) 10) (t1 + 22) (t0 + 22) 10) t0 6 y2) t0 7 y3 a = B a := fun a h0 h1 h2 h3 y1 y2 y3 => by rw [up2_ne _ _ _ h0, up2_ne _ _ _ h0, cpy2_ne h3, cpy2_ne h2, cpy2_ne h1, up2_ne _ _ _ h0]
  have r5 : B t1 5 = v 141 := by have := hB 0 (by omega); rw [Nat.add_zero] at this; rw [this]; exact q7
  have r6 : cpy2 (cpy2 (cpy2 (up2 B t0 5 (v 141)) (t1 + 20) (t0 + 20) 10) (t1 + 21) (t0 + 21) 10) (t1 + 22) (t0 + 22) 10 t1 6 = fo := by
    rw [cpy2_ne (by omega), cpy2_ne (by omega), cpy2_ne (by omega), up2_ne _ _ _ (by omega)]
    have := hB 0 (by omega); rw [Nat.add_zero] at this; rw [this]; exact q6.1
  rw [r5, r6]
  have r7 : up2 (cpy2 (cpy2 (cpy2 (up2 B t0 5 (v 141)) (t1 + 20) (t0 + 20) 10) (t1 + 21) (t0 + 21) 10) (t1 + 22) (t0 + 22) 10) t0 6 fo t1 7 = x := by
    rw [up2_ne _ _ _ (by omega), cpy2_ne (by omega), cpy2_ne (by omega), cpy2_ne (by omega), up2_ne _ _ _ (by omega)]
    have := hB 0 (by omega); rw [Nat.add_zero] at this; rw [this]; exact q6.2.1
  rw [r7]
  have hM10 := q2.2.1
  refine ⟨_, rfl, fun a ha => ?_, q1, q2, ?_, ?_, q5, ⟨?_, ?_, q6.2.2⟩, ?_, fun k hk => ?_⟩
  · rw [F a (by omega) (by omega) (by omega) (by omega), b2.1 a (by omega), a2.1 a (by omega)]
  · have hT : TownR (fun k => A (t0 + 1 + k)) v P C := TownR.copy hP7 hC6 a2 (q3.congr (fun k hk => by show I (t1 + 1 + k) = I (t1 + (1 + k)); rw [Nat.add_assoc]))
    refine hT.congr (fun k hk => ?_)
    show up2 _ t0 7 x (t0 + (1 + k)) = A (t0 + 1 + k)
    rw [F _ (by omega) (by omega) (by omega) (by omega), b2.1 _ (by omega), Nat.add_assoc]
  · have hCc : CourseR (fun k => B (t0 + 10 + k)) v P C := CourseR.copy hP7 hC6 b2 (q4.congr (fun k hk => by show A (t1 + 10 + k) = I (t1 + (10 + k)); rw [Nat.add_assoc, hA _ (by omega)]))
    refine hCc.congr (fun k hk => ?_)
    show up2 _ t0 7 x (t0 + (10 + k)) = B (t0 + 10 + k)
    rw [F _ (by omega) (by omega) (by omega) (by omega), Nat.add_assoc]
  · show up2 _ t0 7 x t0 6 = fo
    rw [up2_at (Or.inr (by decide)), up2_same]
  · show up2 _ t0 7 x t0 7 = x
    rw [up2_same]
  · show up2 _ t0 7 x t0 5 = v 141
    rw [up2_at (Or.inr (by decide)), up2_at (Or.inr (by decide)), cpy2_ne (by omega), cpy2_ne (by omega), cpy2_ne (by omega), up2_same]
  · obtain ⟨z1, z2, z3⟩ := q8 k hk
    have y1 : I (t1 + 20) k = v (111 + 3 * k) := z1
    have y2 : I (t1 + 21) k = v (112 + 3 * k) := z2
    have y3 : I (t1 + 22) k = v (113 + 3 * k) := z3
    refine ⟨?_, ?_, ?_⟩
    · show up2 _ t0 7 x (t0 + 20) k = _
      rw [up2_ne _ _ _ (by omega), up2_ne _ _ _ (by omega), cpy2_ne (by omega), cpy2_ne (by omega), cpy2_in (by omega), up2_ne _ _ _ (by omega), hB 20 (by omega), y1]
    · show up2 _ t0 7 x (t0 + 21) k = _
      rw [up2_ne _ _ _ (by omega), up2_ne _ _ _ (by omega), cpy2_ne (by omega), cpy2_in (by omega), cpy2_ne (by omega), up2_ne _ _ _ (by omega), hB 21 (by omega), y2]
    · show up2 _ t0 7 x (t0 + 22) k = _
      rw [up2_ne _ _ _ (by omega), up2_ne _ _ _ (by omega), cpy2_in (by omega), cpy2_ne (by omega), cpy2_ne (by omega), up2_ne _ _ _ (by omega), hB 22 (by omega), y3]
/-- the image k is laid at q -/
theorem img_core {N b mb P C D M K k q : Nat} {L L1 : List Nat} {S S1 : ST} {Rf Rf1 : RT} {I I' I2 : IT} {J J' : JT} {Rl : Nat → List (List Tk × Option (List Tk))} (hN : 3000 ≤ N) (h : RelB b mb L S Rf I I' P C D M K Rl) (hk : k < 4) (hC : CW b L1 S1 Rf1) (hD : Dyn b L1 Rf1) (hq : Rf1 (b + 27) k = some q) (hb : ∀ j, j < 75 → I2 (b + j) = I (b + j))
    (hr : ∀ j p, Rf (b + 3) j = some p → Rf1 (b + 3) j = some p ∧ I2 (p + 1) = I (p + 1) ∧ S1 (p + 1) = S (p + 1)) (hp : ∀ j p, Rf (b + 29) j = some p → Rf1 (b + 29) j = some p ∧ ∀ i, i ≤ 9 → I2 (p + i) = I (p + i)) (hi : ∀ j, j ≠ k → Rf1 (b + 27) j = Rf (b + 27) j ∧ ∀ p i, Rf (b + 27) j = some p → i < 23 → I2 (p + i) = I (p + i)) :
    ∃ r I1 I1', f8_copy b S1 Rf1 q (b + 4) I2 J = some ((), I1, J) ∧ I1 (b + 14) 9 = r ∧ f12_image N mb (nI k) I' J' = some (r, I1', J') ∧ RelB b mb L1 S1 Rf1 I1 I1' P C D M K Rl := by
  have hqb := (hD.2.1 _ _ _ (Or.inr (Or.inl rfl)) hq).1
  have hst := h.2.2.2.2.1
  have hst2 : StateR (fun i => I2 (b + 4 + i)) (I' (mb + 10)) (I' mb 21) (I' mb 22) P C D M := hst.congr (fun i hi => by rw [Nat.add_assoc]; exact hb _ (by omega))
  obtain ⟨I1, c1, c2, c3⟩ := q8_copy (b := b) (t0 := q) (t1 := b + 4) (S := S1) (Rf := Rf1) (I := I2) (J := J) (by omega) hst2
  have e9 : I1 (b + 14) 9 = nI D := by rw [c2 _ (Or.inl (by omega)), hb 14 (by omega), co_D h.core]
  obtain ⟨I1', r1, r2, r3, r4⟩ := cl_image_L43 (N := N) (mb := mb) (u := k) (J := J') hk 142 0 N (up2 (up2 (up2 I' (mb + 29) k 1) (mb + 27) k (I' mb 21)) (mb + 28) k (I' mb 22)) (by omega) (by omega)
  rw [show nI 0 = (0 : Int32) from rfl] at r1
  have M1 : ∀ a, a ≠ mb + 26 → a ≠ mb + 27 → a ≠ mb + 28 → a ≠ mb + 29 → I1' a = I' a := fun a h1 h2 h3 h4 => by rw [r2 a h1, up2_ne _ _ _ h3, up2_ne _ _ _ h2, up2_ne _ _ _ h4]
  refine ⟨nI D, I1, I1', c1, e9, ?_, ?_⟩
  · unfold f12_image
    rw [l_inc (a := 0) (c := 3) 0 3 rfl rfl, b3s, rngY (hi := 3) 3 rfl (by omega) (by omega), if_neg i10, yb_ck_t (inb_nI hk (by decide)), nI_clamp (by omega), show vp_nar .boolean (1 : Int32) = 1 from rfl, lts, up2_ne I' _ _ (show mb ≠ mb + 29 by omega), lts, up2_ne (up2 I' (mb + 29) k 1) _ _ (show mb ≠ mb + 27 by omega), up2_ne I' _ _ (show mb ≠ mb + 29 by omega), lts, r1, b3s, M1 (mb + 10) (by omega) (by omega) (by omega) (by omega), cv_D h.core]
  · refine h.grow hC hD (fun j hj => (c2 _ (Or.inl (by omega))).trans (hb j hj)) (fun j p e => ?_) (fun j p e => ?_) ⟨by rw [M1 mb (by omega) (by omega) (by omega) (by omega)], by rw [M1 mb (by omega) (by omega) (by omega) (by omega)], by rw [M1 mb (by omega) (by omega) (by omega) (by omega)], by rw [M1 mb (by omega) (by omega) (by omega) (by omega)], by rw [M1 mb (by omega) (by omega) (by omega) (by omega)]⟩ (fun j hj => M1 _ (by omega) (by omega) (by omega) (by omega)) (fun j hj => ?_)
    · obtain ⟨f1, f2, f3⟩ := hr j p e
      have := hD.2.2 _ _ _ _ _ _ (Or.inl rfl) (Or.inr (Or.inl rfl)) f1 hq (Or.inl (by omega))
      rw [slot3, slot27] at this
      exact ⟨f1, (c2 _ (by omega)).trans f2, f3⟩
    · obtain ⟨f1, f2⟩ := hp j p e
      have := hD.2.2 _ _ _ _ _ _ (Or.inr (Or.inr rfl)) (Or.inr (Or.inl rfl)) f1 hq (Or.inl (by omega))
      rw [slot29, slot27] at this
      exact ⟨f1, fun i hi => (c2 _ (by omega)).trans (f2 i hi)⟩
    · by_cases cj : j = k
      · subst cj
        have v29 : I1' (mb + 29) j = 1 := by rw [r2 _ (by omega), up2_ne _ _ _ (by omega), up2_ne _ _ _ (by omega), up2_same]
        have v27 : I1' (mb + 27) j = I' mb 21 := by rw [r2 _ (by omega), up2_ne _ _ _ (by omega), up2_same]
        have v28 : I1' (mb + 28) j = I' mb 22 := by rw [r2 _ (by omega), up2_same]
        right
        refine ⟨q, P, C, D, M, hq, v29, ?_, by rw [v27]; exact h.fo⟩
        rw [v27, v28]
        have hv : ∀ i, i < 142 → I1' (mb + 26) (142 * j + i) = I' (mb + 10) i := fun i hi => by rw [r4 i (by omega) hi, up2_ne _ _ _ (by omega), up2_ne _ _ _ (by omega), up2_ne _ _ _ (by omega)]
        obtain ⟨q1, q2, q3, q4, q5, q6, q7, q8⟩ := c3
        have hP7 := q1.1.2
        have hC6 := q1.2.1.2
        have hM10 := q2.2.1
        refine ⟨q1.vc (fun i hi => hv i (by omega)), ⟨(hv 141 (by omega)).trans q2.1, hM10, fun i hi => ?_⟩, q3.vc hP7 hC6 (fun i hi => hv i (by omega)), q4.vc hP7 hC6 (fun i hi => hv i (by omega)), q5, q6, q7.trans (hv 141 (by omega)).symm, fun i hi => ?_⟩
        · have := hv (112 + 3 * i) (by omega)
          obtain ⟨w, w1, w2⟩ := q2.2.2 i hi
          exact ⟨w, this.trans w1, w2⟩
        · obtain ⟨z1, z2, z3⟩ := q8 i hi
          exact ⟨z1.trans (hv _ (by omega)).symm, z2.trans (hv _ (by omega)).symm, z3.trans (hv _ (by omega)).symm⟩
      · obtain ⟨f1, f2⟩ := hi j cj
        have w29 : I1' (mb + 29) j = I' (mb + 29) j := by rw [r2 _ (by omega), up2_ne _ _ _ (by omega), up2_ne _ _ _ (by omega), up2_at (Or.inr cj)]
        have w27 : I1' (mb + 27) j = I' (mb + 27) j := by rw [r2 _ (by omega), up2_ne _ _ _ (by omega), up2_at (Or.inr cj), up2_ne _ _ _ (by omega)]
        have w28 : I1' (mb + 28) j = I' (mb + 28) j := by rw [r2 _ (by omega), up2_at (Or.inr cj), up2_ne _ _ _ (by omega), up2_ne _ _ _ (by omega)]
        have hv : ∀ i, i < 142 → I1' (mb + 26) (142 * j + i) = I' (mb + 26) (142 * j + i) := fun i hi => by rw [r3 _ (by omega), up2_ne _ _ _ (by omega), up2_ne _ _ _ (by omega), up2_ne _ _ _ (by omega)]
        rw [w29, w27, w28, f1]
        rcases h.2.2.2.2.2.2.2.1 j hj with g | ⟨p, P2, C2, D2, M2, g1, g2, g3, g4⟩
        · exact Or.inl g
        · right
          have := hD.2.2 _ _ _ _ _ _ (Or.inr (Or.inl rfl)) (Or.inr (Or.inl rfl)) (f1.trans g1) hq (Or.inr cj)
          rw [slot27] at this
          refine ⟨p, P2, C2, D2, M2, g1, g2, ?_, g4⟩
          have g5 : StateR (fun i => I1 (p + i)) (fun i => I' (mb + 26) (142 * j + i)) (I' (mb + 27) j) (I' (mb + 28) j) P2 C2 D2 M2 := g3.congr (fun i hh => (c2 _ (by omega)).trans (f2 p i g1 (by omega)))
          obtain ⟨q1, q2, q3, q4, q5, q6, q7, q8⟩ := g5
          have hP7 := q1.1.2
          have hC6 := q1.2.1.2
          have hM10 := q2.2.1
          refine ⟨q1.vc (fun i hi => hv i (by omega)), ⟨(hv 141 (by omega)).trans q2.1, hM10, fun i hi => ?_⟩, q3.vc hP7 hC6 (fun i hi => hv i (by omega)), q4.vc hP7 hC6 (fun i hi => hv i (by omega)), q5, q6, q7.trans (hv 141 (by omega)).symm, fun i hi => ?_⟩
          · have := hv (112 + 3 * i) (by omega)
            obtain ⟨w, w1, w2⟩ := q2.2.2 i hi
            exact ⟨w, this.trans w1, w2⟩
          · obtain ⟨z1, z2, z3⟩ := q8 i hi
            exact ⟨z1.trans (hv _ (by omega)).symm, z2.trans (hv _ (by omega)).symm, z3.trans (hv _ (by omega)).symm⟩
