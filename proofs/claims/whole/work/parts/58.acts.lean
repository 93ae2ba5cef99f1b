/-! THE ACTS: what is made new, and day, hear, teach, undo -/
section GROW
variable {b mb P C D D1 M K : Nat} {L L1 : List Nat} {S S1 : ST} {Rf Rf1 : RT} {I I' I1 I1' : IT} {Rl : Nat → List (List Tk × Option (List Tk))}
theorem RelB.grow (h : RelB b mb L S Rf I I' P C D M K Rl) (hC : CW b L1 S1 Rf1) (hD : Dyn b L1 Rf1) (hb : ∀ k, k < 75 → I1 (b + k) = I (b + k))
    (hr : ∀ k q, Rf (b + 3) k = some q → Rf1 (b + 3) k = some q ∧ I1 (q + 1) = I (q + 1) ∧ S1 (q + 1) = S (q + 1)) (hp : ∀ k q, Rf (b + 29) k = some q → Rf1 (b + 29) k = some q ∧ ∀ i, i ≤ 9 → I1 (q + i) = I (q + i))
    (m : I1' mb 1 = I' mb 1 ∧ I1' mb 2 = I' mb 2 ∧ I1' mb 21 = I' mb 21 ∧ I1' mb 22 = I' mb 22 ∧ I1' mb 24 = I' mb 24) (mk : ∀ k, (k = 1 ∨ k = 2 ∨ k = 4 ∨ k = 5 ∨ k = 10 ∨ k = 11) → I1' (mb + k) = I' (mb + k)) (hImg : ImgR b mb K Rf1 I1 I1') : RelB b mb L1 S1 Rf1 I1 I1' P C D M K Rl := by
  obtain ⟨h1, h2, h3, h4, h5, h6, ⟨h7, h8, h9⟩, h10, h11⟩ := h
  obtain ⟨m1, m2, m21, m22, m24⟩ := m
  have hb0 : I1 b = I b := hb 0 (by omega)
  have hbk : ∀ j k, j + k < 75 → I1 (b + j + k) = I (b + j + k) := fun j k hk => by rw [Nat.add_assoc]; exact hb _ hk
  refine ⟨h1, ⟨hC, h2.2.cg (fun a g1 g2 => by have := hb (a - b) (by omega); rwa [show b + (a - b) = a by omega] at this)⟩, hD, ?_, ?_, ?_, ⟨?_, ?_, ?_⟩, hImg, ?_⟩
  · rw [hb0, hb 1 (by omega), m1, mk 1 (by decide)]; exact h4
  · rw [m21, m22, mk 10 (by decide)]; exact h5.congr (fun k hk => hbk _ _ (by omega))
  · rw [m21]; exact h6
  · rw [hb0]; exact h7
  · rw [m2]; exact h8
  · refine ⟨h9.1, fun k hk => ?_⟩
    obtain ⟨q, e1, e2, e3, e4, e5, e6, e7, e8⟩ := h9.2 k hk
    obtain ⟨f1, f2, f3⟩ := hr k q e1
    exact ⟨q, f1, by rw [f3]; exact e2, e3, by rw [f2]; exact e4, e5, by rw [mk 5 (by decide)]; exact e6, e7, e8.congr (mk 4 (by decide)) (mk 2 (by decide))⟩
  · obtain ⟨nx, u, g1, g2, g3, g4, g5, g6⟩ := h11
    refine ⟨nx, u, g1, g2, ?_, ?_, ?_, fun j hj => ?_⟩
    · rw [hb 28 (by omega)]; exact g3
    · rw [hb 28 (by omega)]; exact g4
    · rw [m24]; exact g5
    · obtain ⟨q, D, e1, e2, e3, e4, e5⟩ := g6 j hj
      obtain ⟨f1, f2⟩ := hp _ q e1
      rw [mk 11 (by decide)]
      exact ⟨q, D, f1, e2, e3, e4.congr (fun k hk => hbk _ _ (by omega)), e5.congr (fun k hk => f2 k hk)⟩
end GROW
theorem slot3 (b : Nat) : slotLen b (b + 3) = 2 := by unfold slotLen; rw [if_pos rfl]
theorem slot27 (b : Nat) : slotLen b (b + 27) = 23 := by unfold slotLen; rw [if_neg (by omega), if_pos rfl]
theorem slot29 (b : Nat) : slotLen b (b + 29) = 10 := by unfold slotLen; rw [if_neg (by omega), if_neg (by omega)]
theorem slot_pos (b a : Nat) : 1 ≤ slotLen b a := by
  unfold slotLen
  split
  · omega
  · split <;> omega
/-- one more slot filled by what was just made -/
theorem Dyn.grow {b z x n0 ln : Nat} {L : List Nat} {Rf Rf1 : RT} (h : Dyn b L Rf) (hx : Slot b x) (hl : slotLen b x = ln) (hz : ∀ a ∈ L, a < z) (hzb : b + 105 ≤ z) (h1 : Rf1 x n0 = some z) (h2 : ∀ a k, Slot b a → (a ≠ x ∨ k ≠ n0) → Rf1 a k = Rf a k) : Dyn b (apn L z ln) Rf1 := by
  obtain ⟨d1, d2, d3⟩ := h
  have key : ∀ a k q, Slot b a → Rf1 a k = some q → (a = x ∧ k = n0 ∧ q = z) ∨ ((a ≠ x ∨ k ≠ n0) ∧ Rf a k = some q) := by
    intro a k q ha hq
    by_cases c1 : a = x
    · by_cases c2 : k = n0
      · subst c1 c2
        rw [h1] at hq
        exact Or.inl ⟨rfl, rfl, (Option.some.inj hq).symm⟩
      · exact Or.inr ⟨Or.inr c2, by rw [← h2 a k ha (Or.inr c2)]; exact hq⟩
    · exact Or.inr ⟨Or.inl c1, by rw [← h2 a k ha (Or.inl c1)]; exact hq⟩
  have old : ∀ a k q, Slot b a → Rf a k = some q → q + slotLen b a ≤ z := by
    intro a k q ha hq
    have := slot_pos b a
    have := hz _ ((d2 a k q ha hq).2 (slotLen b a - 1) (by omega))
    omega
  refine ⟨fun a ha => ?_, fun a k q ha hq => ?_, fun a k q a' k' q' ha ha' hq hq' hne => ?_⟩
  · rcases apn_mem ln ha with g | g
    · exact d1 a g
    · right; omega
  · rcases key a k q ha hq with ⟨rfl, rfl, rfl⟩ | ⟨_, g⟩
    · exact ⟨hzb, fun i hi => apn_new ln (by rw [hl] at hi; exact hi)⟩
    · exact ⟨(d2 a k q ha g).1, fun i hi => apn_old ((d2 a k q ha g).2 i hi) ln⟩
  · rcases key a k q ha hq with ⟨rfl, rfl, rfl⟩ | ⟨_, g⟩ <;> rcases key a' k' q' ha' hq' with ⟨rfl, rfl, rfl⟩ | ⟨_, g'⟩
    · exact absurd hne (by simp)
    · right; exact old _ _ _ ha' g'
    · left; exact old _ _ _ ha g
    · exact d3 a k q a' k' q' ha ha' g g' hne
section ACTS
variable {N b mb z P C D D1 M K : Nat} {L : List Nat} {S : ST} {Rf : RT} {I I' I1 I1' : IT} {J J' : JT} {Rl : Nat → List (List Tk × Option (List Tk))}
theorem rel_new (h : RelB b mb L S Rf I I' P C D M K Rl) (hz : ∀ a ∈ L, a < z) (hzm : ∀ a ∈ mlL mb, a < z) (hn : Rf (b + 29) (I (b + 28) 1).toNatClampNeg = none) : RelB b mb (apn L z 10) (nwC z S Rf I J).1 (kpR b z S Rf I J) (nwC z S Rf I J).2.2.1 I' P C D M K Rl := by
  have hmb := h.1
  have hCW := h.2.1.1
  have hDy := h.2.2.1
  have hzb : b + 105 ≤ z := by
    have := hzm _ (ml_mem mb 29 (by decide))
    omega
  have hR : ∀ a k, a < z → a ≠ b + 29 → kpR b z S Rf I J a k = Rf a k := fun a k ha hne => by unfold kpR; rw [up2R_ne _ _ _ hne, nwC_R ha]
  have hR29 : kpR b z S Rf I J (b + 29) = va_up (Rf (b + 29)) (I (b + 28) 1).toNatClampNeg (some z) := by unfold kpR; rw [up2R_self, nwC_R (by omega)]
  have h29k : ∀ k, k ≠ (I (b + 28) 1).toNatClampNeg → kpR b z S Rf I J (b + 29) k = Rf (b + 29) k := fun k hk => by rw [hR29, va_up_ne _ _ hk]
  refine h.grow (kp_cw hCW hz) (hDy.grow (n0 := (I (b + 28) 1).toNatClampNeg) (Or.inr (Or.inr rfl)) (slot29 b) hz hzb (by rw [hR29, va_up_self]) (fun a k ha hne => ?_)) (fun k hk => nwC_I (by omega)) (fun k q e => ?_) (fun k q e => ?_) ⟨rfl, rfl, rfl, rfl, rfl⟩ (fun _ _ => rfl) ?_
  · by_cases c : a = b + 29
    · subst c; exact h29k k (hne.elim (fun g => absurd rfl g) id)
    · refine hR a k ?_ c
      rcases ha with rfl | rfl | rfl <;> omega
  · have hq := hz _ ((hDy.2.1 _ k q (Or.inl rfl) e).2 1 (by rw [slot3]; omega))
    exact ⟨by rw [hR _ _ (by omega) (by omega)]; exact e, nwC_I hq, nwC_S hq⟩
  · refine ⟨?_, fun i hi => nwC_I (hz _ ((hDy.2.1 _ k q (Or.inr (Or.inr rfl)) e).2 i (by rw [slot29]; omega)))⟩
    rw [h29k k (fun g => by rw [g, hn] at e; cases e)]; exact e
  · intro k hk
    rw [hR _ _ (by omega) (by omega)]
    rcases h.2.2.2.2.2.2.2.1 k hk with q | ⟨q, P, C, D, M, e1, e2, e3, e4⟩
    · exact Or.inl q
    · exact Or.inr ⟨q, P, C, D, M, e1, e2, e3.congr (fun i hi => nwC_I (hz _ ((hDy.2.1 _ k q (Or.inr (Or.inl rfl)) e1).2 i (by rw [slot27]; omega)))), e4⟩
/-- an act changed the course alone -/
theorem RelB.act (h : RelB b mb L S Rf I I' P C D M K Rl) (hI : ∀ a, (a < b + 14 ∨ b + 23 < a) → I1 a = I a) (hM : ∀ a k, a ≠ mb + 10 → (a ≠ mb ∨ k ≠ 18) → I1' a k = I' a k) (hv : ∀ i, 111 ≤ i → I1' (mb + 10) i = I' (mb + 10) i) (hc : CoreR b mb I1 I1' P C D1) (hd : D1 ≤ 999) : RelB b mb L S Rf I1 I1' P C D1 M K Rl := by
  have hDy := h.2.2.1
  have hMa : ∀ k, k ≠ 10 → 0 < k → I1' (mb + k) = I' (mb + k) := fun k h1 h2 => funext fun j => hM _ j (by omega) (Or.inl (by omega))
  have hMb : ∀ k, k ≠ 18 → I1' mb k = I' mb k := fun k hk => hM mb k (by omega) (Or.inr hk)
  refine h.swapK (fun k hk => hI _ (Or.inl (by omega))) (fun k h1 h2 => hI _ (Or.inr (by omega))) (fun a h1 h2 => hI _ (Or.inr (by omega))) (fun k q e => ?_) (fun k q i e hi => ?_) ⟨hMb 1 (by decide), hMb 2 (by decide), hMb 21 (by decide), hMb 22 (by decide)⟩ (fun k hk => hMa k (by omega) (by omega)) hv hd hc.1 hc.2.1 hc.2.2 ?_
  · have := (hDy.2.1 _ k q (Or.inl rfl) e).1
    exact hI _ (Or.inr (by omega))
  · have := (hDy.2.1 _ k q (Or.inr (Or.inl rfl)) e).1
    exact hI _ (Or.inr (by omega))
  · obtain ⟨nx, u, g1, g2, g3, g4, g5, g6⟩ := h.2.2.2.2.2.2.2.2
    refine ⟨nx, u, g1, g2, ?_, ?_, ?_, fun j hj => ?_⟩
    · rw [hI (b + 28) (Or.inr (by omega))]; exact g3
    · rw [hI (b + 28) (Or.inr (by omega))]; exact g4
    · rw [hMb 24 (by decide)]; exact g5
    · obtain ⟨q, D, e1, e2, e3, e4, e5⟩ := g6 j hj
      have hq := (hDy.2.1 _ _ q (Or.inr (Or.inr rfl)) e1).1
      rw [hMa 11 (by decide) (by decide)]
      exact ⟨q, D, e1, e2, e3, e4.congr (fun k hk => hI _ (Or.inl (by omega))), e5.congr (fun k hk => hI _ (Or.inr (by omega)))⟩
theorem day_core (hN : 3000 ≤ N) (h : RelB b mb L S Rf I I' P C D M K Rl) (hv0 : I' (mb + 10) 0 ≠ 0) (hd : D < 999) (hs : ∃ q, Rf (b + 29) (I (b + 28) 1).toNatClampNeg = some q) : ∃ r I1 J1 I1' J1' I2 I2' J2', f2_keep b S Rf (b + 14) I J = some ((), I2, J) ∧ h11_day_B N b S Rf I2 J = some (r, I1, J1) ∧ f12_keepsAct N mb I' J' = some ((), I2', J2') ∧ (yb_b3 (f12_passes N mb I2' J2') fun r_11 I_12 J_13 => yb_b3 (f12_bits N mb r_11 I_12 J_13) fun r_15 I_16 J_17 => some (r_15, I_16, J_17)) = some (r, I1', J1') ∧ RelB b mb L S Rf I1 I1' P C (D + 1) M K Rl := by
  obtain ⟨I2, I2', k1, k2, h2, k3, k4⟩ := q_keep (J := J) (J' := J') hN h hs
  obtain ⟨q, I1, I1', p1, p2, p3, p4, p5, p6, p7⟩ := q_pass (N := N) (S := S) (Rf := Rf) (J := J) (J' := J') (by omega) (show D ≤ 1199 by omega) h2.core (by rw [k3]; exact hv0)
  obtain ⟨b1, b2⟩ := q_bits (N := N) (mb := mb) (q := q) (I := I1) (I' := I1') (J := J) (J' := J') (by omega) p3
  refine ⟨bcV (nI q), I1, J, I1', J', I2, I2', J', k1, ?_, k2, ?_, h2.act p5 (fun a k h1 _ => by rw [p6 a h1]) p7 p4 (by omega)⟩
  · unfold h11_day_B; rw [p1, b3s, b1, b3s]
  · rw [p2, b3s, b2, b3s]
theorem hear_core {c j : Nat} (hN : 3000 ≤ N) (h : RelB b mb L S Rf I I' P C D M K Rl) (hc : c < C) (hj : j < P) (hs : ∃ q, Rf (b + 29) (I (b + 28) 1).toNatClampNeg = some q) : ∃ r I1 J1 I1' J1' I2 I2' J2', f2_keep b S Rf (b + 14) I J = some ((), I2, J) ∧ h11_hear_B N b S Rf (nI c) (nI j) I2 J = some (r, I1, J1) ∧ f12_keepsAct N mb I' J' = some ((), I2', J2') ∧ f12_begins N mb (nI c) (nI j) I2' J2' = some (r, I1', J1') ∧ RelB b mb L S Rf I1 I1' P C D M K Rl := by
  have hC6 := co_C6 h.core
  obtain ⟨I2, I2', k1, k2, h2, k3, k4⟩ := q_keep (J := J) (J' := J') hN h hs
  obtain ⟨r, I1, J1, I1', J1', p1, p2, p3, p4, p5, p6, p7, p8⟩ := q_begin (N := N) (J := J) (J' := J') (by omega) h2.core h2.rules h2.f6 rfl h2.fo hc hj
  refine ⟨r, I1, J1, I1', J1', I2, I2', J', k1, ?_, k2, p3, h2.act (fun a ha => p5 a (by omega) (by omega) (by omega)) p6 p7 p4 h.d999⟩
  unfold h11_hear_B; rw [p1, b3s, yb_ck_t (inb_nI (by omega) (by decide)), nI_clamp (by omega), p2]
end ACTS
theorem keep_B {N b t : Nat} {S : ST} {Rf : RT} {I : IT} {J : JT} : h2_keep_B N b S Rf t I J = f2_keep b S Rf t I J := rfl
theorem G_day {N : Nat} (hN : 3000 ≤ N) : Gd_day N RelY := by
  intro b mb L S Rf I J I' J' hR
  obtain ⟨P, C, D, M, K, Rl, h⟩ := hR
  have hc := h.core
  have hd9 := h.d999
  rcases co_isTown (J' := J') hc with ⟨t1, t2⟩ | ⟨t1, t2, t3⟩
  · left
    refine ⟨-1, I, J, I', J', ?_, ?_, P, C, D, M, K, Rl, h⟩
    · unfold f11_day; rw [t1, if_pos rfl]
    · unfold f12_day; rw [t2, b3s, if_pos rfl]
  · by_cases cd : D = 999
    · left
      refine ⟨-1, I, J, I', J', ?_, ?_, P, C, D, M, K, Rl, h⟩
      · unfold f11_day; rw [t1, if_neg i10, co_D hc, if_neg (show ¬ nI D < (999 : Int32) from nI_nlt (b := 999) (by omega) (by omega))]
      · unfold f12_day; rw [t2, b3s, if_neg i10, cv_D hc, if_pos (by rw [cd]; rfl)]
    · have hcl : nI D < (999 : Int32) := nI_lt (b := 999) (by omega) (by omega)
      have hre : ¬ nI D = (999 : Int32) := nI_nl 999 rfl (by omega) (by omega) cd
      have hdd : ∀ (I0 : IT) (hb : ∀ k, k < 75 → I0 (b + k) = I (b + k)), True := fun _ _ => trivial
      cases hq : Rf (b + 29) (I (b + 28) 1).toNatClampNeg with
      | some q =>
        left
        obtain ⟨r, I1, J1, I1', J1', I2, I2', J2', e1, e2, e3, e4, e5⟩ := day_core (J := J) (J' := J') hN h t3 (by omega) ⟨q, hq⟩
        refine ⟨r, I1, J1, I1', J1', ?_, ?_, P, C, D + 1, M, K, Rl, e5⟩
        · unfold f11_day; rw [t1, if_neg i10, co_D hc, if_pos hcl, e1, b3s]; exact e2
        · unfold f12_day; rw [t2, b3s, if_neg i10, cv_D hc, if_neg hre, e3, b3s]; exact e4
      | none =>
        right
        intro z hz hzm
        have hmb := h.1
        have hzb : b + 105 ≤ z := by
          have := hzm _ (ml_mem mb 29 (by decide))
          omega
        have h2 := rel_new (J := J) h hz hzm hq
        have h28 : (nwC z S Rf I J).2.2.1 (b + 28) 1 = I (b + 28) 1 := by rw [nwC_I (by omega)]
        obtain ⟨nx, u, g1, g2, g3, _⟩ := h.2.2.2.2.2.2.2.2
        obtain ⟨r, I1, J1, I1', J1', I2, I2', J2', e1, e2, e3, e4, e5⟩ := day_core (J := (nwC z S Rf I J).2.2.2) (J' := J') hN h2 t3 (by omega) ⟨z, by rw [h28]; unfold kpR; rw [up2R_self, va_up_self]⟩
        refine ⟨r, _, _, I1, J1, I1', J1', ?_, ?_, P, C, D + 1, M, K, Rl, e5⟩
        · unfold f11_dayN; rw [t1, if_neg i10, co_D hc, if_pos hcl, yb_ck_t (by rw [g3]; exact inb_nI g1 (by decide)), hq, opn, keep_B, e1, b3s, e2, b3s]
        · unfold f12_day; rw [t2, b3s, if_neg i10, cv_D hc, if_neg hre, e3, b3s]; exact e4
theorem G_hear {N : Nat} (hN : 3000 ≤ N) : Gd_hear N RelY := by
  intro b mb L S Rf I J I' J' x1 x2 hR
  obtain ⟨P, C, D, M, K, Rl, h⟩ := hR
  have hc := h.core
  rcases co_isCase (J := J) (J' := J') (S := S) (Rf := Rf) hc x1 with ⟨a1, a2⟩ | ⟨c, hcC, rfl, a1, a2⟩
  · left
    refine ⟨-1, I, J, I', J', ?_, ?_, P, C, D, M, K, Rl, h⟩
    · unfold f11_hear; rw [both_n1 a1, b3s, if_pos rfl]
    · unfold f12_hear; rw [a2, b3s, if_pos rfl]
  · rcases co_isPerson (J := J) (J' := J') (S := S) (Rf := Rf) hc x2 with ⟨p1, p2⟩ | ⟨j, hj, rfl, p1, p2⟩
    · left
      refine ⟨-1, I, J, I', J', ?_, ?_, P, C, D, M, K, Rl, h⟩
      · unfold f11_hear; rw [both_n2 a1 p1, b3s, if_pos rfl]
      · unfold f12_hear; rw [a2, b3s, if_neg i10, p2, b3s, if_pos rfl]
    · obtain ⟨w, w0, w1, w2, w3⟩ := q_may (N := N) (S := S) (Rf := Rf) (J := J) (J' := J') (by omega) hc hcC hj
      rcases w0 with rfl | rfl
      · left
        refine ⟨-1, I, J, I', J', ?_, ?_, P, C, D, M, K, Rl, h⟩
        · unfold f11_hear; rw [both_y a1 p1, b3s, if_neg i10, w1, b3s, if_pos rfl]
        · unfold f12_hear; rw [a2, b3s, if_neg i10, p2, b3s, if_neg i10, w2, b3s, if_pos rfl]
      · cases hq : Rf (b + 29) (I (b + 28) 1).toNatClampNeg with
        | some q =>
          left
          obtain ⟨r, I1, J1, I1', J1', I2, I2', J2', e1, e2, e3, e4, e5⟩ := hear_core (J := J) (J' := J') hN h hcC hj ⟨q, hq⟩
          refine ⟨r, I1, J1, I1', J1', ?_, ?_, P, C, D, M, K, Rl, e5⟩
          · unfold f11_hear; rw [both_y a1 p1, b3s, if_neg i10, w1, b3s, if_neg i10, e1, b3s]; exact e2
          · unfold f12_hear; rw [a2, b3s, if_neg i10, p2, b3s, if_neg i10, w2, b3s, if_neg i10, e3, b3s, e4, b3s]
        | none =>
          right
          intro z hz hzm
          have hmb := h.1
          have hzb : b + 105 ≤ z := by
            have := hzm _ (ml_mem mb 29 (by decide))
            omega
          have h2 := rel_new (J := J) h hz hzm hq
          have h28 : (nwC z S Rf I J).2.2.1 (b + 28) 1 = I (b + 28) 1 := by rw [nwC_I (by omega)]
          obtain ⟨nx, u, g1, g2, g3, _⟩ := h.2.2.2.2.2.2.2.2
          obtain ⟨r, I1, J1, I1', J1', I2, I2', J2', e1, e2, e3, e4, e5⟩ := hear_core (J := (nwC z S Rf I J).2.2.2) (J' := J') hN h2 hcC hj ⟨z, by rw [h28]; unfold kpR; rw [up2R_self, va_up_self]⟩
          refine ⟨r, _, _, I1, J1, I1', J1', ?_, ?_, P, C, D, M, K, Rl, e5⟩
          · unfold f11_hearN; rw [both_y a1 p1, b3s, if_neg i10, w1, b3s, if_neg i10, yb_ck_t (by rw [g3]; exact inb_nI g1 (by decide)), hq, opn, keep_B, e1, b3s, e2, b3s]
          · unfold f12_hear; rw [a2, b3s, if_neg i10, p2, b3s, if_neg i10, w2, b3s, if_neg i10, e3, b3s, e4, b3s]
