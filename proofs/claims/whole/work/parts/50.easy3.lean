theorem both_n1 {b : Nat} {S : ST} {Rf : RT} {I : IT} {J : JT} {x1 x2 : Int32} (a1 : f9_hasCase b S Rf (b + 5) x1 I J = some (0, I, J)) : f11_hasBoth b S Rf x1 x2 I J = some (0, I, J) := by
  unfold f11_hasBoth
  rw [a1, b3s, if_pos rfl]
theorem both_n2 {b : Nat} {S : ST} {Rf : RT} {I : IT} {J : JT} {x1 x2 : Int32} (a1 : f9_hasCase b S Rf (b + 5) x1 I J = some (1, I, J)) (a2 : f9_hasPerson b S Rf (b + 5) x2 I J = some (0, I, J)) : f11_hasBoth b S Rf x1 x2 I J = some (0, I, J) := by
  unfold f11_hasBoth
  rw [a1, b3s, if_neg i10, a2, b3s, if_pos rfl]
theorem both_y {b : Nat} {S : ST} {Rf : RT} {I : IT} {J : JT} {x1 x2 : Int32} (a1 : f9_hasCase b S Rf (b + 5) x1 I J = some (1, I, J)) (a2 : f9_hasPerson b S Rf (b + 5) x2 I J = some (1, I, J)) : f11_hasBoth b S Rf x1 x2 I J = some (1, I, J) := by
  unfold f11_hasBoth
  rw [a1, b3s, if_neg i10, a2, b3s, if_neg i10]
theorem G_can {N : Nat} (hN : 1000 ≤ N) : Gd_can N RelY := by
  intro b mb L S Rf I J I' J' x1 x2 x3 hR
  obtain ⟨P, C, D, M, K, Rl, h⟩ := hR
  have hc := h.core
  have hh : ∀ r, ∃ (r_1 : Int32) (I1 : IT) (J1 : JT) (I1' : IT) (J1' : JT), some (r, I, J) = some (r_1, I1, J1) ∧ some (r, I', J') = some (r_1, I1', J1') ∧ RelY b mb L S Rf I1 J1 I1' J1' := fun r => ⟨r, I, J, I', J', rfl, rfl, P, C, D, M, K, Rl, h⟩
  unfold f11_can f12_can
  rcases co_isCase (J := J) (J' := J') (S := S) (Rf := Rf) hc x1 with ⟨a1, a2⟩ | ⟨c, hcC, rfl, a1, a2⟩
  · rw [both_n1 a1, a2, b3s, b3s, if_pos rfl, if_pos rfl]; exact hh _
  · rcases co_isPerson (J := J) (J' := J') (S := S) (Rf := Rf) hc x2 with ⟨p1, p2⟩ | ⟨j, hj, rfl, p1, p2⟩
    · rw [both_n2 a1 p1, a2, b3s, b3s, if_pos rfl, if_neg i10, p2, b3s, if_pos rfl]; exact hh _
    · rw [both_y a1 p1, a2, b3s, b3s, if_neg i10, if_neg i10, p2, b3s, if_neg i10, l_inc (a := 0) (c := 999) 0 999 rfl rfl, b3s]
      by_cases hk : ∃ d, d ≤ 999 ∧ x3 = nI d
      · obtain ⟨d, hd, rfl⟩ := hk
        rw [rngY (hi := 999) 999 rfl (by omega) hd, if_neg i10, if_neg (nI_pos (by omega)), if_pos (show nI d ≤ (999 : Int32) from nI_le (b := 999) hd (by omega)), q1_canHear hc hcC hj, b3s, q12_canHear (by omega) hc hcC hj (by omega), b3s]
        rcases canH01 (I' (mb + 10)) c j (nI d) with e | e
        · rw [e, if_pos rfl, if_pos rfl]; exact hh _
        · rw [e, if_neg i10, if_neg i10]; exact hh _
      · have hn : ∀ d, d ≤ 999 → x3 ≠ nI d := fun d hd e => hk ⟨d, hd, e⟩
        rw [rngN (hi := 999) 999 rfl hn, if_pos rfl]
        by_cases c0 : x3 < 0
        · rw [if_pos c0]; exact hh _
        · rw [if_neg c0, if_neg (fun q => by obtain ⟨d, hd, e⟩ := nI_of2 (M := 999) (n := 999) rfl c0 q; exact hn d hd e)]; exact hh _
theorem G_right {N : Nat} (hN : 1000 ≤ N) : Gd_right N RelY := by
  intro b mb L S Rf I J I' J' x1 x2 hR
  obtain ⟨P, C, D, M, K, Rl, h⟩ := hR
  have hc := h.core
  have hh : ∀ r, ∃ (r_1 : Int32) (I1 : IT) (J1 : JT) (I1' : IT) (J1' : JT), some (r, I, J) = some (r_1, I1, J1) ∧ some (r, I', J') = some (r_1, I1', J1') ∧ RelY b mb L S Rf I1 J1 I1' J1' := fun r => ⟨r, I, J, I', J', rfl, rfl, P, C, D, M, K, Rl, h⟩
  unfold f11_right f12_right
  rcases co_isCase (J := J) (J' := J') (S := S) (Rf := Rf) hc x1 with ⟨a1, a2⟩ | ⟨c, hcC, rfl, a1, a2⟩
  · rw [both_n1 a1, a2, b3s, b3s, if_pos rfl, if_pos rfl]; exact hh _
  · rcases co_isPerson (J := J) (J' := J') (S := S) (Rf := Rf) hc x2 with ⟨p1, p2⟩ | ⟨j, hj, rfl, p1, p2⟩
    · rw [both_n2 a1 p1, a2, b3s, b3s, if_pos rfl, if_neg i10, p2, b3s, if_pos rfl]; exact hh _
    · obtain ⟨J1, r1⟩ := q1_rightNow (J := J) hN hc h.rules h.f6 h.fo hcC hj
      obtain ⟨I1', J1', s1, s2, s3⟩ := q12_rightOf (J' := J') hN hc h.rules rfl h.fo (d := I' (mb + 10) 4) hcC hj
      rw [both_y a1 p1, a2, b3s, b3s, if_neg i10, if_neg i10, p2, b3s, if_neg i10, r1, s1, b3s, b3s]
      exact ⟨_, _, _, _, _, rfl, rfl, P, C, D, M, K, Rl, h.keep (Same.rf _ _) (SameM.top s2)⟩
theorem soon_L {N b mb P C D c j : Nat} {I I' : IT} {J J' : JT} {S : ST} {Rf : RT} (hN : 1000 ≤ N) (h : CoreR b mb I I' P C D) (hc : c < C) (hj : j < P) : ∀ r k n n', k + r = 100 → r < n → r < n' → ∃ q, f11_soonest_L25 N b S Rf (nI c) (nI j) (nI D) n (nI (D + k)) I J = some (q, I, J) ∧ f12_soonest_L25 N mb (nI c) (nI j) n' (nI (D + k)) I' J' = some (q, I', J') := by
  have h12 := co_D12 h
  intro r
  induction r with
  | zero =>
    intro k n n' hk hn hn'
    obtain ⟨n, rfl⟩ : ∃ q, n = q + 1 := ⟨n - 1, by omega⟩
    obtain ⟨n', rfl⟩ : ∃ q, n' = q + 1 := ⟨n' - 1, by omega⟩
    have e : nI D + 100 ≤ nI (D + k) := by
      show nI D + nI 100 ≤ _
      rw [nI_add]; exact nI_le (by omega) (by omega)
    rw [f11_soonest_L25, f12_soonest_L25, cv_D h, if_pos e, if_pos e]
    exact ⟨_, rfl, rfl⟩
  | succ r ih =>
    intro k n n' hk hn hn'
    obtain ⟨n, rfl⟩ : ∃ q, n = q + 1 := ⟨n - 1, by omega⟩
    obtain ⟨n', rfl⟩ : ∃ q, n' = q + 1 := ⟨n' - 1, by omega⟩
    have e : ¬ nI D + 100 ≤ nI (D + k) := by
      show ¬ nI D + nI 100 ≤ _
      rw [nI_add]; exact nI_ge (by omega) (by omega)
    rw [f11_soonest_L25, f12_soonest_L25, cv_D h, if_neg e, if_neg e, q1_canHear h hc hj, q12_canHear (by omega) h hc hj (by omega), b3s, b3s]
    rcases canH01 (I' (mb + 10)) c j (nI (D + k)) with q | q
    · rw [q, if_pos rfl, if_pos rfl, lts, lts, nI_1]
      exact ih (k + 1) n n' (by omega) (by omega) (by omega)
    · rw [q, if_neg i10, if_neg i10]
      exact ⟨_, rfl, rfl⟩
theorem G_soonest {N : Nat} (hN : 1000 ≤ N) : Gd_soonest N RelY := by
  intro b mb L S Rf I J I' J' x1 x2 hR
  obtain ⟨P, C, D, M, K, Rl, h⟩ := hR
  have hc := h.core
  have hh : ∀ r, ∃ (r_1 : Int32) (I1 : IT) (J1 : JT) (I1' : IT) (J1' : JT), some (r, I, J) = some (r_1, I1, J1) ∧ some (r, I', J') = some (r_1, I1', J1') ∧ RelY b mb L S Rf I1 J1 I1' J1' := fun r => ⟨r, I, J, I', J', rfl, rfl, P, C, D, M, K, Rl, h⟩
  unfold f11_soonest f12_soonest
  rcases co_isCase (J := J) (J' := J') (S := S) (Rf := Rf) hc x1 with ⟨a1, a2⟩ | ⟨c, hcC, rfl, a1, a2⟩
  · rw [both_n1 a1, a2, b3s, b3s, if_pos rfl, if_pos rfl]; exact hh _
  · rcases co_isPerson (J := J) (J' := J') (S := S) (Rf := Rf) hc x2 with ⟨p1, p2⟩ | ⟨j, hj, rfl, p1, p2⟩
    · rw [both_n2 a1 p1, a2, b3s, b3s, if_pos rfl, if_neg i10, p2, b3s, if_pos rfl]; exact hh _
    · obtain ⟨q, r1, r2⟩ := soon_L (S := S) (Rf := Rf) (J := J) (J' := J') hN hc hcC hj 100 0 N N rfl (by omega) (by omega)
      rw [Nat.add_zero] at r1 r2
      rw [both_y a1 p1, a2, b3s, b3s, if_neg i10, if_neg i10, p2, b3s, if_neg i10, lts, lts, co_D hc, cv_D hc, r1, r2, b3s, b3s]
      cases q with
      | inl x => rw [sml, sml]; exact hh _
      | inr x => rw [smr, smr]; exact hh _
/-! the picture changed beyond its first 111 places -/
theorem SaidOK.vc {v v1 : Nat → Int32} {P C D : Nat} (hv : ∀ i, i < 111 → v1 i = v i) (h : SaidOK v P C D) : SaidOK v1 P C D := by
  obtain ⟨⟨a1, a2⟩, ⟨b1, b2⟩, ⟨c1, c2⟩, d, e, f, g, t⟩ := h
  refine ⟨⟨by rw [hv 2 (by decide)]; exact a1, a2⟩, ⟨by rw [hv 3 (by decide)]; exact b1, b2⟩, ⟨by rw [hv 4 (by decide)]; exact c1, c2⟩, ?_, fun p hp => ?_, fun c hc => ?_, fun c hc => ?_, fun j a hj ha => ?_⟩
  · rw [hv 0 (by decide), hv 1 (by decide), hv 5 (by decide), hv 6 (by decide)]; exact d
  · rw [hv (10 + 5 * p) (by omega), hv (11 + 5 * p) (by omega), hv (12 + 5 * p) (by omega)]; exact e p hp
  · rw [hv (45 + 11 * c) (by omega), hv (46 + 11 * c) (by omega), hv (47 + 11 * c) (by omega), hv (48 + 11 * c) (by omega)]; exact f c hc
  · rw [hv (49 + 11 * c) (by omega), hv (50 + 11 * c) (by omega), hv (51 + 11 * c) (by omega), hv (54 + 11 * c) (by omega)]; exact g c hc
  · have := t j a hj ha
    unfold twM at this ⊢
    rw [hv (13 + 5 * a) (by omega), hv (13 + 5 * j) (by omega)]; exact this
theorem TownR.vc {g : Nat → Nat → Int32} {v v1 : Nat → Int32} {P C : Nat} (hP : P ≤ 7) (hC : C ≤ 6) (hv : ∀ i, i < 111 → v1 i = v i) (h : TownR g v P C) : TownR g v1 P C := by
  obtain ⟨a, d, e, f, k⟩ := h
  refine ⟨?_, ?_, ?_, fun p hp => ?_, fun c hc => ?_⟩
  · rw [hv 0 (by decide), hv 1 (by decide), hv 2 (by decide), hv 3 (by decide)]; exact a
  · rw [hv 0 (by decide), hv 5 (by decide), hv 6 (by decide)]; exact d
  · rw [hv 0 (by decide)]; exact e
  · rw [hv (10 + 5 * p) (by omega), hv (12 + 5 * p) (by omega), hv (13 + 5 * p) (by omega)]; exact f p hp
  · rw [hv (45 + 11 * c) (by omega), hv (46 + 11 * c) (by omega), hv (47 + 11 * c) (by omega), hv (48 + 11 * c) (by omega)]; exact k c hc
theorem CourseR.vc {g : Nat → Nat → Int32} {v v1 : Nat → Int32} {P C : Nat} (hP : P ≤ 7) (hC : C ≤ 6) (hv : ∀ i, i < 111 → v1 i = v i) (h : CourseR g v P C) : CourseR g v1 P C := by
  obtain ⟨a, d, e, f⟩ := h
  refine ⟨?_, fun p hp => ?_, fun c hc => ?_, ?_⟩
  · rw [hv 4 (by decide)]; exact a
  · rw [hv (11 + 5 * p) (by omega), hv (14 + 5 * p) (by omega)]; exact d p hp
  · rw [hv (49 + 11 * c) (by omega), hv (50 + 11 * c) (by omega), hv (51 + 11 * c) (by omega), hv (52 + 11 * c) (by omega), hv (53 + 11 * c) (by omega), hv (54 + 11 * c) (by omega), hv (55 + 11 * c) (by omega)]; exact e c hc
  · rw [hv 0 (by decide)]; exact f
