theorem most_L {N b mb P C D M K a g ln d : Nat} {L : List Nat} {S : ST} {Rf : RT} {I : IT} {Rl : Nat → List (List Tk × Option (List Tk))} (hN : 1000 ≤ N) (ha : a < P) (hg : g < 10) (hl1 : 1 ≤ ln) (hl : ln ≤ 9) (hd : d ≤ 20000) : ∀ r k n n' acc (I' : IT) (J J' : JT), RelB b mb L S Rf I I' P C D M K Rl → ChR J b a (nI g) (nI ln) 0 → k + r = P → r < n → r < n' → acc ≤ 100 →
    ∃ acc' J1 I2' J2', f11_mostRight_L6 N b S Rf (nI a) (nI ln) (nI d) n (nI acc) (nI k) I J = some (nI acc', I, J1) ∧ f12_mostRight_L6 N mb (nI a) (nI g) (nI ln) (nI d) n' (nI acc) (nI k) I' J' = some (nI acc', I2', J2') ∧ acc' ≤ 100 ∧ ChR J1 b a (nI g) (nI ln) 0 ∧ SameM mb I' I2' := by
  intro r
  induction r with
  | zero =>
    intro k n n' acc I' J J' h hC hk hn hn' hacc
    have h7 := co_P7 h.core
    obtain ⟨n, rfl⟩ : ∃ q, n = q + 1 := ⟨n - 1, by omega⟩
    obtain ⟨n', rfl⟩ : ∃ q, n' = q + 1 := ⟨n' - 1, by omega⟩
    rw [f11_mostRight_L6, f12_mostRight_L6, co_P h.core, cv_P h.core, if_pos (nI_le (by omega) (by omega)), if_pos (nI_le (by omega) (by omega))]
    exact ⟨_, _, _, _, rfl, rfl, hacc, hC, SameM.rf _ _⟩
  | succ r ih =>
    intro k n n' acc I' J J' h hC hk hn hn' hacc
    have h7 := co_P7 h.core
    have hkP : k < P := by omega
    obtain ⟨n, rfl⟩ : ∃ q, n = q + 1 := ⟨n - 1, by omega⟩
    obtain ⟨n', rfl⟩ : ∃ q, n' = q + 1 := ⟨n' - 1, by omega⟩
    obtain ⟨A, Y, F, La, hnum⟩ := co_nums h.core hkP
    rw [f11_mostRight_L6, f12_mostRight_L6, co_P h.core, cv_P h.core, if_neg (nI_ge (by omega) (by omega)), if_neg (nI_ge (by omega) (by omega)), q1_canSit h.core hkP ha, q12_canSit (by omega) (by omega) (by omega) hnum hd hl1 hl, b3s, b3s]
    rcases canS01 (I' (mb + 10)) k a (nI ln) (nI d) with q | q
    · rw [q, if_pos rfl, if_pos rfl, lts, lts, nI_1]
      exact ih (k + 1) n n' acc I' J J' h hC (by omega) (by omega) (by omega) hacc
    · obtain ⟨J1, r1, r2, r3⟩ := q1_rightOf (J := J) hN h.core h.rules h.f6 h.fo (d := nI d) (ru := I' (mb + 10) (14 + 5 * k)) hkP ha hg hC
      obtain ⟨I1', J1', s1, s2, s3⟩ := q12_rightIn (J' := J') hN h.core h.rules rfl h.fo (g := nI g) (n := nI ln) (d := nI d) (ru := I' (mb + 10) (14 + 5 * k)) (ti := 0) hkP ha
      obtain ⟨w, hw, ew⟩ := rgtV_100 (I' (mb + 10)) (I' mb 21) Rl k a (nI g) (nI ln) (nI d) (I' (mb + 10) (14 + 5 * k)) 0
      rw [ew] at r1 s1
      rw [q, if_neg i10, if_neg i10, yb_ck_t (inb_nI (by omega) (by decide)), nI_clamp (by omega), co_ruled h.core hkP, r1, b3s, k12_p4 (by omega), b3s, s1, b3s]
      have h2 := h.keep (Same.rf b I) (SameM.top s2)
      by_cases cc : w ≤ acc
      · rw [if_neg (nI_nlt cc (by omega)), if_pos (nI_le cc (by omega)), lts, lts, lts, nI_1]
        obtain ⟨a1, a2, a3, a4, b1, b2, b3, b4, b5⟩ := ih (k + 1) n n' acc I1' J1 J1' h2 r2 (by omega) (by omega) (by omega) hacc
        exact ⟨a1, a2, a3, a4, b1, b2, b3, b4, (SameM.top s2).tr b5⟩
      · rw [if_pos (nI_lt (by omega) (by omega)), if_neg (nI_ge (by omega) (by omega)), lts, lts, lts, nI_1]
        obtain ⟨a1, a2, a3, a4, b1, b2, b3, b4, b5⟩ := ih (k + 1) n n' w I1' J1 J1' h2 r2 (by omega) (by omega) (by omega) hw
        exact ⟨a1, a2, a3, a4, b1, b2, b3, b4, (SameM.top s2).tr b5⟩
theorem comm_L {N b mb P C D M K a g ln X : Nat} {L : List Nat} {S : ST} {Rf : RT} {I : IT} {y : Int32} {Rl : Nat → List (List Tk × Option (List Tk))} (hN : 1000 ≤ N) (ha : a < P) (hg : g < 10) (hl1 : 1 ≤ ln) (hl : ln ≤ 9) (hX : X ≤ 60) (hX1 : 1 ≤ X) : ∀ r k n n' (x8 x9 x6 x7 : Int32) (I' : IT) (J J' : JT), RelB b mb L S Rf I I' P C D M K Rl → ChR J b a (nI g) (nI ln) 0 → k + r = X → r < n → r < n' → ((k = 0 ∧ x9 = 101 ∧ x6 = -1) ∨ (0 < k ∧ x8 = x6 ∧ x9 = x7 ∧ ¬ x6 < 0)) →
    ∃ x8' x9' J1 I2' J2', f11_commit_L101 N b S Rf (nI a) (nI ln) (nI X) y (nI D) n x8 x9 (nI (D + k)) I J = some ((x8', x9'), I, J1) ∧ f12_commit_L72 N mb (nI a) (nI g) (nI ln) (nI X) y n' x6 x7 (nI (D + k)) I' J' = some ((x8', x9'), I2', J2') ∧ SameM mb I' I2' := by
  intro r
  induction r with
  | zero =>
    intro k n n' x8 x9 x6 x7 I' J J' h hC hk hn hn' hx
    have h12 := co_D12 h.core
    obtain ⟨n, rfl⟩ : ∃ q, n = q + 1 := ⟨n - 1, by omega⟩
    obtain ⟨n', rfl⟩ : ∃ q, n' = q + 1 := ⟨n' - 1, by omega⟩
    obtain ⟨e0, rfl, rfl, e3⟩ : 0 < k ∧ x8 = x6 ∧ x9 = x7 ∧ ¬ x6 < 0 := hx.elim (fun q => by omega) id
    rw [f11_commit_L101, f12_commit_L72, cv_D h.core, nI_add, if_pos (nI_le (by omega) (by omega)), if_pos (nI_le (by omega) (by omega))]
    exact ⟨_, _, _, _, _, rfl, rfl, SameM.rf _ _⟩
  | succ r ih =>
    intro k n n' x8 x9 x6 x7 I' J J' h hC hk hn hn' hx
    have h12 := co_D12 h.core
    have h7 := co_P7 h.core
    obtain ⟨n, rfl⟩ : ∃ q, n = q + 1 := ⟨n - 1, by omega⟩
    obtain ⟨n', rfl⟩ : ∃ q, n' = q + 1 := ⟨n' - 1, by omega⟩
    obtain ⟨w, J1, I2', J2', r1, r2, r3, r4, r5⟩ := most_L (a := a) (g := g) (ln := ln) (d := D + k) hN ha hg hl1 hl (by omega) P 0 N N 0 I' J J' h hC (by omega) (by omega) (by omega) (by omega)
    rw [f11_commit_L101, f12_commit_L72, cv_D h.core, nI_add, if_neg (nI_ge (by omega) (by omega)), if_neg (nI_ge (by omega) (by omega))]
    unfold f11_mostRight f12_mostRight
    rw [show nI 0 = (0 : Int32) from rfl] at r1 r2
    rw [r1, r2, b3s, b3s, b3s, b3s]
    have h2 := h.keep (Same.rf b I) r5
    have go : ∀ x, x = nI w → ∃ x8' x9' J1' I3' J3', f11_commit_L101 N b S Rf (nI a) (nI ln) (nI X) y (nI D) n (nI (D + k)) (nI w) (nI (D + k) + 1) I J1 = some ((x8', x9'), I, J1') ∧ f12_commit_L72 N mb (nI a) (nI g) (nI ln) (nI X) y n' (nI (D + k)) (nI w) (nI (D + k) + 1) I2' J2' = some ((x8', x9'), I3', J3') ∧ SameM mb I' I3' := by
      intro x _
      rw [nI_1, show D + k + 1 = D + (k + 1) by omega]
      obtain ⟨a1, a2, a3, a4, a5, b1, b2, b3⟩ := ih (k + 1) n n' (nI (D + k)) (nI w) (nI (D + k)) (nI w) I2' J1 J2' h2 r4 (by omega) (by omega) (by omega) (Or.inr ⟨by omega, rfl, rfl, nI_pos (by omega)⟩)
      exact ⟨a1, a2, a3, a4, a5, b1, b2, r5.tr b3⟩
    rcases hx with ⟨e0, rfl, rfl⟩ | ⟨e0, rfl, rfl, e3⟩
    · rw [if_neg (show ¬ (101 : Int32) ≤ nI w from nI_ge (b := 101) (by omega) (by omega)), if_pos (show (-1 : Int32) < 0 by decide), lts, lts]
      exact go _ rfl
    · rw [if_neg e3]
      by_cases cc : x9 ≤ nI w
      · rw [if_pos cc, if_neg (Int32.not_lt.mpr cc), lts, lts, nI_1, show D + k + 1 = D + (k + 1) by omega]
        obtain ⟨a1, a2, a3, a4, a5, b1, b2, b3⟩ := ih (k + 1) n n' x8 x9 x8 x9 I2' J1 J2' h2 r4 (by omega) (by omega) (by omega) (Or.inr ⟨by omega, rfl, rfl, e3⟩)
        exact ⟨a1, a2, a3, a4, a5, b1, b2, r5.tr b3⟩
      · rw [if_neg cc, if_pos (Int32.not_le.mp cc), lts, lts]
        exact go _ rfl
theorem dig_cases (x : Int32) : (∃ k, 1 ≤ k ∧ k ≤ 9 ∧ x = nI k) ∨ (∀ b S Rf I J, f11_isDigit b S Rf x I J = some (0, I, J)) ∧ (if x < 1 then (0 : Int32) else if 9 < x then 0 else 1) = 0 := by
  by_cases c0 : x < 1
  · exact Or.inr ⟨fun b S Rf I J => by unfold f11_isDigit; rw [if_pos c0], if_pos c0⟩
  · by_cases c1 : 9 < x
    · exact Or.inr ⟨fun b S Rf I J => by unfold f11_isDigit; rw [if_neg c0, if_pos c1], by rw [if_neg c0, if_pos c1]⟩
    · left
      have h0 : ¬ x < 0 := fun q => c0 (Int32.lt_trans q (by decide))
      obtain ⟨j, hj, rfl⟩ := nI_of2 (M := 9) (n := 9) rfl h0 (Int32.not_lt.mp c1)
      refine ⟨j, ?_, hj, rfl⟩
      rcases Nat.eq_zero_or_pos j with rfl | q
      · exact absurd (by decide) c0
      · exact q
theorem dig_y {b k : Nat} {S : ST} {Rf : RT} {I : IT} {J : JT} (h1 : 1 ≤ k) (h9 : k ≤ 9) : f11_isDigit b S Rf (nI k) I J = some (1, I, J) ∧ (if nI k < 1 then (0 : Int32) else if 9 < nI k then 0 else 1) = 1 := by
  have a : ¬ nI k < (1 : Int32) := nI_nlt (b := 1) h1 (by omega)
  have c : ¬ (9 : Int32) < nI k := nI_nlt (a := 9) h9 (by omega)
  constructor
  · unfold f11_isDigit; rw [if_neg a, if_neg c]
  · rw [if_neg a, if_neg c]
theorem G_commit {N : Nat} (hN : 1000 ≤ N) : Gd_commit N RelY := by
  intro b mb L S Rf I J I' J' x1 x2 x3 x4 x5 hR
  obtain ⟨P, C, D, M, K, Rl, h⟩ := hR
  have hc := h.core
  have hh : ∀ r, ∃ (r_1 : Int32) (I1 : IT) (J1 : JT) (I1' : IT) (J1' : JT), some (r, I, J) = some (r_1, I1, J1) ∧ some (r, I', J') = some (r_1, I1', J1') ∧ RelY b mb L S Rf I1 J1 I1' J1' := fun r => ⟨r, I, J, I', J', rfl, rfl, P, C, D, M, K, Rl, h⟩
  unfold f11_commit f12_commit
  rcases co_isPerson (J := J) (J' := J') (S := S) (Rf := Rf) hc x1 with ⟨a1, a2⟩ | ⟨a, haP, rfl, a1, a2⟩
  · rw [a1, a2, b3s, b3s, if_pos rfl, if_pos rfl]; exact hh _
  · rw [a1, a2, b3s, b3s, if_neg i10, if_neg i10, l_inc (a := 1) (c := 9) 1 9 rfl rfl, b3s]
    rcases dig_cases x2 with ⟨g, hg1, hg9, rfl⟩ | ⟨d1, d2⟩
    · obtain ⟨g1, g2⟩ := dig_y (b := b) (S := S) (Rf := Rf) (I := I) (J := J) hg1 hg9
      rw [g1, g2, b3s, if_neg i10, if_neg i10, l_inc (a := 1) (c := 9) 1 9 rfl rfl, b3s]
      rcases dig_cases x3 with ⟨ln, hl1, hl9, rfl⟩ | ⟨d1, d2⟩
      · obtain ⟨g1, g2⟩ := dig_y (b := b) (S := S) (Rf := Rf) (I := I) (J := J) hl1 hl9
        rw [g1, g2, b3s, if_neg i10, if_neg i10, l_inc (a := 1) (c := 60) 1 60 rfl rfl, b3s]
        by_cases c0 : x4 < 1
        · rw [if_pos c0, if_pos c0, if_pos rfl]; exact hh _
        · rw [if_neg c0, if_neg c0]
          by_cases c1 : 60 < x4
          · rw [if_pos c1, if_pos c1, if_pos rfl]; exact hh _
          · rw [if_neg c1, if_neg c1, if_neg i10, l_inc (a := 0) (c := 1) 0 1 rfl rfl, b3s]
            have h0 : ¬ x4 < 0 := fun q => c0 (Int32.lt_trans q (by decide))
            obtain ⟨X, hX, rfl⟩ := nI_of2 (M := 60) (n := 60) rfl h0 (Int32.not_lt.mp c1)
            have hX1 : 1 ≤ X := by
              rcases Nat.eq_zero_or_pos X with rfl | q
              · exact absurd (by decide) c0
              · exact q
            by_cases c2 : x5 < 0
            · rw [if_pos c2, if_pos c2, if_pos rfl]; exact hh _
            · rw [if_neg c2, if_neg c2]
              by_cases c3 : 1 < x5
              · rw [if_neg (Int32.not_le.mpr c3), if_pos c3, if_pos rfl]; exact hh _
              · rw [if_pos (Int32.not_lt.mp c3), if_neg c3, if_neg i10]
                unfold f1_charge
                rw [lts, lts, lts, lts, b3s, lts, lts, co_D hc, cv_D hc]
                have hCh : ChR (up2J (up2J (up2J (up2J J (b + 31) 4 (nI a).toInt64) (b + 31) 5 (nI g).toInt64) (b + 31) 6 (nI ln).toInt64) (b + 31) 10 (0 : Int32).toInt64) b a (nI g) (nI ln) 0 := by
                  unfold ChR
                  simp [up2J, vp_updL]
                obtain ⟨y8, y9, J1, I2', J2', r1, r2, r3⟩ := comm_L (a := a) (g := g) (ln := ln) (X := X) (y := x5) hN haP (by omega) hl1 hl9 hX hX1 X 0 N N (nI D) 101 (-1) 0 I' _ J' h hCh (by omega) (by omega) (by omega) (Or.inl ⟨rfl, rfl, rfl⟩)
                rw [Nat.add_zero] at r1 r2
                rw [r1, r2, b3s, b3s]
                have h2 := h.keep (Same.rf b I) r3
                by_cases c5 : x5 = 0
                · rw [if_pos c5, if_pos c5]; exact ⟨_, _, _, _, _, rfl, rfl, P, C, D, M, K, Rl, h2⟩
                · rw [if_neg c5, if_neg c5]; exact ⟨_, _, _, _, _, rfl, rfl, P, C, D, M, K, Rl, h2⟩
      · rw [d1, d2, b3s, if_pos rfl, if_pos rfl]; exact hh _
    · rw [d1, d2, b3s, if_pos rfl, if_pos rfl]; exact hh _
/-! ABOVE: the same two loops, one inside the other, either way round -/
theorem tri_i {N b mb P C D p j X : Nat} {I I' : IT} {J : JT} {S : ST} {Rf : RT} (h : CoreR b mb I I' P C D) (hp : p < P) (hj : j < P) (hX : X ≤ 60) : ∀ r k n, k + r = X → r < n → (f11_isTriable_L32 N b S Rf (nI p) (nI X) (nI D) (nI j) n (nI (D + k)) I J = some (Sum.inl 1, I, J) ∧ ∃ i, i < X ∧ canS (I' (mb + 10)) j p 1 (nI (D + i)) = 1) ∨ (f11_isTriable_L32 N b S Rf (nI p) (nI X) (nI D) (nI j) n (nI (D + k)) I J = some (Sum.inr (), I, J) ∧ ∀ i, k ≤ i → i < X → canS (I' (mb + 10)) j p 1 (nI (D + i)) = 0) := by
  have h12 := co_D12 h
  intro r
  induction r with
  | zero =>
    intro k n hk hn
    obtain ⟨n, rfl⟩ : ∃ q, n = q + 1 := ⟨n - 1, by omega⟩
    rw [f11_isTriable_L32, nI_add, if_pos (nI_le (by omega) (by omega))]
    exact Or.inr ⟨rfl, fun i h1 h2 => by omega⟩
  | succ r ih =>
    intro k n hk hn
    obtain ⟨n, rfl⟩ : ∃ q, n = q + 1 := ⟨n - 1, by omega⟩
    rw [f11_isTriable_L32, nI_add, if_neg (nI_ge (by omega) (by omega)), q1_canSit h hj hp, b3s]
    rcases canS01 (I' (mb + 10)) j p 1 (nI (D + k)) with q | q
    · rw [q, if_pos rfl, lts, nI_1, show D + k + 1 = D + (k + 1) by omega]
      rcases ih (k + 1) n (by omega) (by omega) with g | ⟨g1, g2⟩
      · exact Or.inl g
      · refine Or.inr ⟨g1, fun i h1 h2 => ?_⟩
        rcases Nat.eq_or_lt_of_le h1 with rfl | h3
        · exact q
        · exact g2 i (by omega) h2
    · rw [q, if_neg i10]
      exact Or.inl ⟨rfl, k, by omega, q⟩
theorem tri_j {N b mb P C D p X : Nat} {I I' : IT} {J : JT} {S : ST} {Rf : RT} (hN : 1000 ≤ N) (h : CoreR b mb I I' P C D) (hp : p < P) (hX : X ≤ 60) : ∀ r k n, k + r = P → r < n → (f11_isTriable_L14 N b S Rf (nI p) (nI X) (nI D) n (nI k) I J = some (Sum.inl 1, I, J) ∧ ∃ j i, j < P ∧ i < X ∧ canS (I' (mb + 10)) j p 1 (nI (D + i)) = 1) ∨ (f11_isTriable_L14 N b S Rf (nI p) (nI X) (nI D) n (nI k) I J = some (Sum.inr (), I, J) ∧ ∀ j i, k ≤ j → j < P → i < X → canS (I' (mb + 10)) j p 1 (nI (D + i)) = 0) := by
  have h7 := co_P7 h
  intro r
  induction r with
  | zero =>
    intro k n hk hn
    obtain ⟨n, rfl⟩ : ∃ q, n = q + 1 := ⟨n - 1, by omega⟩
    rw [f11_isTriable_L14, co_P h, if_pos (nI_le (by omega) (by omega))]
    exact Or.inr ⟨rfl, fun j i h1 h2 => by omega⟩
  | succ r ih =>
    intro k n hk hn
    obtain ⟨n, rfl⟩ : ∃ q, n = q + 1 := ⟨n - 1, by omega⟩
    rw [f11_isTriable_L14, co_P h, if_neg (nI_ge (by omega) (by omega))]
    have t := tri_i (N := N) (S := S) (Rf := Rf) (J := J) h hp (show k < P by omega) hX X 0 N (by omega) (by omega)
    rw [Nat.add_zero] at t
    rcases t with ⟨t1, i, t2, t3⟩ | ⟨t1, t2⟩
    · rw [t1, b3s, sml]
      exact Or.inl ⟨rfl, k, i, by omega, t2, t3⟩
    · rw [t1, b3s, smr, lts, nI_1]
      rcases ih (k + 1) n (by omega) (by omega) with g | ⟨g1, g2⟩
      · exact Or.inl g
      · refine Or.inr ⟨g1, fun j i h1 h2 h3 => ?_⟩
        rcases Nat.eq_or_lt_of_le h1 with rfl | h4
        · exact t2 i (Nat.zero_le _) h3
        · exact g2 j i (by omega) h2 h3
theorem tried_j {N b mb P C D p d : Nat} {I I' : IT} {J' : JT} {x : Int32} (hN : 1000 ≤ N) (h : CoreR b mb I I' P C D) (hp : p < P) (hd : d ≤ 20000) : ∀ r k n, k + r = P → r < n → (f12_isTried_L22 N mb (nI p) x (nI d) n (nI k) I' J' = some (Sum.inl 1, I', J') ∧ ∃ j, j < P ∧ canS (I' (mb + 10)) j p 1 (nI d) = 1) ∨ (f12_isTried_L22 N mb (nI p) x (nI d) n (nI k) I' J' = some (Sum.inr (), I', J') ∧ ∀ j, k ≤ j → j < P → canS (I' (mb + 10)) j p 1 (nI d) = 0) := by
  have h7 := co_P7 h
  intro r
  induction r with
  | zero =>
    intro k n hk hn
    obtain ⟨n, rfl⟩ : ∃ q, n = q + 1 := ⟨n - 1, by omega⟩
    rw [f12_isTried_L22, cv_P h, if_pos (nI_le (by omega) (by omega))]
    exact Or.inr ⟨rfl, fun j h1 h2 => by omega⟩
  | succ r ih =>
    intro k n hk hn
    obtain ⟨n, rfl⟩ : ∃ q, n = q + 1 := ⟨n - 1, by omega⟩
    obtain ⟨A, Y, F, La, hnum⟩ := co_nums h (show k < P by omega)
    have e := q12_canSit (N := N) (mb := mb) (I := I') (J := J') (j := k) (a := p) (n := 1) (by omega) (by omega) (by omega) hnum hd (by omega) (by omega)
    rw [show nI 1 = (1 : Int32) from rfl] at e
    rw [f12_isTried_L22, cv_P h, if_neg (nI_ge (by omega) (by omega)), e, b3s]
    rcases canS01 (I' (mb + 10)) k p 1 (nI d) with q | q
    · rw [q, if_pos rfl, lts, nI_1]
      rcases ih (k + 1) n (by omega) (by omega) with g | ⟨g1, g2⟩
      · exact Or.inl g
      · refine Or.inr ⟨g1, fun j h1 h2 => ?_⟩
        rcases Nat.eq_or_lt_of_le h1 with rfl | h3
        · exact q
        · exact g2 j (by omega) h2
    · rw [q, if_neg i10]
      exact Or.inl ⟨rfl, k, by omega, q⟩
theorem tried_i {N b mb P C D p X : Nat} {I I' : IT} {J' : JT} (hN : 1000 ≤ N) (h : CoreR b mb I I' P C D) (hp : p < P) (hX : X ≤ 60) : ∀ r k n, k + r = X → r < n → (f12_isTried_L7 N mb (nI p) (nI X) n (nI (D + k)) I' J' = some (Sum.inl 1, I', J') ∧ ∃ j i, j < P ∧ i < X ∧ canS (I' (mb + 10)) j p 1 (nI (D + i)) = 1) ∨ (f12_isTried_L7 N mb (nI p) (nI X) n (nI (D + k)) I' J' = some (Sum.inr (), I', J') ∧ ∀ j i, j < P → k ≤ i → i < X → canS (I' (mb + 10)) j p 1 (nI (D + i)) = 0) := by
  have h12 := co_D12 h
  have h7 := co_P7 h
  intro r
  induction r with
  | zero =>
    intro k n hk hn
    obtain ⟨n, rfl⟩ : ∃ q, n = q + 1 := ⟨n - 1, by omega⟩
    rw [f12_isTried_L7, cv_D h, nI_add, if_pos (nI_le (by omega) (by omega))]
    exact Or.inr ⟨rfl, fun j i h1 h2 h3 => by omega⟩
  | succ r ih =>
    intro k n hk hn
    obtain ⟨n, rfl⟩ : ∃ q, n = q + 1 := ⟨n - 1, by omega⟩
    rw [f12_isTried_L7, cv_D h, nI_add, if_neg (nI_ge (by omega) (by omega))]
    have t := tried_j (N := N) (J' := J') (x := nI X) hN h hp (show D + k ≤ 20000 by omega) P 0 N (by omega) (by omega)
    rw [show nI 0 = (0 : Int32) from rfl] at t
    rcases t with ⟨t1, j, t2, t3⟩ | ⟨t1, t2⟩
    · rw [t1, b3s, sml]
      exact Or.inl ⟨rfl, j, k, t2, by omega, t3⟩
    · rw [t1, b3s, smr, lts, nI_1, show D + k + 1 = D + (k + 1) by omega]
      rcases ih (k + 1) n (by omega) (by omega) with g | ⟨g1, g2⟩
      · exact Or.inl g
      · refine Or.inr ⟨g1, fun j i h1 h2 h3 => ?_⟩
        rcases Nat.eq_or_lt_of_le h2 with rfl | h4
        · exact t2 j (Nat.zero_le _) h1
        · exact g2 j i h1 (by omega) h3
theorem tri_both {N b mb P C D p X : Nat} {I I' : IT} {J J' : JT} {S : ST} {Rf : RT} (hN : 1000 ≤ N) (h : CoreR b mb I I' P C D) (hp : p < P) (hX : X ≤ 60) : ∃ r : Int32, (r = 0 ∨ r = 1) ∧ f11_isTriable N b S Rf (nI p) (nI X) I J = some (r, I, J) ∧ f12_isTried N mb (nI p) (nI X) I' J' = some (r, I', J') := by
  have h7 := co_P7 h
  unfold f11_isTriable f12_isTried
  have t := tri_j (N := N) (S := S) (Rf := Rf) (J := J) hN h hp hX P 0 N (by omega) (by omega)
  have u := tried_i (N := N) (J' := J') hN h hp hX X 0 N (by omega) (by omega)
  rw [show nI 0 = (0 : Int32) from rfl] at t
  rw [Nat.add_zero] at u
  rw [lts, lts, co_D h, cv_D h]
  rcases t with ⟨t1, j, i, t2, t3, t4⟩ | ⟨t1, t2⟩ <;> rcases u with ⟨u1, j', i', u2, u3, u4⟩ | ⟨u1, u2⟩
  · exact ⟨1, Or.inr rfl, by rw [t1, b3s, sml], by rw [u1, b3s, sml]⟩
  · rw [u2 j i t2 (Nat.zero_le _) t3] at t4; exact absurd t4 (by decide)
  · rw [t2 j' i' (Nat.zero_le _) u2 u3] at u4; exact absurd u4 (by decide)
  · exact ⟨0, Or.inl rfl, by rw [t1, b3s, smr], by rw [u1, b3s, smr]⟩
theorem abov_L {N b mb P C D X : Nat} {I I' : IT} {J J' : JT} {S : ST} {Rf : RT} (hN : 1000 ≤ N) (h : CoreR b mb I I' P C D) (hX : X ≤ 60) : ∀ r k n n' acc, k + r = P → r < n → r < n' → ∃ q, f11_above_L30 N b S Rf (nI X) n acc (nI k) I J = some (q, I, J) ∧ f12_above_L25 N mb (nI X) n' acc (nI k) I' J' = some (q, I', J') := by
  have h7 := co_P7 h
  intro r
  induction r with
  | zero =>
    intro k n n' acc hk hn hn'
    obtain ⟨n, rfl⟩ : ∃ q, n = q + 1 := ⟨n - 1, by omega⟩
    obtain ⟨n', rfl⟩ : ∃ q, n' = q + 1 := ⟨n' - 1, by omega⟩
    rw [f11_above_L30, f12_above_L25, co_P h, cv_P h, if_pos (nI_le (by omega) (by omega)), if_pos (nI_le (by omega) (by omega))]
    exact ⟨_, rfl, rfl⟩
  | succ r ih =>
    intro k n n' acc hk hn hn'
    obtain ⟨n, rfl⟩ : ∃ q, n = q + 1 := ⟨n - 1, by omega⟩
    obtain ⟨n', rfl⟩ : ∃ q, n' = q + 1 := ⟨n' - 1, by omega⟩
    obtain ⟨q, q0, q1, q2⟩ := tri_both (N := N) (S := S) (Rf := Rf) (J := J) (J' := J') hN h (show k < P by omega) hX
    rw [f11_above_L30, f12_above_L25, co_P h, cv_P h, if_neg (nI_ge (by omega) (by omega)), if_neg (nI_ge (by omega) (by omega)), q1, q2, b3s, b3s]
    rcases q0 with rfl | rfl
    · rw [if_pos rfl, if_pos rfl, lts, lts, lts, lts, nI_1]
      exact ih (k + 1) n n' _ (by omega) (by omega) (by omega)
    · rw [if_neg i10, if_neg i10, lts, lts, lts, or_z, nI_1]
      exact ih (k + 1) n n' _ (by omega) (by omega) (by omega)
theorem G_above {N : Nat} (hN : 1000 ≤ N) : Gd_above N RelY := by
  intro b mb L S Rf I J I' J' x1 hR
  obtain ⟨P, C, D, M, K, Rl, h⟩ := hR
  have hc := h.core
  have h7 := co_P7 hc
  have hh : ∀ r, ∃ (r_1 : Int32) (I1 : IT) (J1 : JT) (I1' : IT) (J1' : JT), some (r, I, J) = some (r_1, I1, J1) ∧ some (r, I', J') = some (r_1, I1', J1') ∧ RelY b mb L S Rf I1 J1 I1' J1' := fun r => ⟨r, I, J, I', J', rfl, rfl, P, C, D, M, K, Rl, h⟩
  unfold f11_above f12_above
  rcases co_isTown (J' := J') hc with ⟨t1, t2⟩ | ⟨t1, t2, t3⟩
  · rw [t1, t2, b3s, if_pos rfl, if_pos rfl]; exact hh _
  · rw [t1, t2, b3s, if_neg i10, if_neg i10, l_inc (a := 1) (c := 60) 1 60 rfl rfl, b3s]
    by_cases c0 : x1 < 1
    · rw [if_pos c0, if_pos c0, if_pos rfl]; exact hh _
    · rw [if_neg c0, if_neg c0]
      by_cases c1 : 60 < x1
      · rw [if_neg (Int32.not_le.mpr c1), if_pos c1, if_pos rfl]; exact hh _
      · have h0 : ¬ x1 < 0 := fun q => c0 (Int32.lt_trans q (by decide))
        obtain ⟨X, hX, rfl⟩ := nI_of2 (M := 60) (n := 60) rfl h0 (Int32.not_lt.mp c1)
        obtain ⟨q, r1, r2⟩ := abov_L (N := N) (S := S) (Rf := Rf) (J := J) (J' := J') hN hc hX P 0 N N 0 (by omega) (by omega) (by omega)
        rw [show nI 0 = (0 : Int32) from rfl] at r1 r2
        rw [if_pos (Int32.not_lt.mp c1), if_neg c1, if_neg i10, r1, r2, b3s, b3s]
        exact hh _
