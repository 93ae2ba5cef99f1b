theorem i10 : ¬ (1 : Int32) = 0 := by decide
/-- the first case that j hears now -/
def hbF (v : Nat → Int32) (j : Nat) : Nat → Nat → Int32
  | 0, _ => -1
  | r + 1, k => if v (49 + 11 * k) = nI j then nI k else hbF v j r (k + 1)
def smV (q : Int32 ⊕ Unit) : Int32 := match q with
  | .inl x => x
  | .inr _ => -1
theorem q12_hears_L {N b mb P C D j : Nat} {I I' : IT} {J' : JT} (h : CoreR b mb I I' P C D) : ∀ r k n, k + r = C → r < n → ∃ q, f12_hearsNow_L2 N mb (nI j) n (nI k) I' J' = some (q, I', J') ∧ smV q = hbF (I' (mb + 10)) j r k := by
  have h6 := co_C6 h
  intro r
  induction r with
  | zero =>
    intro k n hk hn
    obtain ⟨n, rfl⟩ : ∃ q, n = q + 1 := ⟨n - 1, by omega⟩
    rw [f12_hearsNow_L2, cv_C h, if_pos (nI_le (by omega) (by omega))]
    exact ⟨_, rfl, rfl⟩
  | succ r ih =>
    intro k n hk hn
    obtain ⟨n, rfl⟩ : ∃ q, n = q + 1 := ⟨n - 1, by omega⟩
    rw [f12_hearsNow_L2, cv_C h, if_neg (nI_ge (by omega) (by omega)), k12_c4 (by omega), b3s, hbF]
    by_cases c : I' (mb + 10) (49 + 11 * k) = nI j
    · rw [if_pos c, if_pos c]; exact ⟨_, rfl, rfl⟩
    · rw [if_neg c, if_neg c, lts, nI_1]
      exact ih (k + 1) n (by omega) (by omega)
theorem q12_hearsNow {N b mb P C D j : Nat} {I I' : IT} {J' : JT} (hN : 100 ≤ N) (h : CoreR b mb I I' P C D) : f12_hearsNow N mb (nI j) I' J' = some (hbF (I' (mb + 10)) j C 0, I', J') := by
  have h6 := co_C6 h
  obtain ⟨q, e, e2⟩ := q12_hears_L (N := N) (J' := J') (j := j) h C 0 N (by omega) (by omega)
  unfold f12_hearsNow
  rw [show (0 : Int32) = nI 0 from rfl, e, b3s, ← e2]
  cases q <;> rfl
theorem q0_hears_T {N b mb P C D j : Nat} {I I' : IT} {J : JT} {S : ST} {Rf : RT} (h : CoreR b mb I I' P C D) (hj : j < P) : ∀ r k n, k + r = 6 → C ≤ k → r < n → f0_heardBy_L2 N b S Rf (b + 14) (nI j) n (nI k) I J = some (Sum.inr (), I, J) := by
  have h7 := co_P7 h
  intro r
  induction r with
  | zero =>
    intro k n hk hc hn
    obtain ⟨n, rfl⟩ : ∃ q, n = q + 1 := ⟨n - 1, by omega⟩
    rw [f0_heardBy_L2, if_pos (show (6 : Int32) ≤ nI k from nI_le (a := 6) (by omega) (by omega))]
  | succ r ih =>
    intro k n hk hc hn
    obtain ⟨n, rfl⟩ : ∃ q, n = q + 1 := ⟨n - 1, by omega⟩
    have e : I (b + 14 + 3) k = -1 := h.2.2.2.2.2 (co_v0 h (Or.inl (by omega))) k hc (by omega)
    rw [f0_heardBy_L2, if_neg (show ¬ (6 : Int32) ≤ nI k from nI_ge (b := 6) (by omega) (by omega)), yb_ck_t (inb_nI (by omega) (by decide)), nI_clamp (by omega), e, if_neg (fun q => absurd (show nI j < 0 by rw [← q]; decide) (nI_pos (by omega))), lts, nI_1]
    exact ih (k + 1) n (by omega) (by omega) (by omega)
theorem q0_hears_L {N b mb P C D j : Nat} {I I' : IT} {J : JT} {S : ST} {Rf : RT} (h : CoreR b mb I I' P C D) (hj : j < P) : ∀ r k n, k + r = C → 6 < n + k → ∃ q, f0_heardBy_L2 N b S Rf (b + 14) (nI j) n (nI k) I J = some (q, I, J) ∧ smV q = hbF (I' (mb + 10)) j r k := by
  have h6 := co_C6 h
  intro r
  induction r with
  | zero =>
    intro k n hk hn
    exact ⟨_, q0_hears_T (N := N) (S := S) (Rf := Rf) (J := J) h hj (6 - k) k n (by omega) (by omega) (by omega), rfl⟩
  | succ r ih =>
    intro k n hk hn
    obtain ⟨n, rfl⟩ : ∃ q, n = q + 1 := ⟨n - 1, by omega⟩
    rw [f0_heardBy_L2, if_neg (show ¬ (6 : Int32) ≤ nI k from nI_ge (b := 6) (by omega) (by omega)), yb_ck_t (inb_nI (by omega) (by decide)), nI_clamp (by omega), show b + 14 + 3 = b + 17 from rfl, co_judge h (by omega), hbF]
    by_cases c : I' (mb + 10) (49 + 11 * k) = nI j
    · rw [if_pos c, if_pos c]; exact ⟨_, rfl, rfl⟩
    · rw [if_neg c, if_neg c, lts, nI_1]
      exact ih (k + 1) n (by omega) (by omega)
theorem q0_heardBy {N b mb P C D j : Nat} {I I' : IT} {J : JT} {S : ST} {Rf : RT} (hN : 100 ≤ N) (h : CoreR b mb I I' P C D) (hj : j < P) : f0_heardBy N b S Rf (b + 14) (nI j) I J = some (hbF (I' (mb + 10)) j C 0, I, J) := by
  have h6 := co_C6 h
  obtain ⟨q, e, e2⟩ := q0_hears_L (N := N) (S := S) (Rf := Rf) (J := J) h hj C 0 N (by omega) (by omega)
  unfold f0_heardBy
  rw [show (0 : Int32) = nI 0 from rfl, e, b3s, ← e2]
  cases q <;> rfl
theorem G_trial {N : Nat} : Gd_trial N RelY := by
  intro b mb L S Rf I J I' J' x1 x2 hR
  obtain ⟨P, C, D, M, K, Rl, h⟩ := hR
  have hc := h.core
  have h6 := co_C6 hc
  unfold f11_trial f12_trial
  rcases co_isCase (J := J) (J' := J') (S := S) (Rf := Rf) hc x1 with ⟨e1, e2⟩ | ⟨c, hcC, rfl, e1, e2⟩
  · rw [e1, e2, b3s, b3s, if_pos rfl, if_pos rfl]
    exact ⟨_, _, _, _, _, rfl, rfl, P, C, D, M, K, Rl, h⟩
  · rw [e1, e2, b3s, b3s, if_neg i10, if_neg i10, l_inc (a := 0) (c := 9) 0 9 rfl rfl, b3s]
    by_cases hk : ∃ k, k ≤ 9 ∧ x2 = nI k
    · obtain ⟨k, hk, rfl⟩ := hk
      rw [rngY (hi := 9) 9 rfl (by omega) hk, if_neg i10]
      obtain rfl | rfl | rfl | rfl | rfl | rfl | rfl | rfl | rfl | rfl : k = 0 ∨ k = 1 ∨ k = 2 ∨ k = 3 ∨ k = 4 ∨ k = 5 ∨ k = 6 ∨ k = 7 ∨ k = 8 ∨ k = 9 := by omega
      · refine ⟨I' (mb + 10) (45 + 11 * c), I, J, I', J', ?_, ?_, P, C, D, M, K, Rl, h⟩
        · rw [if_pos (show nI 0 = 0 from rfl), yb_ck_t (inb_nI (by omega) (by decide)), nI_clamp (by omega), co_acc hc hcC]
        · rw [show nI 0 = 0 from rfl, k12_c0 (by omega), b3s]
      · refine ⟨I' (mb + 10) (46 + 11 * c), I, J, I', J', ?_, ?_, P, C, D, M, K, Rl, h⟩
        · rw [if_neg (show ¬ nI 1 = 0 by decide), if_pos (show nI 1 = 1 from rfl), yb_ck_t (inb_nI (by omega) (by decide)), nI_clamp (by omega), co_grav hc hcC]
        · rw [show nI 1 = 1 from rfl, k12_c1 (by omega), b3s]
      · refine ⟨I' (mb + 10) (47 + 11 * c), I, J, I', J', ?_, ?_, P, C, D, M, K, Rl, h⟩
        · rw [if_neg (show ¬ nI 2 = 0 by decide), if_neg (show ¬ nI 2 = 1 by decide), if_pos (show nI 2 = 2 from rfl), yb_ck_t (inb_nI (by omega) (by decide)), nI_clamp (by omega), co_len hc hcC]
        · rw [show nI 2 = 2 from rfl, k12_c2 (by omega), b3s]
      · refine ⟨I' (mb + 10) (48 + 11 * c), I, J, I', J', ?_, ?_, P, C, D, M, K, Rl, h⟩
        · rw [if_neg (show ¬ nI 3 = 0 by decide), if_neg (show ¬ nI 3 = 1 by decide), if_neg (show ¬ nI 3 = 2 by decide), if_pos (show nI 3 = 3 from rfl), yb_ck_t (inb_nI (by omega) (by decide)), nI_clamp (by omega), co_from hc hcC]
        · rw [show nI 3 = 3 from rfl, k12_c3 (by omega), b3s]
      · refine ⟨I' (mb + 10) (49 + 11 * c), I, J, I', J', ?_, ?_, P, C, D, M, K, Rl, h⟩
        · rw [if_neg (show ¬ nI 4 = 0 by decide), if_neg (show ¬ nI 4 = 1 by decide), if_neg (show ¬ nI 4 = 2 by decide), if_neg (show ¬ nI 4 = 3 by decide), if_pos (show nI 4 = 4 from rfl), yb_ck_t (inb_nI (by omega) (by decide)), nI_clamp (by omega), co_judge hc hcC]
        · rw [show nI 4 = 4 from rfl, k12_c4 (by omega), b3s]
      · refine ⟨I' (mb + 10) (50 + 11 * c), I, J, I', J', ?_, ?_, P, C, D, M, K, Rl, h⟩
        · rw [if_neg (show ¬ nI 5 = 0 by decide), if_neg (show ¬ nI 5 = 1 by decide), if_neg (show ¬ nI 5 = 2 by decide), if_neg (show ¬ nI 5 = 3 by decide), if_neg (show ¬ nI 5 = 4 by decide), if_pos (show nI 5 = 5 from rfl), yb_ck_t (inb_nI (by omega) (by decide)), nI_clamp (by omega), co_toGo hc hcC]
        · rw [show nI 5 = 5 from rfl, k12_c5 (by omega), b3s]
      · refine ⟨I' (mb + 10) (51 + 11 * c), I, J, I', J', ?_, ?_, P, C, D, M, K, Rl, h⟩
        · rw [if_neg (show ¬ nI 6 = 0 by decide), if_neg (show ¬ nI 6 = 1 by decide), if_neg (show ¬ nI 6 = 2 by decide), if_neg (show ¬ nI 6 = 3 by decide), if_neg (show ¬ nI 6 = 4 by decide), if_neg (show ¬ nI 6 = 5 by decide), if_pos (show nI 6 = 6 from rfl), yb_ck_t (inb_nI (by omega) (by decide)), nI_clamp (by omega), co_ruler hc hcC]
        · rw [show nI 6 = 6 from rfl, k12_c6 (by omega), b3s]
      · refine ⟨I' (mb + 10) (52 + 11 * c), I, J, I', J', ?_, ?_, P, C, D, M, K, Rl, h⟩
        · rw [if_neg (show ¬ nI 7 = 0 by decide), if_neg (show ¬ nI 7 = 1 by decide), if_neg (show ¬ nI 7 = 2 by decide), if_neg (show ¬ nI 7 = 3 by decide), if_neg (show ¬ nI 7 = 4 by decide), if_neg (show ¬ nI 7 = 5 by decide), if_neg (show ¬ nI 7 = 6 by decide), if_pos (show nI 7 = 7 from rfl), yb_ck_t (inb_nI (by omega) (by decide)), nI_clamp (by omega), co_right hc hcC]
        · rw [show nI 7 = 7 from rfl, k12_c7 (by omega), b3s]
      · refine ⟨I' (mb + 10) (53 + 11 * c), I, J, I', J', ?_, ?_, P, C, D, M, K, Rl, h⟩
        · rw [if_neg (show ¬ nI 8 = 0 by decide), if_neg (show ¬ nI 8 = 1 by decide), if_neg (show ¬ nI 8 = 2 by decide), if_neg (show ¬ nI 8 = 3 by decide), if_neg (show ¬ nI 8 = 4 by decide), if_neg (show ¬ nI 8 = 5 by decide), if_neg (show ¬ nI 8 = 6 by decide), if_neg (show ¬ nI 8 = 7 by decide), if_pos (show nI 8 = 8 from rfl), yb_ck_t (inb_nI (by omega) (by decide)), nI_clamp (by omega), co_rage hc hcC]
        · rw [show nI 8 = 8 from rfl, k12_c8 (by omega), b3s]
      · refine ⟨I' (mb + 10) (54 + 11 * c), I, J, I', J', ?_, ?_, P, C, D, M, K, Rl, h⟩
        · rw [if_neg (show ¬ nI 9 = 0 by decide), if_neg (show ¬ nI 9 = 1 by decide), if_neg (show ¬ nI 9 = 2 by decide), if_neg (show ¬ nI 9 = 3 by decide), if_neg (show ¬ nI 9 = 4 by decide), if_neg (show ¬ nI 9 = 5 by decide), if_neg (show ¬ nI 9 = 6 by decide), if_neg (show ¬ nI 9 = 7 by decide), if_neg (show ¬ nI 9 = 8 by decide), if_pos (show nI 9 = 9 from rfl), yb_ck_t (inb_nI (by omega) (by decide)), nI_clamp (by omega), co_times hc hcC]
        · rw [show nI 9 = 9 from rfl, k12_c9 (by omega), b3s]
    · have hn : ∀ k, k ≤ 9 → x2 ≠ nI k := fun k hk' e => hk ⟨k, hk', e⟩
      rw [rngN (hi := 9) 9 rfl hn, if_pos rfl, if_neg (show ¬ x2 = (0 : Int32) from hn 0 (by omega)), if_neg (show ¬ x2 = (1 : Int32) from hn 1 (by omega)), if_neg (show ¬ x2 = (2 : Int32) from hn 2 (by omega)), if_neg (show ¬ x2 = (3 : Int32) from hn 3 (by omega)), if_neg (show ¬ x2 = (4 : Int32) from hn 4 (by omega)), if_neg (show ¬ x2 = (5 : Int32) from hn 5 (by omega)), if_neg (show ¬ x2 = (6 : Int32) from hn 6 (by omega)), if_neg (show ¬ x2 = (7 : Int32) from hn 7 (by omega)), if_neg (show ¬ x2 = (8 : Int32) from hn 8 (by omega)), if_neg (show ¬ x2 = (9 : Int32) from hn 9 (by omega))]
      exact ⟨_, _, _, _, _, rfl, rfl, P, C, D, M, K, Rl, h⟩
theorem G_person {N : Nat} (hN : 1000 ≤ N) : Gd_person N RelY := by
  intro b mb L S Rf I J I' J' x1 x2 hR
  obtain ⟨P, C, D, M, K, Rl, h⟩ := hR
  have hc := h.core
  have h7 := co_P7 hc
  unfold f11_person f12_person
  rcases co_isPerson (J := J) (J' := J') (S := S) (Rf := Rf) hc x1 with ⟨e1, e2⟩ | ⟨p, hp, rfl, e1, e2⟩
  · rw [e1, e2, b3s, b3s, if_pos rfl, if_pos rfl]
    exact ⟨_, _, _, _, _, rfl, rfl, P, C, D, M, K, Rl, h⟩
  · obtain ⟨A, Y, F, La, eA, eY, eF, eL, bA, bY1, bY, bF, bL⟩ := co_nums hc hp
    have hy0 : ¬ I' (mb + 10) 1 ≤ 0 := by rw [eY]; exact nI_nle (by omega) (by omega)
    have hy1 : ¬ I' (mb + 10) 1 = 0 := by rw [eY]; exact nI_ne0 (by omega) (by omega)
    obtain ⟨e11, e12⟩ := co_ends hc (Or.inl (by omega))
    rw [e1, e2, b3s, b3s, if_neg i10, if_neg i10, yb_ck_t (inb_nI (by omega) (by decide)), nI_clamp (by omega), co_age hc hp, co_D hc, ← cv_D hc, lts, lts]
    by_cases c0 : x2 = 0
    · subst c0
      rw [if_pos rfl, if_pos rfl, q12_ageOn (by omega), b3s]
      exact ⟨_, _, _, _, _, rfl, rfl, P, C, D, M, K, Rl, h⟩
    by_cases c1 : x2 = 1
    · subst c1
      rw [if_neg (show ¬ (1 : Int32) = 0 by decide), if_neg (show ¬ (1 : Int32) = 0 by decide), if_pos rfl, if_pos rfl, k12_p1 (by omega), b3s, co_wit hc hp]
      exact ⟨_, _, _, _, _, rfl, rfl, P, C, D, M, K, Rl, h⟩
    by_cases c2 : x2 = 2
    · subst c2
      rw [if_neg (show ¬ (2 : Int32) = 0 by decide), if_neg (show ¬ (2 : Int32) = 0 by decide), if_neg (show ¬ (2 : Int32) = 1 by decide), if_neg (show ¬ (2 : Int32) = 1 by decide), if_pos rfl, if_pos rfl, k12_p2 (by omega), b3s, co_sweets hc hp]
      exact ⟨_, _, _, _, _, rfl, rfl, P, C, D, M, K, Rl, h⟩
    by_cases c3 : x2 = 3
    · subst c3
      rw [if_neg (show ¬ (3 : Int32) = 0 by decide), if_neg (show ¬ (3 : Int32) = 0 by decide), if_neg (show ¬ (3 : Int32) = 1 by decide), if_neg (show ¬ (3 : Int32) = 1 by decide), if_neg (show ¬ (3 : Int32) = 2 by decide), if_neg (show ¬ (3 : Int32) = 2 by decide), if_pos rfl, if_pos rfl, k12_p3 (by omega), b3s, co_twins hc hp]
      exact ⟨_, _, _, _, _, rfl, rfl, P, C, D, M, K, Rl, h⟩
    by_cases c4 : x2 = 4
    · subst c4
      rw [if_neg (show ¬ (4 : Int32) = 0 by decide), if_neg (show ¬ (4 : Int32) = 0 by decide), if_neg (show ¬ (4 : Int32) = 1 by decide), if_neg (show ¬ (4 : Int32) = 1 by decide), if_neg (show ¬ (4 : Int32) = 2 by decide), if_neg (show ¬ (4 : Int32) = 2 by decide), if_neg (show ¬ (4 : Int32) = 3 by decide), if_neg (show ¬ (4 : Int32) = 3 by decide), if_pos rfl, if_pos rfl, q12_birthdayIn (by omega) hy1, b3s]
      unfold f9_tillBirthday
      rw [co_year hc, if_neg hy0, if_neg hy1, b3s]
      exact ⟨_, _, _, _, _, rfl, rfl, P, C, D, M, K, Rl, h⟩
    by_cases c5 : x2 = 5
    · subst c5
      rw [if_neg (show ¬ (5 : Int32) = 0 by decide), if_neg (show ¬ (5 : Int32) = 0 by decide), if_neg (show ¬ (5 : Int32) = 1 by decide), if_neg (show ¬ (5 : Int32) = 1 by decide), if_neg (show ¬ (5 : Int32) = 2 by decide), if_neg (show ¬ (5 : Int32) = 2 by decide), if_neg (show ¬ (5 : Int32) = 3 by decide), if_neg (show ¬ (5 : Int32) = 3 by decide), if_neg (show ¬ (5 : Int32) = 4 by decide), if_neg (show ¬ (5 : Int32) = 4 by decide), if_pos rfl, if_pos rfl, q12_hearsNow (by omega) hc, q0_heardBy (by omega) hc hp, b3s, b3s]
      exact ⟨_, _, _, _, _, rfl, rfl, P, C, D, M, K, Rl, h⟩
    by_cases c6 : x2 = 6
    · subst c6
      rw [if_neg (show ¬ (6 : Int32) = 0 by decide), if_neg (show ¬ (6 : Int32) = 0 by decide), if_neg (show ¬ (6 : Int32) = 1 by decide), if_neg (show ¬ (6 : Int32) = 1 by decide), if_neg (show ¬ (6 : Int32) = 2 by decide), if_neg (show ¬ (6 : Int32) = 2 by decide), if_neg (show ¬ (6 : Int32) = 3 by decide), if_neg (show ¬ (6 : Int32) = 3 by decide), if_neg (show ¬ (6 : Int32) = 4 by decide), if_neg (show ¬ (6 : Int32) = 4 by decide), if_neg (show ¬ (6 : Int32) = 5 by decide), if_neg (show ¬ (6 : Int32) = 5 by decide), if_pos rfl, if_pos rfl, k12_p4 (by omega), b3s, co_ruled hc hp]
      exact ⟨_, _, _, _, _, rfl, rfl, P, C, D, M, K, Rl, h⟩
    by_cases c7 : x2 = 7
    · subst c7
      rw [if_neg (show ¬ (7 : Int32) = 0 by decide), if_neg (show ¬ (7 : Int32) = 0 by decide), if_neg (show ¬ (7 : Int32) = 1 by decide), if_neg (show ¬ (7 : Int32) = 1 by decide), if_neg (show ¬ (7 : Int32) = 2 by decide), if_neg (show ¬ (7 : Int32) = 2 by decide), if_neg (show ¬ (7 : Int32) = 3 by decide), if_neg (show ¬ (7 : Int32) = 3 by decide), if_neg (show ¬ (7 : Int32) = 4 by decide), if_neg (show ¬ (7 : Int32) = 4 by decide), if_neg (show ¬ (7 : Int32) = 5 by decide), if_neg (show ¬ (7 : Int32) = 5 by decide), if_neg (show ¬ (7 : Int32) = 6 by decide), if_neg (show ¬ (7 : Int32) = 6 by decide), if_pos rfl, if_pos rfl, q12_sitsOn (by omega), b3s, q9_sits, b3s, e11, e12]
      show ∃ r I1 J1 I1' J1', (if sitS (I' (mb + 10)) (I' (mb + 10) (10 + 5 * p) + I' (mb + 10) 4) = 0 then some ((0 : Int32), I, J) else some ((1 : Int32), I, J)) = some (r, I1, J1) ∧ _
      by_cases cs : sitS (I' (mb + 10)) (I' (mb + 10) (10 + 5 * p) + I' (mb + 10) 4) = 0
      · rw [if_pos cs, if_pos cs]; exact ⟨_, _, _, _, _, rfl, rfl, P, C, D, M, K, Rl, h⟩
      · rw [if_neg cs, if_neg cs]; exact ⟨_, _, _, _, _, rfl, rfl, P, C, D, M, K, Rl, h⟩
    rw [if_neg c0, if_neg c0, if_neg c1, if_neg c1, if_neg c2, if_neg c2, if_neg c3, if_neg c3, if_neg c4, if_neg c4, if_neg c5, if_neg c5, if_neg c6, if_neg c6, if_neg c7, if_neg c7]
    exact ⟨_, _, _, _, _, rfl, rfl, P, C, D, M, K, Rl, h⟩
