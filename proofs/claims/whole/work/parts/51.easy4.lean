theorem or_z (x : Int32) : x ||| 0 = x := by simp
theorem hbits_L {N b mb P C D : Nat} {I I' : IT} {J J' : JT} {S : ST} {Rf : RT} (h : CoreR b mb I I' P C D) : ∀ r k n n' acc, k + r = C → r < n → r < n' → ∃ q, f0_heardBits_L4 N b S Rf (b + 14) (nI C) n acc (nI k) I J = some (q, I, J) ∧ f12_count_L102 N mb 7 n' acc (nI k) I' J' = some (q, I', J') := by
  have h6 := co_C6 h
  intro r
  induction r with
  | zero =>
    intro k n n' acc hk hn hn'
    obtain ⟨n, rfl⟩ : ∃ q, n = q + 1 := ⟨n - 1, by omega⟩
    obtain ⟨n', rfl⟩ : ∃ q, n' = q + 1 := ⟨n' - 1, by omega⟩
    have e : nI C ≤ nI k := nI_le (by omega) (by omega)
    rw [f0_heardBits_L4, f12_count_L102, cv_C h, if_pos e, if_pos e]
    exact ⟨_, rfl, rfl⟩
  | succ r ih =>
    intro k n n' acc hk hn hn'
    obtain ⟨n, rfl⟩ : ∃ q, n = q + 1 := ⟨n - 1, by omega⟩
    obtain ⟨n', rfl⟩ : ∃ q, n' = q + 1 := ⟨n' - 1, by omega⟩
    have e : ¬ nI C ≤ nI k := nI_ge (by omega) (by omega)
    rw [f0_heardBits_L4, f12_count_L102, cv_C h, if_neg e, if_neg e, if_pos rfl, k12_c4 (by omega), b3s, yb_ck_t (inb_nI (by omega) (by decide)), nI_clamp (by omega), show b + 14 + 3 = b + 17 from rfl, co_judge h (by omega)]
    by_cases c : I' (mb + 10) (49 + 11 * k) < 0
    · rw [if_pos c, if_pos c, lts, lts, lts, or_z, nI_1]
      exact ih (k + 1) n n' _ (by omega) (by omega) (by omega)
    · rw [if_neg c, if_neg c, lts, lts, lts, lts, nI_1]
      exact ih (k + 1) n n' _ (by omega) (by omega) (by omega)
theorem rbits_L {N b mb P C D : Nat} {I I' : IT} {J J' : JT} {S : ST} {Rf : RT} (h : CoreR b mb I I' P C D) : ∀ r k n n' acc, k + r = C → r < n → r < n' → ∃ q, f0_ruledBits_L4 N b S Rf (b + 14) (nI C) n acc (nI k) I J = some (q, I, J) ∧ f12_count_L102 N mb 8 n' acc (nI k) I' J' = some (q, I', J') := by
  have h6 := co_C6 h
  intro r
  induction r with
  | zero =>
    intro k n n' acc hk hn hn'
    obtain ⟨n, rfl⟩ : ∃ q, n = q + 1 := ⟨n - 1, by omega⟩
    obtain ⟨n', rfl⟩ : ∃ q, n' = q + 1 := ⟨n' - 1, by omega⟩
    have e : nI C ≤ nI k := nI_le (by omega) (by omega)
    rw [f0_ruledBits_L4, f12_count_L102, cv_C h, if_pos e, if_pos e]
    exact ⟨_, rfl, rfl⟩
  | succ r ih =>
    intro k n n' acc hk hn hn'
    obtain ⟨n, rfl⟩ : ∃ q, n = q + 1 := ⟨n - 1, by omega⟩
    obtain ⟨n', rfl⟩ : ∃ q, n' = q + 1 := ⟨n' - 1, by omega⟩
    have e : ¬ nI C ≤ nI k := nI_ge (by omega) (by omega)
    rw [f0_ruledBits_L4, f12_count_L102, cv_C h, if_neg e, if_neg e, if_neg (show ¬ (8 : Int32) = 7 by decide), k12_c9 (by omega), b3s, yb_ck_t (inb_nI (by omega) (by decide)), nI_clamp (by omega), show b + 14 + 9 = b + 23 from rfl, co_times h (by omega)]
    by_cases c : I' (mb + 10) (54 + 11 * k) ≤ 0
    · rw [if_pos c, if_pos c, lts, lts, lts, or_z, nI_1]
      exact ih (k + 1) n n' _ (by omega) (by omega) (by omega)
    · rw [if_neg c, if_neg c, lts, lts, lts, lts, nI_1]
      exact ih (k + 1) n n' _ (by omega) (by omega) (by omega)
theorem G_count {N : Nat} (hN : 1000 ≤ N) : Gd_count N RelY := by
  intro b mb L S Rf I J I' J' x1 hR
  obtain ⟨P, C, D, M, K, Rl, h⟩ := hR
  have hc := h.core
  have h6 := co_C6 hc
  have hh : ∀ r, ∃ (r_1 : Int32) (I1 : IT) (J1 : JT) (I1' : IT) (J1' : JT), some (r, I, J) = some (r_1, I1, J1) ∧ some (r, I', J') = some (r_1, I1', J1') ∧ RelY b mb L S Rf I1 J1 I1' J1' := fun r => ⟨r, I, J, I', J', rfl, rfl, P, C, D, M, K, Rl, h⟩
  have hS := h.2.2.2.2.1
  have eK : I b 15 = I' mb 2 := h.2.2.2.2.2.2.1.1.trans h.2.2.2.2.2.2.1.2.1.symm
  have e7 : I (b + 4) 7 = I' mb 22 := hS.2.2.2.2.2.1.2.1
  have e5 : I (b + 4) 5 = I' (mb + 10) 141 := hS.2.2.2.2.2.2.1
  have e24 : I (b + 28) 2 = I' mb 24 := by
    obtain ⟨nx, u, g1, g2, g3, g4, g5, g6⟩ := h.2.2.2.2.2.2.2.2
    rw [g4, g5]
  have e14 : I b 14 = I' mb 1 := h.2.2.2.1.1
  have eP : I (b + 5) 13 = I' (mb + 10) 2 := (co_P hc).trans (cv_P hc).symm
  have eC : I (b + 5) 14 = I' (mb + 10) 3 := (co_C hc).trans (cv_C hc).symm
  have eD : I (b + 14) 9 = I' (mb + 10) 4 := (co_D hc).trans (cv_D hc).symm
  unfold f11_count f12_count
  by_cases c0 : x1 = 0
  · subst c0
    rw [if_pos rfl, if_pos rfl, yb_ck_t (show inb (0 : Int32) 142 = true from rfl), show (0 : Int32).toNatClampNeg = 0 from rfl, co_gap hc]
    exact hh _
  by_cases c1 : x1 = 1
  · subst c1
    rw [if_neg (show ¬ (1 : Int32) = 0 by decide), if_neg (show ¬ (1 : Int32) = 0 by decide), if_pos rfl, if_pos rfl, yb_ck_t (show inb (1 : Int32) 142 = true from rfl), show (1 : Int32).toNatClampNeg = 1 from rfl, co_year hc]
    exact hh _
  by_cases c2 : x1 = 2
  · subst c2
    rw [if_neg (show ¬ (2 : Int32) = 0 by decide), if_neg (show ¬ (2 : Int32) = 0 by decide), if_neg (show ¬ (2 : Int32) = 1 by decide), if_neg (show ¬ (2 : Int32) = 1 by decide), if_pos rfl, if_pos rfl, yb_ck_t (show inb (2 : Int32) 142 = true from rfl), show (2 : Int32).toNatClampNeg = 2 from rfl, eP]
    exact hh _
  by_cases c3 : x1 = 3
  · subst c3
    rw [if_neg (show ¬ (3 : Int32) = 0 by decide), if_neg (show ¬ (3 : Int32) = 0 by decide), if_neg (show ¬ (3 : Int32) = 1 by decide), if_neg (show ¬ (3 : Int32) = 1 by decide), if_neg (show ¬ (3 : Int32) = 2 by decide), if_neg (show ¬ (3 : Int32) = 2 by decide), if_pos rfl, if_pos rfl, yb_ck_t (show inb (3 : Int32) 142 = true from rfl), show (3 : Int32).toNatClampNeg = 3 from rfl, eC]
    exact hh _
  by_cases c4 : x1 = 4
  · subst c4
    rw [if_neg (show ¬ (4 : Int32) = 0 by decide), if_neg (show ¬ (4 : Int32) = 0 by decide), if_neg (show ¬ (4 : Int32) = 1 by decide), if_neg (show ¬ (4 : Int32) = 1 by decide), if_neg (show ¬ (4 : Int32) = 2 by decide), if_neg (show ¬ (4 : Int32) = 2 by decide), if_neg (show ¬ (4 : Int32) = 3 by decide), if_neg (show ¬ (4 : Int32) = 3 by decide), if_pos rfl, if_pos rfl, eK]
    exact hh _
  by_cases c5 : x1 = 5
  · subst c5
    rw [if_neg (show ¬ (5 : Int32) = 0 by decide), if_neg (show ¬ (5 : Int32) = 0 by decide), if_neg (show ¬ (5 : Int32) = 1 by decide), if_neg (show ¬ (5 : Int32) = 1 by decide), if_neg (show ¬ (5 : Int32) = 2 by decide), if_neg (show ¬ (5 : Int32) = 2 by decide), if_neg (show ¬ (5 : Int32) = 3 by decide), if_neg (show ¬ (5 : Int32) = 3 by decide), if_neg (show ¬ (5 : Int32) = 4 by decide), if_neg (show ¬ (5 : Int32) = 4 by decide), if_pos rfl, if_pos rfl, h.f6]
    exact hh _
  by_cases c6 : x1 = 6
  · subst c6
    rw [if_neg (show ¬ (6 : Int32) = 0 by decide), if_neg (show ¬ (6 : Int32) = 0 by decide), if_neg (show ¬ (6 : Int32) = 1 by decide), if_neg (show ¬ (6 : Int32) = 1 by decide), if_neg (show ¬ (6 : Int32) = 2 by decide), if_neg (show ¬ (6 : Int32) = 2 by decide), if_neg (show ¬ (6 : Int32) = 3 by decide), if_neg (show ¬ (6 : Int32) = 3 by decide), if_neg (show ¬ (6 : Int32) = 4 by decide), if_neg (show ¬ (6 : Int32) = 4 by decide), if_neg (show ¬ (6 : Int32) = 5 by decide), if_neg (show ¬ (6 : Int32) = 5 by decide), if_pos rfl, if_pos rfl, eD]
    exact hh _
  by_cases c7 : x1 = 7
  · subst c7
    rw [if_neg (show ¬ (7 : Int32) = 0 by decide), if_neg (show ¬ (7 : Int32) = 0 by decide), if_neg (show ¬ (7 : Int32) = 1 by decide), if_neg (show ¬ (7 : Int32) = 1 by decide), if_neg (show ¬ (7 : Int32) = 2 by decide), if_neg (show ¬ (7 : Int32) = 2 by decide), if_neg (show ¬ (7 : Int32) = 3 by decide), if_neg (show ¬ (7 : Int32) = 3 by decide), if_neg (show ¬ (7 : Int32) = 4 by decide), if_neg (show ¬ (7 : Int32) = 4 by decide), if_neg (show ¬ (7 : Int32) = 5 by decide), if_neg (show ¬ (7 : Int32) = 5 by decide), if_neg (show ¬ (7 : Int32) = 6 by decide), if_neg (show ¬ (7 : Int32) = 6 by decide), if_pos rfl, if_pos rfl]
    unfold f0_heardBits
    obtain ⟨q, r1, r2⟩ := hbits_L (N := N) (S := S) (Rf := Rf) (J := J) (J' := J') hc C 0 N N 0 (by omega) (by omega) (by omega)
    rw [show nI 0 = (0 : Int32) from rfl] at r1 r2
    rw [co_C hc, r1, r2, b3s, b3s, b3s]
    exact hh _
  by_cases c8 : x1 = 8
  · subst c8
    rw [if_neg (show ¬ (8 : Int32) = 0 by decide), if_neg (show ¬ (8 : Int32) = 0 by decide), if_neg (show ¬ (8 : Int32) = 1 by decide), if_neg (show ¬ (8 : Int32) = 1 by decide), if_neg (show ¬ (8 : Int32) = 2 by decide), if_neg (show ¬ (8 : Int32) = 2 by decide), if_neg (show ¬ (8 : Int32) = 3 by decide), if_neg (show ¬ (8 : Int32) = 3 by decide), if_neg (show ¬ (8 : Int32) = 4 by decide), if_neg (show ¬ (8 : Int32) = 4 by decide), if_neg (show ¬ (8 : Int32) = 5 by decide), if_neg (show ¬ (8 : Int32) = 5 by decide), if_neg (show ¬ (8 : Int32) = 6 by decide), if_neg (show ¬ (8 : Int32) = 6 by decide), if_neg (show ¬ (8 : Int32) = 7 by decide), if_neg (show ¬ (8 : Int32) = 7 by decide), if_pos rfl, if_pos rfl]
    unfold f0_ruledBits
    obtain ⟨q, r1, r2⟩ := rbits_L (N := N) (S := S) (Rf := Rf) (J := J) (J' := J') hc C 0 N N 0 (by omega) (by omega) (by omega)
    rw [show nI 0 = (0 : Int32) from rfl] at r1 r2
    rw [co_C hc, r1, r2, b3s, b3s, b3s]
    exact hh _
  by_cases c9 : x1 = 9
  · subst c9
    rw [if_neg (show ¬ (9 : Int32) = 0 by decide), if_neg (show ¬ (9 : Int32) = 0 by decide), if_neg (show ¬ (9 : Int32) = 1 by decide), if_neg (show ¬ (9 : Int32) = 1 by decide), if_neg (show ¬ (9 : Int32) = 2 by decide), if_neg (show ¬ (9 : Int32) = 2 by decide), if_neg (show ¬ (9 : Int32) = 3 by decide), if_neg (show ¬ (9 : Int32) = 3 by decide), if_neg (show ¬ (9 : Int32) = 4 by decide), if_neg (show ¬ (9 : Int32) = 4 by decide), if_neg (show ¬ (9 : Int32) = 5 by decide), if_neg (show ¬ (9 : Int32) = 5 by decide), if_neg (show ¬ (9 : Int32) = 6 by decide), if_neg (show ¬ (9 : Int32) = 6 by decide), if_neg (show ¬ (9 : Int32) = 7 by decide), if_neg (show ¬ (9 : Int32) = 7 by decide), if_neg (show ¬ (9 : Int32) = 8 by decide), if_neg (show ¬ (9 : Int32) = 8 by decide), if_pos rfl, if_pos rfl]
    rcases co_isTown (J' := J') hc with ⟨t1, t2⟩ | ⟨t1, t2, t3⟩
    · rw [t1, t2, b3s, if_pos rfl, if_pos rfl]; exact hh _
    · rw [t1, t2, b3s, if_neg i10, if_neg i10, yb_ck_t (show inb ((9 : Int32) - 4) 142 = true from rfl), show ((9 : Int32) - 4).toNatClampNeg = 5 from rfl, show I (b + 5) 11 = I' (mb + 10) 5 from (hc.2.1.2.1 t3).2.1]; exact hh _
  by_cases c10 : x1 = 10
  · subst c10
    rw [if_neg (show ¬ (10 : Int32) = 0 by decide), if_neg (show ¬ (10 : Int32) = 0 by decide), if_neg (show ¬ (10 : Int32) = 1 by decide), if_neg (show ¬ (10 : Int32) = 1 by decide), if_neg (show ¬ (10 : Int32) = 2 by decide), if_neg (show ¬ (10 : Int32) = 2 by decide), if_neg (show ¬ (10 : Int32) = 3 by decide), if_neg (show ¬ (10 : Int32) = 3 by decide), if_neg (show ¬ (10 : Int32) = 4 by decide), if_neg (show ¬ (10 : Int32) = 4 by decide), if_neg (show ¬ (10 : Int32) = 5 by decide), if_neg (show ¬ (10 : Int32) = 5 by decide), if_neg (show ¬ (10 : Int32) = 6 by decide), if_neg (show ¬ (10 : Int32) = 6 by decide), if_neg (show ¬ (10 : Int32) = 7 by decide), if_neg (show ¬ (10 : Int32) = 7 by decide), if_neg (show ¬ (10 : Int32) = 8 by decide), if_neg (show ¬ (10 : Int32) = 8 by decide), if_neg (show ¬ (10 : Int32) = 9 by decide), if_neg (show ¬ (10 : Int32) = 9 by decide), if_pos rfl, if_pos rfl]
    rcases co_isTown (J' := J') hc with ⟨t1, t2⟩ | ⟨t1, t2, t3⟩
    · rw [t1, t2, b3s, if_pos rfl, if_pos rfl]; exact hh _
    · rw [t1, t2, b3s, if_neg i10, if_neg i10, yb_ck_t (show inb ((10 : Int32) - 4) 142 = true from rfl), show ((10 : Int32) - 4).toNatClampNeg = 6 from rfl, show I (b + 5) 12 = I' (mb + 10) 6 from (hc.2.1.2.1 t3).2.2]; exact hh _
  by_cases c11 : x1 = 11
  · subst c11
    rw [if_neg (show ¬ (11 : Int32) = 0 by decide), if_neg (show ¬ (11 : Int32) = 0 by decide), if_neg (show ¬ (11 : Int32) = 1 by decide), if_neg (show ¬ (11 : Int32) = 1 by decide), if_neg (show ¬ (11 : Int32) = 2 by decide), if_neg (show ¬ (11 : Int32) = 2 by decide), if_neg (show ¬ (11 : Int32) = 3 by decide), if_neg (show ¬ (11 : Int32) = 3 by decide), if_neg (show ¬ (11 : Int32) = 4 by decide), if_neg (show ¬ (11 : Int32) = 4 by decide), if_neg (show ¬ (11 : Int32) = 5 by decide), if_neg (show ¬ (11 : Int32) = 5 by decide), if_neg (show ¬ (11 : Int32) = 6 by decide), if_neg (show ¬ (11 : Int32) = 6 by decide), if_neg (show ¬ (11 : Int32) = 7 by decide), if_neg (show ¬ (11 : Int32) = 7 by decide), if_neg (show ¬ (11 : Int32) = 8 by decide), if_neg (show ¬ (11 : Int32) = 8 by decide), if_neg (show ¬ (11 : Int32) = 9 by decide), if_neg (show ¬ (11 : Int32) = 9 by decide), if_neg (show ¬ (11 : Int32) = 10 by decide), if_neg (show ¬ (11 : Int32) = 10 by decide), if_pos rfl, if_pos rfl, e5]
    exact hh _
  by_cases c12 : x1 = 12
  · subst c12
    rw [if_neg (show ¬ (12 : Int32) = 0 by decide), if_neg (show ¬ (12 : Int32) = 0 by decide), if_neg (show ¬ (12 : Int32) = 1 by decide), if_neg (show ¬ (12 : Int32) = 1 by decide), if_neg (show ¬ (12 : Int32) = 2 by decide), if_neg (show ¬ (12 : Int32) = 2 by decide), if_neg (show ¬ (12 : Int32) = 3 by decide), if_neg (show ¬ (12 : Int32) = 3 by decide), if_neg (show ¬ (12 : Int32) = 4 by decide), if_neg (show ¬ (12 : Int32) = 4 by decide), if_neg (show ¬ (12 : Int32) = 5 by decide), if_neg (show ¬ (12 : Int32) = 5 by decide), if_neg (show ¬ (12 : Int32) = 6 by decide), if_neg (show ¬ (12 : Int32) = 6 by decide), if_neg (show ¬ (12 : Int32) = 7 by decide), if_neg (show ¬ (12 : Int32) = 7 by decide), if_neg (show ¬ (12 : Int32) = 8 by decide), if_neg (show ¬ (12 : Int32) = 8 by decide), if_neg (show ¬ (12 : Int32) = 9 by decide), if_neg (show ¬ (12 : Int32) = 9 by decide), if_neg (show ¬ (12 : Int32) = 10 by decide), if_neg (show ¬ (12 : Int32) = 10 by decide), if_neg (show ¬ (12 : Int32) = 11 by decide), if_neg (show ¬ (12 : Int32) = 11 by decide), if_pos rfl, if_pos rfl, e24]
    exact hh _
  by_cases c13 : x1 = 13
  · subst c13
    rw [if_neg (show ¬ (13 : Int32) = 0 by decide), if_neg (show ¬ (13 : Int32) = 0 by decide), if_neg (show ¬ (13 : Int32) = 1 by decide), if_neg (show ¬ (13 : Int32) = 1 by decide), if_neg (show ¬ (13 : Int32) = 2 by decide), if_neg (show ¬ (13 : Int32) = 2 by decide), if_neg (show ¬ (13 : Int32) = 3 by decide), if_neg (show ¬ (13 : Int32) = 3 by decide), if_neg (show ¬ (13 : Int32) = 4 by decide), if_neg (show ¬ (13 : Int32) = 4 by decide), if_neg (show ¬ (13 : Int32) = 5 by decide), if_neg (show ¬ (13 : Int32) = 5 by decide), if_neg (show ¬ (13 : Int32) = 6 by decide), if_neg (show ¬ (13 : Int32) = 6 by decide), if_neg (show ¬ (13 : Int32) = 7 by decide), if_neg (show ¬ (13 : Int32) = 7 by decide), if_neg (show ¬ (13 : Int32) = 8 by decide), if_neg (show ¬ (13 : Int32) = 8 by decide), if_neg (show ¬ (13 : Int32) = 9 by decide), if_neg (show ¬ (13 : Int32) = 9 by decide), if_neg (show ¬ (13 : Int32) = 10 by decide), if_neg (show ¬ (13 : Int32) = 10 by decide), if_neg (show ¬ (13 : Int32) = 11 by decide), if_neg (show ¬ (13 : Int32) = 11 by decide), if_neg (show ¬ (13 : Int32) = 12 by decide), if_neg (show ¬ (13 : Int32) = 12 by decide), if_pos rfl, if_pos rfl, e7]
    exact hh _
  by_cases c14 : x1 = 14
  · subst c14
    rw [if_neg (show ¬ (14 : Int32) = 0 by decide), if_neg (show ¬ (14 : Int32) = 0 by decide), if_neg (show ¬ (14 : Int32) = 1 by decide), if_neg (show ¬ (14 : Int32) = 1 by decide), if_neg (show ¬ (14 : Int32) = 2 by decide), if_neg (show ¬ (14 : Int32) = 2 by decide), if_neg (show ¬ (14 : Int32) = 3 by decide), if_neg (show ¬ (14 : Int32) = 3 by decide), if_neg (show ¬ (14 : Int32) = 4 by decide), if_neg (show ¬ (14 : Int32) = 4 by decide), if_neg (show ¬ (14 : Int32) = 5 by decide), if_neg (show ¬ (14 : Int32) = 5 by decide), if_neg (show ¬ (14 : Int32) = 6 by decide), if_neg (show ¬ (14 : Int32) = 6 by decide), if_neg (show ¬ (14 : Int32) = 7 by decide), if_neg (show ¬ (14 : Int32) = 7 by decide), if_neg (show ¬ (14 : Int32) = 8 by decide), if_neg (show ¬ (14 : Int32) = 8 by decide), if_neg (show ¬ (14 : Int32) = 9 by decide), if_neg (show ¬ (14 : Int32) = 9 by decide), if_neg (show ¬ (14 : Int32) = 10 by decide), if_neg (show ¬ (14 : Int32) = 10 by decide), if_neg (show ¬ (14 : Int32) = 11 by decide), if_neg (show ¬ (14 : Int32) = 11 by decide), if_neg (show ¬ (14 : Int32) = 12 by decide), if_neg (show ¬ (14 : Int32) = 12 by decide), if_neg (show ¬ (14 : Int32) = 13 by decide), if_neg (show ¬ (14 : Int32) = 13 by decide), if_pos rfl, if_pos rfl, e14]
    exact hh _
  rw [if_neg c0, if_neg c0, if_neg c1, if_neg c1, if_neg c2, if_neg c2, if_neg c3, if_neg c3, if_neg c4, if_neg c4, if_neg c5, if_neg c5, if_neg c6, if_neg c6, if_neg c7, if_neg c7, if_neg c8, if_neg c8, if_neg c9, if_neg c9, if_neg c10, if_neg c10, if_neg c11, if_neg c11, if_neg c12, if_neg c12, if_neg c13, if_neg c13, if_neg c14, if_neg c14]
  exact hh _
theorem G_fact {N : Nat} : Gd_fact N RelY := by
  intro b mb L S Rf I J I' J' x1 x2 x3 hR
  obtain ⟨P, C, D, M, K, Rl, h⟩ := hR
  have hc := h.core
  have h6 := co_C6 hc
  have h7 := co_P7 hc
  have hh : ∀ r, ∃ (r_1 : Int32) (I1 : IT) (J1 : JT) (I1' : IT) (J1' : JT), some (r, I, J) = some (r_1, I1, J1) ∧ some (r, I', J') = some (r_1, I1', J1') ∧ RelY b mb L S Rf I1 J1 I1' J1' := fun r => ⟨r, I, J, I', J', rfl, rfl, P, C, D, M, K, Rl, h⟩
  have hS := h.2.2.2.2.1
  obtain ⟨q1, ⟨qm1, qm2, qm3⟩, q3, q4, q5, q6, q7, q8⟩ := id hS
  have e5 : I (b + 4) 5 = nI M := q7.trans qm1
  unfold f11_fact f12_fact_
  by_cases cm : x1 = -1
  · rw [if_pos cm, if_pos cm, lts, lts]
    refine ⟨_, _, _, _, _, rfl, rfl, P, C, D, 0, K, Rl, h.swap (fun a _ _ => up2_ne _ _ _ (by omega)) (fun a ha => up2_ne _ _ _ (by omega)) (up2_at (Or.inl (by omega))) (up2_ne _ _ _ (by omega)) (fun a h1 h2 => up2_ne _ _ _ (by omega)) (up2_at (Or.inl (by omega))) (up2_at (Or.inl (by omega))) (fun k hk => up2_ne _ _ _ (by omega)) ?_ ?_ ?_⟩
    · rw [up2_at (Or.inl (by omega)), up2_at (Or.inl (by omega)), up2_ne _ _ _ (show b + 1 ≠ b + 4 by omega), up2_ne _ _ _ (show mb + 1 ≠ mb + 10 by omega)]
      exact h.2.2.2.1
    · rw [up2_at (Or.inl (by omega)), up2_at (Or.inl (by omega))]
      have hv : ∀ i, i < 111 → up2 I' (mb + 10) 141 0 (mb + 10) i = I' (mb + 10) i := fun i hi => up2_at (Or.inr (by omega))
      refine ⟨q1.vc hv, ⟨up2_same _ _ _ _, by omega, fun k hk => by omega⟩, ?_, ?_, q5, ?_, ?_, fun k hk => by omega⟩
      · exact (q3.congr (fun k hk => up2_ne _ _ _ (by omega))).vc h7 h6 hv
      · exact (q4.congr (fun k hk => up2_ne _ _ _ (by omega))).vc h7 h6 hv
      · exact ⟨(up2_at (Or.inr (by decide))).trans q6.1, (up2_at (Or.inr (by decide))).trans q6.2.1, q6.2.2⟩
      · rw [up2_same]; exact up2_same _ _ _ _
    · rw [up2_at (Or.inl (by omega))]; exact h.fo
  · rw [if_neg cm, if_neg cm]
    rcases co_isCase (J := J) (J' := J') (S := S) (Rf := Rf) hc x1 with ⟨a1, a2⟩ | ⟨c, hcC, rfl, a1, a2⟩
    · rw [a1, a2, b3s, b3s, if_pos rfl, if_pos rfl]; exact hh _
    · rw [a1, a2, b3s, b3s, if_neg i10, if_neg i10, l_inc (a := 0) (c := 7) 0 7 rfl rfl, b3s]
      by_cases hk : ∃ d, d ≤ 7 ∧ x2 = nI d
      · obtain ⟨w, hw, rfl⟩ := hk
        rw [rngY (hi := 7) 7 rfl (by omega) hw, if_neg i10, if_neg (nI_pos (by omega)), if_neg (show ¬ (7 : Int32) < nI w from nI_nlt (a := 7) hw (by omega)), l_inc (a := 0) (c := 9999) 0 9999 rfl rfl, b3s]
        by_cases hk2 : ∃ d, d ≤ 9999 ∧ x3 = nI d
        · obtain ⟨y, hy, rfl⟩ := hk2
          rw [rngY (hi := 9999) 9999 rfl (by omega) hy, if_neg i10, if_neg (nI_pos (by omega)), if_neg (show ¬ (9999 : Int32) < nI y from nI_nlt (a := 9999) hy (by omega)), e5, qm1]
          by_cases cM : M = 10
          · subst cM
            rw [if_neg (show ¬ nI 10 < (10 : Int32) by decide), if_pos (show nI 10 = (10 : Int32) from rfl)]; exact hh _
          · have ex : (111 : Int32) + 3 * nI M = nI (111 + 3 * M) := by
              show nI 111 + nI 3 * nI M = _
              rw [pk_mul, nI_add]
            have ex1 : nI (111 + 3 * M) + 1 = nI (111 + 3 * M + 1) := nI_1 _
            have ex2 : nI (111 + 3 * M) + 2 = nI (111 + 3 * M + 2) := nI_add _ 2
            rw [if_pos (show nI M < (10 : Int32) from nI_lt (b := 10) (by omega) (by omega)), if_neg (show ¬ nI M = (10 : Int32) from nI_nl 10 rfl (by omega) (by omega) cM), ex, lts, ex1, ex2, yb_ck_t (inb_nI (by omega) (by decide)), lts, yb_ck_t (inb_nI (by omega) (by decide)), lts, yb_ck_t (inb_nI (by omega) (by decide)), lts, lts, nI_clamp (by omega), nI_clamp (by omega), nI_clamp (by omega)]
            unfold f8_addFact
            rw [e5, if_neg (show ¬ (10 : Int32) ≤ nI M from nI_ge (b := 10) (by omega) (by omega)), yb_ck_t (inb_nI (by omega) (by decide)), nI_clamp (by omega), lts]
            have g1 : up2 I (b + 4 + 20) M (nI c) (b + 4) 5 = nI M := (up2_at (Or.inl (by omega))).trans e5
            rw [g1, yb_ck_t (inb_nI (by omega) (by decide)), nI_clamp (by omega), lts]
            have g2 : up2 (up2 I (b + 4 + 20) M (nI c)) (b + 4 + 21) M (nI w) (b + 4) 5 = nI M := (up2_at (Or.inl (by omega))).trans g1
            rw [g2, yb_ck_t (inb_nI (by omega) (by decide)), nI_clamp (by omega), lts]
            have g3 : up2 (up2 (up2 I (b + 4 + 20) M (nI c)) (b + 4 + 21) M (nI w)) (b + 4 + 22) M (nI y) (b + 4) 5 = nI M := (up2_at (Or.inl (by omega))).trans g2
            rw [g3, lts, b3s, up2_same, nI_1]
            have g4 : up2 (up2 (up2 I' (mb + 10) (111 + 3 * M) (nI c)) (mb + 10) (111 + 3 * M + 1) (nI w)) (mb + 10) (111 + 3 * M + 2) (nI y) (mb + 10) 141 = nI M := ((up2_at (Or.inr (by omega))).trans ((up2_at (Or.inr (by omega))).trans (up2_at (Or.inr (by omega))))).trans qm1
            rw [g4, up2_same, nI_1]
            refine ⟨_, _, _, _, _, rfl, rfl, P, C, D, M + 1, K, Rl, h.swap (fun a g1 g2 => by rw [up2_ne _ _ _ (by omega), up2_ne _ _ _ (by omega), up2_ne _ _ _ (by omega), up2_ne _ _ _ (by omega)]) (fun a ha => ?_) ?_ ?_ (fun a h1 h2 => ?_) ?_ ?_ (fun k hk => ?_) ?_ ?_ ?_⟩
            · rw [up2_ne _ _ _ (by omega), up2_ne _ _ _ (by omega), up2_ne _ _ _ (by omega), up2_ne _ _ _ (by omega)]
            · rw [up2_ne _ _ _ (by omega), up2_ne _ _ _ (by omega), up2_ne _ _ _ (by omega), up2_ne _ _ _ (by omega)]
            · rw [up2_ne _ _ _ (by omega), up2_ne _ _ _ (by omega), up2_ne _ _ _ (by omega), up2_ne _ _ _ (by omega)]
            · rw [up2_ne _ _ _ (by omega), up2_ne _ _ _ (by omega), up2_ne _ _ _ (by omega), up2_ne _ _ _ (by omega)]
            · rw [up2_ne _ _ _ (by omega), up2_ne _ _ _ (by omega), up2_ne _ _ _ (by omega), up2_ne _ _ _ (by omega)]
            · rw [up2_ne _ _ _ (by omega), up2_ne _ _ _ (by omega), up2_ne _ _ _ (by omega), up2_ne _ _ _ (by omega)]
            · rw [up2_ne _ _ _ (by omega), up2_ne _ _ _ (by omega), up2_ne _ _ _ (by omega), up2_ne _ _ _ (by omega)]
            · have r1 : ∀ a, a < b + 4 → up2 (up2 (up2 (up2 I (b + 4 + 20) M (nI c)) (b + 4 + 21) M (nI w)) (b + 4 + 22) M (nI y)) (b + 4) 5 (nI (M + 1)) a = I a := fun a ha => by rw [up2_ne _ _ _ (by omega), up2_ne _ _ _ (by omega), up2_ne _ _ _ (by omega), up2_ne _ _ _ (by omega)]
              have r2 : ∀ a, a < mb + 10 → up2 (up2 (up2 (up2 I' (mb + 10) (111 + 3 * M) (nI c)) (mb + 10) (111 + 3 * M + 1) (nI w)) (mb + 10) (111 + 3 * M + 2) (nI y)) (mb + 10) 141 (nI (M + 1)) a = I' a := fun a ha => by rw [up2_ne _ _ _ (by omega), up2_ne _ _ _ (by omega), up2_ne _ _ _ (by omega), up2_ne _ _ _ (by omega)]
              rw [r1 b (by omega), r1 (b + 1) (by omega), r2 mb (by omega), r2 (mb + 1) (by omega)]
              exact h.2.2.2.1
            · have r2 : ∀ a, a < mb + 10 → up2 (up2 (up2 (up2 I' (mb + 10) (111 + 3 * M) (nI c)) (mb + 10) (111 + 3 * M + 1) (nI w)) (mb + 10) (111 + 3 * M + 2) (nI y)) (mb + 10) 141 (nI (M + 1)) a = I' a := fun a ha => by rw [up2_ne _ _ _ (by omega), up2_ne _ _ _ (by omega), up2_ne _ _ _ (by omega), up2_ne _ _ _ (by omega)]
              have hv : ∀ i, (i < 111 + 3 * M ∨ (111 + 3 * M + 2 < i ∧ i ≠ 141)) → up2 (up2 (up2 (up2 I' (mb + 10) (111 + 3 * M) (nI c)) (mb + 10) (111 + 3 * M + 1) (nI w)) (mb + 10) (111 + 3 * M + 2) (nI y)) (mb + 10) 141 (nI (M + 1)) (mb + 10) i = I' (mb + 10) i := fun i hi => by rw [up2_at (Or.inr (by omega)), up2_at (Or.inr (by omega)), up2_at (Or.inr (by omega)), up2_at (Or.inr (by omega))]
              have w0 : up2 (up2 (up2 (up2 I' (mb + 10) (111 + 3 * M) (nI c)) (mb + 10) (111 + 3 * M + 1) (nI w)) (mb + 10) (111 + 3 * M + 2) (nI y)) (mb + 10) 141 (nI (M + 1)) (mb + 10) (111 + 3 * M) = nI c := by rw [up2_at (Or.inr (by omega)), up2_at (Or.inr (by omega)), up2_at (Or.inr (by omega)), up2_same]
              have w1 : up2 (up2 (up2 (up2 I' (mb + 10) (111 + 3 * M) (nI c)) (mb + 10) (111 + 3 * M + 1) (nI w)) (mb + 10) (111 + 3 * M + 2) (nI y)) (mb + 10) 141 (nI (M + 1)) (mb + 10) (111 + 3 * M + 1) = nI w := by rw [up2_at (Or.inr (by omega)), up2_at (Or.inr (by omega)), up2_same]
              have w2 : up2 (up2 (up2 (up2 I' (mb + 10) (111 + 3 * M) (nI c)) (mb + 10) (111 + 3 * M + 1) (nI w)) (mb + 10) (111 + 3 * M + 2) (nI y)) (mb + 10) 141 (nI (M + 1)) (mb + 10) (111 + 3 * M + 2) = nI y := by rw [up2_at (Or.inr (by omega)), up2_same]
              have hgk : ∀ k, 1 ≤ k → k ≤ 19 → up2 (up2 (up2 (up2 I (b + 4 + 20) M (nI c)) (b + 4 + 21) M (nI w)) (b + 4 + 22) M (nI y)) (b + 4) 5 (nI (M + 1)) (b + 4 + k) = I (b + 4 + k) := fun k h1 h2 => by rw [up2_ne _ _ _ (by omega), up2_ne _ _ _ (by omega), up2_ne _ _ _ (by omega), up2_ne _ _ _ (by omega)]
              rw [r2 mb (by omega)]
              refine ⟨q1.vc (fun i hi => hv i (by omega)), ⟨up2_same _ _ _ _, by omega, fun k hk => ?_⟩, ?_, ?_, q5, ?_, ?_, fun k hk => ?_⟩
              · by_cases ck : k = M
                · subst ck
                  exact ⟨w, by rw [show 112 + 3 * k = 111 + 3 * k + 1 by omega]; exact w1, hw⟩
                · rw [hv _ (by omega)]; exact qm3 k (by omega)
              · exact (q3.congr (fun k hk => hgk _ (by omega) (by omega))).vc h7 h6 (fun i hi => hv i (by omega))
              · exact (q4.congr (fun k hk => hgk _ (by omega) (by omega))).vc h7 h6 (fun i hi => hv i (by omega))
              · refine ⟨?_, ?_, q6.2.2⟩
                · show up2 _ (b + 4) 5 _ (b + 4) 6 = _
                  rw [up2_at (Or.inr (by decide)), up2_ne _ _ _ (by omega), up2_ne _ _ _ (by omega), up2_ne _ _ _ (by omega)]; exact q6.1
                · show up2 _ (b + 4) 5 _ (b + 4) 7 = _
                  rw [up2_at (Or.inr (by decide)), up2_ne _ _ _ (by omega), up2_ne _ _ _ (by omega), up2_ne _ _ _ (by omega)]; exact q6.2.1
              · rw [up2_same]; exact up2_same _ _ _ _
              · by_cases ck : k = M
                · subst ck
                  rw [w0, show 112 + 3 * k = 111 + 3 * k + 1 by omega, w1, show 113 + 3 * k = 111 + 3 * k + 2 by omega, w2]
                  refine ⟨?_, ?_, ?_⟩
                  · show up2 _ _ _ _ (b + 4 + 20) k = _
                    rw [up2_ne _ _ _ (by omega), up2_ne _ _ _ (by omega), up2_ne _ _ _ (by omega)]; exact up2_same _ _ _ _
                  · show up2 _ _ _ _ (b + 4 + 21) k = _
                    rw [up2_ne _ _ _ (by omega), up2_ne _ _ _ (by omega)]; exact up2_same _ _ _ _
                  · show up2 _ _ _ _ (b + 4 + 22) k = _
                    rw [up2_ne _ _ _ (by omega)]; exact up2_same _ _ _ _
                · rw [hv _ (by omega), hv _ (by omega), hv _ (by omega)]
                  obtain ⟨z1, z2, z3⟩ := q8 k (by omega)
                  refine ⟨?_, ?_, ?_⟩
                  · show up2 _ _ _ _ (b + 4 + 20) k = _
                    rw [up2_at (Or.inl (by omega)), up2_at (Or.inl (by omega)), up2_at (Or.inl (by omega)), up2_at (Or.inr ck)]; exact z1
                  · show up2 _ _ _ _ (b + 4 + 21) k = _
                    rw [up2_at (Or.inl (by omega)), up2_at (Or.inl (by omega)), up2_at (Or.inr ck), up2_at (Or.inl (by omega))]; exact z2
                  · show up2 _ _ _ _ (b + 4 + 22) k = _
                    rw [up2_at (Or.inl (by omega)), up2_at (Or.inr ck), up2_at (Or.inl (by omega)), up2_at (Or.inl (by omega))]; exact z3
            · rw [up2_ne _ _ _ (by omega), up2_ne _ _ _ (by omega), up2_ne _ _ _ (by omega), up2_ne _ _ _ (by omega)]; exact h.fo
        · have hn : ∀ d, d ≤ 9999 → x3 ≠ nI d := fun d hd e => hk2 ⟨d, hd, e⟩
          rw [rngN (hi := 9999) 9999 rfl hn, if_pos rfl]
          by_cases c0 : x3 < 0
          · rw [if_pos c0]; exact hh _
          · rw [if_neg c0, if_pos (Int32.not_le.mp (fun q => by obtain ⟨d, hd, e⟩ := nI_of2 (M := 9999) (n := 9999) rfl c0 q; exact hn d hd e))]; exact hh _
      · have hn : ∀ d, d ≤ 7 → x2 ≠ nI d := fun d hd e => hk ⟨d, hd, e⟩
        rw [rngN (hi := 7) 7 rfl hn, if_pos rfl]
        by_cases c0 : x2 < 0
        · rw [if_pos c0]; exact hh _
        · rw [if_neg c0, if_pos (Int32.not_le.mp (fun q => by obtain ⟨d, hd, e⟩ := nI_of2 (M := 7) (n := 7) rfl c0 q; exact hn d hd e))]; exact hh _
