theorem RelB.swap {b mb P C D D1 M M1 K : Nat} {L : List Nat} {S : ST} {Rf : RT} {I I' I1 I1' : IT} {Rl : Nat → List (List Tk × Option (List Tk))} (h : RelB b mb L S Rf I I' P C D M K Rl)
    (hz : ∀ a, b + 34 ≤ a → a ≤ b + 36 → I1 a = I a) (hd : ∀ a, b + 105 ≤ a → I1 a = I a) (h15 : I1 b 15 = I b 15) (h28 : I1 (b + 28) = I (b + 28)) (ht : ∀ a, b + 5 ≤ a → a ≤ b + 13 → I1 a = I a)
    (m2 : I1' mb 2 = I' mb 2) (m24 : I1' mb 24 = I' mb 24) (mk : ∀ k, (k = 2 ∨ k = 4 ∨ k = 5 ∨ k = 11 ∨ (26 ≤ k ∧ k ≤ 29)) → I1' (mb + k) = I' (mb + k))
    (hT : TapeR (I1 b 14) (I1 (b + 1)) (I1' mb 1) (I1' (mb + 1))) (hS : StateR (fun k => I1 (b + 4 + k)) (I1' (mb + 10)) (I1' mb 21) (I1' mb 22) P C D1 M1) (hF : FoR (I1' mb 21) K) : RelB b mb L S Rf I1 I1' P C D1 M1 K Rl := by
  obtain ⟨h1, h2, h3, h4, h5, h6, ⟨h7, h8, h9⟩, h10, h11⟩ := h
  refine ⟨h1, ⟨h2.1, h2.2.cg hz⟩, h3, hT, hS, hF, ⟨?_, ?_, ?_⟩, ?_, ?_⟩
  · rw [h15]; exact h7
  · rw [m2]; exact h8
  · exact h9.keep (fun k q e => (h3.2.1 _ k q (Or.inl rfl) e).1) hd (mk 2 (by decide)) (mk 4 (by decide)) (mk 5 (by decide))
  · intro k hk
    rw [mk 29 (by decide), mk 26 (by decide), mk 27 (by decide), mk 28 (by decide)]
    rcases h10 k hk with q | ⟨q, P, C, D, M, e1, e2, e3, e4⟩
    · exact Or.inl q
    · have hq := (h3.2.1 _ k q (Or.inr (Or.inl rfl)) e1).1
      exact Or.inr ⟨q, P, C, D, M, e1, e2, e3.congr (fun i _ => hd _ (by omega)), e4⟩
  · obtain ⟨nx, u, g1, g2, g3, g4, g5, g6⟩ := h11
    refine ⟨nx, u, g1, g2, ?_, ?_, ?_, fun j hj => ?_⟩
    · rw [h28]; exact g3
    · rw [h28]; exact g4
    · rw [m24]; exact g5
    · obtain ⟨q, D, e1, e2, e3, e4, e5⟩ := g6 j hj
      have hq := (h3.2.1 _ _ q (Or.inr (Or.inr rfl)) e1).1
      rw [mk 11 (by decide)]
      exact ⟨q, D, e1, e2, e3, e4.congr (fun k hk => ht _ (by omega) (by omega)), e5.congr (fun k _ => hd _ (by omega))⟩
theorem up2_at {I : IT} {a k : Nat} {v : Int32} {c j : Nat} (h : c ≠ a ∨ j ≠ k) : up2 I a k v c j = I c j := up2_other I h
theorem G_end {N : Nat} : Gd_end N RelY := by
  intro b mb L S Rf I J I' J' x1 hR
  obtain ⟨P, C, D, M, K, Rl, h⟩ := hR
  have hT := h.2.2.2.1
  unfold f11_end f12_end
  by_cases c0 : x1 < 0
  · rw [if_pos c0, if_pos c0]; exact ⟨_, _, _, _, _, rfl, rfl, P, C, D, M, K, Rl, h⟩
  · rw [if_neg c0, if_neg c0, ← hT.1]
    by_cases c1 : x1 ≤ I b 14
    · rw [if_pos c1, if_pos c1, lts, lts]
      refine ⟨_, _, _, _, _, rfl, rfl, P, C, D, M, K, Rl, h.swap (fun a _ _ => up2_ne _ _ _ (by omega)) (fun a ha => up2_ne _ _ _ (by omega)) (up2_at (Or.inr (by decide))) (up2_ne _ _ _ (by omega)) (fun a h1 h2 => up2_ne _ _ _ (by omega)) (up2_at (Or.inr (by decide))) (up2_at (Or.inr (by decide))) (fun k hk => up2_ne _ _ _ (by omega)) ?_ ?_ ?_⟩
      · rw [up2_same, up2_same, up2_ne _ _ _ (show b + 1 ≠ b by omega), up2_ne _ _ _ (show mb + 1 ≠ mb by omega)]
        exact hT.le c0 c1
      · rw [up2_ne _ _ _ (show mb + 10 ≠ mb by omega), up2_at (Or.inr (by decide)), up2_at (Or.inr (by decide))]
        exact h.2.2.2.2.1.congr (fun k _ => up2_ne _ _ _ (by omega))
      · rw [up2_at (Or.inr (by decide))]; exact h.fo
    · rw [if_neg c1, if_neg c1]; exact ⟨_, _, _, _, _, rfl, rfl, P, C, D, M, K, Rl, h⟩
/-- the state's own fields of force and seed -/
theorem StateR.fx {g g1 : Nat → Nat → Int32} {v : Nat → Int32} {fo x fo1 x1 : Int32} {P C D M : Nat} (q : StateR g v fo x P C D M) (h : ∀ k, 1 ≤ k → k ≤ 22 → g1 k = g k) (h5 : g1 0 5 = g 0 5) (h6 : g1 0 6 = fo1) (h7 : g1 0 7 = x1) (hx : ¬ x1 < 0) : StateR g1 v fo1 x1 P C D M := by
  obtain ⟨q1, q2, q3, q4, q5, q6, q7, q8⟩ := q
  refine ⟨q1, q2, q3.congr (fun k hk => h (1 + k) (by omega) (by omega)), q4.congr (fun k hk => h (10 + k) (by omega) (by omega)), q5, ⟨h6, h7, hx⟩, ?_, ?_⟩
  · rw [h5]; exact q7
  · rw [h 20 (by decide) (by decide), h 21 (by decide) (by decide), h 22 (by decide) (by decide)]; exact q8
theorem G_seed {N : Nat} : Gd_seed N RelY := by
  intro b mb L S Rf I J I' J' x1 hR
  obtain ⟨P, C, D, M, K, Rl, h⟩ := hR
  have hS := h.2.2.2.2.1
  have e7 : I (b + 4) 7 = I' mb 22 := hS.2.2.2.2.2.1.2.1
  unfold f11_seed f12_seed
  by_cases c0 : 0 ≤ x1
  · rw [if_pos c0, if_pos c0, lts, lts, lts, lts, e7]
    refine ⟨_, _, _, _, _, rfl, rfl, P, C, D, M, K, Rl, h.swap (fun a _ _ => up2_ne _ _ _ (by omega)) (fun a ha => up2_ne _ _ _ (by omega)) (up2_at (Or.inl (by omega))) (up2_ne _ _ _ (by omega)) (fun a h1 h2 => up2_ne _ _ _ (by omega)) (up2_at (Or.inr (by decide))) (up2_at (Or.inr (by decide))) (fun k hk => up2_ne _ _ _ (by omega)) ?_ ?_ ?_⟩
    · rw [up2_at (Or.inl (by omega)), up2_at (Or.inr (by decide)), up2_ne _ _ _ (show b + 1 ≠ b + 4 by omega), up2_ne _ _ _ (show mb + 1 ≠ mb by omega)]
      exact h.2.2.2.1
    · rw [up2_ne _ _ _ (show mb + 10 ≠ mb by omega), up2_at (Or.inr (by decide)), up2_same]
      refine hS.fx (fun k h1 h2 => up2_ne _ _ _ (by omega)) (up2_at (Or.inr (by decide))) ((up2_at (Or.inr (by decide))).trans h.f6) (up2_same _ _ _ _) (Int32.not_lt.mpr c0)
    · rw [up2_at (Or.inr (by decide))]; exact h.fo
  · rw [if_neg c0, if_neg c0]; exact ⟨_, _, _, _, _, rfl, rfl, P, C, D, M, K, Rl, h⟩
theorem G_force {N : Nat} : Gd_force N RelY := by
  intro b mb L S Rf I J I' J' x1 hR
  obtain ⟨P, C, D, M, K, Rl, h⟩ := hR
  have hS := h.2.2.2.2.1
  have hK6 : K ≤ 6 := h.rules.1
  have e6 := h.f6
  have e15 : I b 15 = nI K := h.2.2.2.2.2.2.1.1
  have e2 : I' mb 2 = nI K := h.2.2.2.2.2.2.1.2.1
  have fin : ∀ fo1, FoR fo1 K → RelY b mb L S Rf (up2 I (b + 4) 6 fo1) J (up2 I' mb 21 fo1) J' := by
    intro fo1 hf
    refine ⟨P, C, D, M, K, Rl, h.swap (fun a _ _ => up2_ne _ _ _ (by omega)) (fun a ha => up2_ne _ _ _ (by omega)) (up2_at (Or.inl (by omega))) (up2_ne _ _ _ (by omega)) (fun a h1 h2 => up2_ne _ _ _ (by omega)) (up2_at (Or.inr (by decide))) (up2_at (Or.inr (by decide))) (fun k hk => up2_ne _ _ _ (by omega)) ?_ ?_ ?_⟩
    · rw [up2_at (Or.inl (by omega)), up2_at (Or.inr (by decide)), up2_ne _ _ _ (show b + 1 ≠ b + 4 by omega), up2_ne _ _ _ (show mb + 1 ≠ mb by omega)]
      exact h.2.2.2.1
    · rw [up2_ne _ _ _ (show mb + 10 ≠ mb by omega), up2_same, up2_at (Or.inr (by decide))]
      exact hS.fx (fun k h1 h2 => up2_ne _ _ _ (by omega)) (up2_at (Or.inr (by decide))) (up2_same _ _ _ _) ((up2_at (Or.inr (by decide))).trans hS.2.2.2.2.2.1.2.1) hS.2.2.2.2.2.1.2.2
    · rw [up2_same]; exact hf
  unfold f11_force f12_force f12_isRule
  by_cases cm : x1 = -1
  · subst cm
    rw [if_neg (by decide), e15, if_pos (show (-1 : Int32) < nI K from Int32.lt_of_lt_of_le (by decide) (nI_pos' (by omega))), if_pos rfl, lts, lts, lts, lts, e6]
    exact ⟨_, _, _, _, _, rfl, rfl, fin _ (Or.inl rfl)⟩
  · rw [if_neg cm, e15, e2]
    rcases pk_ix x1 (n := K) (by omega) with q | q | ⟨k, hk, rfl⟩
    · have hlt : x1 < -1 := by
        rw [Int32.lt_iff_toInt_lt] at q ⊢
        have e0 : (0 : Int32).toInt = 0 := rfl
        have e1 : (-1 : Int32).toInt = -1 := rfl
        have : x1.toInt ≠ -1 := fun e => cm (Int32.toInt_inj.mp (by rw [e, e1]))
        omega
      rw [if_pos hlt, if_pos q, b3s, if_pos rfl]
      exact ⟨_, _, _, _, _, rfl, rfl, P, C, D, M, K, Rl, h⟩
    · have h0 : ¬ x1 < 0 := Int32.not_lt.mpr (Int32.le_trans (nI_pos' (by omega)) q)
      have h1 : ¬ x1 < -1 := fun g => h0 (Int32.lt_trans g (by decide))
      rw [if_neg h1, if_neg (Int32.not_lt.mpr q), if_neg h0, if_pos q, b3s, if_pos rfl]
      exact ⟨_, _, _, _, _, rfl, rfl, P, C, D, M, K, Rl, h⟩
    · rw [if_neg (fun g => nI_pos (n := k) (by omega) (Int32.lt_trans g (by decide))), if_pos (nI_lt hk (by omega)), if_neg (nI_pos (by omega)), if_neg (nI_ge hk (by omega)), b3s, if_neg (by decide), lts, lts, lts, lts, e6]
      exact ⟨_, _, _, _, _, rfl, rfl, fin _ (Or.inr ⟨k, hk, rfl⟩)⟩
theorem l_inc {mb : Nat} {x : Int32} {I : IT} {J : JT} (lo hi : Int32) {a c : Int64} (ha : a = lo.toInt64) (hc : c = hi.toInt64) : f12_in mb x.toInt64 a c I J = some (if x < lo then 0 else if hi < x then 0 else 1, I, J) := by
  subst ha hc
  unfold f12_in
  simp only [l_lt, l_gt]
  by_cases c0 : x < lo
  · rw [if_pos c0, if_pos c0]
  · rw [if_neg c0, if_neg c0]
    by_cases c1 : hi < x
    · rw [if_pos c1, if_pos c1]
    · rw [if_neg c1, if_neg c1]
theorem rngN {x hi : Int32} (n : Nat) (hM : hi.toInt = n) (h : ∀ k, k ≤ n → x ≠ nI k) : (if x < 0 then (0 : Int32) else if hi < x then 0 else 1) = 0 := by
  by_cases c0 : x < 0
  · rw [if_pos c0]
  · rw [if_neg c0]
    by_cases c1 : hi < x
    · rw [if_pos c1]
    · obtain ⟨j, hj, e⟩ := nI_of2 hM c0 (Int32.not_lt.mp c1)
      exact absurd e (h j hj)
theorem rngY {hi : Int32} {k : Nat} (n : Nat) (hM : hi = nI n) (hn : n < 2 ^ 31) (hk : k ≤ n) : (if nI k < 0 then (0 : Int32) else if hi < nI k then 0 else 1) = 1 := by
  rw [if_neg (nI_pos (by omega)), hM, if_neg (nI_nlt hk (by omega))]
