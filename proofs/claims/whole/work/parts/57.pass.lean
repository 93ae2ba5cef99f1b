/-! A DAY GOES BY -/
def bP : Nat → Int32 → Int32 → Option Int32
  | 0, _, _ => none
  | k + 1, a, x => if x = 0 then some a else bP k (a + 1) (x &&& (x - 1))
theorem bP_run {N mb : Nat} {I : IT} {J : JT} {w : Int32} (n : Nat) : ∀ k a x, bP k a x = some w → f12_bits_L4 N mb (n + k) a x I J = some (w, I, J) := by
  intro k
  induction k with
  | zero => intro a x h; cases h
  | succ k ih =>
    intro a x h
    rw [bP] at h
    rw [show n + (k + 1) = (n + k) + 1 by omega, f12_bits_L4]
    by_cases c : x = 0
    · rw [if_pos c] at h ⊢
      cases h; rfl
    · rw [if_neg c] at h ⊢
      rw [lts, lts]
      exact ih _ _ h
def bcV (x : Int32) : Int32 := match fJ_bitCount_0f7a4 x (fun _ _ => 0) (fun _ _ => 0) with
  | some q => q.1
  | none => 0
theorem bc_eq (x : Int32) (I : IT) (J : JT) : fJ_bitCount_0f7a4 x I J = some (bcV x, I, J) := rfl
set_option maxRecDepth 100000 in
theorem bc_tab : ∀ q, q < 64 → bP 7 0 (nI q) = some (bcV (nI q)) := by decide +kernel
set_option maxRecDepth 100000 in
theorem or_tab : ∀ k, k < 6 → ∀ a, a < 64 → a < 2 ^ k → nI a ||| ((1 : Int32) <<< (nI k &&& 31)) = nI (a + 2 ^ k) := by decide +kernel
theorem q_bits {N mb q : Nat} {I I' : IT} {J J' : JT} (hN : 1000 ≤ N) (hq : q < 64) : fJ_bitCount_0f7a4 (nI q) I J = some (bcV (nI q), I, J) ∧ f12_bits N mb (nI q) I' J' = some (bcV (nI q), I', J') := by
  refine ⟨bc_eq _ _ _, ?_⟩
  unfold f12_bits
  have h := bP_run (N := N) (mb := mb) (I := I') (J := J') (N - 7) 7 0 (nI q) (bc_tab q hq)
  rw [show N - 7 + 7 = N by omega] at h
  rw [h, b3s]
theorem pow_le6 {C : Nat} (h : C ≤ 6) : 2 ^ C ≤ 64 := by
  have : C = 0 ∨ C = 1 ∨ C = 2 ∨ C = 3 ∨ C = 4 ∨ C = 5 ∨ C = 6 := by omega
  rcases this with rfl | rfl | rfl | rfl | rfl | rfl | rfl <;> decide
theorem pass_L {N b mb P C D : Nat} {S : ST} {Rf : RT} {J J' : JT} (hD : D ≤ 1199) : ∀ r k n n' acc (I I' : IT), k + r = C → r < n → r < n' → acc < 2 ^ k → CoreR b mb (up2 I (b + 14) 9 (nI (D + 1))) (up2 I' (mb + 10) 4 (nI (D + 1))) P C (D + 1) → I (b + 14) 9 = nI D → I' (mb + 10) 4 = nI D → (∀ c, k ≤ c → c < C → ∃ t, t ≤ D ∧ I' (mb + 10) (54 + 11 * c) = nI t) →
    ∃ q I1 I1', f0_pass_L4 N b S Rf (b + 14) (b + 5) n (nI acc) (nI k) I J = some (nI q, I1, J) ∧ f12_passes_L4 N mb n' (nI acc) (nI k) I' J' = some (nI q, I1', J') ∧ q < 2 ^ C ∧ CoreR b mb (up2 I1 (b + 14) 9 (nI (D + 1))) (up2 I1' (mb + 10) 4 (nI (D + 1))) P C (D + 1) ∧ I1 (b + 14) 9 = nI D ∧ I1' (mb + 10) 4 = nI D ∧ (∀ a, (a < b + 16 ∨ b + 23 < a) → I1 a = I a) ∧ (∀ a, a ≠ mb + 10 → I1' a = I' a) ∧ (∀ i, 111 ≤ i → I1' (mb + 10) i = I' (mb + 10) i) := by
  intro r
  induction r with
  | zero =>
    intro k n n' acc I I' hk hn hn' hacc h e9 e4 ht
    have hC6 := co_C6 h
    obtain ⟨n, rfl⟩ : ∃ q, n = q + 1 := ⟨n - 1, by omega⟩
    obtain ⟨n', rfl⟩ : ∃ q, n' = q + 1 := ⟨n' - 1, by omega⟩
    have c1 : I (b + 5) 14 = nI C := by have := co_C h; rw [up2_ne _ _ _ (by omega)] at this; exact this
    have c2 : I' (mb + 10) 3 = nI C := by have := cv_C h; rw [up2_at (Or.inr (by decide))] at this; exact this
    rw [f0_pass_L4, f12_passes_L4, c1, c2, if_pos (nI_le (by omega) (by omega)), if_pos (nI_le (by omega) (by omega))]
    refine ⟨acc, I, I', rfl, rfl, ?_, h, e9, e4, fun _ _ => rfl, fun _ _ => rfl, fun _ _ => rfl⟩
    rw [show C = k by omega]; exact hacc
  | succ r ih =>
    intro k n n' acc I I' hk hn hn' hacc h e9 e4 ht
    have hC6 := co_C6 h
    have hP7 := co_P7 h
    have hkC : k < C := by omega
    have hp6 := pow_le6 hC6
    have hpk : 2 ^ (k + 1) ≤ 2 ^ C := Nat.pow_le_pow_right (by omega) (by omega)
    have hps : 2 ^ (k + 1) = 2 ^ k + 2 ^ k := by rw [Nat.pow_succ]; omega
    obtain ⟨n, rfl⟩ : ∃ q, n = q + 1 := ⟨n - 1, by omega⟩
    obtain ⟨n', rfl⟩ : ∃ q, n' = q + 1 := ⟨n' - 1, by omega⟩
    have c1 : I (b + 5) 14 = nI C := by have := co_C h; rw [up2_ne _ _ _ (by omega)] at this; exact this
    have c2 : I' (mb + 10) 3 = nI C := by have := cv_C h; rw [up2_at (Or.inr (by decide))] at this; exact this
    have vv : ∀ i, i ≠ 4 → up2 I' (mb + 10) 4 (nI (D + 1)) (mb + 10) i = I' (mb + 10) i := fun i hi => up2_at (Or.inr hi)
    have uu : ∀ a, a ≠ b + 14 → up2 I (b + 14) 9 (nI (D + 1)) a = I a := fun a ha => up2_ne _ _ _ ha
    have j17 : I (b + 17) k = I' (mb + 10) (49 + 11 * k) := by have := co_judge h hkC; rw [uu _ (by omega), vv _ (by omega)] at this; exact this
    have j18 : I (b + 18) k = I' (mb + 10) (50 + 11 * k) := by have := co_toGo h hkC; rw [uu _ (by omega), vv _ (by omega)] at this; exact this
    have j20 : I (b + 20) k = I' (mb + 10) (51 + 11 * k) := by have := co_ruler h hkC; rw [uu _ (by omega), vv _ (by omega)] at this; exact this
    have j21 : I (b + 21) k = I' (mb + 10) (52 + 11 * k) := by have := co_right h hkC; rw [uu _ (by omega), vv _ (by omega)] at this; exact this
    have j22 : I (b + 22) k = I' (mb + 10) (53 + 11 * k) := by have := co_rage h hkC; rw [uu _ (by omega), vv _ (by omega)] at this; exact this
    have j23 : I (b + 23) k = I' (mb + 10) (54 + 11 * k) := by have := co_times h hkC; rw [uu _ (by omega), vv _ (by omega)] at this; exact this
    have jru : ∀ p, p < P → I (b + 16) p = I' (mb + 10) (14 + 5 * p) := fun p hp => by have := co_ruled h hp; rw [uu _ (by omega), vv _ (by omega)] at this; exact this
    have jag : ∀ p, p < P → I (b + 6) p = I' (mb + 10) (10 + 5 * p) := fun p hp => by have := co_age h hp; rw [uu _ (by omega), vv _ (by omega)] at this; exact this
    obtain ⟨g1, g2⟩ := h.1.2.2.2.2.2.2.1 k hkC
    rw [vv _ (by omega), vv _ (by omega)] at g1
    rw [vv _ (by omega), vv _ (by omega)] at g2
    rw [f0_pass_L4, f12_passes_L4, c1, c2, if_neg (nI_ge (by omega) (by omega)), if_neg (nI_ge (by omega) (by omega)), yb_ck_t (inb_nI (by omega) (by decide)), nI_clamp (show k < 2 ^ 31 by omega), show b + 14 + 3 = b + 17 from rfl, j17, k12_c4 (by omega), b3s]
    rcases g1 with e | ⟨p, q, e, hp, eq, hq1, hq9⟩
    · rw [e, if_pos (by decide), if_neg (by decide), lts, lts, nI_1]
      exact ih (k + 1) n n' acc I I' (by omega) (by omega) (by omega) (by omega) h e9 e4 (fun c h1 h2 => ht c (by omega) h2)
    · have x5 : (45 : Int32) + 11 * nI k + 5 = nI (50 + 11 * k) := by
        show nI 45 + nI 11 * nI k + nI 5 = _
        rw [pk_mul, nI_add, nI_add]; congr 1; omega
      have em : nI q - 1 = nI (q - 1) := pk_sub (b := 1) hq1
      have j19 : I (b + 19) k = I' (mb + 10) (55 + 11 * k) := by
        have := (h.2.2.2.2.1 k hkC).2.2.1 (by
          show up2 I' (mb + 10) 4 (nI (D + 1)) (mb + 10) (49 + 11 * k) ≠ -1
          rw [vv _ (by omega), e]
          intro g
          exact absurd (show nI p < 0 by rw [g]; decide) (nI_pos (by omega)))
        have h2 : up2 I (b + 14) 9 (nI (D + 1)) (b + 19) k = up2 I' (mb + 10) 4 (nI (D + 1)) (mb + 10) (55 + 11 * k) := this
        rw [uu _ (by omega), vv _ (by omega)] at h2
        exact h2
      rw [e, if_neg (nI_pos (by omega)), if_pos (nI_pos' (by omega)), show b + 14 + 4 = b + 18 from rfl, j18, eq, em, lts, up2_same, x5, yb_ck_t (inb_nI (by omega) (by decide)), nI_clamp (show 50 + 11 * k < 2 ^ 31 by omega), eq, em, lts (a := up2 I' (mb + 10) (50 + 11 * k) (nI (q - 1))), k12_c5 (by omega), b3s, up2_same]
      by_cases cq : q = 1
      · subst cq
        rw [if_neg (show ¬ 0 < nI (1 - 1) by decide), if_pos (show nI (1 - 1) ≤ 0 by decide)]
        obtain ⟨t, htD, et⟩ := ht k (Nat.le_refl _) hkC
        unfold f0_settleCase f12_isRuled
        have y4 : (45 : Int32) + 11 * nI k = nI (45 + 11 * k) := by
          show nI 45 + nI 11 * nI k = _
          rw [pk_mul, nI_add]
        have yk : ∀ m : Nat, nI (45 + 11 * k) + nI m = nI (45 + m + 11 * k) := fun m => by rw [nI_add]; congr 1; omega
        have z4 : nI (45 + 11 * k) + 4 = nI (49 + 11 * k) := yk 4
        have z6 : nI (45 + 11 * k) + 6 = nI (51 + 11 * k) := yk 6
        have z7 : nI (45 + 11 * k) + 7 = nI (52 + 11 * k) := yk 7
        have z8 : nI (45 + 11 * k) + 8 = nI (53 + 11 * k) := yk 8
        have z9 : nI (45 + 11 * k) + 9 = nI (54 + 11 * k) := yk 9
        have z10 : nI (45 + 11 * k) + 10 = nI (55 + 11 * k) := yk 10
        have zp : (10 : Int32) + 5 * nI p + 4 = nI (14 + 5 * p) := by
          show nI 10 + nI 5 * nI p + nI 4 = _
          rw [pk_mul, nI_add, nI_add]; congr 1; omega
        rw [yb_ck_t (inb_nI (show k < 6 by omega) (by decide)), nI_clamp (show k < 2 ^ 31 by omega), show b + 14 + 3 = b + 17 from rfl, show b + 14 + 6 = b + 20 from rfl, show b + 14 + 7 = b + 21 from rfl, show b + 14 + 5 = b + 19 from rfl, show b + 14 + 8 = b + 22 from rfl, show b + 14 + 9 = b + 23 from rfl, show b + 14 + 2 = b + 16 from rfl, show b + 14 + 4 = b + 18 from rfl, show b + 5 + 1 = b + 6 from rfl, up2_ne I _ _ (show b + 17 ≠ b + 18 by omega), j17, e, lts, lts, lts]
        have k19 : up2 (up2 I (b + 18) k (nI (1 - 1))) (b + 20) k (nI p) (b + 19) k = I' (mb + 10) (55 + 11 * k) := by rw [up2_ne _ _ _ (by omega), up2_ne _ _ _ (by omega), j19]
        rw [k19, yb_ck_t (inb_nI (show p < 7 by omega) (by decide)), nI_clamp (show p < 2 ^ 31 by omega), lts]
        have k6 : up2 (up2 (up2 I (b + 18) k (nI (1 - 1))) (b + 20) k (nI p)) (b + 21) k (I' (mb + 10) (55 + 11 * k)) (b + 6) p = I' (mb + 10) (10 + 5 * p) := by rw [up2_ne _ _ _ (by omega), up2_ne _ _ _ (by omega), up2_ne _ _ _ (by omega), jag p hp]
        have k9 : up2 (up2 (up2 I (b + 18) k (nI (1 - 1))) (b + 20) k (nI p)) (b + 21) k (I' (mb + 10) (55 + 11 * k)) (b + 14) 9 = nI D := by rw [up2_ne _ _ _ (by omega), up2_ne _ _ _ (by omega), up2_ne _ _ _ (by omega), e9]
        rw [k6, k9, lts]
        have k23 : up2 (up2 (up2 (up2 I (b + 18) k (nI (1 - 1))) (b + 20) k (nI p)) (b + 21) k (I' (mb + 10) (55 + 11 * k))) (b + 22) k (I' (mb + 10) (10 + 5 * p) + nI D) (b + 23) k = nI t := by rw [up2_ne _ _ _ (by omega), up2_ne _ _ _ (by omega), up2_ne _ _ _ (by omega), up2_ne _ _ _ (by omega), j23, et]
        rw [k23, nI_1 t, lts]
        have k16 : up2 (up2 (up2 (up2 (up2 I (b + 18) k (nI (1 - 1))) (b + 20) k (nI p)) (b + 21) k (I' (mb + 10) (55 + 11 * k))) (b + 22) k (I' (mb + 10) (10 + 5 * p) + nI D)) (b + 23) k (nI (t + 1)) (b + 16) p = I' (mb + 10) (14 + 5 * p) := by rw [up2_ne _ _ _ (by omega), up2_ne _ _ _ (by omega), up2_ne _ _ _ (by omega), up2_ne _ _ _ (by omega), up2_ne _ _ _ (by omega), jru p hp]
        rw [k16, lts, lts, b3s, lts, lts]
        rw [y4, lts, z4, z6, z7, z8, z9, z10, yb_ck_t (inb_nI (by omega) (by decide)), nI_clamp (show 49 + 11 * k < 2 ^ 31 by omega)]
        have r49 : up2 I' (mb + 10) (50 + 11 * k) (nI (1 - 1)) (mb + 10) (49 + 11 * k) = nI p := by rw [up2_at (Or.inr (by omega)), e]
        rw [r49, lts, lts, yb_ck_t (inb_nI (by omega) (by decide)), nI_clamp (show 51 + 11 * k < 2 ^ 31 by omega), lts, yb_ck_t (inb_nI (by omega) (by decide)), yb_ck_t (inb_nI (by omega) (by decide)), nI_clamp (show 55 + 11 * k < 2 ^ 31 by omega), nI_clamp (show 52 + 11 * k < 2 ^ 31 by omega)]
        have r55 : up2 (up2 (up2 I' (mb + 10) (50 + 11 * k) (nI (1 - 1))) (mb + 10) (49 + 11 * k) (-1)) (mb + 10) (51 + 11 * k) (nI p) (mb + 10) (55 + 11 * k) = I' (mb + 10) (55 + 11 * k) := by rw [up2_at (Or.inr (by omega)), up2_at (Or.inr (by omega)), up2_at (Or.inr (by omega))]
        rw [r55, lts, q12_ageOn (by omega), b3s]
        have r10 : up2 (up2 (up2 (up2 I' (mb + 10) (50 + 11 * k) (nI (1 - 1))) (mb + 10) (49 + 11 * k) (-1)) (mb + 10) (51 + 11 * k) (nI p)) (mb + 10) (52 + 11 * k) (I' (mb + 10) (55 + 11 * k)) (mb + 10) (10 + 5 * p) = I' (mb + 10) (10 + 5 * p) := by rw [up2_at (Or.inr (by omega)), up2_at (Or.inr (by omega)), up2_at (Or.inr (by omega)), up2_at (Or.inr (by omega))]
        have r4 : up2 (up2 (up2 (up2 I' (mb + 10) (50 + 11 * k) (nI (1 - 1))) (mb + 10) (49 + 11 * k) (-1)) (mb + 10) (51 + 11 * k) (nI p)) (mb + 10) (52 + 11 * k) (I' (mb + 10) (55 + 11 * k)) (mb + 10) 4 = nI D := by rw [up2_at (Or.inr (by omega)), up2_at (Or.inr (by omega)), up2_at (Or.inr (by omega)), up2_at (Or.inr (by omega)), e4]
        rw [r10, r4, yb_ck_t (inb_nI (by omega) (by decide)), nI_clamp (show 53 + 11 * k < 2 ^ 31 by omega), lts, yb_ck_t (inb_nI (by omega) (by decide)), nI_clamp (show 54 + 11 * k < 2 ^ 31 by omega)]
        have r54 : up2 (up2 (up2 (up2 (up2 I' (mb + 10) (50 + 11 * k) (nI (1 - 1))) (mb + 10) (49 + 11 * k) (-1)) (mb + 10) (51 + 11 * k) (nI p)) (mb + 10) (52 + 11 * k) (I' (mb + 10) (55 + 11 * k))) (mb + 10) (53 + 11 * k) (I' (mb + 10) (10 + 5 * p) + nI D) (mb + 10) (54 + 11 * k) = nI t := by rw [up2_at (Or.inr (by omega)), up2_at (Or.inr (by omega)), up2_at (Or.inr (by omega)), up2_at (Or.inr (by omega)), up2_at (Or.inr (by omega)), et]
        rw [r54, nI_1 t, lts, zp, yb_ck_t (inb_nI (by omega) (by decide)), nI_clamp (show 14 + 5 * p < 2 ^ 31 by omega)]
        have r14 : up2 (up2 (up2 (up2 (up2 (up2 I' (mb + 10) (50 + 11 * k) (nI (1 - 1))) (mb + 10) (49 + 11 * k) (-1)) (mb + 10) (51 + 11 * k) (nI p)) (mb + 10) (52 + 11 * k) (I' (mb + 10) (55 + 11 * k))) (mb + 10) (53 + 11 * k) (I' (mb + 10) (10 + 5 * p) + nI D)) (mb + 10) (54 + 11 * k) (nI (t + 1)) (mb + 10) (14 + 5 * p) = I' (mb + 10) (14 + 5 * p) := by rw [up2_at (Or.inr (by omega)), up2_at (Or.inr (by omega)), up2_at (Or.inr (by omega)), up2_at (Or.inr (by omega)), up2_at (Or.inr (by omega)), up2_at (Or.inr (by omega))]
        rw [r14, lts, b3s, lts, lts, or_tab k (by omega) acc (by omega) hacc, nI_1 k]
        generalize hI9 : up2 (up2 (up2 (up2 (up2 (up2 (up2 (up2 I (b + 18) k (nI (1 - 1))) (b + 20) k (nI p)) (b + 21) k (I' (mb + 10) (55 + 11 * k))) (b + 22) k (I' (mb + 10) (10 + 5 * p) + nI D)) (b + 23) k (nI (t + 1))) (b + 16) p (I' (mb + 10) (14 + 5 * p) + 1)) (b + 17) k (-1)) (b + 18) k 0 = I9
        generalize hB9 : up2 (up2 (up2 (up2 (up2 (up2 (up2 I' (mb + 10) (50 + 11 * k) (nI (1 - 1))) (mb + 10) (49 + 11 * k) (-1)) (mb + 10) (51 + 11 * k) (nI p)) (mb + 10) (52 + 11 * k) (I' (mb + 10) (55 + 11 * k))) (mb + 10) (53 + 11 * k) (I' (mb + 10) (10 + 5 * p) + nI D)) (mb + 10) (54 + 11 * k) (nI (t + 1))) (mb + 10) (14 + 5 * p) (I' (mb + 10) (14 + 5 * p) + 1) = B9
        have n18 : I9 (b + 18) k = 0 := by rw [← hI9, up2_same]
        have n17 : I9 (b + 17) k = -1 := by rw [← hI9, up2_ne _ _ _ (by omega), up2_same]
        have n23 : I9 (b + 23) k = nI (t + 1) := by rw [← hI9, up2_ne _ _ _ (by omega), up2_ne _ _ _ (by omega), up2_ne _ _ _ (by omega), up2_same]
        have n22 : I9 (b + 22) k = I' (mb + 10) (10 + 5 * p) + nI D := by rw [← hI9, up2_ne _ _ _ (by omega), up2_ne _ _ _ (by omega), up2_ne _ _ _ (by omega), up2_ne _ _ _ (by omega), up2_same]
        have n21 : I9 (b + 21) k = I' (mb + 10) (55 + 11 * k) := by rw [← hI9, up2_ne _ _ _ (by omega), up2_ne _ _ _ (by omega), up2_ne _ _ _ (by omega), up2_ne _ _ _ (by omega), up2_ne _ _ _ (by omega), up2_same]
        have n20 : I9 (b + 20) k = nI p := by rw [← hI9, up2_ne _ _ _ (by omega), up2_ne _ _ _ (by omega), up2_ne _ _ _ (by omega), up2_ne _ _ _ (by omega), up2_ne _ _ _ (by omega), up2_ne _ _ _ (by omega), up2_same]
        have n16 : I9 (b + 16) p = I' (mb + 10) (14 + 5 * p) + 1 := by rw [← hI9, up2_ne _ _ _ (by omega), up2_ne _ _ _ (by omega), up2_same]
        have nru : ∀ x, x ≠ p → I9 (b + 16) x = I (b + 16) x := fun x hx => by rw [← hI9, up2_ne _ _ _ (by omega), up2_ne _ _ _ (by omega), up2_at (Or.inr hx), up2_ne _ _ _ (by omega), up2_ne _ _ _ (by omega), up2_ne _ _ _ (by omega), up2_ne _ _ _ (by omega), up2_ne _ _ _ (by omega)]
        have nno : ∀ x y, 17 ≤ x → y ≠ k → I9 (b + x) y = I (b + x) y := fun x y hx hy => by rw [← hI9, up2_at (Or.inr hy), up2_at (Or.inr hy), up2_at (Or.inl (by omega)), up2_at (Or.inr hy), up2_at (Or.inr hy), up2_at (Or.inr hy), up2_at (Or.inr hy), up2_at (Or.inr hy)]
        have nfr : ∀ a, (a < b + 16 ∨ b + 23 < a) → I9 a = I a := fun a ha => by rw [← hI9, up2_ne _ _ _ (by omega), up2_ne _ _ _ (by omega), up2_ne _ _ _ (by omega), up2_ne _ _ _ (by omega), up2_ne _ _ _ (by omega), up2_ne _ _ _ (by omega), up2_ne _ _ _ (by omega), up2_ne _ _ _ (by omega)]
        have m14 : B9 (mb + 10) (14 + 5 * p) = I' (mb + 10) (14 + 5 * p) + 1 := by rw [← hB9, up2_same]
        have m54 : B9 (mb + 10) (54 + 11 * k) = nI (t + 1) := by rw [← hB9, up2_at (Or.inr (by omega)), up2_same]
        have m53 : B9 (mb + 10) (53 + 11 * k) = I' (mb + 10) (10 + 5 * p) + nI D := by rw [← hB9, up2_at (Or.inr (by omega)), up2_at (Or.inr (by omega)), up2_same]
        have m52 : B9 (mb + 10) (52 + 11 * k) = I' (mb + 10) (55 + 11 * k) := by rw [← hB9, up2_at (Or.inr (by omega)), up2_at (Or.inr (by omega)), up2_at (Or.inr (by omega)), up2_same]
        have m51 : B9 (mb + 10) (51 + 11 * k) = nI p := by rw [← hB9, up2_at (Or.inr (by omega)), up2_at (Or.inr (by omega)), up2_at (Or.inr (by omega)), up2_at (Or.inr (by omega)), up2_same]
        have m49 : B9 (mb + 10) (49 + 11 * k) = -1 := by rw [← hB9, up2_at (Or.inr (by omega)), up2_at (Or.inr (by omega)), up2_at (Or.inr (by omega)), up2_at (Or.inr (by omega)), up2_at (Or.inr (by omega)), up2_same]
        have m50 : B9 (mb + 10) (50 + 11 * k) = nI (1 - 1) := by rw [← hB9, up2_at (Or.inr (by omega)), up2_at (Or.inr (by omega)), up2_at (Or.inr (by omega)), up2_at (Or.inr (by omega)), up2_at (Or.inr (by omega)), up2_at (Or.inr (by omega)), up2_same]
        have mno : ∀ i, (i < 49 + 11 * k ∨ 54 + 11 * k < i) → i ≠ 14 + 5 * p → B9 (mb + 10) i = I' (mb + 10) i := fun i hi hi2 => by rw [← hB9, up2_at (Or.inr hi2), up2_at (Or.inr (by omega)), up2_at (Or.inr (by omega)), up2_at (Or.inr (by omega)), up2_at (Or.inr (by omega)), up2_at (Or.inr (by omega)), up2_at (Or.inr (by omega))]
        have mfr : ∀ a, a ≠ mb + 10 → B9 a = I' a := fun a ha => by rw [← hB9, up2_ne _ _ _ ha, up2_ne _ _ _ ha, up2_ne _ _ _ ha, up2_ne _ _ _ ha, up2_ne _ _ _ ha, up2_ne _ _ _ ha, up2_ne _ _ _ ha]
        have x2 : acc + 2 ^ k < 2 ^ (k + 1) := by omega
        have A9 : ∀ a, a ≠ b + 14 → up2 I9 (b + 14) 9 (nI (D + 1)) a = I9 a := fun a ha => up2_ne _ _ _ ha
        have V9 : ∀ i, i ≠ 4 → up2 B9 (mb + 10) 4 (nI (D + 1)) (mb + 10) i = B9 (mb + 10) i := fun i hi => up2_at (Or.inr hi)
        have hnew : CoreR b mb (up2 I9 (b + 14) 9 (nI (D + 1))) (up2 B9 (mb + 10) 4 (nI (D + 1))) P C (D + 1) := by
          refine h.one hkC (fun a h1 h2 => ?_) ?_ (fun x hx => ?_) (fun x hx => ?_) (fun x y h1 h2 hy => ?_) (fun i h1 h2 h3 => ?_) ⟨?_, ?_, fun hne => ?_, ?_, ?_, ?_, ?_⟩ ⟨?_, ?_⟩
          · rw [A9 _ (by omega), nfr _ (Or.inl (by omega)), uu _ (by omega)]
          · rw [up2_same, up2_same]
          · rw [A9 _ (by omega), nfr _ (Or.inl (by omega)), uu _ (by omega)]
          · rw [A9 _ (by omega), V9 _ (by omega)]
            by_cases hxp : x = p
            · subst hxp; rw [n16, m14]
            · rw [nru x hxp, mno _ (by omega) (by omega), jru x hx]
          · rw [A9 _ (by omega), uu _ (by omega), nno x y h1 hy]
          · by_cases h4 : i = 4
            · subst h4; rw [up2_same, up2_same]
            · rw [V9 _ h4, vv _ h4, mno i (by omega) (h3 p hp)]
          · rw [A9 _ (by omega), V9 _ (by omega), n17, m49]
          · rw [A9 _ (by omega), V9 _ (by omega), n18, m50]; rfl
          · exact absurd (by rw [V9 _ (by omega), m49]) hne
          · rw [A9 _ (by omega), V9 _ (by omega), n20, m51]
          · rw [A9 _ (by omega), V9 _ (by omega), n21, m52]
          · rw [A9 _ (by omega), V9 _ (by omega), n22, m53]
          · rw [A9 _ (by omega), V9 _ (by omega), n23, m54]
          · left; rw [V9 _ (by omega), m49]
          · right; exact ⟨p, t + 1, by rw [V9 _ (by omega), m51], hp, by rw [V9 _ (by omega), m54], by omega, by omega⟩
        obtain ⟨q, I1, I1', s1, s2, s3, s4, s5, s6, s7, s8, s9⟩ := ih (k + 1) n n' (acc + 2 ^ k) I9 B9 (by omega) (by omega) (by omega) x2 hnew (by rw [nfr _ (Or.inl (by omega)), e9]) (by rw [mno _ (by omega) (by omega), e4]) (fun c h1 h2 => by
          obtain ⟨t', ht', et'⟩ := ht c (by omega) h2
          exact ⟨t', ht', by rw [mno _ (by omega) (by omega), et']⟩)
        exact ⟨q, I1, I1', s1, s2, s3, s4, s5, s6, fun a ha => (s7 a ha).trans (nfr a ha), fun a ha => (s8 a ha).trans (mfr a ha), fun i hi => (s9 i hi).trans (mno i (by omega) (by omega))⟩
      · have hq2 : 2 ≤ q := by omega
        rw [if_pos (show 0 < nI (q - 1) from nI_lt (a := 0) (by omega) (by omega)), if_neg (nI_nle (by omega) (by omega)), lts, lts, nI_1]
        have A9 : ∀ a, a ≠ b + 14 → up2 (up2 I (b + 18) k (nI (q - 1))) (b + 14) 9 (nI (D + 1)) a = up2 I (b + 18) k (nI (q - 1)) a := fun a ha => up2_ne _ _ _ ha
        have V9 : ∀ i, i ≠ 4 → up2 (up2 I' (mb + 10) (50 + 11 * k) (nI (q - 1))) (mb + 10) 4 (nI (D + 1)) (mb + 10) i = up2 I' (mb + 10) (50 + 11 * k) (nI (q - 1)) (mb + 10) i := fun i hi => up2_at (Or.inr hi)
        have n1 : ∀ a, a ≠ b + 18 → up2 I (b + 18) k (nI (q - 1)) a = I a := fun a ha => up2_ne _ _ _ ha
        have v1 : ∀ i, i ≠ 50 + 11 * k → up2 I' (mb + 10) (50 + 11 * k) (nI (q - 1)) (mb + 10) i = I' (mb + 10) i := fun i hi => up2_at (Or.inr hi)
        have hnew : CoreR b mb (up2 (up2 I (b + 18) k (nI (q - 1))) (b + 14) 9 (nI (D + 1))) (up2 (up2 I' (mb + 10) (50 + 11 * k) (nI (q - 1))) (mb + 10) 4 (nI (D + 1))) P C (D + 1) := by
          refine h.one hkC (fun a h1 h2 => ?_) ?_ (fun x hx => ?_) (fun x hx => ?_) (fun x y h1 h2 hy => ?_) (fun i h1 h2 h3 => ?_) ⟨?_, ?_, fun hne => ?_, ?_, ?_, ?_, ?_⟩ ⟨?_, ?_⟩
          · rw [A9 _ (by omega), n1 _ (by omega), uu _ (by omega)]
          · rw [up2_same, up2_same]
          · rw [A9 _ (by omega), n1 _ (by omega), uu _ (by omega)]
          · rw [A9 _ (by omega), V9 _ (by omega), n1 _ (by omega), v1 _ (by omega), jru x hx]
          · rw [A9 _ (by omega), uu _ (by omega), up2_at (Or.inr hy)]
          · by_cases h4 : i = 4
            · subst h4; rw [up2_same, up2_same]
            · rw [V9 _ h4, vv _ h4, v1 _ (by omega)]
          · rw [A9 _ (by omega), V9 _ (by omega), n1 _ (by omega), v1 _ (by omega), j17]
          · rw [A9 _ (by omega), V9 _ (by omega), up2_same, up2_same]
          · rw [A9 _ (by omega), V9 _ (by omega), n1 _ (by omega), v1 _ (by omega), j19]
          · rw [A9 _ (by omega), V9 _ (by omega), n1 _ (by omega), v1 _ (by omega), j20]
          · rw [A9 _ (by omega), V9 _ (by omega), n1 _ (by omega), v1 _ (by omega), j21]
          · rw [A9 _ (by omega), V9 _ (by omega), n1 _ (by omega), v1 _ (by omega), j22]
          · rw [A9 _ (by omega), V9 _ (by omega), n1 _ (by omega), v1 _ (by omega), j23]
          · right; exact ⟨p, q - 1, by rw [V9 _ (by omega), v1 _ (by omega), e], hp, by rw [V9 _ (by omega), up2_same], by omega, by omega⟩
          · rw [V9 _ (by omega), V9 _ (by omega), v1 _ (by omega), v1 _ (by omega)]; exact g2
        obtain ⟨w, I1, I1', s1, s2, s3, s4, s5, s6, s7, s8, s9⟩ := ih (k + 1) n n' acc _ _ (by omega) (by omega) (by omega) (by omega) hnew (by rw [n1 _ (by omega), e9]) (by rw [v1 _ (by omega), e4]) (fun c h1 h2 => by
          obtain ⟨t', ht', et'⟩ := ht c (by omega) h2
          exact ⟨t', ht', by rw [v1 _ (by omega), et']⟩)
        exact ⟨w, I1, I1', s1, s2, s3, s4, s5, s6, fun a ha => (s7 a ha).trans (n1 a (by omega)), fun a ha => (s8 a ha).trans (up2_ne _ _ _ ha), fun i hi => (s9 i hi).trans (v1 i (by omega))⟩
theorem q_pass {N b mb P C D : Nat} {S : ST} {Rf : RT} {I I' : IT} {J J' : JT} (hN : 1000 ≤ N) (hD : D ≤ 1199) (h : CoreR b mb I I' P C D) (hv0 : I' (mb + 10) 0 ≠ 0) :
    ∃ q I1 I1', f0_pass N b S Rf (b + 14) (b + 5) I J = some (nI q, I1, J) ∧ f12_passes N mb I' J' = some (nI q, I1', J') ∧ q < 64 ∧ CoreR b mb I1 I1' P C (D + 1) ∧ (∀ a, (a < b + 14 ∨ b + 23 < a) → I1 a = I a) ∧ (∀ a, a ≠ mb + 10 → I1' a = I' a) ∧ (∀ i, 111 ≤ i → I1' (mb + 10) i = I' (mb + 10) i) := by
  have hP7 := co_P7 h
  have hC6 := co_C6 h
  have V : ∀ i, i ≠ 4 → up2 I' (mb + 10) 4 (nI (D + 1)) (mb + 10) i = I' (mb + 10) i := fun i hi => up2_at (Or.inr hi)
  have U : ∀ a, a ≠ b + 14 → up2 I (b + 14) 9 (nI (D + 1)) a = I a := fun a ha => up2_ne _ _ _ ha
  have h0 : CoreR b mb (up2 I (b + 14) 9 (nI (D + 1))) (up2 I' (mb + 10) 4 (nI (D + 1))) P C (D + 1) := by
    obtain ⟨⟨⟨a1, a2⟩, ⟨b1, b2⟩, ⟨c1, c2⟩, d, e, f, g, t⟩, hT, ⟨w1, w2, w3, w4⟩⟩ := id h
    refine ⟨⟨⟨(V 2 (by omega)).trans a1, a2⟩, ⟨(V 3 (by omega)).trans b1, b2⟩, ⟨up2_same _ _ _ _, by omega⟩, ?_, fun p hp => ?_, fun x hx => ?_, fun x hx => ?_, fun j a hj ha => ?_⟩, ?_, ⟨?_, fun p hp => ?_, fun x hx => ?_, ?_⟩⟩
    · rw [V 0 (by omega), V 1 (by omega), V 5 (by omega), V 6 (by omega)]
      rcases d with ⟨d1, d2, d3, d4, d5⟩ | d
      · exact absurd d1 hv0
      · exact Or.inr d
    · rw [V _ (by omega), V _ (by omega), V _ (by omega)]; exact e p hp
    · rw [V _ (by omega), V _ (by omega), V _ (by omega), V _ (by omega)]; exact f x hx
    · rw [V _ (by omega), V _ (by omega), V _ (by omega), V _ (by omega)]
      obtain ⟨g1, g2⟩ := g x hx
      refine ⟨g1, g2.imp id ?_⟩
      rintro ⟨j, t, q1, q2, q3, q4, q5⟩
      exact ⟨j, t, q1, q2, q3, q4, by omega⟩
    · have := t j a hj ha
      unfold twM at this ⊢
      rw [V _ (by omega), V _ (by omega)]; exact this
    · have hT1 : TownR (fun k => up2 I (b + 14) 9 (nI (D + 1)) (b + 5 + k)) (I' (mb + 10)) P C := hT.congr (fun k hk => up2_ne _ _ _ (by omega))
      obtain ⟨u1, u2, u3, u4, u5⟩ := hT1
      refine ⟨?_, ?_, ?_, fun p hp => ?_, fun x hx => ?_⟩
      · rw [V 0 (by omega), V 1 (by omega), V 2 (by omega), V 3 (by omega)]; exact u1
      · rw [V 0 (by omega), V 5 (by omega), V 6 (by omega)]; exact u2
      · rw [V 0 (by omega)]; exact u3
      · rw [V _ (by omega), V _ (by omega), V _ (by omega)]; exact u4 p hp
      · rw [V _ (by omega), V _ (by omega), V _ (by omega), V _ (by omega)]; exact u5 x hx
    · show up2 I (b + 14) 9 (nI (D + 1)) (b + 14) 9 = _
      rw [up2_same, up2_same]
    · show up2 I (b + 14) 9 (nI (D + 1)) (b + 15) p = _ ∧ up2 I (b + 14) 9 (nI (D + 1)) (b + 16) p = _
      rw [U (b + 15) (by omega), U (b + 16) (by omega), V _ (by omega), V _ (by omega)]; exact w2 p hp
    · show up2 I (b + 14) 9 (nI (D + 1)) (b + 17) x = _ ∧ up2 I (b + 14) 9 (nI (D + 1)) (b + 18) x = _ ∧ (_ → up2 I (b + 14) 9 (nI (D + 1)) (b + 19) x = _) ∧ up2 I (b + 14) 9 (nI (D + 1)) (b + 20) x = _ ∧ up2 I (b + 14) 9 (nI (D + 1)) (b + 21) x = _ ∧ up2 I (b + 14) 9 (nI (D + 1)) (b + 22) x = _ ∧ up2 I (b + 14) 9 (nI (D + 1)) (b + 23) x = _
      rw [U (b + 17) (by omega), U (b + 18) (by omega), U (b + 19) (by omega), U (b + 20) (by omega), U (b + 21) (by omega), U (b + 22) (by omega), U (b + 23) (by omega), V _ (by omega), V _ (by omega), V _ (by omega), V _ (by omega), V _ (by omega), V _ (by omega), V _ (by omega)]; exact w3 x hx
    · rw [V 0 (by omega)]
      intro q x h1 h2
      show up2 I (b + 14) 9 (nI (D + 1)) (b + 17) x = -1
      rw [up2_ne _ _ _ (by omega)]; exact w4 q x h1 h2
  obtain ⟨q, I1, I1', s1, s2, s3, s4, s5, s6, s7, s8, s9⟩ := pass_L (N := N) (S := S) (Rf := Rf) (J := J) (J' := J') hD C 0 N N 0 I I' (by omega) (by omega) (by omega) (by decide) h0 (co_D h) (cv_D h) (fun c _ hc => by
    rcases (h.1.2.2.2.2.2.2.1 c hc).2 with ⟨_, e⟩ | ⟨j, t, _, _, e, _, ht⟩
    · exact ⟨0, by omega, e⟩
    · exact ⟨t, ht, e⟩)
  rw [show nI 0 = (0 : Int32) from rfl] at s1 s2
  unfold f0_pass f12_passes
  rw [s1, s2, b3s, b3s, lts, lts, s5, s6, nI_1]
  refine ⟨q, _, _, rfl, rfl, Nat.lt_of_lt_of_le s3 (pow_le6 hC6), s4, fun a ha => ?_, fun a ha => ?_, fun i hi => ?_⟩
  · rw [up2_ne _ _ _ (by omega), s7 a (by omega)]
  · rw [up2_ne _ _ _ ha, s8 a ha]
  · rw [up2_at (Or.inr (by omega)), s9 i hi]
