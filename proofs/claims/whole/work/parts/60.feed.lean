/-! FEED: bytes signed there, unsigned here (by_b as in the kit's laws of bits) -/
theorem by_b (x : Int32) : x.toInt8.toInt32 &&& 255 = x &&& 255 := by
  apply Int32.toBitVec_inj.mp
  rw [Int32.toBitVec_and, Int32.toBitVec_and, Int8.toBitVec_toInt32, Int32.toBitVec_toInt8]
  apply BitVec.eq_of_getLsbD_eq
  intro i hi
  rw [BitVec.getLsbD_and, BitVec.getLsbD_and]
  have hm : ∀ i < 32, 8 ≤ i → (255 : Int32).toBitVec.getLsbD i = false := by decide
  rcases Nat.lt_or_ge i 8 with z | z
  · rw [BitVec.getLsbD_signExtend, BitVec.getLsbD_signExtend, if_pos z, if_pos hi]
    simp only [z, hi, decide_true, Bool.true_and]
  · rw [hm i hi z]; simp
theorem by_twice (x : Int32) : x.toInt8.toInt32.toInt8.toInt32 = x.toInt8.toInt32 := by simp
theorem by_sh (x : Int32) : ∀ k, k = 24 ∨ k = 16 ∨ k = 8 ∨ k = 0 → (x.toUInt32 >>> ((nI k).toUInt32 &&& Int32.toUInt32 31)).toInt32 &&& 255 = (x >>> (nI k &&& 31)).toInt8.toInt32 &&& 255 := by
  intro k hk
  rw [by_b, pk_and _ 8 rfl, pk_and _ 8 rfl]
  have hX : x.toInt = if 2 * x.toBitVec.toNat < 2 ^ 32 then (x.toBitVec.toNat : Int) else (x.toBitVec.toNat : Int) - ((2 ^ 32 : Nat) : Int) := BitVec.toInt_eq_toNat_cond x.toBitVec
  have hZ : (x >>> (nI k &&& 31)).toInt = if 2 * (x >>> (nI k &&& 31)).toBitVec.toNat < 2 ^ 32 then ((x >>> (nI k &&& 31)).toBitVec.toNat : Int) else ((x >>> (nI k &&& 31)).toBitVec.toNat : Int) - ((2 ^ 32 : Nat) : Int) := BitVec.toInt_eq_toNat_cond (x >>> (nI k &&& 31)).toBitVec
  have hb := x.toBitVec.isLt
  have hb2 := (x >>> (nI k &&& 31)).toBitVec.isLt
  congr 1
  rcases hk with rfl | rfl | rfl | rfl
  · have hS := pk_shr x (nI 24 &&& 31) 24 (by decide)
    rw [pk_ushr x (nI 24) 24 (by decide)]
    rw [Int.shiftRight_eq_div_pow] at hS
    rw [hX, hZ] at hS
    generalize x.toBitVec.toNat = X at *
    generalize (x >>> (nI 24 &&& 31)).toBitVec.toNat = Z at *
    split at hS <;> split at hS <;> omega
  · have hS := pk_shr x (nI 16 &&& 31) 16 (by decide)
    rw [pk_ushr x (nI 16) 16 (by decide)]
    rw [Int.shiftRight_eq_div_pow] at hS
    rw [hX, hZ] at hS
    generalize x.toBitVec.toNat = X at *
    generalize (x >>> (nI 16 &&& 31)).toBitVec.toNat = Z at *
    split at hS <;> split at hS <;> omega
  · have hS := pk_shr x (nI 8 &&& 31) 8 (by decide)
    rw [pk_ushr x (nI 8) 8 (by decide)]
    rw [Int.shiftRight_eq_div_pow] at hS
    rw [hX, hZ] at hS
    generalize x.toBitVec.toNat = X at *
    generalize (x >>> (nI 8 &&& 31)).toBitVec.toNat = Z at *
    split at hS <;> split at hS <;> omega
  · have hS := pk_shr x (nI 0 &&& 31) 0 (by decide)
    rw [pk_ushr x (nI 0) 0 (by decide)]
    rw [Int.shiftRight_eq_div_pow] at hS
    rw [hX, hZ] at hS
    generalize x.toBitVec.toNat = X at *
    generalize (x >>> (nI 0 &&& 31)).toBitVec.toNat = Z at *
    split at hS <;> split at hS <;> omega
/-- the tapes of both sides, n bytes long -/
def Tap (b mb n : Nat) (I I' : IT) : Prop := I b 14 = nI n ∧ I' mb 1 = nI n ∧ ∀ k, k < n → I (b + 1) k = I' (mb + 1) k &&& 255 ∧ (I' (mb + 1) k).toInt8.toInt32 = I' (mb + 1) k
/-- only the tapes changed -/
def TapF (b mb : Nat) (I I1 I' I1' : IT) : Prop := (∀ a k, a ≠ b + 1 → (a ≠ b ∨ k ≠ 14) → I1 a k = I a k) ∧ ∀ a k, a ≠ mb + 1 → (a ≠ mb ∨ k ≠ 1) → I1' a k = I' a k
theorem put_1 {N b mb n k m m' : Nat} {x : Int32} {S : ST} {Rf : RT} {I I' : IT} {J J' : JT} (hk : k = 24 ∨ k = 16 ∨ k = 8 ∨ k = 0) (hn : n < 400) (h : Tap b mb n I I') : ∃ I1 I1', f11_putBytes_L3 N b S Rf x (m + 1) (nI k) I J = f11_putBytes_L3 N b S Rf x m (nI k + (-8)) I1 J ∧ f12_four_L3 N mb x (m' + 1) (nI k) I' J' = f12_four_L3 N mb x m' (nI k + (-8)) I1' J' ∧ Tap b mb (n + 1) I1 I1' ∧ TapF b mb I I1 I' I1' := by
  obtain ⟨h1, h2, h3⟩ := h
  rw [f11_putBytes_L3, f12_four_L3, if_neg (nI_pos (by omega)), if_neg (nI_pos (by omega)), h1, h2, if_neg (show ¬ (400 : Int32) ≤ nI n from nI_ge (b := 400) (by omega) (by omega)), yb_ck_t (inb_nI hn (by decide)), yb_ck_t (inb_nI hn (by decide)), nI_clamp (by omega), lts, lts, lts, lts, lts, lts, pk_vb]
  have e1 : ∀ y, up2 I (b + 1) n y b 14 = nI n := fun y => by rw [up2_ne _ _ _ (by omega), h1]
  have e2 : ∀ y, up2 I' (mb + 1) n y mb 1 = nI n := fun y => by rw [up2_ne _ _ _ (by omega), h2]
  rw [e1, e2, nI_1]
  refine ⟨_, _, rfl, rfl, ⟨up2_same _ _ _ _, up2_same _ _ _ _, fun j hj => ?_⟩, fun a j ha hb => ?_, fun a j ha hb => ?_⟩
  · rw [up2_ne _ _ _ (show b + 1 ≠ b by omega), up2_ne _ _ _ (show mb + 1 ≠ mb by omega)]
    by_cases c : j = n
    · subst c
      rw [up2_same, up2_same]
      exact ⟨by_sh x k hk, by_twice _⟩
    · rw [up2_at (Or.inr c), up2_at (Or.inr c)]
      exact h3 j (by omega)
  · rw [up2_at hb, up2_ne _ _ _ ha]
  · rw [up2_at hb, up2_ne _ _ _ ha]
theorem TapF.tr {b mb : Nat} {I I1 I2 I' I1' I2' : IT} (h : TapF b mb I I1 I' I1') (g : TapF b mb I1 I2 I1' I2') : TapF b mb I I2 I' I2' := ⟨fun a k h1 h2 => (g.1 a k h1 h2).trans (h.1 a k h1 h2), fun a k h1 h2 => (g.2 a k h1 h2).trans (h.2 a k h1 h2)⟩
theorem put_4 {N b mb n : Nat} {x : Int32} {S : ST} {Rf : RT} {I I' : IT} {J J' : JT} (hN : 1000 ≤ N) (hn : n + 4 ≤ 400) (h : Tap b mb n I I') : ∃ I1 I1', f11_putBytes N b S Rf x I J = some ((), I1, J) ∧ f12_four N mb x I' J' = some ((), I1', J') ∧ Tap b mb (n + 4) I1 I1' ∧ TapF b mb I I1 I' I1' := by
  obtain ⟨m, rfl⟩ : ∃ m, N = m + 5 := ⟨N - 5, by omega⟩
  obtain ⟨A1, B1, a1, a2, a3, a4⟩ := put_1 (N := m + 5) (m := m + 4) (m' := m + 4) (x := x) (S := S) (Rf := Rf) (J := J) (J' := J') (k := 24) (by omega) (by omega) h
  obtain ⟨A2, B2, b1, b2, b3, b4⟩ := put_1 (N := m + 5) (m := m + 3) (m' := m + 3) (x := x) (S := S) (Rf := Rf) (J := J) (J' := J') (k := 16) (by omega) (by omega) a3
  obtain ⟨A3, B3, c1, c2, c3, c4⟩ := put_1 (N := m + 5) (m := m + 2) (m' := m + 2) (x := x) (S := S) (Rf := Rf) (J := J) (J' := J') (k := 8) (by omega) (by omega) b3
  obtain ⟨A4, B4, d1, d2, d3, d4⟩ := put_1 (N := m + 5) (m := m + 1) (m' := m + 1) (x := x) (S := S) (Rf := Rf) (J := J) (J' := J') (k := 0) (by omega) (by omega) c3
  refine ⟨A4, B4, ?_, ?_, d3, ((a4.tr b4).tr c4).tr d4⟩
  · unfold f11_putBytes
    rw [show (24 : Int32) = nI 24 from rfl, a1, show nI 24 + (-8) = nI 16 from rfl, b1, show nI 16 + (-8) = nI 8 from rfl, c1, show nI 8 + (-8) = nI 0 from rfl, d1, f11_putBytes_L3, if_pos (show nI 0 + (-8) < 0 by decide), b3s]
  · unfold f12_four
    rw [show (24 : Int32) = nI 24 from rfl, a2, show nI 24 + (-8) = nI 16 from rfl, b2, show nI 16 + (-8) = nI 8 from rfl, c2, show nI 8 + (-8) = nI 0 from rfl, d2, f12_four_L3, if_pos (show nI 0 + (-8) < 0 by decide), b3s]
theorem inr_nI {x : Int32} {n : Nat} (h : inr x 0 n) : ∃ k : Nat, k ≤ n ∧ x = nI k := by
  have h0 : ¬ x < 0 := by
    rw [Int32.lt_iff_toInt_lt]
    have : (0 : Int32).toInt = 0 := rfl
    have := h.1
    omega
  obtain ⟨j, hj, e⟩ := nI_of h0
  refine ⟨j, ?_, e⟩
  have := h.2
  rw [e, nI_toInt hj] at this
  omega
theorem nI_inr {k n : Nat} (h : k ≤ n) (hn : n < 2 ^ 31) : inr (nI k) 0 n := by
  unfold inr
  rw [nI_toInt (by omega)]
  omega
theorem G_feed {N : Nat} (hN : 3000 ≤ N) : Gd_feed N RelY := by
  intro b mb L S Rf I J I' J' x1 x2 x3 x4 x5 hR
  obtain ⟨P, C, D, M, K, Rl, h⟩ := hR
  obtain ⟨t1, t2, t3⟩ := h.2.2.2.1
  obtain ⟨n, hn, en⟩ := inr_nI (n := 400) t2
  have hT : Tap b mb n I I' := ⟨en, t1 ▸ en, fun k hk => t3 k (by rw [en, nI_toInt (by omega)]; omega)⟩
  unfold f11_feed f12_feed
  rw [en, hT.2.1, show nI n + 20 = nI (n + 20) from nI_add n 20]
  by_cases c : n + 20 ≤ 400
  · have cc : nI (n + 20) ≤ (400 : Int32) := nI_le (b := 400) c (by omega)
    obtain ⟨A1, B1, a1, a2, a3, a4⟩ := put_4 (N := N) (x := x1) (S := S) (Rf := Rf) (J := J) (J' := J') (by omega) (by omega) hT
    obtain ⟨A2, B2, b1, b2, b3, b4⟩ := put_4 (N := N) (x := x2) (S := S) (Rf := Rf) (J := J) (J' := J') (by omega) (by omega) a3
    obtain ⟨A3, B3, c1, c2, c3, c4⟩ := put_4 (N := N) (x := x3) (S := S) (Rf := Rf) (J := J) (J' := J') (by omega) (by omega) b3
    obtain ⟨A4, B4, d1, d2, d3, d4⟩ := put_4 (N := N) (x := x4) (S := S) (Rf := Rf) (J := J) (J' := J') (by omega) (by omega) c3
    obtain ⟨A5, B5, e1, e2, e3, e4⟩ := put_4 (N := N) (x := x5) (S := S) (Rf := Rf) (J := J) (J' := J') (by omega) (by omega) d3
    obtain ⟨f1, f2⟩ := (((a4.tr b4).tr c4).tr d4).tr e4
    rw [if_pos cc, if_pos cc, a1, b3s, b1, b3s, c1, b3s, d1, b3s, e1, b3s, a2, b3s, b2, b3s, c2, b3s, d2, b3s, e2, b3s, e3.1, e3.2.1]
    have g1 : ∀ a, a ≠ b + 1 → a ≠ b → A5 a = I a := fun a h1 h2 => funext fun k => f1 a k h1 (Or.inl h2)
    have g2 : ∀ a, a ≠ mb + 1 → a ≠ mb → B5 a = I' a := fun a h1 h2 => funext fun k => f2 a k h1 (Or.inl h2)
    refine ⟨_, _, _, _, _, rfl, rfl, P, C, D, M, K, Rl, h.swap (fun a _ _ => g1 a (by omega) (by omega)) (fun a ha => g1 a (by omega) (by omega)) (f1 b 15 (by omega) (Or.inr (by decide))) (g1 _ (by omega) (by omega)) (fun a h1 h2 => g1 a (by omega) (by omega)) (f2 mb 2 (by omega) (Or.inr (by decide))) (f2 mb 24 (by omega) (Or.inr (by decide))) (fun k hk => g2 _ (by omega) (by omega)) ⟨by rw [e3.1, e3.2.1], ?_, fun k hk => ?_⟩ ?_ ?_⟩
    · rw [e3.1]; exact nI_inr (n := 400) (by omega) (by omega)
    · rw [e3.1, nI_toInt (by omega)] at hk
      exact e3.2.2 k (by omega)
    · rw [g2 (mb + 10) (by omega) (by omega), f2 mb 21 (by omega) (Or.inr (by decide)), f2 mb 22 (by omega) (Or.inr (by decide))]
      exact h.2.2.2.2.1.congr (fun k hk => g1 _ (by omega) (by omega))
    · rw [f2 mb 21 (by omega) (Or.inr (by decide))]; exact h.fo
  · have cc : ¬ nI (n + 20) ≤ (400 : Int32) := nI_ge (a := 400) (by omega) (by omega)
    rw [if_neg cc, if_neg cc]
    exact ⟨_, _, _, _, _, rfl, rfl, P, C, D, M, K, Rl, h⟩
