/-! COPIES: a course copied, the reference's copying loops -/
theorem cpy2_ne {I : IT} {a d n q : Nat} (h : q ≠ d) : cpy2 I a d n q = I q := if_neg h
theorem cpy2_in {I : IT} {a d n j : Nat} (h : j < n) : cpy2 I a d n d j = I a j := by
  unfold cpy2
  rw [if_pos rfl, pk_cpy_in (Nat.zero_le _) (by omega), Nat.zero_add, Nat.sub_zero]
def CopyC (t0 t1 : Nat) (I I1 : IT) : Prop := (∀ a, (a < t0 ∨ t0 + 9 < a) → I1 a = I a) ∧ I1 t0 9 = I t1 9 ∧ (∀ k p, 1 ≤ k → k ≤ 2 → p < 7 → I1 (t0 + k) p = I (t1 + k) p) ∧ ∀ k c, 3 ≤ k → k ≤ 9 → c < 6 → I1 (t0 + k) c = I (t1 + k) c
theorem q0_copy {b t0 t1 : Nat} {S : ST} {Rf : RT} {I : IT} {J : JT} (hd : t1 + 9 < t0 ∨ t0 + 9 < t1) : ∃ I1, f0_copy b S Rf t0 t1 I J = some ((), I1, J) ∧ CopyC t0 t1 I I1 := by
  unfold f0_copy
  rw [lts, lts, lts, lts, lts, lts, lts, lts, lts, lts]
  refine ⟨_, rfl, ?_, ?_, ?_, ?_⟩
  · intro a ha
    rw [cpy2_ne (by omega), cpy2_ne (by omega), cpy2_ne (by omega), cpy2_ne (by omega), cpy2_ne (by omega), cpy2_ne (by omega), cpy2_ne (by omega), cpy2_ne (by omega), cpy2_ne (by omega), up2_ne _ _ _ (by omega)]
  · rw [cpy2_ne (by omega), cpy2_ne (by omega), cpy2_ne (by omega), cpy2_ne (by omega), cpy2_ne (by omega), cpy2_ne (by omega), cpy2_ne (by omega), cpy2_ne (by omega), cpy2_ne (by omega), up2_same]
  · intro k p h1 h2 hp
    obtain rfl | rfl : k = 1 ∨ k = 2 := by omega
    · rw [cpy2_ne (by omega), cpy2_ne (by omega), cpy2_ne (by omega), cpy2_ne (by omega), cpy2_ne (by omega), cpy2_ne (by omega), cpy2_ne (by omega), cpy2_ne (by omega), cpy2_in hp, up2_ne _ _ _ (by omega)]
    · rw [cpy2_ne (by omega), cpy2_ne (by omega), cpy2_ne (by omega), cpy2_ne (by omega), cpy2_ne (by omega), cpy2_ne (by omega), cpy2_ne (by omega), cpy2_in hp, cpy2_ne (by omega), up2_ne _ _ _ (by omega)]
  · intro k p h1 h2 hp
    obtain rfl | rfl | rfl | rfl | rfl | rfl | rfl : k = 3 ∨ k = 4 ∨ k = 5 ∨ k = 6 ∨ k = 7 ∨ k = 8 ∨ k = 9 := by omega
    · rw [cpy2_ne (by omega), cpy2_ne (by omega), cpy2_ne (by omega), cpy2_ne (by omega), cpy2_ne (by omega), cpy2_ne (by omega), cpy2_in hp, cpy2_ne (by omega), cpy2_ne (by omega), up2_ne _ _ _ (by omega)]
    · rw [cpy2_ne (by omega), cpy2_ne (by omega), cpy2_ne (by omega), cpy2_ne (by omega), cpy2_ne (by omega), cpy2_in hp, cpy2_ne (by omega), cpy2_ne (by omega), cpy2_ne (by omega), up2_ne _ _ _ (by omega)]
    · rw [cpy2_ne (by omega), cpy2_ne (by omega), cpy2_ne (by omega), cpy2_ne (by omega), cpy2_in hp, cpy2_ne (by omega), cpy2_ne (by omega), cpy2_ne (by omega), cpy2_ne (by omega), up2_ne _ _ _ (by omega)]
    · rw [cpy2_ne (by omega), cpy2_ne (by omega), cpy2_ne (by omega), cpy2_in hp, cpy2_ne (by omega), cpy2_ne (by omega), cpy2_ne (by omega), cpy2_ne (by omega), cpy2_ne (by omega), up2_ne _ _ _ (by omega)]
    · rw [cpy2_ne (by omega), cpy2_ne (by omega), cpy2_in hp, cpy2_ne (by omega), cpy2_ne (by omega), cpy2_ne (by omega), cpy2_ne (by omega), cpy2_ne (by omega), cpy2_ne (by omega), up2_ne _ _ _ (by omega)]
    · rw [cpy2_ne (by omega), cpy2_in hp, cpy2_ne (by omega), cpy2_ne (by omega), cpy2_ne (by omega), cpy2_ne (by omega), cpy2_ne (by omega), cpy2_ne (by omega), cpy2_ne (by omega), up2_ne _ _ _ (by omega)]
    · rw [cpy2_in hp, cpy2_ne (by omega), cpy2_ne (by omega), cpy2_ne (by omega), cpy2_ne (by omega), cpy2_ne (by omega), cpy2_ne (by omega), cpy2_ne (by omega), cpy2_ne (by omega), up2_ne _ _ _ (by omega)]
theorem CourseR.copy {t0 t1 P C : Nat} {I I1 : IT} {v : Nat → Int32} (hP : P ≤ 7) (hC : C ≤ 6) (hc : CopyC t0 t1 I I1) (h : CourseR (fun k => I (t1 + k)) v P C) : CourseR (fun k => I1 (t0 + k)) v P C := by
  obtain ⟨c1, c2, c3, c4⟩ := hc
  obtain ⟨a, d, e, f⟩ := h
  refine ⟨c2.trans a, fun p hp => ?_, fun c hc => ?_, fun h0 c h1 h2 => ?_⟩
  · exact ⟨(c3 1 p (by omega) (by omega) (by omega)).trans (d p hp).1, (c3 2 p (by omega) (by omega) (by omega)).trans (d p hp).2⟩
  · obtain ⟨e1, e2, e3, e4, e5, e6, e7⟩ := e c hc
    exact ⟨(c4 3 c (by omega) (by omega) (by omega)).trans e1, (c4 4 c (by omega) (by omega) (by omega)).trans e2, fun q => (c4 5 c (by omega) (by omega) (by omega)).trans (e3 q), (c4 6 c (by omega) (by omega) (by omega)).trans e4, (c4 7 c (by omega) (by omega) (by omega)).trans e5, (c4 8 c (by omega) (by omega) (by omega)).trans e6, (c4 9 c (by omega) (by omega) (by omega)).trans e7⟩
  · exact (c4 3 c (by omega) (by omega) h2).trans (f h0 c h1 h2)
theorem cl_keepsAct_L52 {N mb u : Nat} {J : JT} (hu : u < 20) : ∀ r k n (I : IT), k + r = 111 → r < n → I mb 24 = nI u → ∃ I1, f12_keepsAct_L52 N mb n (nI k) I J = some ((), I1, J) ∧ (∀ a, a ≠ mb + 11 → I1 a = I a) ∧ (∀ i, (i < 111 * u + k ∨ 111 * u + 111 ≤ i) → I1 (mb + 11) i = I (mb + 11) i) ∧ ∀ i, k ≤ i → i < 111 → I1 (mb + 11) (111 * u + i) = I (mb + 10) i := by
  intro r
  induction r with
  | zero =>
    intro k n I hk hn hk0
    obtain ⟨n, rfl⟩ : ∃ q, n = q + 1 := ⟨n - 1, by omega⟩
    rw [f12_keepsAct_L52, if_pos (show (111 : Int32) ≤ nI k from nI_le (a := 111) (by omega) (by omega))]
    exact ⟨I, rfl, fun _ _ => rfl, fun _ _ => rfl, fun i h1 h2 => by omega⟩
  | succ r ih =>
    intro k n I hk hn hk0
    obtain ⟨n, rfl⟩ : ∃ q, n = q + 1 := ⟨n - 1, by omega⟩
    have x0 : (111 : Int32) * nI u + nI k = nI (111 * u + k) := by
      show nI 111 * nI u + nI k = _
      rw [pk_mul, nI_add]
    rw [f12_keepsAct_L52, if_neg (show ¬ (111 : Int32) ≤ nI k from nI_ge (b := 111) (by omega) (by omega)), hk0, x0, yb_ck_t (inb_nI (by omega) (by decide)), yb_ck_t (inb_nI (by omega) (by decide)), nI_clamp (show 111 * u + k < 2 ^ 31 by omega), nI_clamp (show k < 2 ^ 31 by omega), lts, lts, nI_1]
    obtain ⟨I1, r1, r2, r3, r4⟩ := ih (k + 1) n (up2 I (mb + 11) (111 * u + k) (I (mb + 10) k)) (by omega) (by omega) ((up2_at (Or.inl (by omega))).trans hk0)
    refine ⟨I1, r1, fun a ha => (r2 a ha).trans (up2_ne _ _ _ ha), fun i hi => ?_, fun i h1 h2 => ?_⟩
    · rw [r3 i (by omega), up2_at (Or.inr (by omega))]
    · rcases Nat.eq_or_lt_of_le h1 with rfl | h3
      · rw [r3 _ (Or.inl (by omega)), up2_same]
      · rw [r4 i (by omega) h2, up2_ne _ _ _ (by omega)]
theorem cl_undo_L21 {N mb u : Nat} {J : JT} (hu : u < 20) : ∀ r k n (I : IT), k + r = 111 → r < n → I mb 24 = nI u → ∃ I1, f12_undo_L21 N mb n (nI k) I J = some ((), I1, J) ∧ (∀ a, a ≠ mb + 10 → I1 a = I a) ∧ (∀ i, (i < k ∨ 111 ≤ i) → I1 (mb + 10) i = I (mb + 10) i) ∧ ∀ i, k ≤ i → i < 111 → I1 (mb + 10) i = I (mb + 11) (111 * u + i) := by
  intro r
  induction r with
  | zero =>
    intro k n I hk hn hk0
    obtain ⟨n, rfl⟩ : ∃ q, n = q + 1 := ⟨n - 1, by omega⟩
    rw [f12_undo_L21, if_pos (show (111 : Int32) ≤ nI k from nI_le (a := 111) (by omega) (by omega))]
    exact ⟨I, rfl, fun _ _ => rfl, fun _ _ => rfl, fun i h1 h2 => by omega⟩
  | succ r ih =>
    intro k n I hk hn hk0
    obtain ⟨n, rfl⟩ : ∃ q, n = q + 1 := ⟨n - 1, by omega⟩
    have x0 : (111 : Int32) * nI u + nI k = nI (111 * u + k) := by
      show nI 111 * nI u + nI k = _
      rw [pk_mul, nI_add]
    rw [f12_undo_L21, if_neg (show ¬ (111 : Int32) ≤ nI k from nI_ge (b := 111) (by omega) (by omega)), hk0, x0, yb_ck_t (inb_nI (by omega) (by decide)), yb_ck_t (inb_nI (by omega) (by decide)), nI_clamp (show 111 * u + k < 2 ^ 31 by omega), nI_clamp (show k < 2 ^ 31 by omega), lts, lts, nI_1]
    obtain ⟨I1, r1, r2, r3, r4⟩ := ih (k + 1) n (up2 I (mb + 10) k (I (mb + 11) (111 * u + k))) (by omega) (by omega) ((up2_at (Or.inl (by omega))).trans hk0)
    refine ⟨I1, r1, fun a ha => (r2 a ha).trans (up2_ne _ _ _ ha), fun i hi => ?_, fun i h1 h2 => ?_⟩
    · rw [r3 i (by omega), up2_at (Or.inr (by omega))]
    · rcases Nat.eq_or_lt_of_le h1 with rfl | h3
      · rw [r3 _ (Or.inl (by omega)), up2_same]
      · rw [r4 i (by omega) h2, up2_ne _ _ _ (by omega)]
theorem cl_image_L43 {N mb u : Nat} {J : JT} (hu : u < 4) : ∀ r k n (I : IT), k + r = 142 → r < n → ∃ I1, f12_image_L43 N mb (nI u) n (nI k) I J = some ((), I1, J) ∧ (∀ a, a ≠ mb + 26 → I1 a = I a) ∧ (∀ i, (i < 142 * u + k ∨ 142 * u + 142 ≤ i) → I1 (mb + 26) i = I (mb + 26) i) ∧ ∀ i, k ≤ i → i < 142 → I1 (mb + 26) (142 * u + i) = I (mb + 10) i := by
  intro r
  induction r with
  | zero =>
    intro k n I hk hn 
    obtain ⟨n, rfl⟩ : ∃ q, n = q + 1 := ⟨n - 1, by omega⟩
    rw [f12_image_L43, if_pos (show (142 : Int32) ≤ nI k from nI_le (a := 142) (by omega) (by omega))]
    exact ⟨I, rfl, fun _ _ => rfl, fun _ _ => rfl, fun i h1 h2 => by omega⟩
  | succ r ih =>
    intro k n I hk hn 
    obtain ⟨n, rfl⟩ : ∃ q, n = q + 1 := ⟨n - 1, by omega⟩
    have x0 : (142 : Int32) * nI u + nI k = nI (142 * u + k) := by
      show nI 142 * nI u + nI k = _
      rw [pk_mul, nI_add]
    rw [f12_image_L43, if_neg (show ¬ (142 : Int32) ≤ nI k from nI_ge (b := 142) (by omega) (by omega)), x0, yb_ck_t (inb_nI (by omega) (by decide)), yb_ck_t (inb_nI (by omega) (by decide)), nI_clamp (show 142 * u + k < 2 ^ 31 by omega), nI_clamp (show k < 2 ^ 31 by omega), lts, lts, nI_1]
    obtain ⟨I1, r1, r2, r3, r4⟩ := ih (k + 1) n _ (by omega) (by omega)
    refine ⟨I1, r1, fun a ha => (r2 a ha).trans (up2_ne _ _ _ ha), fun i hi => ?_, fun i h1 h2 => ?_⟩
    · rw [r3 i (by omega), up2_at (Or.inr (by omega))]
    · rcases Nat.eq_or_lt_of_le h1 with rfl | h3
      · rw [r3 _ (Or.inl (by omega)), up2_same]
      · rw [r4 i (by omega) h2, up2_ne _ _ _ (by omega)]
theorem cl_back_L50 {N mb u : Nat} {J : JT} (hu : u < 4) : ∀ r k n (I : IT), k + r = 142 → r < n → ∃ I1, f12_back_L50 N mb (nI u) n (nI k) I J = some ((), I1, J) ∧ (∀ a, a ≠ mb + 10 → I1 a = I a) ∧ (∀ i, (i < k ∨ 142 ≤ i) → I1 (mb + 10) i = I (mb + 10) i) ∧ ∀ i, k ≤ i → i < 142 → I1 (mb + 10) i = I (mb + 26) (142 * u + i) := by
  intro r
  induction r with
  | zero =>
    intro k n I hk hn 
    obtain ⟨n, rfl⟩ : ∃ q, n = q + 1 := ⟨n - 1, by omega⟩
    rw [f12_back_L50, if_pos (show (142 : Int32) ≤ nI k from nI_le (a := 142) (by omega) (by omega))]
    exact ⟨I, rfl, fun _ _ => rfl, fun _ _ => rfl, fun i h1 h2 => by omega⟩
  | succ r ih =>
    intro k n I hk hn 
    obtain ⟨n, rfl⟩ : ∃ q, n = q + 1 := ⟨n - 1, by omega⟩
    have x0 : (142 : Int32) * nI u + nI k = nI (142 * u + k) := by
      show nI 142 * nI u + nI k = _
      rw [pk_mul, nI_add]
    rw [f12_back_L50, if_neg (show ¬ (142 : Int32) ≤ nI k from nI_ge (b := 142) (by omega) (by omega)), x0, yb_ck_t (inb_nI (by omega) (by decide)), yb_ck_t (inb_nI (by omega) (by decide)), nI_clamp (show 142 * u + k < 2 ^ 31 by omega), nI_clamp (show k < 2 ^ 31 by omega), lts, lts, nI_1]
    obtain ⟨I1, r1, r2, r3, r4⟩ := ih (k + 1) n _ (by omega) (by omega)
    refine ⟨I1, r1, fun a ha => (r2 a ha).trans (up2_ne _ _ _ ha), fun i hi => ?_, fun i h1 h2 => ?_⟩
    · rw [r3 i (by omega), up2_at (Or.inr (by omega))]
    · rcases Nat.eq_or_lt_of_le h1 with rfl | h3
      · rw [r3 _ (Or.inl (by omega)), up2_same]
      · rw [r4 i (by omega) h2, up2_ne _ _ _ (by omega)]
theorem cl_years_L61 {N mb : Nat} {J : JT} {x1 x2 x3 x4 x5 : Int32} : ∀ r k n (I : IT), k + r = 111 → r < n → ∃ I1, f12_years_L61 N mb x1 x2 x3 x4 x5 n (nI k) I J = some ((), I1, J) ∧ (∀ a, a ≠ mb + 25 → I1 a = I a) ∧ (∀ i, (i < k ∨ 111 ≤ i) → I1 (mb + 25) i = I (mb + 25) i) ∧ ∀ i, k ≤ i → i < 111 → I1 (mb + 25) i = I (mb + 10) i := by
  intro r
  induction r with
  | zero =>
    intro k n I hk hn 
    obtain ⟨n, rfl⟩ : ∃ q, n = q + 1 := ⟨n - 1, by omega⟩
    rw [f12_years_L61, if_pos (show (111 : Int32) ≤ nI k from nI_le (a := 111) (by omega) (by omega))]
    exact ⟨I, rfl, fun _ _ => rfl, fun _ _ => rfl, fun i h1 h2 => by omega⟩
  | succ r ih =>
    intro k n I hk hn 
    obtain ⟨n, rfl⟩ : ∃ q, n = q + 1 := ⟨n - 1, by omega⟩
    rw [f12_years_L61, if_neg (show ¬ (111 : Int32) ≤ nI k from nI_ge (b := 111) (by omega) (by omega)), yb_ck_t (inb_nI (by omega) (by decide)), yb_ck_t (inb_nI (by omega) (by decide)), nI_clamp (show k < 2 ^ 31 by omega), lts, lts, nI_1]
    obtain ⟨I1, r1, r2, r3, r4⟩ := ih (k + 1) n _ (by omega) (by omega)
    refine ⟨I1, r1, fun a ha => (r2 a ha).trans (up2_ne _ _ _ ha), fun i hi => ?_, fun i h1 h2 => ?_⟩
    · rw [r3 i (by omega), up2_at (Or.inr (by omega))]
    · rcases Nat.eq_or_lt_of_le h1 with rfl | h3
      · rw [r3 _ (Or.inl (by omega)), up2_same]
      · rw [r4 i (by omega) h2, up2_ne _ _ _ (by omega)]
theorem cl_years_L201 {N mb : Nat} {J : JT} {x1 x2 x3 x4 x5 x6 : Int32} : ∀ r k n (I : IT), k + r = 111 → r < n → ∃ I1, f12_years_L201 N mb x1 x2 x3 x4 x5 x6 n (nI k) I J = some ((), I1, J) ∧ (∀ a, a ≠ mb + 10 → I1 a = I a) ∧ (∀ i, (i < k ∨ 111 ≤ i) → I1 (mb + 10) i = I (mb + 10) i) ∧ ∀ i, k ≤ i → i < 111 → I1 (mb + 10) i = I (mb + 25) i := by
  intro r
  induction r with
  | zero =>
    intro k n I hk hn 
    obtain ⟨n, rfl⟩ : ∃ q, n = q + 1 := ⟨n - 1, by omega⟩
    rw [f12_years_L201, if_pos (show (111 : Int32) ≤ nI k from nI_le (a := 111) (by omega) (by omega))]
    exact ⟨I, rfl, fun _ _ => rfl, fun _ _ => rfl, fun i h1 h2 => by omega⟩
  | succ r ih =>
    intro k n I hk hn 
    obtain ⟨n, rfl⟩ : ∃ q, n = q + 1 := ⟨n - 1, by omega⟩
    rw [f12_years_L201, if_neg (show ¬ (111 : Int32) ≤ nI k from nI_ge (b := 111) (by omega) (by omega)), yb_ck_t (inb_nI (by omega) (by decide)), yb_ck_t (inb_nI (by omega) (by decide)), nI_clamp (show k < 2 ^ 31 by omega), lts, lts, nI_1]
    obtain ⟨I1, r1, r2, r3, r4⟩ := ih (k + 1) n _ (by omega) (by omega)
    refine ⟨I1, r1, fun a ha => (r2 a ha).trans (up2_ne _ _ _ ha), fun i hi => ?_, fun i h1 h2 => ?_⟩
    · rw [r3 i (by omega), up2_at (Or.inr (by omega))]
    · rcases Nat.eq_or_lt_of_le h1 with rfl | h3
      · rw [r3 _ (Or.inl (by omega)), up2_same]
      · rw [r4 i (by omega) h2, up2_ne _ _ _ (by omega)]
theorem cl_shift {N mb : Nat} {J : JT} : ∀ r k n (I : IT), k + r = 2220 → 111 ≤ k → r < n → ∃ I1, f12_keepsAct_L12 N mb n (nI k) I J = some ((), I1, J) ∧ (∀ a, a ≠ mb + 11 → I1 a = I a) ∧ (∀ i, i + 111 < k → I1 (mb + 11) i = I (mb + 11) i) ∧ ∀ i, k ≤ i + 111 → i + 111 < 2220 → I1 (mb + 11) i = I (mb + 11) (i + 111) := by
  intro r
  induction r with
  | zero =>
    intro k n I hk h1 hn
    obtain ⟨n, rfl⟩ : ∃ q, n = q + 1 := ⟨n - 1, by omega⟩
    rw [f12_keepsAct_L12, if_pos (show (2220 : Int32) ≤ nI k from nI_le (a := 2220) (by omega) (by omega))]
    exact ⟨I, rfl, fun _ _ => rfl, fun _ _ => rfl, fun i h1 h2 => by omega⟩
  | succ r ih =>
    intro k n I hk h1 hn
    obtain ⟨n, rfl⟩ : ∃ q, n = q + 1 := ⟨n - 1, by omega⟩
    have x0 : nI k - 111 = nI (k - 111) := pk_sub (b := 111) h1
    rw [f12_keepsAct_L12, if_neg (show ¬ (2220 : Int32) ≤ nI k from nI_ge (b := 2220) (by omega) (by omega)), x0, yb_ck_t (inb_nI (by omega) (by decide)), yb_ck_t (inb_nI (by omega) (by decide)), nI_clamp (show k < 2 ^ 31 by omega), nI_clamp (show k - 111 < 2 ^ 31 by omega), lts, lts, nI_1]
    obtain ⟨I1, r1, r2, r3, r4⟩ := ih (k + 1) n _ (by omega) (by omega) (by omega)
    refine ⟨I1, r1, fun a ha => (r2 a ha).trans (up2_ne _ _ _ ha), fun i hi => ?_, fun i h1 h2 => ?_⟩
    · rw [r3 i (by omega), up2_at (Or.inr (by omega))]
    · rcases Nat.eq_or_lt_of_le h1 with e | h3
      · rw [r3 i (by omega), show i = k - 111 by omega, up2_same, show k - 111 + 111 = k by omega]
      · rw [r4 i (by omega) h2, up2_at (Or.inr (by omega))]
