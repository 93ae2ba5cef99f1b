/-! NUMBERS, both sides at one place -/
def dgV (w : Nat → Nat) (n p0 : Nat) : Nat → Nat → Int32 → Int32
  | 0, _, v => v
  | f + 1, k, v => if k < n ∧ isDi w k = true then dgV w n p0 f (k + 1) (if 5 ≤ k - p0 then v else v * 10 + nI (w k) - 48) else v
theorem dgV_go {w : Nat → Nat} {n p0 f k : Nat} {v : Int32} (hk : k < n) (c : isDi w k = true) : dgV w n p0 (f + 1) k v = dgV w n p0 f (k + 1) (if 5 ≤ k - p0 then v else v * 10 + nI (w k) - 48) := by
  have hz : k < n ∧ isDi w k = true := ⟨hk, c⟩
  rw [dgV, if_pos hz]
theorem dgV_st {w : Nat → Nat} {n p0 f k : Nat} {v : Int32} (c : ¬ (k < n ∧ isDi w k = true)) : dgV w n p0 f k v = v := by
  cases f with
  | zero => rfl
  | succ f => rw [dgV, if_neg c]
def dgE (w : Nat → Nat) (n p : Nat) : Nat := runE (isDi w) n p
def nmV (w : Nat → Nat) (n p : Nat) : Int32 := dgV w n p (n - p) p 0
theorem c_numL {N b n p0 : Nat} {w : Nat → Nat} {S : ST} {Rf : RT} {I : IT} {J : JT} {x1 x2 : Int32} (h : TC b n w I) (hp : I (b + 2) 2 = nI p0) : ∀ r k m v, k + r = n → r < m → p0 ≤ k → f3_number_L8 N b S Rf x1 x2 m (nI k) v I J = some ((nI (dgE w n k), dgV w n p0 r k v), I, J) := by
  obtain ⟨h4, h1, hw⟩ := h
  intro r
  induction r with
  | zero =>
    intro k m v hk hm hpk
    obtain ⟨m, rfl⟩ : ∃ q, m = q + 1 := ⟨m - 1, by omega⟩
    rw [f3_number_L8, h1, if_pos (nI_le (by omega) (by omega))]
    unfold dgE
    rw [run_st (by omega), dgV_st (by omega)]
  | succ r ih =>
    intro k m v hk hm hpk
    obtain ⟨m, rfl⟩ : ∃ q, m = q + 1 := ⟨m - 1, by omega⟩
    obtain ⟨w1, w2⟩ := hw k (by omega)
    rw [f3_number_L8, h1, if_neg (nI_ge (by omega) (by omega)), yb_ck_t (inb_nI (by omega) (by decide)), nI_clamp (by omega), w2]
    by_cases c : isDi w k = true
    · have cc := of_decide_eq_true c
      rw [if_neg (show ¬ nI (w k) < (48 : Int32) from nI_nlt (b := 48) (by omega) (by omega)), if_neg (show ¬ (57 : Int32) < nI (w k) from nI_nlt (a := 57) (by omega) (by omega)), hp, pk_sub hpk, dgV_go (by omega) c]
      have eE : dgE w n k = dgE w n (k + 1) := run_go (by omega) c
      rw [eE]
      by_cases c5 : 5 ≤ k - p0
      · rw [if_pos (show (5 : Int32) ≤ nI (k - p0) from nI_le (a := 5) c5 (by omega)), if_pos c5, lts, nI_1]
        exact ih (k + 1) m v (by omega) (by omega) (by omega)
      · rw [if_neg (show ¬ (5 : Int32) ≤ nI (k - p0) from nI_ge (b := 5) (by omega) (by omega)), if_neg c5, lts, lts, nI_1]
        exact ih (k + 1) m _ (by omega) (by omega) (by omega)
    · have hz : ¬ (k < n ∧ isDi w k = true) := fun q => c q.2
      have eE : dgE w n k = k := run_st hz
      rw [dgV_st hz, eE]
      have cc : ¬ (48 ≤ w k ∧ w k ≤ 57) := fun q => c (decide_eq_true q)
      by_cases c1 : w k < 48
      · rw [if_pos (show nI (w k) < (48 : Int32) from nI_lt (b := 48) c1 (by omega))]
      · rw [if_neg (show ¬ nI (w k) < (48 : Int32) from nI_nlt (b := 48) (by omega) (by omega)), if_pos (show (57 : Int32) < nI (w k) from nI_lt (a := 57) (by omega) (by omega))]
theorem m_numL {N mb n p0 : Nat} {w : Nat → Nat} {I' : IT} {J' : JT} {x1 x2 : Int32} (h : TM mb n w I') : ∀ r k m v, k + r = n → r < m → p0 ≤ k → f12_numberHere_L34 N mb x1 x2 (nI p0) m v (up2 I' mb 8 (nI k)) J' = some (dgV w n p0 r k v, up2 I' mb 8 (nI (dgE w n k)), J') := by
  have h4 := h.1
  have hk : ∀ p, TM mb n w (up2 I' mb 8 (nI p)) := fun p => h.keep (up2_at (Or.inr (by decide))) (up2_ne _ _ _ (by omega))
  intro r
  induction r with
  | zero =>
    intro k m v hkr hm hpk
    obtain ⟨m, rfl⟩ : ∃ q, m = q + 1 := ⟨m - 1, by omega⟩
    have hz : ¬ (k < n ∧ isDi w k = true) := fun q => by omega
    have eE : dgE w n k = k := run_st hz
    rw [f12_numberHere_L34, up2_same, m_digN (hk k) (by omega) hz, b3s, if_pos rfl, dgV_st hz, eE]
  | succ r ih =>
    intro k m v hkr hm hpk
    obtain ⟨m, rfl⟩ : ∃ q, m = q + 1 := ⟨m - 1, by omega⟩
    by_cases c : isDi w k = true
    · have cc := of_decide_eq_true c
      obtain ⟨w1, w2⟩ := h.2.2 k (by omega)
      have eE : dgE w n k = dgE w n (k + 1) := run_go (by omega) c
      rw [f12_numberHere_L34, up2_same, m_digY (hk k) (by omega) c, b3s, if_neg i10, up2_same, pk_sub hpk, dgV_go (by omega) c, eE]
      by_cases c5 : 5 ≤ k - p0
      · rw [if_pos (show (5 : Int32) ≤ nI (k - p0) from nI_le (a := 5) c5 (by omega)), if_pos c5, lts, nI_1, up2_up2]
        exact ih (k + 1) m v (by omega) (by omega) (by omega)
      · rw [if_neg (show ¬ (5 : Int32) ≤ nI (k - p0) from nI_ge (b := 5) (by omega) (by omega)), if_neg c5, yb_ck_t (inb_nI (by omega) (by decide)), nI_clamp (by omega), up2_ne _ _ _ (show mb + 1 ≠ mb by omega), w2, sx_lo (by omega), lts, lts, nI_1, up2_up2, Int32.mul_comm]
        exact ih (k + 1) m _ (by omega) (by omega) (by omega)
    · have hz : ¬ (k < n ∧ isDi w k = true) := fun q => c q.2
      have eE : dgE w n k = k := run_st hz
      rw [f12_numberHere_L34, up2_same, m_digN (hk k) (by omega) hz, b3s, if_pos rfl, dgV_st hz, eE]
theorem m_fails {mb : Nat} {x y : Int32} {I' : IT} {J' : JT} (h : I' mb 9 = 0) : f12_fails mb x y I' J' = some (0, up2 I' mb 9 ((1 + 8 * y) + x), J') := by
  unfold f12_fails
  rw [h, if_pos rfl, lts]
/-- both sides stand at one place -/
def Rd (b mb n : Nat) (w : Nat → Nat) (p p' : Nat) (I I' : IT) : Prop := TC b n w I ∧ TM mb n w I' ∧ p' ≤ n ∧ skp w n p' = p ∧ I (b + 2) 2 = nI p ∧ I' mb 8 = nI p' ∧ I' mb 9 = 0
/-- reading changes but the readers' own -/
def FrN (b mb : Nat) (I I1 I' I1' : IT) : Prop := (∀ a k, (a ≠ b + 2 ∨ (k ≠ 2 ∧ k ≠ 3 ∧ k ≠ 4)) → I1 a k = I a k) ∧ ∀ a k, (a ≠ mb ∨ (k ≠ 8 ∧ k ≠ 9 ∧ k ≠ 10)) → I1' a k = I' a k
theorem FrN.rf (b mb : Nat) (I I' : IT) : FrN b mb I I I' I' := ⟨fun _ _ _ => rfl, fun _ _ _ => rfl⟩
theorem FrN.tr {b mb : Nat} {I I1 I2 I' I1' I2' : IT} (h : FrN b mb I I1 I' I1') (g : FrN b mb I1 I2 I1' I2') : FrN b mb I I2 I' I2' := ⟨fun a k q => (g.1 a k q).trans (h.1 a k q), fun a k q => (g.2 a k q).trans (h.2 a k q)⟩
theorem FrN.a {b mb : Nat} {I I1 I' I1' : IT} (h : FrN b mb I I1 I' I1') {a : Nat} (ha : a ≠ b + 2) : I1 a = I a := funext fun k => h.1 a k (Or.inl ha)
theorem FrN.m {b mb : Nat} {I I1 I' I1' : IT} (h : FrN b mb I I1 I' I1') {a : Nat} (ha : a ≠ mb) : I1' a = I' a := funext fun k => h.2 a k (Or.inl ha)
section RDB
variable {N b mb n p p' : Nat} {w : Nat → Nat} {S : ST} {Rf : RT} {I I' : IT} {J J' : JT}
theorem Rd.le (h : Rd b mb n w p p' I I') : p ≤ n := by obtain ⟨_, _, h3, h4, _⟩ := h; rw [← h4]; exact run_le h3
theorem Rd.idem (h : Rd b mb n w p p' I I') : skp w n p = p := by obtain ⟨_, _, h3, h4, _⟩ := h; rw [← h4]; exact run_idem h3
theorem Rd.n4 (h : Rd b mb n w p p' I I') : n ≤ 400 := h.1.1
/-- other cells may change -/
theorem Rd.keep {I1 I1' : IT} (h : Rd b mb n w p p' I I') (h1 : I1 (b + 2) 1 = I (b + 2) 1) (h2 : I1 (b + 2) 2 = I (b + 2) 2) (h3 : I1 (b + 1) = I (b + 1)) (g1 : I1' mb 1 = I' mb 1) (g8 : I1' mb 8 = I' mb 8) (g9 : I1' mb 9 = I' mb 9) (g3 : I1' (mb + 1) = I' (mb + 1)) : Rd b mb n w p p' I1 I1' :=
  ⟨h.1.keep h1 h3, h.2.1.keep g1 g3, h.2.2.1, h.2.2.2.1, h2.trans h.2.2.2.2.1, g8.trans h.2.2.2.2.2.1, g9.trans h.2.2.2.2.2.2⟩
/-- the reference looks -/
theorem q_see (hN : 1000 ≤ N) (h : Rd b mb n w p p' I I') : f12_see N mb I' J' = some (chr w n p, up2 I' mb 8 (nI p), J') := by
  obtain ⟨h1, h2, h3, h4, h5, h6, h7⟩ := h
  rw [m_see hN h2 h6 h3, h4]
theorem Rd.seen (h : Rd b mb n w p p' I I') : Rd b mb n w p p I (up2 I' mb 8 (nI p)) := by
  have hp := h.le
  have hi := h.idem
  obtain ⟨h1, h2, h3, h4, h5, h6, h7⟩ := h
  exact ⟨h1, h2.keep (up2_at (Or.inr (by decide))) (up2_ne _ _ _ (by omega)), hp, hi, h5, up2_same _ _ _ _, (up2_at (Or.inr (by decide))).trans h7⟩
theorem FrN.see (x : Int32) : FrN b mb I I I' (up2 I' mb 8 x) := ⟨fun _ _ _ => rfl, fun a k q => up2_at (by omega)⟩
theorem q_sign (h : Rd b mb n w p p' I I') : f3_sign b S Rf I J = some (chr w n p, I, J) := c_sign h.1 h.2.2.2.2.1 h.le
/-- both fail at one place -/
theorem flt_ne {p k : Nat} {x : Int32} (hx : x = nI k) (hp : p ≤ 400) (hk : k ≤ 4) : (1 + 8 * nI p) + x ≠ 0 := by
  subst hx
  show (nI 1 + nI 8 * nI p) + nI k ≠ 0
  rw [pk_mul, nI_add, nI_add]
  exact nI_ne0 (by omega) (by omega)
def NF (b mb : Nat) (I I1 I' I1' : IT) : Prop := FrN b mb I I1 I' I1' ∧ I1 (b + 2) 4 = I1' mb 9 ∧ I1' mb 9 ≠ 0
theorem chr_dig (h : Rd b mb n w p p' I I') : (p < n ∧ isDi w p = true) ∨ ¬ (p < n ∧ isDi w p = true) := Classical.em _
theorem q_num (hN : 1000 ≤ N) (h : Rd b mb n w p p' I I') (lo hi : Int32) : (∃ I1 I1', f3_number N b S Rf lo hi I J = some (-1, I1, J) ∧ f12_numberHere N mb lo hi I' J' = some (0, I1', J') ∧ NF b mb I I1 I' I1') ∨ (∃ v q q' I1 I1', f3_number N b S Rf lo hi I J = some (v, I1, J) ∧ f12_numberHere N mb lo hi I' J' = some (1, I1', J') ∧ ¬ v < lo ∧ v ≤ hi ∧ I1' mb 10 = v ∧ Rd b mb n w q q' I1 I1' ∧ FrN b mb I I1 I' I1' ∧ p < q' ∧ (p < n ∧ isDi w p = true)) := by
  have hpn := h.le
  have h4 := h.n4
  have hs := h.seen
  have hsee := q_see (J' := J') hN h
  obtain ⟨h1, h2, h3, h5, h6, h7, h8⟩ := id h
  obtain ⟨s1, s2, s3, s5, s6, s7, s8⟩ := id hs
  have cL := c_numL (N := N) (S := S) (Rf := Rf) (J := J) (x1 := lo) (x2 := hi) h1 h6 (n - p) p N 0 (by omega) (by omega) (by omega)
  have g1 : p ≤ dgE w n p := run_ge hpn
  have g2 : dgE w n p ≤ n := run_le hpn
  unfold f3_number f12_numberHere
  rw [h6, lts, cL, b3s, hsee, b3s, s7]
  by_cases cd : p < n ∧ isDi w p = true
  · have hgt : p < dgE w n p := by
      have : dgE w n p = dgE w n (p + 1) := run_go cd.1 cd.2
      have : p + 1 ≤ dgE w n (p + 1) := run_ge cd.1
      omega
    have mL := m_numL (N := N) (J' := J') (x1 := lo) (x2 := hi) (p0 := p) h2 (n - p) p N 0 (by omega) (by omega) (by omega)
    rw [if_neg (fun q => by have := (nI_eq (by omega) (by omega)).mp (q.trans h6); omega), h6, pk_sub g1, m_digY s2 cd.1 cd.2, b3s, if_neg i10, s7, lts, mL, b3s, lts]
    have e8 : up2 (up2 I' mb 8 (nI (dgE w n p))) mb 10 (dgV w n p (n - p) p 0) mb 8 = nI (dgE w n p) := (up2_at (Or.inr (by decide))).trans (up2_same _ _ _ _)
    have e9 : up2 (up2 I' mb 8 (nI (dgE w n p))) mb 10 (dgV w n p (n - p) p 0) mb 9 = 0 := (up2_at (Or.inr (by decide))).trans ((up2_at (Or.inr (by decide))).trans h8)
    have frF : ∀ x y : Int32, FrN b mb I (up2 I (b + 2) 4 x) I' (up2 (up2 (up2 I' mb 8 (nI (dgE w n p))) mb 10 (dgV w n p (n - p) p 0)) mb 9 y) := fun x y => ⟨fun a k q => up2_at (by omega), fun a k q => (up2_at (by omega)).trans ((up2_at (by omega)).trans (up2_at (by omega)))⟩
    have bad : ∃ I1 I1' : IT, some (-1, up2 I (b + 2) 4 ((1 + 8 * nI p) + 1), J) = some ((-1 : Int32), I1, J) ∧ some (0, up2 (up2 (up2 I' mb 8 (nI (dgE w n p))) mb 10 (dgV w n p (n - p) p 0)) mb 9 ((1 + 8 * nI p) + 1), J') = some ((0 : Int32), I1', J') ∧ NF b mb I I1 I' I1' := ⟨_, _, rfl, rfl, frF _ _, by rw [up2_same, up2_same], by rw [up2_same]; exact flt_ne (k := 1) rfl (by omega) (by omega)⟩
    rw [e8, pk_sub g1, c_failAt, b3s, m_fails e9, b3s, if_pos rfl]
    by_cases c5 : 5 < dgE w n p - p
    · rw [if_pos (show (5 : Int32) < nI (dgE w n p - p) from nI_lt (a := 5) c5 (by omega)), if_pos (show (5 : Int32) < nI (dgE w n p - p) from nI_lt (a := 5) c5 (by omega))]
      exact Or.inl bad
    · rw [if_neg (show ¬ (5 : Int32) < nI (dgE w n p - p) from nI_nlt (a := 5) (by omega) (by omega)), if_neg (show ¬ (5 : Int32) < nI (dgE w n p - p) from nI_nlt (a := 5) (by omega) (by omega)), l_inc lo hi rfl rfl, b3s]
      by_cases c6 : dgV w n p (n - p) p 0 < lo
      · rw [if_pos c6, if_pos c6, if_pos rfl, m_fails e9, b3s, if_pos rfl]
        exact Or.inl bad
      · rw [if_neg c6, if_neg c6]
        by_cases c7 : hi < dgV w n p (n - p) p 0
        · rw [if_neg (Int32.not_le.mpr c7), if_pos c7, if_pos rfl, m_fails e9, b3s, if_pos rfl]
          exact Or.inl bad
        · rw [if_pos (Int32.not_lt.mp c7), if_neg c7, if_neg i10, c_move hN h1 g2, b3s]
          refine Or.inr ⟨_, skp w n (dgE w n p), dgE w n p, _, _, rfl, rfl, c6, Int32.not_lt.mp c7, up2_same _ _ _ _, ⟨h1.keep (up2_at (Or.inr (by decide))) (up2_ne _ _ _ (by omega)), h2.keep ((up2_at (Or.inr (by decide))).trans (up2_at (Or.inr (by decide)))) ((up2_ne _ _ _ (by omega)).trans (up2_ne _ _ _ (by omega))), g2, rfl, up2_same _ _ _ _, e8, e9⟩, ⟨fun a k q => up2_at (by omega), fun a k q => (up2_at (by omega)).trans (up2_at (by omega))⟩, hgt, cd⟩
  · have eE : dgE w n p = p := run_st cd
    rw [eE, if_pos h6.symm, c_failAt, b3s, m_digN s2 hpn cd, b3s, if_pos rfl, m_fails s8, b3s, yb_ck_t (show bz 0 = true from rfl), s7, h6]
    exact Or.inl ⟨_, _, rfl, rfl, ⟨fun a k q => up2_at (by omega), fun a k q => (up2_at (by omega)).trans (up2_at (by omega))⟩, by rw [up2_same, up2_same], by rw [up2_same]; exact flt_ne (k := 0) rfl (by omega) (by omega)⟩
/-- a number into a cell of the reference's read -/
theorem q_cell {k : Nat} (hN : 1000 ≤ N) (h : Rd b mb n w p p' I I') (lo hi : Int32) (hk : k < 111) : (∃ I1 I1', f3_number N b S Rf lo hi I J = some (-1, I1, J) ∧ f12_cellHere N mb (nI k) lo hi I' J' = some (0, I1', J') ∧ NF b mb I I1 I' I1') ∨ (∃ v q q' I1 I1', f3_number N b S Rf lo hi I J = some (v, I1, J) ∧ f12_cellHere N mb (nI k) lo hi I' J' = some (1, up2 I1' (mb + 6) k v, J') ∧ ¬ v < lo ∧ v ≤ hi ∧ Rd b mb n w q q' I1 (up2 I1' (mb + 6) k v) ∧ FrN b mb I I1 I' I1') := by
  unfold f12_cellHere
  rcases q_num (S := S) (Rf := Rf) (J := J) (J' := J') hN h lo hi with ⟨I1, I1', e1, e2, e3⟩ | ⟨v, q, q', I1, I1', e1, e2, e3, e4, e5, e6, e7, e8, e9⟩
  · rw [e1, e2, b3s, if_pos rfl]
    exact Or.inl ⟨_, _, rfl, rfl, e3⟩
  · rw [e1, e2, b3s, if_neg i10, yb_ck_t (inb_nI hk (by decide)), nI_clamp (by omega), e5, lts]
    exact Or.inr ⟨v, q, q', _, _, rfl, rfl, e3, e4, e6.keep rfl rfl rfl (up2_at (Or.inl (by omega))) (up2_at (Or.inl (by omega))) (up2_at (Or.inl (by omega))) (up2_ne _ _ _ (by omega)), e7⟩
/-- the word that comes next, on both sides -/
theorem q_word (hN : 1000 ≤ N) (h : Rd b mb n w p p' I I') : ∃ r, f3_word N b S Rf I J = some (r, up2 I (b + 2) 3 (nI (ltr w n p)), J) ∧ WIx w n p r := c_word hN h.1 h.2.2.2.2.1 h.le
theorem Rd.word (h : Rd b mb n w p p' I I') (x : Int32) : Rd b mb n w p p' (up2 I (b + 2) 3 x) I' := h.keep (up2_at (Or.inr (by decide))) (up2_at (Or.inr (by decide))) (up2_ne _ _ _ (by omega)) rfl rfl rfl rfl
theorem q_isWord {j : Nat} {r : Int32} {W : Int64} (hN : 1000 ≤ N) (h : Rd b mb n w p p' I I') (hr : WIx w n p r) (hj : j < 22) (hW : W = wcst j) : f12_isWord N mb W I' J' = some (if r = nI j then 1 else 0, up2 I' mb 8 (nI p), J') := m_isWord hN h.2.1 h.2.2.2.2.2.1 h.2.2.1 h.2.2.2.1 hr hj hW
/-- behind a word: the class's passWord, the reference's -/
theorem q_passW (hN : 1000 ≤ N) (h : Rd b mb n w p p I I') (he : I (b + 2) 3 = nI (ltr w n p)) : f3_passWord N b S Rf I J = some ((), up2 I (b + 2) 2 (nI (skp w n (ltr w n p))), J) ∧ f12_passWord N mb I' J' = some ((), up2 I' mb 8 (nI (ltr w n p)), J') ∧ Rd b mb n w (skp w n (ltr w n p)) (ltr w n p) (up2 I (b + 2) 2 (nI (skp w n (ltr w n p)))) (up2 I' mb 8 (nI (ltr w n p))) := by
  have hpn := h.le
  have e2 : ltr w n p ≤ n := run_le hpn
  obtain ⟨h1, h2, h3, h5, h6, h7, h8⟩ := h
  exact ⟨c_passWord hN h1 he e2, m_pass hN h2 h7 hpn, h1.keep (up2_at (Or.inr (by decide))) (up2_ne _ _ _ (by omega)), h2.keep (up2_at (Or.inr (by decide))) (up2_ne _ _ _ (by omega)), e2, rfl, up2_same _ _ _ _, up2_same _ _ _ _, (up2_at (Or.inr (by decide))).trans h8⟩
/-- behind a sign -/
theorem q_passSign (hN : 1000 ≤ N) (h : Rd b mb n w p p I I') (hp : p < n) : f3_passSign N b S Rf I J = some ((), up2 I (b + 2) 2 (nI (skp w n (p + 1))), J) ∧ Rd b mb n w (skp w n (p + 1)) (p + 1) (up2 I (b + 2) 2 (nI (skp w n (p + 1)))) (up2 I' mb 8 (nI (p + 1))) := by
  obtain ⟨h1, h2, h3, h5, h6, h7, h8⟩ := h
  exact ⟨c_passSign hN h1 h6 hp, h1.keep (up2_at (Or.inr (by decide))) (up2_ne _ _ _ (by omega)), h2.keep (up2_at (Or.inr (by decide))) (up2_ne _ _ _ (by omega)), hp, rfl, up2_same _ _ _ _, up2_same _ _ _ _, (up2_at (Or.inr (by decide))).trans h8⟩
theorem chr_n {x : Int32} {k : Nat} (hx : x = nI k) (hk : k < 256) (hw : ∀ q, q < n → w q < 256) (h : chr w n p = x) : p < n ∧ w p = k := by
  unfold chr at h
  by_cases c : p < n
  · rw [if_pos c, hx] at h
    exact ⟨c, (nI_eq (by have := hw p c; omega) (by omega)).mp h⟩
  · rw [if_neg c, hx] at h
    exact absurd (show nI k < 0 by rw [← h]; decide) (nI_pos (by omega))
end RDB
