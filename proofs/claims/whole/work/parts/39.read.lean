/-! CLOSED FORMS of the small readers: nothing is written, the answer is told -/
theorem inb_nI {n N : Nat} (h : n < N) (hN : N < 2 ^ 31) : inb (nI n) N = true := vp_inb (vp_in_nI h hN)
theorem m_pi {p k : Nat} : ((10 : Int32) + ((5 : Int32) * nI p)) + nI k = nI (10 + 5 * p + k) := by
  show (nI 10 + nI 5 * nI p) + nI k = _
  rw [pk_mul, nI_add, nI_add]
theorem m_ci {c k : Nat} : ((45 : Int32) + ((11 : Int32) * nI c)) + nI k = nI (45 + 11 * c + k) := by
  show (nI 45 + nI 11 * nI c) + nI k = _
  rw [pk_mul, nI_add, nI_add]
theorem l_lt (x y : Int32) : lg_cmp x.toInt64 y.toInt64 < 0 ↔ x < y := by
  rw [lg_cmp_lt, Int64.lt_iff_toInt_lt, Int32.lt_iff_toInt_lt, Int32.toInt_toInt64, Int32.toInt_toInt64]
theorem l_gt (x y : Int32) : 0 < lg_cmp x.toInt64 y.toInt64 ↔ y < x := by
  rw [lg_cmp_gt, Int64.lt_iff_toInt_lt, Int32.lt_iff_toInt_lt, Int32.toInt_toInt64, Int32.toInt_toInt64]
section READ12
variable {mb : Nat} {I : IT} {J : JT} {p k c j a : Nat} {x d : Int32}
theorem q12_personOf (hp : p < 7) (hk : k < 5) : f12_personOf mb (nI p) (nI k) I J = some (I (mb + 10) (10 + 5 * p + k), I, J) := by
  unfold f12_personOf
  rw [m_pi, yb_ck_t (inb_nI (by omega) (by omega)), nI_clamp (by omega)]
theorem q12_caseOf (hc : c < 6) (hk : k < 11) : f12_caseOf mb (nI c) (nI k) I J = some (I (mb + 10) (45 + 11 * c + k), I, J) := by
  unfold f12_caseOf
  rw [m_ci, yb_ck_t (inb_nI (by omega) (by omega)), nI_clamp (by omega)]
theorem q12_ageOn (hp : p < 7) : f12_ageOn mb (nI p) d I J = some (I (mb + 10) (10 + 5 * p) + d, I, J) := by
  unfold f12_ageOn
  rw [show (0 : Int32) = nI 0 from rfl, q12_personOf hp (by omega)]
  rfl
/-- one who is younger by enough -/
def yngS (v : Nat → Int32) (j a : Nat) : Int32 := if v (10 + 5 * a) - v (10 + 5 * j) < v 0 then 0 else 1
theorem q12_isYounger (hj : j < 7) (ha : a < 7) : f12_isYounger mb (nI j) (nI a) I J = some (yngS (I (mb + 10)) j a, I, J) := by
  unfold f12_isYounger yngS
  rw [show (0 : Int32) = nI 0 from rfl, q12_personOf ha (by omega)]
  simp only [yb_b3]
  rw [q12_personOf hj (by omega)]
  simp only [Nat.add_zero]
  split <;> rfl
/-- old enough to sit and not too old -/
def sitS (v : Nat → Int32) (x : Int32) : Int32 := if x < v 5 then 0 else if v 6 < x then 0 else 1
theorem sitS_bz (v : Nat → Int32) (x : Int32) : bz (sitS v x) = true := by
  unfold sitS
  split
  · rfl
  · split <;> rfl
theorem q12_sitsOn (hp : p < 7) : f12_sitsOn mb (nI p) d I J = some (sitS (I (mb + 10)) (I (mb + 10) (10 + 5 * p) + d), I, J) := by
  unfold f12_sitsOn
  rw [q12_ageOn hp]
  simp only [yb_b3]
  have h : f12_in mb (I (mb + 10) (10 + 5 * p) + d).toInt64 (I (mb + 10) 5).toInt64 (I (mb + 10) 6).toInt64 I J = some (sitS (I (mb + 10)) (I (mb + 10) (10 + 5 * p) + d), I, J) := by
    unfold f12_in sitS
    simp only [l_lt, l_gt]
    split
    · rfl
    · split <;> rfl
  rw [h]
  exact yb_ck_t (sitS_bz _ _)
/-- days till the birthday -/
def tilS (v : Nat → Int32) (x : Int32) : Int32 := v 1 - (x - x / v 1 * v 1)
theorem q12_birthdayIn (hp : p < 7) (hy : ¬ I (mb + 10) 1 = 0) : f12_birthdayIn mb (nI p) d I J = some (tilS (I (mb + 10)) (I (mb + 10) (10 + 5 * p) + d), I, J) := by
  unfold f12_birthdayIn tilS
  rw [q12_ageOn hp]
  simp only [yb_b3]
  rw [if_neg hy]
end READ12
section READC
variable {b : Nat} {S : ST} {Rf : RT} {I : IT} {J : JT} {p k c j a t : Nat} {x d : Int32}
theorem q9_isYounger (hj : j < 7) (ha : a < 7) : f9_isYounger b S Rf t (nI j) (nI a) I J = some (if I (t + 1) a - I (t + 1) j < I t 9 then 0 else 1, I, J) := by
  unfold f9_isYounger
  rw [yb_ck_t (inb_nI ha (by decide)), yb_ck_t (inb_nI hj (by decide)), nI_clamp (by omega), nI_clamp (by omega)]
  split <;> rfl
theorem q9_sits : f9_sits b S Rf t x I J = some (if x < I t 11 then 0 else if I t 12 < x then 0 else 1, I, J) := by
  unfold f9_sits
  split
  · rfl
  · split <;> rfl
end READC
