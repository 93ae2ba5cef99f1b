/-! WHO CAN SIT: the reference's days one by one against the class's closed form -/
theorem days_iff {x Y F La n : Nat} (hY : 0 < Y) (hn : 1 ≤ n) : (∀ i, i < n → F ≤ x + i ∧ x + i ≤ La ∧ (x + i) % Y ≠ 0) ↔ (F ≤ x ∧ x ≤ La ∧ F ≤ x + n - 1 ∧ x + n - 1 ≤ La ∧ x % Y ≠ 0 ∧ n ≤ Y - x % Y) := by
  have hr : x % Y < Y := Nat.mod_lt x hY
  have hx : Y * (x / Y) + x % Y = x := Nat.div_add_mod x Y
  constructor
  · intro h
    have h0 := h 0 (by omega)
    have h1 := h (n - 1) (by omega)
    refine ⟨by omega, by omega, by omega, by omega, by simpa using h0.2.2, ?_⟩
    rcases Nat.lt_or_ge (Y - x % Y) n with g | g
    · exfalso
      have h2 := (h (Y - x % Y) g).2.2
      apply h2
      have e : x + (Y - x % Y) = Y * (x / Y + 1) := by rw [Nat.mul_add]; omega
      rw [e, Nat.mul_mod_right]
    · exact g
  · rintro ⟨h1, h2, h3, h4, h5, h6⟩ i hi
    refine ⟨by omega, by omega, ?_⟩
    have e : x + i = Y * (x / Y) + (x % Y + i) := by omega
    rw [e, Nat.mul_add_mod, Nat.mod_eq_of_lt (by omega)]
    omega
theorem rem_nI {a d : Nat} (ha : a < 2 ^ 31) (h0 : 0 < d) (hd : d < 2 ^ 31) : nI d - (nI a - nI a / nI d * nI d) = nI (d - a % d) := by
  rw [pk_rem ha h0 hd, pk_sub (Nat.le_of_lt (Nat.mod_lt a h0))]
section CAN
variable {v : Nat → Int32} {A D Y F La n : Nat}
/-- what the loop asks of the day x -/
def dayOK (Y F La x : Nat) : Prop := F ≤ x ∧ x ≤ La ∧ x % Y ≠ 0
theorem sit_nI {x : Nat} (hF : v 5 = nI F) (hL : v 6 = nI La) (hx : x < 2 ^ 31) (bF : F < 2 ^ 31) (bL : La < 2 ^ 31) : (sitS v (nI x) = 0 ↔ ¬ (F ≤ x ∧ x ≤ La)) := by
  unfold sitS
  rw [hF, hL]
  simp only [nI_ltI hx bF, nI_ltI bL hx]
  by_cases h1 : x < F
  · rw [if_pos h1]; simp; omega
  · rw [if_neg h1]
    by_cases h2 : La < x
    · rw [if_pos h2]; simp; omega
    · rw [if_neg h2]
      constructor
      · intro h; exact absurd h (by decide)
      · intro h; exact absurd ⟨by omega, by omega⟩ h
theorem til_nI {x : Nat} (hY : v 1 = nI Y) (hx : x < 2 ^ 31) (h0 : 0 < Y) (bY : Y < 2 ^ 31) : tilS v (nI x) = nI (Y - x % Y) := by
  unfold tilS
  rw [hY, rem_nI hx h0 bY]
end CAN
theorem canSit_loop {N mb : Nat} {I : IT} {J : JT} {j A D Y F La n : Nat} (hj : j < 7) (hA : I (mb + 10) (10 + 5 * j) = nI A) (hY : I (mb + 10) 1 = nI Y) (hF : I (mb + 10) 5 = nI F) (hL : I (mb + 10) 6 = nI La) (h0 : 0 < Y) (bA : A + D + n < 2 ^ 30) (bY : Y < 2 ^ 30) (bF : F < 2 ^ 30) (bL : La < 2 ^ 30) :
    ∀ (r k f : Nat), k + r = n → r < f → (f12_canSit_L28 N mb (nI j) (nI n) (nI D) f (nI (D + k)) I J = some (Sum.inr (), I, J) ∧ ∀ i, k ≤ i → i < n → dayOK Y F La (A + D + i)) ∨ (f12_canSit_L28 N mb (nI j) (nI n) (nI D) f (nI (D + k)) I J = some (Sum.inl 0, I, J) ∧ ∃ i, k ≤ i ∧ i < n ∧ ¬ dayOK Y F La (A + D + i)) := by
  intro r
  induction r with
  | zero =>
    intro k f hk hf
    obtain ⟨f, rfl⟩ : ∃ q, f = q + 1 := ⟨f - 1, by omega⟩
    left
    refine ⟨?_, fun i h1 h2 => by omega⟩
    rw [f12_canSit_L28, if_pos]
    rw [nI_add, nI_leI (by omega) (by omega)]
    omega
  | succ r ih =>
    intro k f hk hf
    obtain ⟨f, rfl⟩ : ∃ q, f = q + 1 := ⟨f - 1, by omega⟩
    have hlt : ¬ (nI D + nI n ≤ nI (D + k)) := by
      rw [nI_add, nI_leI (by omega) (by omega)]
      omega
    have hyz : ¬ I (mb + 10) 1 = 0 := by
      rw [hY]
      exact nI_ne0 h0 (by omega)
    rw [f12_canSit_L28, if_neg hlt, q12_sitsOn hj, hA, nI_add]
    simp only [yb_b3]
    have hx : A + (D + k) = A + D + k := by omega
    rw [hx]
    have hs := sit_nI (v := I (mb + 10)) (F := F) (La := La) (x := A + D + k) hF hL (by omega) (by omega) (by omega)
    by_cases c1 : sitS (I (mb + 10)) (nI (A + D + k)) = 0
    · rw [if_pos c1]
      right
      exact ⟨rfl, k, Nat.le_refl k, by omega, fun h => (hs.mp c1) ⟨h.1, h.2.1⟩⟩
    · rw [if_neg c1, q12_birthdayIn hj hyz, hA, nI_add, hx]
      simp only
      have ht := til_nI (v := I (mb + 10)) (Y := Y) (x := A + D + k) hY (by omega) h0 (by omega)
      have hm := Nat.mod_lt (A + D + k) h0
      by_cases c2 : tilS (I (mb + 10)) (nI (A + D + k)) = I (mb + 10) 1
      · rw [if_pos c2]
        right
        refine ⟨rfl, k, Nat.le_refl k, by omega, fun h => h.2.2 ?_⟩
        rw [ht, hY, nI_eq (by omega) (by omega)] at c2
        omega
      · rw [if_neg c2]
        have hgood : dayOK Y F La (A + D + k) := by
          have g1 : F ≤ A + D + k ∧ A + D + k ≤ La := Classical.byContradiction fun g => c1 (hs.mpr g)
          refine ⟨g1.1, g1.2, fun g => c2 ?_⟩
          rw [ht, hY, g, Nat.sub_zero]
        simp only [yb_let]
        rw [nI_1, show D + k + 1 = D + (k + 1) by omega]
        rcases ih (k + 1) f (by omega) (by omega) with ⟨e, h⟩ | ⟨e, i, h1, h2, h3⟩
        · left
          refine ⟨e, fun i hi1 hi2 => ?_⟩
          by_cases hik : i = k
          · subst hik; exact hgood
          · exact h i (by omega) hi2
        · right
          exact ⟨e, i, by omega, h2, h3⟩
