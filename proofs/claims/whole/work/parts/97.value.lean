/-! RULE: a value -/
theorem wc0 : (457236047717 : Int64) = wcst 0 := by decide +kernel
theorem wc1 : (7825780 : Int64) = wcst 1 := by decide +kernel
theorem wc2 : (6383461 : Int64) = wcst 2 := by decide +kernel
theorem wc3 : (126956639450227 : Int64) = wcst 3 := by decide +kernel
theorem wc4 : (27412351564342628 : Int64) = wcst 4 := by decide +kernel
theorem wc5 : (29117685525214329 : Int64) = wcst 5 := by decide +kernel
theorem wc6 : (119182899770472 : Int64) = wcst 6 := by decide +kernel
theorem wc7 : (478559888754 : Int64) = wcst 7 := by decide +kernel
theorem wc8 : (6578553 : Int64) = wcst 8 := by decide +kernel
theorem wc9 : (491596309860 : Int64) = wcst 9 := by decide +kernel
theorem wc10 : (107135549923692 : Int64) = wcst 10 := by decide +kernel
theorem wc11 : (7091324932564738425 : Int64) = wcst 11 := by decide +kernel
theorem wc12 : (491394656372 : Int64) = wcst 12 := by decide +kernel
theorem wc13 : (26982 : Int64) = wcst 13 := by decide +kernel
theorem wc14 : (28530 : Int64) = wcst 14 := by decide +kernel
theorem wc15 : (6385252 : Int64) = wcst 15 := by decide +kernel
theorem wc16 : (7237492 : Int64) = wcst 16 := by decide +kernel
/-- the stack stays -/
def FS (mb : Nat) (I' I1' : IT) : Prop := I1' mb 13 = I' mb 13 ∧ I1' mb 16 = I' mb 16 ∧ I1' (mb + 7) = I' (mb + 7)
section VALUE
variable {N b mb n p p' K V : Nat} {w : Nat → Nat} {tc tr : List Int32} {S : ST} {Rf : RT} {I I1 I2 I' I1' I2' : IT} {J J' : JT} {r : Int32}
theorem FS.rf (mb : Nat) (I' : IT) : FS mb I' I' := ⟨rfl, rfl, rfl⟩
theorem FS.t2 (h : FS mb I' I1') (g : FS mb I1' I2') : FS mb I' I2' := ⟨g.1.trans h.1, g.2.1.trans h.2.1, g.2.2.trans h.2.2⟩
theorem FrN.fs (h : FrN b mb I I1 I' I1') : FS mb I' I1' := ⟨h.2 _ _ (Or.inr (by decide)), h.2 _ _ (Or.inr (by decide)), h.m (by omega)⟩
theorem q_wordHere (hN : 1000 ≤ N) (h : Rd b mb n w p p I I') (hr : WIx w n p r) : (∃ j, j < 12 ∧ r = nI j ∧ f12_wordHere N mb I' J' = some (r, I', J')) ∨ ((r < 0 ∨ ¬ r < 12) ∧ f12_wordHere N mb I' J' = some (-1, I', J')) := by
  have ne : ∀ i j, i < 22 → j < 22 → i ≠ j → ¬ nI i = nI j := fun i j h1 h2 h3 e => h3 ((nI_eq (by omega) (by omega)).mp e)
  have non : (∀ j, j < 12 → ¬ r = nI j) → f12_wordHere N mb I' J' = some (-1, I', J') := by
    intro hn
    unfold f12_wordHere
    rw [q_isWN hN h hr (by decide) wc0 (hn 0 (by omega)), b3s, if_pos rfl, q_isWN hN h hr (by decide) wc1 (hn 1 (by omega)), b3s, if_pos rfl, q_isWN hN h hr (by decide) wc2 (hn 2 (by omega)), b3s, if_pos rfl, q_isWN hN h hr (by decide) wc3 (hn 3 (by omega)), b3s, if_pos rfl, q_isWN hN h hr (by decide) wc4 (hn 4 (by omega)), b3s, if_pos rfl, q_isWN hN h hr (by decide) wc5 (hn 5 (by omega)), b3s, if_pos rfl, q_isWN hN h hr (by decide) wc6 (hn 6 (by omega)), b3s, if_pos rfl, q_isWN hN h hr (by decide) wc7 (hn 7 (by omega)), b3s, if_pos rfl, q_isWN hN h hr (by decide) wc8 (hn 8 (by omega)), b3s, if_pos rfl, q_isWN hN h hr (by decide) wc9 (hn 9 (by omega)), b3s, if_pos rfl, q_isWN hN h hr (by decide) wc10 (hn 10 (by omega)), b3s, if_pos rfl, q_isWN hN h hr (by decide) wc11 (hn 11 (by omega)), b3s, if_pos rfl]
  rcases WIx_rng hr with rfl | ⟨j, hj, rfl, _⟩
  · exact Or.inr ⟨Or.inl (by decide), non (fun j hj e => nI_pos (n := j) (by omega) (by rw [← e]; decide))⟩
  · by_cases c : j < 12
    · refine Or.inl ⟨j, c, rfl, ?_⟩
      have nn : ∀ i, i < 22 → i ≠ j → ¬ nI j = nI i := fun i h1 h2 => ne j i hj h1 (fun e => h2 e.symm)
      unfold f12_wordHere
      rcases (show j = 0 ∨ j = 1 ∨ j = 2 ∨ j = 3 ∨ j = 4 ∨ j = 5 ∨ j = 6 ∨ j = 7 ∨ j = 8 ∨ j = 9 ∨ j = 10 ∨ j = 11 by omega) with e | e | e | e | e | e | e | e | e | e | e | e
      · subst e
        rw [q_isWY hN h hr (by decide) wc0 rfl, b3s, if_neg i10]; rfl
      · subst e
        rw [q_isWN hN h hr (by decide) wc0 (nn 0 (by omega) (by omega)), b3s, if_pos rfl, q_isWY hN h hr (by decide) wc1 rfl, b3s, if_neg i10]; rfl
      · subst e
        rw [q_isWN hN h hr (by decide) wc0 (nn 0 (by omega) (by omega)), b3s, if_pos rfl, q_isWN hN h hr (by decide) wc1 (nn 1 (by omega) (by omega)), b3s, if_pos rfl, q_isWY hN h hr (by decide) wc2 rfl, b3s, if_neg i10]; rfl
      · subst e
        rw [q_isWN hN h hr (by decide) wc0 (nn 0 (by omega) (by omega)), b3s, if_pos rfl, q_isWN hN h hr (by decide) wc1 (nn 1 (by omega) (by omega)), b3s, if_pos rfl, q_isWN hN h hr (by decide) wc2 (nn 2 (by omega) (by omega)), b3s, if_pos rfl, q_isWY hN h hr (by decide) wc3 rfl, b3s, if_neg i10]; rfl
      · subst e
        rw [q_isWN hN h hr (by decide) wc0 (nn 0 (by omega) (by omega)), b3s, if_pos rfl, q_isWN hN h hr (by decide) wc1 (nn 1 (by omega) (by omega)), b3s, if_pos rfl, q_isWN hN h hr (by decide) wc2 (nn 2 (by omega) (by omega)), b3s, if_pos rfl, q_isWN hN h hr (by decide) wc3 (nn 3 (by omega) (by omega)), b3s, if_pos rfl, q_isWY hN h hr (by decide) wc4 rfl, b3s, if_neg i10]; rfl
      · subst e
        rw [q_isWN hN h hr (by decide) wc0 (nn 0 (by omega) (by omega)), b3s, if_pos rfl, q_isWN hN h hr (by decide) wc1 (nn 1 (by omega) (by omega)), b3s, if_pos rfl, q_isWN hN h hr (by decide) wc2 (nn 2 (by omega) (by omega)), b3s, if_pos rfl, q_isWN hN h hr (by decide) wc3 (nn 3 (by omega) (by omega)), b3s, if_pos rfl, q_isWN hN h hr (by decide) wc4 (nn 4 (by omega) (by omega)), b3s, if_pos rfl, q_isWY hN h hr (by decide) wc5 rfl, b3s, if_neg i10]; rfl
      · subst e
        rw [q_isWN hN h hr (by decide) wc0 (nn 0 (by omega) (by omega)), b3s, if_pos rfl, q_isWN hN h hr (by decide) wc1 (nn 1 (by omega) (by omega)), b3s, if_pos rfl, q_isWN hN h hr (by decide) wc2 (nn 2 (by omega) (by omega)), b3s, if_pos rfl, q_isWN hN h hr (by decide) wc3 (nn 3 (by omega) (by omega)), b3s, if_pos rfl, q_isWN hN h hr (by decide) wc4 (nn 4 (by omega) (by omega)), b3s, if_pos rfl, q_isWN hN h hr (by decide) wc5 (nn 5 (by omega) (by omega)), b3s, if_pos rfl, q_isWY hN h hr (by decide) wc6 rfl, b3s, if_neg i10]; rfl
      · subst e
        rw [q_isWN hN h hr (by decide) wc0 (nn 0 (by omega) (by omega)), b3s, if_pos rfl, q_isWN hN h hr (by decide) wc1 (nn 1 (by omega) (by omega)), b3s, if_pos rfl, q_isWN hN h hr (by decide) wc2 (nn 2 (by omega) (by omega)), b3s, if_pos rfl, q_isWN hN h hr (by decide) wc3 (nn 3 (by omega) (by omega)), b3s, if_pos rfl, q_isWN hN h hr (by decide) wc4 (nn 4 (by omega) (by omega)), b3s, if_pos rfl, q_isWN hN h hr (by decide) wc5 (nn 5 (by omega) (by omega)), b3s, if_pos rfl, q_isWN hN h hr (by decide) wc6 (nn 6 (by omega) (by omega)), b3s, if_pos rfl, q_isWY hN h hr (by decide) wc7 rfl, b3s, if_neg i10]; rfl
      · subst e
        rw [q_isWN hN h hr (by decide) wc0 (nn 0 (by omega) (by omega)), b3s, if_pos rfl, q_isWN hN h hr (by decide) wc1 (nn 1 (by omega) (by omega)), b3s, if_pos rfl, q_isWN hN h hr (by decide) wc2 (nn 2 (by omega) (by omega)), b3s, if_pos rfl, q_isWN hN h hr (by decide) wc3 (nn 3 (by omega) (by omega)), b3s, if_pos rfl, q_isWN hN h hr (by decide) wc4 (nn 4 (by omega) (by omega)), b3s, if_pos rfl, q_isWN hN h hr (by decide) wc5 (nn 5 (by omega) (by omega)), b3s, if_pos rfl, q_isWN hN h hr (by decide) wc6 (nn 6 (by omega) (by omega)), b3s, if_pos rfl, q_isWN hN h hr (by decide) wc7 (nn 7 (by omega) (by omega)), b3s, if_pos rfl, q_isWY hN h hr (by decide) wc8 rfl, b3s, if_neg i10]; rfl
      · subst e
        rw [q_isWN hN h hr (by decide) wc0 (nn 0 (by omega) (by omega)), b3s, if_pos rfl, q_isWN hN h hr (by decide) wc1 (nn 1 (by omega) (by omega)), b3s, if_pos rfl, q_isWN hN h hr (by decide) wc2 (nn 2 (by omega) (by omega)), b3s, if_pos rfl, q_isWN hN h hr (by decide) wc3 (nn 3 (by omega) (by omega)), b3s, if_pos rfl, q_isWN hN h hr (by decide) wc4 (nn 4 (by omega) (by omega)), b3s, if_pos rfl, q_isWN hN h hr (by decide) wc5 (nn 5 (by omega) (by omega)), b3s, if_pos rfl, q_isWN hN h hr (by decide) wc6 (nn 6 (by omega) (by omega)), b3s, if_pos rfl, q_isWN hN h hr (by decide) wc7 (nn 7 (by omega) (by omega)), b3s, if_pos rfl, q_isWN hN h hr (by decide) wc8 (nn 8 (by omega) (by omega)), b3s, if_pos rfl, q_isWY hN h hr (by decide) wc9 rfl, b3s, if_neg i10]; rfl
      · subst e
        rw [q_isWN hN h hr (by decide) wc0 (nn 0 (by omega) (by omega)), b3s, if_pos rfl, q_isWN hN h hr (by decide) wc1 (nn 1 (by omega) (by omega)), b3s, if_pos rfl, q_isWN hN h hr (by decide) wc2 (nn 2 (by omega) (by omega)), b3s, if_pos rfl, q_isWN hN h hr (by decide) wc3 (nn 3 (by omega) (by omega)), b3s, if_pos rfl, q_isWN hN h hr (by decide) wc4 (nn 4 (by omega) (by omega)), b3s, if_pos rfl, q_isWN hN h hr (by decide) wc5 (nn 5 (by omega) (by omega)), b3s, if_pos rfl, q_isWN hN h hr (by decide) wc6 (nn 6 (by omega) (by omega)), b3s, if_pos rfl, q_isWN hN h hr (by decide) wc7 (nn 7 (by omega) (by omega)), b3s, if_pos rfl, q_isWN hN h hr (by decide) wc8 (nn 8 (by omega) (by omega)), b3s, if_pos rfl, q_isWN hN h hr (by decide) wc9 (nn 9 (by omega) (by omega)), b3s, if_pos rfl, q_isWY hN h hr (by decide) wc10 rfl, b3s, if_neg i10]; rfl
      · subst e
        rw [q_isWN hN h hr (by decide) wc0 (nn 0 (by omega) (by omega)), b3s, if_pos rfl, q_isWN hN h hr (by decide) wc1 (nn 1 (by omega) (by omega)), b3s, if_pos rfl, q_isWN hN h hr (by decide) wc2 (nn 2 (by omega) (by omega)), b3s, if_pos rfl, q_isWN hN h hr (by decide) wc3 (nn 3 (by omega) (by omega)), b3s, if_pos rfl, q_isWN hN h hr (by decide) wc4 (nn 4 (by omega) (by omega)), b3s, if_pos rfl, q_isWN hN h hr (by decide) wc5 (nn 5 (by omega) (by omega)), b3s, if_pos rfl, q_isWN hN h hr (by decide) wc6 (nn 6 (by omega) (by omega)), b3s, if_pos rfl, q_isWN hN h hr (by decide) wc7 (nn 7 (by omega) (by omega)), b3s, if_pos rfl, q_isWN hN h hr (by decide) wc8 (nn 8 (by omega) (by omega)), b3s, if_pos rfl, q_isWN hN h hr (by decide) wc9 (nn 9 (by omega) (by omega)), b3s, if_pos rfl, q_isWN hN h hr (by decide) wc10 (nn 10 (by omega) (by omega)), b3s, if_pos rfl, q_isWY hN h hr (by decide) wc11 rfl, b3s, if_neg i10]; rfl
    · exact Or.inr ⟨Or.inr (show ¬ nI j < (12 : Int32) from nI_nlt (b := 12) (by omega) (by omega)), non (fun i hi => ne j i hj (by omega) (by omega))⟩
theorem q_atDigit (h : Rd b mb n w p p' I I') : f3_atDigit b S Rf I J = some (if p < n ∧ isDi w p = true then 1 else 0, I, J) := by
  have hw := h.w256
  unfold f3_atDigit
  rw [q_sign h, b3s, q_sign h, b3s]
  by_cases c : p < n
  · have h256 := hw p c
    have e : chr w n p = nI (w p) := if_pos c
    rw [e]
    by_cases c1 : w p < 48
    · rw [if_pos (show nI (w p) < (48 : Int32) from nI_lt (b := 48) c1 (by omega)), if_neg (fun z => by
        have := z.2
        unfold isDi at this
        rw [decide_eq_true_eq] at this
        omega)]
    · rw [if_neg (show ¬ nI (w p) < (48 : Int32) from nI_nlt (b := 48) (by omega) (by omega))]
      by_cases c2 : 57 < w p
      · rw [if_pos (show (57 : Int32) < nI (w p) from nI_lt (a := 57) c2 (by omega)), if_neg (fun z => by
          have := z.2
          unfold isDi at this
          rw [decide_eq_true_eq] at this
          omega)]
      · rw [if_neg (show ¬ (57 : Int32) < nI (w p) from nI_nlt (a := 57) (by omega) (by omega)), if_pos ⟨c, by unfold isDi; rw [decide_eq_true_eq]; omega⟩]
  · have e : chr w n p = -1 := if_neg c
    rw [e, if_pos (show (-1 : Int32) < 48 by decide), if_neg (fun z => c z.1)]
/-- one value more, or one too many -/
theorem q_makes {at_ : Nat} (h : PS b mb n w K p p' tc tr V I I') : (V = 60 ∧ f12_makes mb (nI at_) I' J' = some (0, up2 I' mb 9 ((1 + 8 * nI at_) + 3), J')) ∨ (V < 60 ∧ f12_makes mb (nI at_) I' J' = some (1, up2 I' mb 12 (nI (V + 1)), J')) := by
  obtain ⟨hr, ⟨h1, h2, h3⟩, h4, h5, ⟨h6, h7, h8, h9⟩, h10⟩ := h
  unfold f12_makes
  rw [h9]
  by_cases c : V = 60
  · rw [c, if_pos (show nI 60 = (60 : Int32) from rfl), m_fails hr.2.2.2.2.2.2, b3s, yb_ck_t (show bz 0 = true from rfl)]
    exact Or.inl ⟨rfl, rfl⟩
  · rw [if_neg (show ¬ nI V = (60 : Int32) from fun z => c ((nI_eq (a := V) (b := 60) (by omega) (by omega)).mp z)), nI_1, lts]
    exact Or.inr ⟨by omega, rfl⟩
/-- the number of values is told one higher on both sides -/
theorem PS.val (h : PS b mb n w K p p' tc tr V I I') (hV : V < 60) : PS b mb n w K p p' tc tr (V + 1) (up2 I (b + 62) 3 (nI (V + 1))) (up2 I' mb 12 (nI (V + 1))) := by
  obtain ⟨hr, ⟨h1, h2, h3⟩, h4, h5, ⟨h6, h7, h8, h9⟩, h10⟩ := h
  refine ⟨hr.keep (by rw [up2_ne _ _ _ (by omega)]) (by rw [up2_ne _ _ _ (by omega)]) (up2_ne _ _ _ (by omega)) (up2_at (Or.inr (by decide))) (up2_at (Or.inr (by decide))) (up2_at (Or.inr (by decide))) (up2_ne _ _ _ (by omega)), ⟨?_, ?_, up2_same _ _ _ _⟩, by omega, h5, ⟨?_, ?_, ?_, up2_same _ _ _ _⟩, h10⟩
  · rw [up2_at (Or.inr (by decide))]; exact h1
  · rw [up2_ne _ _ _ (by omega)]; exact h2
  · rw [up2_at (Or.inr (by decide))]; exact h6
  · rw [up2_ne _ _ _ (by omega)]; exact h7
  · rw [up2_ne _ _ _ (by omega)]; exact h8
theorem FR.val (x y : Int32) : FR b mb K I (up2 I (b + 62) 3 x) I' (up2 I' mb 12 y) := ⟨fun a h1 h2 h3 => up2_ne _ _ _ h2, by rw [up2_ne _ _ _ (by omega)], fun a h1 _ _ _ => up2_ne _ _ _ h1, fun k _ _ _ h4 _ _ => up2_at (Or.inr h4), fun i _ => by rw [up2_ne _ _ _ (by omega)], fun i _ => by rw [up2_ne _ _ _ (by omega)]⟩
theorem FS.val (y : Int32) : FS mb I' (up2 I' mb 12 y) := ⟨up2_at (Or.inr (by decide)), up2_at (Or.inr (by decide)), up2_ne _ _ _ (by omega)⟩
end VALUE
