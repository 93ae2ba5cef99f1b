/-- who can sit, as the class asks it -/
def canS (v : Nat → Int32) (j a : Nat) (n d : Int32) : Int32 :=
  if yngS v j a = 0 then 0 else if twM v a j = 1 then 0 else
  if sitS v (v (10 + 5 * j) + d) = 0 then 0 else if sitS v (v (10 + 5 * j) + d + n - 1) = 0 then 0 else
  if v 1 ≤ tilS v (v (10 + 5 * j) + d) then 0 else if tilS v (v (10 + 5 * j) + d) < n then 0 else 1
theorem and1 (x : Int32) : x &&& 1 = 0 ∨ x &&& 1 = 1 := by
  obtain ⟨j, hj, e⟩ := pk_andE x (m := 1) 1 rfl
  rw [e]
  rcases (show j = 0 ∨ j = 1 by omega) with rfl | rfl
  · exact Or.inl rfl
  · exact Or.inr rfl
/-- the numbers that a judge's days hang on -/
def Nums (v : Nat → Int32) (j A Y F La : Nat) : Prop := v (10 + 5 * j) = nI A ∧ v 1 = nI Y ∧ v 5 = nI F ∧ v 6 = nI La ∧ A ≤ 9999 ∧ 5 ≤ Y ∧ Y ≤ 99 ∧ F ≤ 9999 ∧ La ≤ 9999
theorem can_closed {v : Nat → Int32} {j A Y F La D n : Nat} (h : Nums v j A Y F La) (hD : D ≤ 20000) (hn1 : 1 ≤ n) (hn : n ≤ 9) :
    (if sitS v (v (10 + 5 * j) + nI D) = 0 then (0 : Int32) else if sitS v (v (10 + 5 * j) + nI D + nI n - 1) = 0 then 0 else if v 1 ≤ tilS v (v (10 + 5 * j) + nI D) then 0 else if tilS v (v (10 + 5 * j) + nI D) < nI n then 0 else 1) = 1 ↔ ∀ i, i < n → dayOK Y F La (A + D + i) := by
  obtain ⟨hA, hY, hF, hL, bA, bY1, bY, bF, bL⟩ := h
  have e1 : nI (A + D) + nI n - 1 = nI (A + D + n - 1) := by
    rw [nI_add]
    show nI (A + D + n) - nI 1 = _
    rw [pk_sub (by omega)]
  rw [hA, nI_add, e1]
  have hm := Nat.mod_lt (A + D) (show 0 < Y by omega)
  have s1 := sit_nI (v := v) (F := F) (La := La) (x := A + D) hF hL (by omega) (by omega) (by omega)
  have s2 := sit_nI (v := v) (F := F) (La := La) (x := A + D + n - 1) hF hL (by omega) (by omega) (by omega)
  rw [til_nI (Y := Y) hY (by omega) (by omega) (by omega), hY]
  simp only [nI_leI (show Y < 2 ^ 31 by omega) (show Y - (A + D) % Y < 2 ^ 31 by omega), nI_ltI (show Y - (A + D) % Y < 2 ^ 31 by omega) (show n < 2 ^ 31 by omega)]
  have key := days_iff (x := A + D) (Y := Y) (F := F) (La := La) (n := n) (by omega) hn1
  unfold dayOK
  rw [key]
  by_cases c1 : sitS v (nI (A + D)) = 0
  · rw [if_pos c1]
    refine ⟨fun g => absurd g (by decide), fun g => absurd ⟨g.1, g.2.1⟩ (s1.mp c1)⟩
  · rw [if_neg c1]
    have g1 : F ≤ A + D ∧ A + D ≤ La := Classical.byContradiction fun g => c1 (s1.mpr g)
    by_cases c2 : sitS v (nI (A + D + n - 1)) = 0
    · rw [if_pos c2]
      refine ⟨fun g => absurd g (by decide), fun g => absurd ⟨g.2.2.1, g.2.2.2.1⟩ (s2.mp c2)⟩
    · rw [if_neg c2]
      have g2 : F ≤ A + D + n - 1 ∧ A + D + n - 1 ≤ La := Classical.byContradiction fun g => c2 (s2.mpr g)
      by_cases c3 : Y ≤ Y - (A + D) % Y
      · rw [if_pos c3]
        refine ⟨fun g => absurd g (by decide), fun g => absurd (show (A + D) % Y = 0 by omega) g.2.2.2.2.1⟩
      · rw [if_neg c3]
        by_cases c4 : Y - (A + D) % Y < n
        · rw [if_pos c4]
          exact ⟨fun g => absurd g (by decide), fun g => absurd g.2.2.2.2.2 (by omega)⟩
        · rw [if_neg c4]
          exact ⟨fun _ => ⟨g1.1, g1.2, g2.1, g2.2, by omega, by omega⟩, fun _ => rfl⟩
theorem can01 {v : Nat → Int32} {x y n : Int32} : (if sitS v x = 0 then (0 : Int32) else if sitS v y = 0 then 0 else if v 1 ≤ tilS v x then 0 else if tilS v x < n then 0 else 1) = 0 ∨ (if sitS v x = 0 then (0 : Int32) else if sitS v y = 0 then 0 else if v 1 ≤ tilS v x then 0 else if tilS v x < n then 0 else 1) = 1 := by
  split
  · exact Or.inl rfl
  · split
    · exact Or.inl rfl
    · split
      · exact Or.inl rfl
      · split
        · exact Or.inl rfl
        · exact Or.inr rfl
theorem q12_canSit {N mb : Nat} {I : IT} {J : JT} {j a A Y F La D n : Nat} (hN : 100 ≤ N) (hj : j < 7) (ha : a < 7) (h : Nums (I (mb + 10)) j A Y F La) (hD : D ≤ 20000) (hn1 : 1 ≤ n) (hn : n ≤ 9) : f12_canSit N mb (nI j) (nI a) (nI n) (nI D) I J = some (canS (I (mb + 10)) j a (nI n) (nI D), I, J) := by
  unfold f12_canSit canS
  rw [q12_isYounger hj ha]
  simp only [yb_b3]
  by_cases c1 : yngS (I (mb + 10)) j a = 0
  · rw [if_pos c1, if_pos c1]
  · rw [if_neg c1, if_neg c1, show (3 : Int32) = nI 3 from rfl, q12_personOf ha (by omega)]
    simp only [f12_isOf]
    have ht : ((I (mb + 10) (10 + 5 * a + 3) >>> (nI j &&& 31)) &&& 1) = twM (I (mb + 10)) a j := by unfold twM; rw [show 13 + 5 * a = 10 + 5 * a + 3 by omega]
    rw [ht]
    by_cases c2 : twM (I (mb + 10)) a j = 1
    · rw [if_pos c2, if_pos c2]
      rfl
    · rw [if_neg c2, if_neg c2]
      simp only [if_true]
      obtain ⟨hA, hY, hF, hL, bA, bY1, bY, bF, bL⟩ := id h
      have hc := can_closed h hD hn1 hn
      rcases canSit_loop (N := N) (mb := mb) (I := I) (J := J) (D := D) (n := n) hj hA hY hF hL (by omega) (by omega) (by omega) (by omega) (by omega) n 0 N (by omega) (by omega) with ⟨e, g⟩ | ⟨e, i, g1, g2, g3⟩
      · rw [Nat.add_zero] at e
        rw [e]
        show some ((1 : Int32), I, J) = _
        rw [hc.mpr (fun i hi => g i (by omega) hi)]
      · rw [Nat.add_zero] at e
        rw [e]
        show some ((0 : Int32), I, J) = _
        rcases can01 (v := I (mb + 10)) (x := I (mb + 10) (10 + 5 * j) + nI D) (y := I (mb + 10) (10 + 5 * j) + nI D + nI n - 1) (n := nI n) with q | q
        · rw [q]
        · exact absurd (hc.mp q i g2) g3
