/-! LESSON: one judge's wit is told one higher, and back -/
section WITV
variable {v v' : Nat → Int32} {p : Nat}
theorem w_canH (e : ∀ i, i ≠ 11 + 5 * p → v' i = v i) (hp : p < 7) (c j : Nat) (d : Int32) : canH v' c j d = canH v c j d := by
  unfold canH canS yngS twM sitS tilS
  simp (disch := omega) only [e]
theorem w_hbF (e : ∀ i, i ≠ 11 + 5 * p → v' i = v i) (hp : p < 7) (j : Nat) : ∀ r k, hbF v' j r k = hbF v j r k := by
  intro r
  induction r with
  | zero => intro k; rfl
  | succ r ih => intro k; rw [hbF, hbF, ih, e _ (by omega)]
theorem w_opL (e : ∀ i, i ≠ 11 + 5 * p → v' i = v i) (hp : p < 7) : ∀ r k, opL v' r k = opL v r k := by
  intro r
  induction r with
  | zero => intro k; rfl
  | succ r ih => intro k; rw [opL, opL, ih, e _ (by omega), e _ (by omega)]
theorem w_lnV (e : ∀ i, i ≠ 11 + 5 * p → v' i = v i) (hp : p < 7) (u : List Nat) : lnV v' u = lnV v u := by
  funext c
  unfold lnV
  rw [e _ (by omega)]
theorem w_BV (e : ∀ i, i ≠ 11 + 5 * p → v' i = v i) (hp : p < 7) (u : List Nat) (C D : Nat) : BV v' u C D = BV v u C D := by
  have e1 : cnV v' u D = cnV v u D := by
    funext c j d
    exact w_canH e hp _ _ _
  have e2 : frV v' C = frV v C := by
    funext j
    unfold frV
    rw [w_hbF e hp, e _ (by omega)]
  unfold BV
  rw [e1, e2, w_lnV e hp]
theorem w_RtV (e : ∀ i, i ≠ 11 + 5 * p → v' i = v i) (hp : p < 7) (fo : Int32) (Rl : Nat → List (List Tk × Option (List Tk))) (u : List Nat) (C D : Nat) {j : Nat} (hj : j ≠ p) (o : Nat) : RtV v' fo Rl u C D j o = RtV v fo Rl u C D j o := by
  unfold RtV
  rw [w_BV e hp, e (14 + 5 * j) (by omega)]
  have : ∀ c d ru, rgtC v' fo Rl c j d ru 0 = rgtC v fo Rl c j d ru 0 := by
    intro c d ru
    have hw : ∀ (a : Nat) (g n : Int32), wordV v' j a g n d ru 0 = wordV v j a g n d ru 0 := by
      intro a g n
      funext i
      unfold wordV tilS
      simp (disch := omega) only [e]
    unfold rgtC rgtV
    rw [hw]
    simp (disch := omega) only [e]
  rw [this]
end WITV
section LESSON
variable {N b mb P C D M K p : Nat} {L : List Nat} {I I0 I' I0' : IT} {J J' : JT} {S : ST} {Rf : RT} {Rl : Nat → List (List Tk × Option (List Tk))}
theorem wit_rel (h : RelB b mb L S Rf I I' P C D M K Rl) (hp : p < P) {X : Nat} (hX : X ≤ 9) : RelB b mb L S Rf (up2 I (b + 15) p (nI X)) (up2 I' (mb + 10) (11 + 5 * p) (nI X)) P C D M K Rl := by
  have hP7 := co_P7 h.core
  exact h.act (fun a ha => up2_ne _ _ _ (by omega)) (fun a k h1 _ => by rw [up2_ne _ _ _ h1]) (fun i hi => up2_at (Or.inr (by omega))) (wit_core h.core hp hX (fun a k hh => up2_at hh) (up2_same _ _ _ _) (fun i hi hne => up2_at (Or.inr hne)) (up2_same _ _ _ _)) h.d999
theorem wit_v {X : Nat} : ∀ i, i ≠ 11 + 5 * p → up2 I' (mb + 10) (11 + 5 * p) (nI X) (mb + 10) i = I' (mb + 10) i := fun i hi => up2_at (Or.inr hi)
theorem open_m (hN : 1000 ≤ N) (hc : CoreR b mb I I' P C D) : ∃ I1, f12_fillsOpen N mb I' J' = some ((), I1, J') ∧ FrB mb I' I1 ∧ I1 mb 25 = nI (opL (I' (mb + 10)) C 0).length := by
  have h6 := co_C6 hc
  obtain ⟨I1, e1, e2, e3, e4, e5⟩ := go_ref (N := N) (J' := J') (hc.keep (I1' := up2 I' mb 25 0) (fun _ _ _ => rfl) (up2_ne _ _ _ (by omega))) C 0 N [] (up2 I' mb 25 0) (by omega) (by omega) (Nat.le_refl _) (fun _ _ _ => rfl) (fun _ _ => rfl) (up2_same _ _ _ _) (fun i x hx => by simp at hx)
  rw [up2_ne _ _ _ (show mb + 10 ≠ mb by omega), List.nil_append] at e4
  rw [show nI 0 = (0 : Int32) from rfl] at e1
  refine ⟨I1, by unfold f12_fillsOpen; rw [lts, e1, b3s], ⟨fun a ha => (e2 a (by omega) (by omega)).trans (up2_ne _ _ _ (by omega)), fun k _ h2 _ _ => (e3 k h2).trans (up2_at (Or.inr h2))⟩, e4⟩
theorem FrB.tr {I1' I2' : IT} (h : FrB mb I0' I1') (g : FrB mb I1' I2') : FrB mb I0' I2' := ⟨fun a ha => (g.1 a ha).trans (h.1 a ha), fun k h1 h2 h3 h4 => (g.2 k h1 h2 h3 h4).trans (h.2 k h1 h2 h3 h4)⟩
theorem FrB.rf (mb : Nat) (I' : IT) : FrB mb I' I' := ⟨fun _ _ => rfl, fun _ _ _ _ _ => rfl⟩
theorem les_ix (p : Nat) : (10 : Int32) + 5 * nI p + 1 = nI (11 + 5 * p) := by
  show nI 10 + nI 5 * nI p + nI 1 = _
  rw [pk_mul, nI_add, nI_add]; congr 1; omega
/-- wit up, something between, wit down -/
theorem FrB.wit {I1' I2' : IT} {W : Nat} (h : FrB mb I0' I1') (hW : I0' (mb + 10) (11 + 5 * p) = nI W) (g : FrB mb (up2 I1' (mb + 10) (11 + 5 * p) (nI (W + 1))) I2') : FrB mb I0' (up2 I2' (mb + 10) (11 + 5 * p) (nI W)) := by
  refine ⟨fun a ha => ?_, fun k h1 h2 h3 h4 => ?_⟩
  · by_cases e : a = mb + 10
    · subst e
      funext i
      by_cases ei : i = 11 + 5 * p
      · subst ei; rw [up2_same]; exact hW.symm
      · rw [up2_at (Or.inr ei), g.1 _ ha, up2_at (Or.inr ei), h.1 _ ha]
    · rw [up2_ne _ _ _ e, g.1 a ha, up2_ne _ _ _ e]; exact h.1 a ha
  · rw [up2_ne _ _ _ (by omega), g.2 k h1 h2 h3 h4, up2_ne _ _ _ (by omega)]; exact h.2 k h1 h2 h3 h4
/-- more than four open: the reference goes through the pupils for nothing -/
theorem les_ref (hN : 6000000 ≤ N) (h0 : RelB b mb L S Rf I I0' P C D M K Rl) (h4 : 4 < (opL (I0' (mb + 10)) C 0).length) (x1 x2 x3 : Int32) : ∀ r q n (I' : IT) (J' : JT), q + r = P → r < n → FrB mb I0' I' → ∃ I1' J1', f12_lesson_L28 N mb x1 n x2 x3 (nI q) I' J' = some ((x2, x3), I1', J1') ∧ FrB mb I0' I1' := by
  have h7 := co_P7 h0.core
  intro r
  induction r with
  | zero =>
    intro q n I' J' hq hn hF
    obtain ⟨n, rfl⟩ : ∃ q, n = q + 1 := ⟨n - 1, by omega⟩
    rw [f12_lesson_L28, hF.1 _ (by omega), cv_P h0.core, if_pos (nI_le (by omega) (by omega))]
    exact ⟨I', J', rfl, hF⟩
  | succ r ih =>
    intro q n I' J' hq hn hF
    obtain ⟨n, rfl⟩ : ∃ q, n = q + 1 := ⟨n - 1, by omega⟩
    have hqP : q < P := by omega
    obtain ⟨W, Z, w1, _, w3, _⟩ := co_wzr h0.core hqP
    have ev : I' (mb + 10) = I0' (mb + 10) := hF.1 _ (by omega)
    rw [f12_lesson_L28, ev, cv_P h0.core, if_neg (nI_ge (by omega) (by omega)), les_ix, lts, yb_ck_t (inb_nI (show 11 + 5 * q < 142 by omega) (by decide)), nI_clamp (show 11 + 5 * q < 2 ^ 31 by omega), w1]
    by_cases c9 : W = 9
    · subst c9
      rw [if_pos (show nI 9 = (9 : Int32) from rfl), lts, nI_1]
      exact ih (q + 1) n I' J' (by omega) (by omega) hF
    · rw [if_neg (show ¬ nI W = (9 : Int32) from fun z => c9 ((nI_eq (a := W) (b := 9) (by omega) (by omega)).mp z)), nI_1, lts]
      have hR : RelB b mb L S Rf I I' P C D M K Rl := h0.keep (Same.rf b I) hF.sm
      have hR2 := wit_rel hR hqP (show W + 1 ≤ 9 by omega)
      obtain ⟨r', I2', J2', n1, n2, n3⟩ := now_m (N := N) (J' := J') hN hR2
      have eo : opL (up2 I' (mb + 10) (11 + 5 * q) (nI (W + 1)) (mb + 10)) C 0 = opL (I0' (mb + 10)) C 0 := by
        rw [w_opL (v := I' (mb + 10)) (p := q) wit_v (by omega), ev]
      have hF2 := hF.wit w1 n2
      have e2 : I2' (mb + 10) (11 + 5 * q) - 1 = nI W := by
        rw [n2.1 _ (by omega), up2_same]
        exact (pk_sub (b := 1) (by omega)).trans (by rw [Nat.add_sub_cancel])
      unfold BnM at n3
      rw [eo] at n3
      rw [n1, b3s, e2, lts]
      rcases n3 with ⟨_, rfl⟩ | ⟨z, _⟩ | ⟨_, z, _⟩
      · rw [if_neg (show ¬ (-3 : Int32) = 0 by decide), lts, nI_1]
        exact ih (q + 1) n _ J2' (by omega) (by omega) hF2
      · omega
      · omega
end LESSON
