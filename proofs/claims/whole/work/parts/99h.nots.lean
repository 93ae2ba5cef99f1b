/-! RULE: a not that waits -/
section NOTS
variable {N b mb n p p' K V e m nn : Nat} {w : Nat → Nat} {tc tr : List Int32} {S : ST} {Rf : RT} {I I1 I2 I' I1' I2' : IT} {J J' : JT} {r : Int32} {st : List Nat}
theorem st_mono {x1 : Int32} : ∀ m (I : IT) (J : JT) x, f12_settles_L0 N mb x1 m I J = some x → f12_settles_L0 N mb x1 (m + 1) I J = some x := by
  intro m
  induction m with
  | zero => intro I J x h; rw [f12_settles_L0] at h; cases h
  | succ m ih =>
    intro I J x h
    rw [f12_settles_L0] at h ⊢
    by_cases c : I mb 16 ≤ 0
    · rw [if_pos c] at h ⊢; exact h
    · rw [if_neg c] at h ⊢
      by_cases c1 : inb (I mb 16 - 1) 400 = true
      · rw [yb_ck_t c1] at h ⊢
        cases hs : f12_strength mb (I (mb + 7) (I mb 16 - 1).toNatClampNeg) I J with
        | none => rw [hs] at h; cases h
        | some y =>
          obtain ⟨r, I1, J1⟩ := y
          rw [hs, b3s] at h
          rw [b3s]
          by_cases c2 : r < x1
          · rw [if_pos c2] at h ⊢; exact h
          · rw [if_neg c2, lts] at h
            rw [if_neg c2, lts]
            by_cases c3 : inb (up2 I1 mb 16 (I1 mb 16 - 1) mb 16) 400 = true
            · rw [yb_ck_t c3] at h ⊢
              cases hp : f12_puts mb (up2 I1 mb 16 (I1 mb 16 - 1) (mb + 7) (up2 I1 mb 16 (I1 mb 16 - 1) mb 16).toNatClampNeg) 0 (up2 I1 mb 16 (I1 mb 16 - 1)) J1 with
              | none => rw [hp] at h; cases h
              | some z =>
                obtain ⟨u, I2, J2⟩ := z
                rw [hp, b3s] at h
                rw [b3s]
                by_cases c4 : inb (I2 mb 16) 400 = true
                · rw [yb_ck_t c4] at h ⊢
                  by_cases c5 : I2 (mb + 7) (I2 mb 16).toNatClampNeg = 11
                  · rw [if_pos c5, lts] at h
                    rw [if_pos c5, lts]
                    exact ih _ _ _ h
                  · rw [if_neg c5] at h ⊢
                    exact ih _ _ _ h
                · unfold yb_ck at h
                  rw [if_neg c4] at h
                  cases h
            · unfold yb_ck at h
              rw [if_neg c3] at h
              cases h
      · unfold yb_ck at h
        rw [if_neg c1] at h
        cases h
/-- the nots on top -/
theorem nots_of : ∀ st : List Nat, (∀ x, x ∈ st → stE x) → ∃ a r, st = a ++ r ∧ (∀ x, x ∈ a → 3 ≤ strN x) ∧ (∀ x t, r = x :: t → strN x < 3) := by
  intro st
  induction st with
  | nil => intro _; exact ⟨[], [], rfl, fun x hx => (by cases hx), fun x t h => (by cases h)⟩
  | cons y st ih =>
    intro h
    by_cases c : 3 ≤ strN y
    · obtain ⟨a, r, h1, h2, h3⟩ := ih (fun x hx => h x (by simp [hx]))
      exact ⟨y :: a, r, by rw [h1]; rfl, fun x hx => by
        rcases List.mem_cons.mp hx with rfl | hx
        · exact c
        · exact h2 x hx, h3⟩
    · exact ⟨[], y :: st, rfl, fun x hx => (by cases hx), fun x t e => by cases e; omega⟩
/-- one not is put -/
theorem set1 (hK : K < 6) (hst : StM mb (11 :: st) I') (hpm : PMt mb K tr V I') (hl : tr.length < 400) : ∃ I1', (∀ m, f12_settles_L0 N mb 3 (m + 1) I' J' = f12_settles_L0 N mb 3 m I1' J') ∧ StM mb st I1' ∧ PMt mb K (tr ++ [tkI (11, 0)]) V I1' ∧ FT6 mb K I' I1' := by
  obtain ⟨s1, s2, s3, s4, s5⟩ := id hst
  have s21 : I' (mb + 7) st.length = nI 11 := s2.1
  have s5' : st.length + 1 ≤ 400 := by simpa using s5
  have e1 : nI (11 :: st).length - 1 = nI st.length := by
    show nI (st.length + 1) - nI 1 = _
    rw [pk_sub (by omega)]; rfl
  have hpm2 : PMt mb K tr V (up2 I' mb 16 (nI st.length)) := hpm.cg (up2_at (Or.inr (by decide))) (up2_at (Or.inr (by decide))) (up2_ne _ _ _ (by omega)) (up2_ne _ _ _ (by omega))
  have c7 : up2 I' mb 16 (nI st.length) (mb + 7) st.length = nI 11 := by rw [up2_ne _ _ _ (by omega)]; exact s21
  obtain ⟨I2, g1, g2, g3, g4, g5, g6⟩ := puts_m (mb := mb) (K := K) (s := nI 11) (v := 0) (J' := J') hK hpm2.1 hpm2.2.1 hpm2.2.2.1 hl
  have et : nI 11 + 16 * (0 : Int32) = tkI (11, 0) := by decide
  rw [et] at g2 g3
  have em : I2 mb = up2 I' mb 16 (nI st.length) mb := g4 _ (by omega) (by omega)
  have e7 : I2 (mb + 7) = I' (mb + 7) := by rw [g4 _ (by omega) (by omega), up2_ne _ _ _ (by omega)]
  have e16 : I2 mb 16 = nI st.length := by rw [em, up2_same]
  have e13 : I2 mb 13 = nI (dpS (11 :: st)) := by rw [em, up2_at (Or.inr (by decide))]; exact s3
  have ed : nI (dpS (11 :: st)) - 1 = nI (dpS st) := by
    show nI ((if 11 = 11 ∨ 11 = 91 then 1 else 0) + dpS st) - nI 1 = _
    rw [if_pos (Or.inl rfl), pk_sub (by omega), Nat.add_sub_cancel_left]
  refine ⟨up2 I2 mb 13 (nI (dpS st)), fun m => ?_, ⟨?_, ?_, up2_same _ _ _ _, fun x hx => s4 x (by simp [hx]), by omega⟩, ?_, ?_⟩
  · rw [f12_settles_L0, s1, if_neg (nI_nle (by simp) (by simp; omega)), e1, yb_ck_t (inb_nI (show st.length < 400 by omega) (by decide)), nI_clamp (show st.length < 2 ^ 31 by omega), s21, m_strength (Or.inl rfl), b3s, if_neg (show ¬ nI (strN 11) < (3 : Int32) by decide), lts, s1, e1, up2_same, yb_ck_t (inb_nI (show st.length < 400 by omega) (by decide)), nI_clamp (show st.length < 2 ^ 31 by omega), c7, g1, b3s, e16, yb_ck_t (inb_nI (show st.length < 400 by omega) (by decide)), nI_clamp (show st.length < 2 ^ 31 by omega), e7, s21, if_pos (show nI 11 = (11 : Int32) from rfl), e13, ed, lts]
  · rw [up2_at (Or.inr (by decide))]; exact e16
  · rw [up2_ne _ _ _ (by omega), e7]; exact s2.2
  · have : PMt mb K (tr ++ [tkI (11, 0)]) V I2 := ⟨by rw [em]; exact hpm2.1, g2, g3, by rw [em]; exact hpm2.2.2.2⟩
    exact this.cg (up2_at (Or.inr (by decide))) (up2_at (Or.inr (by decide))) (up2_ne _ _ _ (by omega)) (up2_ne _ _ _ (by omega))
  · exact ⟨fun a h1 h2 h3 => by rw [up2_ne _ _ _ h1, g4 a h2 h3, up2_ne _ _ _ h1], fun k h1 h2 => by rw [up2_at (Or.inr h1), em, up2_at (Or.inr h2)], fun i hi => by rw [up2_ne _ _ _ (by omega), g5 i hi, up2_ne _ _ _ (by omega)], fun i hi => by rw [up2_ne _ _ _ (by omega), g6 i hi, up2_ne _ _ _ (by omega)]⟩
theorem pcS_app : ∀ a c : List Nat, pcS (a ++ c) = pcS a + pcS c := by
  intro a
  induction a with
  | nil => intro c; exact (Nat.zero_add _).symm
  | cons x a ih => intro c; show (if x = 91 then 0 else 1) + pcS (a ++ c) = (if x = 91 then 0 else 1) + pcS a + pcS c; rw [ih]; omega
theorem pcS_len : ∀ a : List Nat, (∀ x, x ∈ a → x ≠ 91) → pcS a = a.length := by
  intro a
  induction a with
  | nil => intro _; rfl
  | cons x a ih => intro h; show (if x = 91 then 0 else 1) + pcS a = a.length + 1; rw [if_neg (h x (by simp)), ih (fun y hy => h y (by simp [hy]))]; omega
/-- point C with a not on top -/
theorem tpC_not (hN : 1000 ≤ N) (hK : K < 6) (hst : StM mb (11 :: st) I') (hpm : PMt mb K tr V I') (hl : tr.length + pcS st < 400) : ∃ I1', tpC N mb m nn I' J' = tpC N mb m nn I1' J' ∧ StM mb st I1' ∧ PMt mb K (tr ++ [tkI (11, 0)]) V I1' ∧ FT6 mb K I' I1' := by
  obtain ⟨I1', e1, e2, e3, e4⟩ := set1 (N := N) (J' := J') hK hst hpm (by omega)
  refine ⟨I1', ?_, e2, e3, e4⟩
  obtain ⟨a, r, h1, h2, h3⟩ := nots_of st e2.2.2.2.1
  have hst' := e2
  rw [h1] at hst'
  have hla : a.length ≤ pcS st := by
    rw [h1, pcS_app, pcS_len a (fun x hx e => by have := h2 x hx; rw [e] at this; exact absurd this (by decide))]
    omega
  have hla2 : a.length ≤ st.length := by rw [h1]; simp
  obtain ⟨M, hM⟩ : ∃ M, N = M + 1 := ⟨N - 1, by omega⟩
  have hs5 := e2.2.2.2.2
  obtain ⟨I2, k1, _⟩ := m_settles (N := N) (mb := mb) (J' := J') (Lv := 3) (by omega) (by omega) hK r h3 a M (tr ++ [tkI (11, 0)]) I1' (by omega) h2 hst' e3 (by simp; omega)
  have k1' : f12_settles_L0 N mb 3 M I1' J' = some ((), I2, J') := k1
  have k2 := st_mono M _ _ _ k1'
  have e1' := e1 M
  rw [← hM] at e1' k2
  unfold tpC f12_settles
  rw [e1', k1', k2]
end NOTS
