section F8
variable {t z a : Nat} {S : ST} {Rf : RT} {I : IT} {J : JT}
theorem f8_S_lo (h : a < z + 9) : (f8_init t z S Rf I J).1 a = (f9_init z (z + 1) (va_up S z (16, 0)) (va_up Rf z (fun _ => none)) (va_up I z (fun _ => 0)) (va_up J z (fun _ => 0))).1 a := by
  simp only [f8_init, yb_let]
  rw [va_up_ne _ _ (by omega), va_up_ne _ _ (by omega), va_up_ne _ _ (by omega), fS0 (by omega), va_up_ne _ _ (by omega)]
theorem f8_R_lo (h : a < z + 9) (ht : a ≠ t) : (f8_init t z S Rf I J).2.1 a = (f9_init z (z + 1) (va_up S z (16, 0)) (va_up Rf z (fun _ => none)) (va_up I z (fun _ => 0)) (va_up J z (fun _ => 0))).2.1 a := by
  simp only [f8_init, yb_let]
  rw [up2R_ne _ _ _ ht, va_up_ne _ _ (by omega), up2R_ne _ _ _ ht, va_up_ne _ _ (by omega), up2R_ne _ _ _ ht, va_up_ne _ _ (by omega), up2R_ne _ _ _ ht, fR0 (by omega) (by omega), va_up_ne _ _ (by omega), up2R_ne _ _ _ ht]
theorem f8_mid (h1 : z + 9 ≤ a) (h : a < z + 19) : ∃ S2 Rf2 I2 J2, S2 (z + 9) = (7, 0) ∧ (f8_init t z S Rf I J).1 a = (f0_init (z + 9) (z + 10) S2 Rf2 I2 J2).1 a ∧ (a ≠ t → (f8_init t z S Rf I J).2.1 a = (f0_init (z + 9) (z + 10) S2 Rf2 I2 J2).2.1 a) := by
  refine ⟨va_up (f9_init z (z + 1) (va_up S z (16, 0)) (va_up Rf z (fun _ => none)) (va_up I z (fun _ => 0)) (va_up J z (fun _ => 0))).1 (z + 9) (7, 0), va_up (up2R (f9_init z (z + 1) (va_up S z (16, 0)) (va_up Rf z (fun _ => none)) (va_up I z (fun _ => 0)) (va_up J z (fun _ => 0))).2.1 t 0 (some z)) (z + 9) (fun _ => none), va_up (f9_init z (z + 1) (va_up S z (16, 0)) (va_up Rf z (fun _ => none)) (va_up I z (fun _ => 0)) (va_up J z (fun _ => 0))).2.2.1 (z + 9) (fun _ => 0), va_up (f9_init z (z + 1) (va_up S z (16, 0)) (va_up Rf z (fun _ => none)) (va_up I z (fun _ => 0)) (va_up J z (fun _ => 0))).2.2.2 (z + 9) (fun _ => 0), va_up_self _ _ _, ?_, fun ht => ?_⟩
  · simp only [f8_init, yb_let]
    rw [va_up_ne _ _ (by omega), va_up_ne _ _ (by omega), va_up_ne _ _ (by omega)]
  · simp only [f8_init, yb_let]
    rw [up2R_ne _ _ _ ht, va_up_ne _ _ (by omega), up2R_ne _ _ _ ht, va_up_ne _ _ (by omega), up2R_ne _ _ _ ht, va_up_ne _ _ (by omega), up2R_ne _ _ _ ht]
theorem f8_t (ht : t < z) : (f8_init t z S Rf I J).2.1 t 0 = some z ∧ (f8_init t z S Rf I J).2.1 t 1 = some (z + 9) ∧ (f8_init t z S Rf I J).2.1 t 2 = some (z + 19) ∧ (f8_init t z S Rf I J).2.1 t 3 = some (z + 20) ∧ (f8_init t z S Rf I J).2.1 t 4 = some (z + 21) ∧ (f8_init t z S Rf I J).1 (z + 19) = (0, 10) ∧ (f8_init t z S Rf I J).1 (z + 20) = (0, 10) ∧ (f8_init t z S Rf I J).1 (z + 21) = (0, 10) := by
  have hne : ∀ k, t ≠ z + k := fun k => by omega
  have h10 : t < z + 10 := by omega
  simp only [f8_init, yb_let]
  simp [va_up, up2R, hne, fR0 h10 (hne 9)]
theorem nwS_at (L : List Nat) : StateAt (apn L z 23) (nwS z S Rf I J).1 (nwS z S Rf I J).2.1 z := by
  have hz : z < z + 1 := by omega
  obtain ⟨r0, r1, r2, r3, r4, s2, s3, s4⟩ := f8_t (z := z + 1) (S := va_up S z (15, 0)) (Rf := va_up Rf z (fun _ => none)) (I := va_up I z (fun _ => 0)) (J := va_up J z (fun _ => 0)) hz
  have hmem : ∀ j, j < 23 → z + j ∈ apn L z 23 := fun j hj => apn_new 23 hj
  have hm0 : z ∈ apn L z 23 := hmem 0 (by decide)
  refine ⟨⟨hm0, ?_⟩, ⟨r0, ?_⟩, ⟨r1, ?_⟩, ?_⟩
  · unfold nwS; rw [fS8 hz, va_up_self]
  · refine ⟨⟨hmem 1 (by decide), ?_⟩, fun j hj => ?_⟩
    · unfold nwS; rw [f8_S_lo (by omega), fS9 (by omega), va_up_self]
    · obtain ⟨g1, g2⟩ := f9_at (t := z + 1) (z := z + 1 + 1) (S := va_up (va_up S z (15, 0)) (z + 1) (16, 0)) (Rf := va_up (va_up Rf z (fun _ => none)) (z + 1) (fun _ => none)) (I := va_up (va_up I z (fun _ => 0)) (z + 1) (fun _ => 0)) (J := va_up (va_up J z (fun _ => 0)) (z + 1) (fun _ => 0)) (by omega) j hj
      have e : z + 1 + (1 + j) = z + 1 + 1 + j := by omega
      refine ⟨?_, ?_, ?_⟩
      · unfold nwS; rw [f8_R_lo (by omega) (by omega), g1, e]
      · rw [show z + 1 + (1 + j) = z + (2 + j) by omega]; exact hmem _ (by omega)
      · unfold nwS; rw [f8_S_lo (by omega), e, g2]
  · refine ⟨⟨hmem 10 (by decide), ?_⟩, fun j hj => ?_⟩
    · obtain ⟨S2, Rf2, I2, J2, g0, g1, -⟩ := f8_mid (t := z) (z := z + 1) (a := z + 10) (S := va_up S z (15, 0)) (Rf := va_up Rf z (fun _ => none)) (I := va_up I z (fun _ => 0)) (J := va_up J z (fun _ => 0)) (by omega) (by omega)
      have g0 : S2 (z + 10) = (7, 0) := g0
      unfold nwS; rw [g1, fS0 (by omega), g0]
    · obtain ⟨S2, Rf2, I2, J2, -, -, g2⟩ := f8_mid (t := z) (z := z + 1) (a := z + 10) (S := va_up S z (15, 0)) (Rf := va_up Rf z (fun _ => none)) (I := va_up I z (fun _ => 0)) (J := va_up J z (fun _ => 0)) (by omega) (by omega)
      obtain ⟨S3, Rf3, I3, J3, -, g4, -⟩ := f8_mid (t := z) (z := z + 1) (a := z + 11 + j) (S := va_up S z (15, 0)) (Rf := va_up Rf z (fun _ => none)) (I := va_up I z (fun _ => 0)) (J := va_up J z (fun _ => 0)) (by omega) (by omega)
      have e : z + 10 + (1 + j) = z + 11 + j := by omega
      refine ⟨?_, ?_, ?_⟩
      · unfold nwS
        rw [g2 (by omega)]
        have h := (f0_at (t := z + 10) (z := z + 11) (S := S2) (Rf := Rf2) (I := I2) (J := J2) (by omega) j hj).1
        rw [e]; exact h
      · rw [show z + 10 + (1 + j) = z + (11 + j) by omega]; exact hmem _ (by omega)
      · unfold nwS
        rw [e, g4]
        exact (f0_at (t := z + 10) (z := z + 11) (S := S3) (Rf := Rf3) (I := I3) (J := J3) (by omega) j hj).2
  · intro j hj
    rcases (show j = 0 ∨ j = 1 ∨ j = 2 by omega) with rfl | rfl | rfl
    · exact ⟨r2, hmem 20 (by decide), s2⟩
    · exact ⟨r3, hmem 21 (by decide), s3⟩
    · exact ⟨r4, hmem 22 (by decide), s4⟩
theorem nwC_at (L : List Nat) : CourseAt (apn L z 10) (nwC z S Rf I J).1 (nwC z S Rf I J).2.1 z := by
  refine ⟨⟨apn_new (j := 0) 10 (by decide), ?_⟩, fun j hj => ?_⟩
  · unfold nwC; rw [fS0 (by omega), va_up_self]
  · obtain ⟨g1, g2⟩ := f0_at (t := z) (z := z + 1) (S := va_up S z (7, 0)) (Rf := va_up Rf z (fun _ => none)) (I := va_up I z (fun _ => 0)) (J := va_up J z (fun _ => 0)) (by omega) j hj
    have e : z + (1 + j) = z + 1 + j := by omega
    refine ⟨?_, ?_, ?_⟩
    · unfold nwC; rw [g1, e]
    · exact apn_new 10 (by omega)
    · unfold nwC; rw [e, g2]
end F8
