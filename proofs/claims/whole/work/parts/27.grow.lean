/-! GROWN TABLES: what lay there lies there still; only the row of references at x may have changed -/
def Ext (L L1 : List Nat) (S S1 : ST) (Rf Rf1 : RT) (x : Nat) : Prop := (∀ a ∈ L, a ∈ L1) ∧ (∀ a ∈ L, S1 a = S a) ∧ ∀ a ∈ L, a ≠ x → Rf1 a = Rf a
section EXT
variable {b t x : Nat} {L L1 : List Nat} {S S1 : ST} {Rf Rf1 : RT}
theorem Ext.town (E : Ext L L1 S S1 Rf Rf1 x) (hx : (S x).1 < 7) (h : TownAt L S Rf t) : TownAt L1 S1 Rf1 t := by
  have hne : t ≠ x := fun g => by subst g; rw [h.1.2] at hx; exact absurd hx (by decide)
  exact ⟨⟨E.1 t h.1.1, (E.2.1 t h.1.1).trans h.1.2⟩, fun j hj => ⟨by rw [E.2.2 t h.1.1 hne]; exact (h.2 j hj).1, E.1 _ (h.2 j hj).2.1, (E.2.1 _ (h.2 j hj).2.1).trans (h.2 j hj).2.2⟩⟩
theorem Ext.course (E : Ext L L1 S S1 Rf Rf1 x) (hx : (S x).1 < 7) (h : CourseAt L S Rf t) : CourseAt L1 S1 Rf1 t := by
  have hne : t ≠ x := fun g => by subst g; rw [h.1.2] at hx; exact absurd hx (by decide)
  exact ⟨⟨E.1 t h.1.1, (E.2.1 t h.1.1).trans h.1.2⟩, fun j hj => ⟨by rw [E.2.2 t h.1.1 hne]; exact (h.2 j hj).1, E.1 _ (h.2 j hj).2.1, (E.2.1 _ (h.2 j hj).2.1).trans (h.2 j hj).2.2⟩⟩
theorem Ext.state (E : Ext L L1 S S1 Rf Rf1 x) (hx : (S x).1 < 7) (h : StateAt L S Rf t) : StateAt L1 S1 Rf1 t := by
  have hne : t ≠ x := fun g => by subst g; rw [h.1.2] at hx; exact absurd hx (by decide)
  exact ⟨⟨E.1 t h.1.1, (E.2.1 t h.1.1).trans h.1.2⟩, ⟨by rw [E.2.2 t h.1.1 hne]; exact h.2.1.1, E.town hx h.2.1.2⟩, ⟨by rw [E.2.2 t h.1.1 hne]; exact h.2.2.1.1, E.course hx h.2.2.1.2⟩, fun j hj => ⟨by rw [E.2.2 t h.1.1 hne]; exact (h.2.2.2 j hj).1, E.1 _ (h.2.2.2 j hj).2.1, (E.2.1 _ (h.2.2.2 j hj).2.1).trans (h.2.2.2 j hj).2.2⟩⟩
theorem Ext.rule (E : Ext L L1 S S1 Rf Rf1 x) (hx : (S x).1 < 7) (h : RuleAt L S Rf t) : RuleAt L1 S1 Rf1 t := by
  have hne : t ≠ x := fun g => by subst g; rw [h.1.2] at hx; exact absurd hx (by decide)
  exact ⟨⟨E.1 t h.1.1, (E.2.1 t h.1.1).trans h.1.2⟩, by rw [E.2.2 t h.1.1 hne]; exact h.2.1, E.1 _ h.2.2.1, by rw [E.2.1 _ h.2.2.1]; exact h.2.2.2⟩
theorem Ext.cwf (E : Ext L L1 S S1 Rf Rf1 x) (hC : CW b L S Rf) (hx : x = b + 3 ∨ x = b + 27 ∨ x = b + 29) : CWf b L1 S1 Rf1 := by
  refine ⟨fun k hk => ⟨E.1 _ (hC.1.1 k hk).1, (E.2.1 _ (hC.1.1 k hk).1).trans (hC.1.1 k hk).2⟩, fun k j hk h0 => ?_⟩
  rw [E.2.2 _ (hC.1.1 k hk).1 ?_]
  · exact hC.1.2 k j hk h0
  · intro g
    have hz : ∀ q : Nat, (clF.getD 3 []).getD q 0 = 0 ∧ (clF.getD 27 []).getD q 0 = 0 ∧ (clF.getD 29 []).getD q 0 = 0 := fun q => ⟨rfl, rfl, rfl⟩
    rcases hx with h | h | h
    · have : k = 3 := by omega
      subst this
      exact h0 (hz j).1
    · have : k = 27 := by omega
      subst this
      exact h0 (hz j).2.1
    · have : k = 29 := by omega
      subst this
      exact h0 (hz j).2.2
theorem cw_x (hC : CW b L S Rf) (hx : x = b + 3 ∨ x = b + 27 ∨ x = b + 29) : (S x).1 < 7 ∧ x ∈ L := by
  rcases hx with h | h | h <;> subst h
  · rw [cw_S hC 3 rfl]; exact ⟨by decide, cw_mem hC 3 (by decide)⟩
  · rw [cw_S hC 27 rfl]; exact ⟨by decide, cw_mem hC 27 (by decide)⟩
  · rw [cw_S hC 29 rfl]; exact ⟨by decide, cw_mem hC 29 (by decide)⟩
/-- the row at x gets one more object, at the place k -/
theorem Ext.cw (E : Ext L L1 S S1 Rf Rf1 x) (hC : CW b L S Rf) (hx : x = b + 3 ∨ x = b + 27 ∨ x = b + 29) {k v : Nat} (hR : Rf1 x = va_up (Rf x) k (some v)) (h3 : x = b + 3 → RuleAt L1 S1 Rf1 v) (h27 : x = b + 27 → StateAt L1 S1 Rf1 v) (h29 : x = b + 29 → CourseAt L1 S1 Rf1 v) : CW b L1 S1 Rf1 := by
  obtain ⟨hx7, -⟩ := cw_x hC hx
  refine ⟨E.cwf hC hx, fun j q h => ?_, fun j q h => ?_, fun j q h => ?_⟩
  · by_cases g : b + 3 = x
    · rw [g, hR] at h
      by_cases gj : j = k
      · subst gj; rw [va_up_self] at h; cases h; exact h3 g.symm
      · rw [va_up_ne _ _ gj, ← g] at h; exact E.rule hx7 (hC.2.1 j q h)
    · rw [E.2.2 _ (cw_mem hC 3 (by decide)) g] at h; exact E.rule hx7 (hC.2.1 j q h)
  · by_cases g : b + 27 = x
    · rw [g, hR] at h
      by_cases gj : j = k
      · subst gj; rw [va_up_self] at h; cases h; exact h27 g.symm
      · rw [va_up_ne _ _ gj, ← g] at h; exact E.state hx7 (hC.2.2.1 j q h)
    · rw [E.2.2 _ (cw_mem hC 27 (by decide)) g] at h; exact E.state hx7 (hC.2.2.1 j q h)
  · by_cases g : b + 29 = x
    · rw [g, hR] at h
      by_cases gj : j = k
      · subst gj; rw [va_up_self] at h; cases h; exact h29 g.symm
      · rw [va_up_ne _ _ gj, ← g] at h; exact E.course hx7 (hC.2.2.2 j q h)
    · rw [E.2.2 _ (cw_mem hC 29 (by decide)) g] at h; exact E.course hx7 (hC.2.2.2 j q h)
end EXT
/-- new Course() at z -/
def nwC (z : Nat) (S : ST) (Rf : RT) (I : IT) (J : JT) : ST × RT × IT × JT := f0_init z (z + 1) (va_up S z (7, 0)) (va_up Rf z (fun _ => none)) (va_up I z (fun _ => 0)) (va_up J z (fun _ => 0))
/-- new State() at z -/
def nwS (z : Nat) (S : ST) (Rf : RT) (I : IT) (J : JT) : ST × RT × IT × JT := f8_init z (z + 1) (va_up S z (15, 0)) (va_up Rf z (fun _ => none)) (va_up I z (fun _ => 0)) (va_up J z (fun _ => 0))
section NW
variable {z a : Nat} {S : ST} {Rf : RT} {I : IT} {J : JT}
theorem nwC_S (h : a < z) : (nwC z S Rf I J).1 a = S a := by unfold nwC; rw [fS0 (by omega), va_up_ne _ _ (by omega)]
theorem nwC_R (h : a < z) : (nwC z S Rf I J).2.1 a = Rf a := by unfold nwC; rw [fR0 (by omega) (by omega), va_up_ne _ _ (by omega)]
theorem nwC_I (h : a < z) : (nwC z S Rf I J).2.2.1 a = I a := by unfold nwC; rw [fI0 (by omega) (by omega), va_up_ne _ _ (by omega)]
theorem nwC_J (h : a < z) : (nwC z S Rf I J).2.2.2 a = J a := by unfold nwC; rw [fJ0 (by omega) (by omega), va_up_ne _ _ (by omega)]
theorem nwS_S (h : a < z) : (nwS z S Rf I J).1 a = S a := by unfold nwS; rw [fS8 (by omega), va_up_ne _ _ (by omega)]
theorem nwS_R (h : a < z) : (nwS z S Rf I J).2.1 a = Rf a := by unfold nwS; rw [fR8 (by omega) (by omega), va_up_ne _ _ (by omega)]
theorem nwS_I (h : a < z) : (nwS z S Rf I J).2.2.1 a = I a := by unfold nwS; rw [fI8 (by omega) (by omega), va_up_ne _ _ (by omega)]
theorem nwS_J (h : a < z) : (nwS z S Rf I J).2.2.2 a = J a := by unfold nwS; rw [fJ8 (by omega) (by omega), va_up_ne _ _ (by omega)]
theorem nine {P : Nat → Prop} (h : P 0 ∧ P 1 ∧ P 2 ∧ P 3 ∧ P 4 ∧ P 5 ∧ P 6 ∧ P 7 ∧ P 8) : ∀ j, j < 9 → P j := by
  intro j hj
  obtain ⟨h0, h1, h2, h3, h4, h5, h6, h7, h8⟩ := h
  match j, hj with
  | 0, _ => exact h0
  | 1, _ => exact h1
  | 2, _ => exact h2
  | 3, _ => exact h3
  | 4, _ => exact h4
  | 5, _ => exact h5
  | 6, _ => exact h6
  | 7, _ => exact h7
  | 8, _ => exact h8
theorem f0_at {t : Nat} (ht : t < z) : (∀ j, j < 9 → (f0_init t z S Rf I J).2.1 t j = some (z + j) ∧ (f0_init t z S Rf I J).1 (z + j) = (0, [7, 7, 6, 6, 6, 6, 6, 6, 6].getD j 0)) := by
  have hn0 : t ≠ z := by omega
  have hne : ∀ k, t ≠ z + k := fun k => by omega
  apply nine
  refine ⟨?_, ?_, ?_, ?_, ?_, ?_, ?_, ?_, ?_⟩ <;> simp [f0_init, yb_let, va_up, up2R, hn0, hne]
theorem f9_at {t : Nat} (ht : t < z) : (∀ j, j < 8 → (f9_init t z S Rf I J).2.1 t j = some (z + j) ∧ (f9_init t z S Rf I J).1 (z + j) = (0, [7, 7, 7, 7, 6, 6, 6, 6].getD j 0)) := by
  have hn0 : t ≠ z := by omega
  have hne : ∀ k, t ≠ z + k := fun k => by omega
  intro j hj
  revert hj
  have h9 := nine (P := fun j => j < 8 → (f9_init t z S Rf I J).2.1 t j = some (z + j) ∧ (f9_init t z S Rf I J).1 (z + j) = (0, [7, 7, 7, 7, 6, 6, 6, 6].getD j 0)) (by
    refine ⟨?_, ?_, ?_, ?_, ?_, ?_, ?_, ?_, fun h => absurd h (by decide)⟩ <;> intro _ <;> simp [f9_init, yb_let, va_up, up2R, hn0, hne])
  intro hj
  exact h9 j (by omega) hj
end NW
