/-! RULE: one clause on both sides -/
def rgC (N b : Nat) (S : ST) (Rf : RT) (I : IT) (J : JT) : Option (Int32 × IT × JT) :=
  yb_b3 (f3_passWord N b S Rf I J) fun _ I J => yb_b3 (f6_readsSum N b S Rf I J) fun r I J => if r = 0 then some ((0 : Int32), I, J) else
  yb_b3 (f3_word N b S Rf I J) fun r I J => if r = (13 : Int32) then
    yb_b3 (f3_passWord N b S Rf I J) fun _ I J => yb_b3 (f6_readsTest N b S Rf 0 I J) fun r I J => if r = 0 then some ((0 : Int32), I, J) else yb_b3 (f6_put b S Rf (200014 : Int32) I J) fun _ I J => some ((1 : Int32), I, J)
  else yb_b3 (f6_put b S Rf (200013 : Int32) I J) fun _ I J => some ((1 : Int32), I, J)
/-- what reading clauses leaves -/
def FQ (b mb K : Nat) (I I1 I' I1' : IT) : Prop :=
  (∀ a, a ≠ b + 2 → a ≠ b + 62 → a ≠ b + 63 → I1 a = I a) ∧ (I1 (b + 2) 1 = I (b + 2) 1) ∧ (∀ a, a ≠ mb → a ≠ mb + 2 → a ≠ mb + 3 → a ≠ mb + 4 → a ≠ mb + 5 → a ≠ mb + 7 → I1' a = I' a) ∧ (∀ k, k ≠ 8 → k ≠ 9 → k ≠ 10 → k ≠ 12 → k ≠ 13 → k ≠ 14 → k ≠ 16 → I1' mb k = I' mb k) ∧ (∀ i, i < 400 * K → I1' (mb + 2) i = I' (mb + 2) i) ∧ (∀ i, i < 48 * K → I1' (mb + 4) i = I' (mb + 4) i) ∧ ∀ i, i < K → I1' (mb + 5) i = I' (mb + 5) i
section RIGHT
variable {N b mb n p p' K V i : Nat} {w : Nat → Nat} {tc tr : List Int32} {S : ST} {Rf : RT} {I I1 I2 I' I1' I2' : IT} {J J' : JT} {r : Int32}
theorem FQ.t2 (h : FQ b mb K I I1 I' I1') (g : FQ b mb K I1 I2 I1' I2') : FQ b mb K I I2 I' I2' :=
  ⟨fun a h1 h2 h3 => (g.1 a h1 h2 h3).trans (h.1 a h1 h2 h3), g.2.1.trans h.2.1, fun a h1 h2 h3 h4 h5 h6 => (g.2.2.1 a h1 h2 h3 h4 h5 h6).trans (h.2.2.1 a h1 h2 h3 h4 h5 h6), fun k h1 h2 h3 h4 h5 h6 h7 => (g.2.2.2.1 k h1 h2 h3 h4 h5 h6 h7).trans (h.2.2.2.1 k h1 h2 h3 h4 h5 h6 h7), fun i hi => (g.2.2.2.2.1 i hi).trans (h.2.2.2.2.1 i hi), fun i hi => (g.2.2.2.2.2.1 i hi).trans (h.2.2.2.2.2.1 i hi), fun i hi => (g.2.2.2.2.2.2 i hi).trans (h.2.2.2.2.2.2 i hi)⟩
theorem FR.fq (h : FR b mb K I I1 I' I1') : FQ b mb K I I1 I' I1' := ⟨h.1, h.2.1, fun a h1 h2 h3 _ _ h7 => h.2.2.1 a h1 h2 h3 h7, fun k h1 h2 h3 h4 h5 _ h7 => h.2.2.2.1 k h1 h2 h3 h4 h5 h7, h.2.2.2.2.1, fun i _ => by rw [h.2.2.1 _ (by omega) (by omega) (by omega) (by omega)], fun i _ => by rw [h.2.2.1 _ (by omega) (by omega) (by omega) (by omega)]⟩
/-- cells of the clauses' rows told -/
theorem PS.m45 {a j : Nat} {x : Int32} (h : PS b mb n w K p p' tc tr V I I') (ha : a = mb + 4 ∨ a = mb + 5) : PS b mb n w K p p' tc tr V I (up2 I' a j x) := by
  obtain ⟨hrd, hpc, hV, hK, hpm, hlen⟩ := PS_iff.mp h
  exact PS_iff.mpr ⟨hrd.keep rfl rfl rfl (by rw [up2_ne _ _ _ (by omega)]) (by rw [up2_ne _ _ _ (by omega)]) (by rw [up2_ne _ _ _ (by omega)]) (up2_ne _ _ _ (by omega)), hpc, hV, hK, hpm.cg (by rw [up2_ne _ _ _ (by omega)]) (by rw [up2_ne _ _ _ (by omega)]) (up2_ne _ _ _ (by omega)) (up2_ne _ _ _ (by omega)), hlen⟩
theorem FQ.m45 {a j : Nat} (x : Int32) (ha : (a = mb + 4 ∧ 48 * K ≤ j) ∨ (a = mb + 5 ∧ K ≤ j)) : FQ b mb K I I I' (up2 I' a j x) := ⟨fun _ _ _ _ => rfl, rfl, fun c h1 h2 h3 h4 h5 h6 => up2_ne _ _ _ (by omega), fun k _ _ _ _ _ _ _ => by rw [up2_ne _ _ _ (by omega)], fun i _ => by rw [up2_ne _ _ _ (by omega)], fun i hi => up2_at (by omega), fun i hi => up2_at (by omega)⟩
end RIGHT
