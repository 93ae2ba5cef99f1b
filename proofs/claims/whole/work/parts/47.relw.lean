/-! THE RELATION between two calls -/
theorem TownR.congr {g g1 : Nat → Nat → Int32} {v : Nat → Int32} {P C : Nat} (h : ∀ k, k ≤ 8 → g1 k = g k) (q : TownR g v P C) : TownR g1 v P C := by
  unfold TownR at q ⊢
  rw [h 0 (by decide), h 1 (by decide), h 3 (by decide), h 4 (by decide), h 5 (by decide), h 6 (by decide), h 7 (by decide), h 8 (by decide)]
  exact q
theorem CourseR.congr {g g1 : Nat → Nat → Int32} {v : Nat → Int32} {P C : Nat} (h : ∀ k, k ≤ 9 → g1 k = g k) (q : CourseR g v P C) : CourseR g1 v P C := by
  unfold CourseR at q ⊢
  rw [h 0 (by decide), h 1 (by decide), h 2 (by decide), h 3 (by decide), h 4 (by decide), h 5 (by decide), h 6 (by decide), h 7 (by decide), h 8 (by decide), h 9 (by decide)]
  exact q
theorem StateR.congr {g g1 : Nat → Nat → Int32} {v : Nat → Int32} {fo x : Int32} {P C D M : Nat} (h : ∀ k, k ≤ 22 → g1 k = g k) (q : StateR g v fo x P C D M) : StateR g1 v fo x P C D M := by
  obtain ⟨q1, q2, q3, q4, q5, q6, q7, q8⟩ := q
  refine ⟨q1, q2, q3.congr (fun k hk => h (1 + k) (by omega)), q4.congr (fun k hk => h (10 + k) (by omega)), q5, ?_, ?_, ?_⟩
  · rw [h 0 (by decide)]; exact q6
  · rw [h 0 (by decide)]; exact q7
  · rw [h 20 (by decide), h 21 (by decide), h 22 (by decide)]; exact q8
def Slot (b a : Nat) : Prop := a = b + 3 ∨ a = b + 27 ∨ a = b + 29
def slotLen (b a : Nat) : Nat := if a = b + 3 then 2 else if a = b + 27 then 23 else 10
/-- what was made lies apart -/
def Dyn (b : Nat) (L : List Nat) (Rf : RT) : Prop :=
  (∀ a ∈ L, a < b + 75 ∨ b + 105 ≤ a) ∧ (∀ a k q, Slot b a → Rf a k = some q → b + 105 ≤ q ∧ ∀ i, i < slotLen b a → q + i ∈ L) ∧
  (∀ a k q a' k' q', Slot b a → Slot b a' → Rf a k = some q → Rf a' k' = some q' → (a ≠ a' ∨ k ≠ k') → q + slotLen b a ≤ q' ∨ q' + slotLen b a' ≤ q)
def ImgR (b mb K : Nat) (Rf : RT) (I I' : IT) : Prop := ∀ k, k < 4 → (Rf (b + 27) k = none ∧ I' (mb + 29) k = 0) ∨
  ∃ q P C D M, Rf (b + 27) k = some q ∧ I' (mb + 29) k = 1 ∧ StateR (fun i => I (q + i)) (fun i => I' (mb + 26) (142 * k + i)) (I' (mb + 27) k) (I' (mb + 28) k) P C D M ∧ FoR (I' (mb + 27) k) K
def PastR (b mb P C : Nat) (Rf : RT) (I I' : IT) : Prop := ∃ nx u : Nat, nx < 20 ∧ u ≤ 20 ∧ I (b + 28) 1 = nI nx ∧ I (b + 28) 2 = nI u ∧ I' mb 24 = nI u ∧
  ∀ j, j < u → ∃ q D, Rf (b + 29) ((nx + 20 - u + j) % 20) = some q ∧ D ≤ 999 ∧ SaidOK (fun i => I' (mb + 11) (111 * j + i)) P C D ∧ TownR (fun k => I (b + 5 + k)) (fun i => I' (mb + 11) (111 * j + i)) P C ∧ CourseR (fun k => I (q + k)) (fun i => I' (mb + 11) (111 * j + i)) P C
/-- the tables of orders, made once -/
def TblR (b : Nat) (I : IT) : Prop := (I (b + 34) = fun k => lo4.getD k 0) ∧ (I (b + 35) = fun k => sh4.getD k 0) ∧ I (b + 36) = fun k => la4.getD k 0
theorem TblR.cg {b : Nat} {I I1 : IT} (h : TblR b I) (hz : ∀ a, b + 34 ≤ a → a ≤ b + 36 → I1 a = I a) : TblR b I1 := by
  unfold TblR
  rw [hz _ (by omega) (by omega), hz _ (by omega) (by omega), hz _ (by omega) (by omega)]
  exact h
def RelB (b mb : Nat) (L : List Nat) (S : ST) (Rf : RT) (I I' : IT) (P C D M K : Nat) (Rl : Nat → List (List Tk × Option (List Tk))) : Prop :=
  mb = b + 75 ∧ (CW b L S Rf ∧ TblR b I) ∧ Dyn b L Rf ∧ TapeR (I b 14) (I (b + 1)) (I' mb 1) (I' (mb + 1)) ∧ StateR (fun k => I (b + 4 + k)) (I' (mb + 10)) (I' mb 21) (I' mb 22) P C D M ∧ FoR (I' mb 21) K ∧ (I b 15 = nI K ∧ I' mb 2 = nI K ∧ RulesR b mb K S Rf I I' Rl) ∧ ImgR b mb K Rf I I' ∧ PastR b mb P C Rf I I'
def RelY : RelT := fun b mb L S Rf I _ I' _ => ∃ P C D M K Rl, RelB b mb L S Rf I I' P C D M K Rl
/-- what lasts is as it was -/
def Same (b : Nat) (I I1 : IT) : Prop := ∀ a, (a = b ∨ a = b + 1 ∨ (b + 4 ≤ a ∧ a ≤ b + 26) ∨ a = b + 28 ∨ b + 105 ≤ a ∨ (b + 34 ≤ a ∧ a ≤ b + 36)) → I1 a = I a
def SameM (mb : Nat) (I I1 : IT) : Prop := (I1 mb 1 = I mb 1 ∧ I1 mb 2 = I mb 2 ∧ I1 mb 21 = I mb 21 ∧ I1 mb 22 = I mb 22 ∧ I1 mb 24 = I mb 24) ∧ ∀ k, (k = 1 ∨ k = 2 ∨ k = 4 ∨ k = 5 ∨ k = 10 ∨ k = 11 ∨ (26 ≤ k ∧ k ≤ 29)) → I1 (mb + k) = I (mb + k)
theorem Same.rf (b : Nat) (I : IT) : Same b I I := fun _ _ => rfl
theorem SameM.rf (mb : Nat) (I : IT) : SameM mb I I := ⟨⟨rfl, rfl, rfl, rfl, rfl⟩, fun _ _ => rfl⟩
theorem Same.tr {b : Nat} {I I1 I2 : IT} (h : Same b I I1) (g : Same b I1 I2) : Same b I I2 := fun a q => (g a q).trans (h a q)
theorem SameM.tr {mb : Nat} {I I1 I2 : IT} (h : SameM mb I I1) (g : SameM mb I1 I2) : SameM mb I I2 :=
  ⟨⟨g.1.1.trans h.1.1, g.1.2.1.trans h.1.2.1, g.1.2.2.1.trans h.1.2.2.1, g.1.2.2.2.1.trans h.1.2.2.2.1, g.1.2.2.2.2.trans h.1.2.2.2.2⟩, fun k q => (g.2 k q).trans (h.2 k q)⟩
/-- only the reference's stack's top changed -/
theorem SameM.top {mb : Nat} {I I1 : IT} (h : ∀ q k, (q ≠ mb ∨ k ≠ 18) → I1 q k = I q k) : SameM mb I I1 :=
  ⟨⟨h _ _ (Or.inr (by decide)), h _ _ (Or.inr (by decide)), h _ _ (Or.inr (by decide)), h _ _ (Or.inr (by decide)), h _ _ (Or.inr (by decide))⟩, fun k _ => funext fun j => h _ j (Or.inl (by omega))⟩
theorem RulesR.keep {b mb K : Nat} {S : ST} {Rf : RT} {I I' I1 I1' : IT} {Rl : Nat → List (List Tk × Option (List Tk))} (hq : ∀ k q, Rf (b + 3) k = some q → b + 105 ≤ q) (h : RulesR b mb K S Rf I I' Rl) (hs : ∀ a, b + 105 ≤ a → I1 a = I a) (h2 : I1' (mb + 2) = I' (mb + 2)) (h4 : I1' (mb + 4) = I' (mb + 4)) (h5 : I1' (mb + 5) = I' (mb + 5)) : RulesR b mb K S Rf I1 I1' Rl := by
  refine ⟨h.1, fun k hk => ?_⟩
  obtain ⟨q, e1, e2, e3, e4, e5, e6, e7, e8⟩ := h.2 k hk
  have hqb := hq k q e1
  exact ⟨q, e1, e2, e3, by rw [hs _ (by omega)]; exact e4, e5, by rw [h5]; exact e6, e7, e8.congr h4 h2⟩
theorem CoreR.keep {b mb P C D : Nat} {I I' I1 I1' : IT} (h : CoreR b mb I I' P C D) (hs : ∀ a, b + 5 ≤ a → a ≤ b + 23 → I1 a = I a) (h10 : I1' (mb + 10) = I' (mb + 10)) : CoreR b mb I1 I1' P C D := by
  unfold CoreR
  rw [h10]
  exact ⟨h.1, h.2.1.congr (fun k hk => hs _ (by omega) (by omega)), h.2.2.congr (fun k hk => hs _ (by omega) (by omega))⟩
section KEEP
variable {b mb P C D M K : Nat} {L : List Nat} {S : ST} {Rf : RT} {I I' I1 I1' : IT} {Rl : Nat → List (List Tk × Option (List Tk))}
theorem RelB.keep (h : RelB b mb L S Rf I I' P C D M K Rl) (hs : Same b I I1) (hm : SameM mb I' I1') : RelB b mb L S Rf I1 I1' P C D M K Rl := by
  obtain ⟨h1, h2, h3, h4, h5, h6, ⟨h7, h8, h9⟩, h10, h11⟩ := h
  obtain ⟨⟨m1, m2, m21, m22, m24⟩, mk⟩ := hm
  have hd : ∀ a, b + 105 ≤ a → I1 a = I a := fun a ha => hs a (by omega)
  refine ⟨h1, ⟨h2.1, h2.2.cg (fun a g1 g2 => hs a (by omega))⟩, h3, ?_, ?_, ?_, ⟨?_, ?_, ?_⟩, ?_, ?_⟩
  · rw [hs b (Or.inl rfl), hs (b + 1) (Or.inr (Or.inl rfl)), m1, mk 1 (by decide)]; exact h4
  · rw [m21, m22, mk 10 (by decide)]
    exact h5.congr (fun k hk => hs _ (by omega))
  · rw [m21]; exact h6
  · rw [hs b (Or.inl rfl)]; exact h7
  · rw [m2]; exact h8
  · exact h9.keep (fun k q e => (h3.2.1 _ k q (Or.inl rfl) e).1) hd (mk 2 (by decide)) (mk 4 (by decide)) (mk 5 (by decide))
  · intro k hk
    rw [mk 29 (by decide), mk 26 (by decide), mk 27 (by decide), mk 28 (by decide)]
    rcases h10 k hk with q | ⟨q, P, C, D, M, e1, e2, e3, e4⟩
    · exact Or.inl q
    · have hq := (h3.2.1 _ k q (Or.inr (Or.inl rfl)) e1).1
      exact Or.inr ⟨q, P, C, D, M, e1, e2, e3.congr (fun i _ => hd _ (by omega)), e4⟩
  · obtain ⟨nx, u, g1, g2, g3, g4, g5, g6⟩ := h11
    refine ⟨nx, u, g1, g2, ?_, ?_, ?_, fun j hj => ?_⟩
    · rw [hs (b + 28) (by omega)]; exact g3
    · rw [hs (b + 28) (by omega)]; exact g4
    · rw [m24]; exact g5
    · obtain ⟨q, D, e1, e2, e3, e4, e5⟩ := g6 j hj
      have hq := (h3.2.1 _ _ q (Or.inr (Or.inr rfl)) e1).1
      rw [mk 11 (by decide)]
      exact ⟨q, D, e1, e2, e3, e4.congr (fun k hk => hs _ (by omega)), e5.congr (fun k _ => hd _ (by omega))⟩
theorem RelB.core (h : RelB b mb L S Rf I I' P C D M K Rl) : CoreR b mb I I' P C D := by
  obtain ⟨h1, h2, h3, h4, ⟨q1, q2, q3, q4, q5⟩, h6⟩ := h
  refine ⟨q1, q3.congr (fun k hk => ?_), q4.congr (fun k hk => ?_)⟩
  · show I (b + 5 + k) = I (b + 4 + (1 + k)); congr 1; omega
  · show I (b + 14 + k) = I (b + 4 + (10 + k)); congr 1; omega
theorem RelB.rules (h : RelB b mb L S Rf I I' P C D M K Rl) : RulesR b mb K S Rf I I' Rl := h.2.2.2.2.2.2.1.2.2
theorem RelB.fo (h : RelB b mb L S Rf I I' P C D M K Rl) : FoR (I' mb 21) K := h.2.2.2.2.2.1
theorem RelB.f6 (h : RelB b mb L S Rf I I' P C D M K Rl) : I (b + 4) 6 = I' mb 21 := h.2.2.2.2.1.2.2.2.2.2.1.1
theorem RelB.d999 (h : RelB b mb L S Rf I I' P C D M K Rl) : D ≤ 999 := h.2.2.2.2.1.2.2.2.2.1
end KEEP
