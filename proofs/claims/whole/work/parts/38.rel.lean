/-! STAGE 2. What holds between the class's tables and the reference's between two calls. The reference's said[] (142 ints) is the picture; its ranges stand on that side alone -/
/-- x is one of the numbers lo .. hi -/
def inr (x : Int32) (lo hi : Int) : Prop := lo ≤ x.toInt ∧ x.toInt ≤ hi
/-- the bit that tells a and j twins, in a's row -/
def twM (v : Nat → Int32) (a j : Nat) : Int32 := (v (13 + 5 * a) >>> (nI j &&& 31)) &&& 1
/-- ranges of a TOWN's text and its course, in the reference's layout: P people, C cases, DAY D -/
def SaidOK (v : Nat → Int32) (P C D : Nat) : Prop :=
  (v 2 = nI P ∧ P ≤ 7) ∧ (v 3 = nI C ∧ C ≤ 6) ∧ (v 4 = nI D ∧ D ≤ 1200) ∧
  ((v 0 = 0 ∧ v 1 = 0 ∧ P = 0 ∧ C = 0 ∧ D = 0) ∨ ∃ G Y F La : Nat, v 0 = nI G ∧ v 1 = nI Y ∧ v 5 = nI F ∧ v 6 = nI La ∧ 1 ≤ G ∧ G ≤ 99 ∧ 5 ≤ Y ∧ Y ≤ 99 ∧ F ≤ 9999 ∧ La ≤ 9999) ∧
  (∀ p : Nat, p < P → ∃ A W Z : Nat, v (10 + 5 * p) = nI A ∧ v (11 + 5 * p) = nI W ∧ v (12 + 5 * p) = nI Z ∧ A ≤ 9999 ∧ W ≤ 9 ∧ Z ≤ 9) ∧
  (∀ c : Nat, c < C → ∃ a g n f : Nat, v (45 + 11 * c) = nI a ∧ v (46 + 11 * c) = nI g ∧ v (47 + 11 * c) = nI n ∧ v (48 + 11 * c) = nI f ∧ a < P ∧ 1 ≤ g ∧ g ≤ 9 ∧ 1 ≤ n ∧ n ≤ 9 ∧ f ≤ 99) ∧
  (∀ c : Nat, c < C → (v (49 + 11 * c) = -1 ∨ ∃ j q : Nat, v (49 + 11 * c) = nI j ∧ j < P ∧ v (50 + 11 * c) = nI q ∧ 1 ≤ q ∧ q ≤ 9) ∧
    ((v (51 + 11 * c) = -1 ∧ v (54 + 11 * c) = 0) ∨ ∃ j t : Nat, v (51 + 11 * c) = nI j ∧ j < P ∧ v (54 + 11 * c) = nI t ∧ 1 ≤ t ∧ t ≤ D)) ∧
  (∀ j a : Nat, j < P → a < P → twM v a j = twM v j a)
/-- FACTS, in the reference's layout -/
def FactsOK (v : Nat → Int32) (M : Nat) : Prop :=
  v 141 = nI M ∧ M ≤ 10 ∧ ∀ k : Nat, k < M → ∃ w : Nat, v (112 + 3 * k) = nI w ∧ w ≤ 7
/-- a Town's cells g 0 (the object) .. g 8 against the picture; the course's wit and ruled lie elsewhere -/
def TownR (g : Nat → Nat → Int32) (v : Nat → Int32) (P C : Nat) : Prop :=
  (g 0 9 = v 0 ∧ g 0 10 = v 1 ∧ g 0 13 = v 2 ∧ g 0 14 = v 3) ∧ (v 0 ≠ 0 → g 0 8 = 1 ∧ g 0 11 = v 5 ∧ g 0 12 = v 6) ∧ (v 0 = 0 → g 0 8 = 0) ∧
  (∀ p : Nat, p < P → g 1 p = v (10 + 5 * p) ∧ g 3 p = v (12 + 5 * p) ∧ g 4 p = v (13 + 5 * p)) ∧
  (∀ c : Nat, c < C → g 5 c = v (45 + 11 * c) ∧ g 6 c = v (46 + 11 * c) ∧ g 7 c = v (47 + 11 * c) ∧ g 8 c = v (48 + 11 * c))
/-- a Course's cells g 0 .. g 9 against the picture -/
def CourseR (g : Nat → Nat → Int32) (v : Nat → Int32) (P C : Nat) : Prop :=
  g 0 9 = v 4 ∧ (∀ p : Nat, p < P → g 1 p = v (11 + 5 * p) ∧ g 2 p = v (14 + 5 * p)) ∧
  (∀ c : Nat, c < C → g 3 c = v (49 + 11 * c) ∧ g 4 c = v (50 + 11 * c) ∧ (v (49 + 11 * c) ≠ -1 → g 5 c = v (55 + 11 * c)) ∧ g 6 c = v (51 + 11 * c) ∧ g 7 c = v (52 + 11 * c) ∧ g 8 c = v (53 + 11 * c) ∧ g 9 c = v (54 + 11 * c)) ∧
  (v 0 ≠ 0 → ∀ c : Nat, C ≤ c → c < 6 → g 3 c = -1)
/-- a State's 23 cells against the picture, the rule in force and the seed -/
def StateR (g : Nat → Nat → Int32) (v : Nat → Int32) (fo x : Int32) (P C D M : Nat) : Prop :=
  SaidOK v P C D ∧ FactsOK v M ∧ TownR (fun k => g (1 + k)) v P C ∧ CourseR (fun k => g (10 + k)) v P C ∧ D ≤ 999 ∧ (g 0 6 = fo ∧ g 0 7 = x ∧ ¬ x < 0) ∧
  g 0 5 = v 141 ∧ ∀ k : Nat, k < M → g 20 k = v (111 + 3 * k) ∧ g 21 k = v (112 + 3 * k) ∧ g 22 k = v (113 + 3 * k)
/-- the TAPE: its length, its bytes (signed there, unsigned here) -/
def TapeR (n : Int32) (t : Nat → Int32) (n' : Int32) (t' : Nat → Int32) : Prop :=
  n = n' ∧ inr n 0 400 ∧ ∀ k : Nat, (k : Int) < n.toInt → t k = t' k &&& 255 ∧ (t' k).toInt8.toInt32 = t' k
theorem up2_same (I : IT) (a k : Nat) (v : Int32) : up2 I a k v a k = v := by simp [up2, upd]
theorem up2_other (I : IT) {a k c j : Nat} {v : Int32} (h : c ≠ a ∨ j ≠ k) : up2 I a k v c j = I c j := by
  unfold up2
  by_cases hc : c = a
  · subst hc
    rw [if_pos rfl]
    have hj : j ≠ k := h.elim (fun q => absurd rfl q) id
    simp [upd, hj]
  · rw [if_neg hc]
theorem TapeR.le {n n' x : Int32} {t t' : Nat → Int32} (h : TapeR n t n' t') (h0 : ¬ x < 0) (h1 : x ≤ n) : TapeR x t x t' := by
  obtain ⟨rfl, hr, hb⟩ := h
  have g0 : 0 ≤ x.toInt := by
    rw [Int32.lt_iff_toInt_lt] at h0
    have : (0 : Int32).toInt = 0 := rfl
    omega
  have g1 : x.toInt ≤ n.toInt := Int32.le_iff_toInt_le.mp h1
  unfold inr at hr
  exact ⟨rfl, ⟨g0, by omega⟩, fun k hk => hb k (by omega)⟩
