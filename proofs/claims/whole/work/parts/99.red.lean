/-! RULE: what tokens leave on the stack -/
def bl2 (x : Int64) : Prop := x = 0 ∨ x = 1
def Red (k j : Nat) (a : List Tk) : Prop := ∃ G : (Nat → Int64) → List Int64 → List Int64, ∀ W xs st, xs.length = k → (G W xs).length = j ∧ runT W a (xs ++ st) = some (G W xs ++ st)
def RedB (k j : Nat) (a : List Tk) : Prop := ∃ G : (Nat → Int64) → List Int64 → List Int64, ∀ W xs, xs.length = k → (G W xs).length = j ∧ (∀ st, runT W a (xs ++ st) = some (G W xs ++ st)) ∧ ((∀ x, x ∈ xs → bl2 x) → ∀ y, y ∈ G W xs → bl2 y)
theorem Red.nil (k : Nat) : Red k k [] := ⟨fun _ xs => xs, fun _ _ _ h => ⟨h, rfl⟩⟩
theorem RedB.nil (k : Nat) : RedB k k [] := ⟨fun _ xs => xs, fun _ _ h => ⟨h, fun _ => rfl, fun q => q⟩⟩
theorem Red.app {k j l : Nat} {a c : List Tk} (h : Red k j a) (g : Red j l c) : Red k l (a ++ c) := by
  obtain ⟨G, h⟩ := h
  obtain ⟨H, g⟩ := g
  refine ⟨fun W xs => H W (G W xs), fun W xs st e => ?_⟩
  obtain ⟨h1, h2⟩ := h W xs st e
  obtain ⟨g1, g2⟩ := g W (G W xs) st h1
  exact ⟨g1, by rw [runT_app, h2]; exact g2⟩
theorem RedB.app {k j l : Nat} {a c : List Tk} (h : RedB k j a) (g : RedB j l c) : RedB k l (a ++ c) := by
  obtain ⟨G, h⟩ := h
  obtain ⟨H, g⟩ := g
  refine ⟨fun W xs => H W (G W xs), fun W xs e => ?_⟩
  obtain ⟨h1, h2, h3⟩ := h W xs e
  obtain ⟨g1, g2, g3⟩ := g W (G W xs) h1
  exact ⟨g1, fun st => by rw [runT_app, h2]; exact g2 st, fun q => g3 (h3 q)⟩
theorem Red.val {t : Tk} (h : t.1 ≤ 1) (k : Nat) : Red k (k + 1) [t] := by
  obtain ⟨s, x⟩ := t
  have h : s ≤ 1 := h
  by_cases c : s = 0
  · subst c
    exact ⟨fun W xs => (nI x).toInt64 :: xs, fun W xs st e => ⟨by simp [e], rfl⟩⟩
  · have e : s = 1 := by omega
    subst e
    exact ⟨fun W xs => W x :: xs, fun W xs st e => ⟨by simp [e], rfl⟩⟩
theorem stepT_op {s : Nat} (W : Nat → Int64) (h : 2 ≤ s) (h1 : s ≠ 11) (y x : Int64) (st : List Int64) : stepT W (s, 0) (y :: x :: st) = some (opV s x y :: st) := by
  unfold stepT
  show (if s = 0 then _ else if s = 1 then _ else if s = 11 then _ else _) = _
  rw [if_neg (by omega), if_neg (by omega), if_neg h1]
  rfl
theorem Red.op {s : Nat} (h : 2 ≤ s) (h1 : s ≠ 11) (k : Nat) : Red (k + 2) (k + 1) [(s, 0)] := by
  refine ⟨fun W xs => match xs with
    | y :: x :: r => opV s x y :: r
    | r => r, fun W xs st e => ?_⟩
  cases xs with
  | nil => simp at e
  | cons y xs =>
    cases xs with
    | nil => simp at e
    | cons x r =>
      refine ⟨by simp at e ⊢; exact e, ?_⟩
      show (match stepT W (s, 0) (y :: x :: (r ++ st)) with
        | none => none
        | some s1 => runT W [] s1) = _
      rw [stepT_op W h h1]
      rfl
theorem RedB.op {s : Nat} (h : s = 12 ∨ s = 13) (k : Nat) : RedB (k + 2) (k + 1) [(s, 0)] := by
  refine ⟨fun W xs => match xs with
    | y :: x :: r => opV s x y :: r
    | r => r, fun W xs e => ?_⟩
  cases xs with
  | nil => simp at e
  | cons y xs =>
    cases xs with
    | nil => simp at e
    | cons x r =>
      refine ⟨by simp at e ⊢; exact e, fun st => ?_, fun q z hz => ?_⟩
      · show (match stepT W (s, 0) (y :: x :: (r ++ st)) with
          | none => none
          | some s1 => runT W [] s1) = _
        rw [stepT_op W (by omega) (by omega)]
        rfl
      · rcases List.mem_cons.mp hz with rfl | hz
        · have hy := q y (by simp)
          have hx := q x (by simp)
          rcases h with rfl | rfl <;> rcases hy with rfl | rfl <;> rcases hx with rfl | rfl <;> (show (_ : Int64) = 0 ∨ _ = 1) <;> decide
        · exact q z (by simp [hz])
theorem RedB.not (k : Nat) : RedB (k + 1) (k + 1) [(11, 0)] := by
  refine ⟨fun W xs => match xs with
    | x :: r => (1 - x) :: r
    | r => r, fun W xs e => ?_⟩
  cases xs with
  | nil => simp at e
  | cons x r =>
    refine ⟨by simpa using e, fun st => rfl, fun q z hz => ?_⟩
    rcases List.mem_cons.mp hz with rfl | hz
    · rcases q x (by simp) with rfl | rfl <;> (show (_ : Int64) = 0 ∨ _ = 1) <;> decide
    · exact q z (by simp [hz])
theorem opV_b {s : Nat} (h : 6 ≤ s) (h1 : s ≤ 10) (x y : Int64) : bl2 (opV s x y) := by
  unfold bl2 opV
  rcases (show s = 6 ∨ s = 7 ∨ s = 8 ∨ s = 9 ∨ s = 10 by omega) with rfl | rfl | rfl | rfl | rfl <;> simp only [reduceIte, Nat.reduceEqDiff] <;> split <;> simp
theorem Red.lift {a : List Tk} (h : Red 0 1 a) (k : Nat) : Red k (k + 1) a := by
  obtain ⟨G, h⟩ := h
  refine ⟨fun W xs => G W [] ++ xs, fun W xs st e => ?_⟩
  obtain ⟨h1, h2⟩ := h W [] (xs ++ st) rfl
  exact ⟨by rw [List.length_append, h1, e]; omega, by rw [List.nil_append] at h2; rw [h2, List.append_assoc]⟩
theorem RedB.cmp {a c : List Tk} {s : Nat} (h : Red 0 1 a) (g : Red 0 1 c) (h6 : 6 ≤ s) (h10 : s ≤ 10) (k : Nat) : RedB k (k + 1) (a ++ c ++ [(s, 0)]) := by
  obtain ⟨G, h⟩ := h
  obtain ⟨H, g⟩ := g
  have one : ∀ l : List Int64, l.length = 1 → ∃ x, l = [x] := fun l hl => by
    cases l with
    | nil => simp at hl
    | cons x r => cases r with
      | nil => exact ⟨x, rfl⟩
      | cons y r => simp at hl
  refine ⟨fun W xs => opV s ((G W []).headD 0) ((H W []).headD 0) :: xs, fun W xs e => ⟨by simp [e], fun st => ?_, fun q z hz => ?_⟩⟩
  · obtain ⟨h1, h2⟩ := h W [] (xs ++ st) rfl
    obtain ⟨g1, g2⟩ := g W [] (G W [] ++ (xs ++ st)) rfl
    obtain ⟨x, hx⟩ := one _ h1
    obtain ⟨y, hy⟩ := one _ g1
    rw [List.nil_append] at h2 g2
    rw [runT_app, runT_app, h2]
    show (match runT W c (G W [] ++ (xs ++ st)) with
      | none => none
      | some s1 => runT W [(s, 0)] s1) = _
    rw [g2, hx, hy]
    show (match stepT W (s, 0) (y :: x :: (xs ++ st)) with
      | none => none
      | some s1 => runT W [] s1) = _
    rw [stepT_op W (by omega) (by omega)]
    show some (opV s x y :: (xs ++ st)) = some (opV s ((G W []).headD 0) ((H W []).headD 0) :: xs ++ st)
    rw [hx, hy]
    rfl
  · rcases List.mem_cons.mp hz with rfl | hz
    · exact opV_b h6 h10 _ _
    · exact q z hz
theorem Red.sem {a : List Tk} (h : Red 0 1 a) : SemA a := by
  obtain ⟨G, h⟩ := h
  refine ⟨fun W => (G W []).headD 0, fun W st => ?_⟩
  obtain ⟨h1, h2⟩ := h W [] st rfl
  rw [List.nil_append] at h2
  rw [h2]
  cases hg : G W [] with
  | nil => rw [hg] at h1; simp at h1
  | cons x r =>
    rw [hg] at h1
    cases r with
    | nil => show some ([x] ++ st) = some ((G W []).headD 0 :: st); rw [hg]; rfl
    | cons y r => simp at h1
theorem RedB.sem {a : List Tk} (h : RedB 0 1 a) : SemB a := by
  obtain ⟨G, h⟩ := h
  refine ⟨fun W => (G W []).headD 0, fun W => ?_⟩
  obtain ⟨h1, h2, h3⟩ := h W [] rfl
  cases hg : G W [] with
  | nil => rw [hg] at h1; simp at h1
  | cons x r =>
    rw [hg] at h1 h2 h3
    cases r with
    | nil =>
      show ((G W []).headD 0 = 0 ∨ (G W []).headD 0 = 1) ∧ ∀ st, runT W a st = some ((G W []).headD 0 :: st)
      rw [hg]
      exact ⟨h3 (fun x hx => by cases hx) x (by simp), fun st => by have := h2 st; rw [List.nil_append] at this; rw [this]; rfl⟩
    | cons y r => simp at h1
