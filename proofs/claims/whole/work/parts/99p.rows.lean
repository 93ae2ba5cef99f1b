/-! RULE: clauses, told one behind the other -/
abbrev Cls : Type := List (List Tk × Option (List Tk))
def trR : Cls → List Int32
  | [] => []
  | x :: r => x.1.map tkI ++ ((x.2.getD []).map tkI ++ trR r)
/-- one row of the reference's clauses -/
def Rw1 (f : Nat → Int32) (K i s : Nat) (x : List Tk × Option (List Tk)) : Prop :=
  f (48 * K + 4 * i) = nI s ∧ f (48 * K + 4 * i + 1) = nI (s + x.1.length) ∧ ((x.2 = none ∧ f (48 * K + 4 * i + 2) = -1) ∨ ∃ u, x.2 = some u ∧ f (48 * K + 4 * i + 2) = nI (s + x.1.length) ∧ f (48 * K + 4 * i + 3) = nI (s + x.1.length + u.length))
def RwR (f : Nat → Int32) (K : Nat) : Nat → Nat → Cls → Prop
  | _, _, [] => True
  | i, s, x :: r => Rw1 f K i s x ∧ RwR f K (i + 1) (s + x.1.length + (x.2.getD []).length) r
theorem trR_snoc : ∀ (c : Cls) (x : List Tk × Option (List Tk)), trR (c ++ [x]) = trR c ++ (x.1.map tkI ++ (x.2.getD []).map tkI) := by
  intro c x
  induction c with
  | nil => show x.1.map tkI ++ ((x.2.getD []).map tkI ++ []) = [] ++ _; rw [List.append_nil, List.nil_append]
  | cons y c ih => show y.1.map tkI ++ ((y.2.getD []).map tkI ++ trR (c ++ [x])) = y.1.map tkI ++ ((y.2.getD []).map tkI ++ trR c) ++ _; rw [ih]; simp only [List.append_assoc]
theorem encR_snoc : ∀ (c : Cls) (x : List Tk × Option (List Tk)), encR (c ++ [x]) = encR c ++ encC x := by
  intro c x
  induction c with
  | nil => show encC x ++ [] = [] ++ encC x; rw [List.append_nil, List.nil_append]
  | cons y c ih => show encC y ++ encR (c ++ [x]) = encC y ++ encR c ++ encC x; rw [ih, List.append_assoc]
theorem RwR.snoc {f : Nat → Int32} {K : Nat} : ∀ (c : Cls) (x : List Tk × Option (List Tk)) (i s : Nat), RwR f K i s c → Rw1 f K (i + c.length) (s + (trR c).length) x → RwR f K i s (c ++ [x]) := by
  intro c x
  induction c with
  | nil => intro i s _ h; exact ⟨h, trivial⟩
  | cons y c ih =>
    intro i s h g
    refine ⟨h.1, ih (i + 1) _ h.2 ?_⟩
    have e1 : i + (y :: c).length = i + 1 + c.length := by simp; omega
    have e2 : s + (trR (y :: c)).length = s + y.1.length + (y.2.getD []).length + (trR c).length := by show s + (y.1.map tkI ++ ((y.2.getD []).map tkI ++ trR c)).length = _; simp; omega
    rw [e1, e2] at g
    exact g
theorem Rw1.cg {f g : Nat → Int32} {K i s : Nat} {x : List Tk × Option (List Tk)} (h : Rw1 f K i s x) (e : ∀ j, 48 * K + 4 * i ≤ j → j < 48 * K + 4 * i + 4 → g j = f j) : Rw1 g K i s x := by
  unfold Rw1
  rw [e _ (by omega) (by omega), e _ (by omega) (by omega), e _ (by omega) (by omega), e _ (by omega) (by omega)]
  exact h
theorem RwR.cg {f g : Nat → Int32} {K : Nat} : ∀ (c : Cls) (i s : Nat), RwR f K i s c → (∀ j, 48 * K + 4 * i ≤ j → j < 48 * K + 4 * (i + c.length) → g j = f j) → RwR g K i s c := by
  intro c
  induction c with
  | nil => intro i s _ _; trivial
  | cons y c ih =>
    intro i s h e
    exact ⟨h.1.cg (fun j h1 h2 => e j h1 (by simp; omega)), ih (i + 1) _ h.2 (fun j h1 h2 => e j (by omega) (by simp; omega))⟩
theorem ClsR_of {I : IT} {mb K : Nat} : ∀ (c : Cls) (i s : Nat), RwR (I (mb + 4)) K i s c → TokAt (I (mb + 2)) (400 * K + s) (trR c) → s + (trR c).length ≤ 400 → ClsR I mb K i c := by
  intro c
  induction c with
  | nil => intro i s _ _ _; trivial
  | cons y c ih =>
    intro i s h ht hl
    obtain ⟨⟨h1, h2, h3⟩, h4⟩ := h
    have ht' : TokAt (I (mb + 2)) (400 * K + s) (y.1.map tkI ++ ((y.2.getD []).map tkI ++ trR c)) := ht
    have hl' : s + (y.1.length + ((y.2.getD []).length + (trR c).length)) ≤ 400 := by
      have : (trR (y :: c)).length = y.1.length + ((y.2.getD []).length + (trR c).length) := by show (y.1.map tkI ++ ((y.2.getD []).map tkI ++ trR c)).length = _; simp
      rw [this] at hl; exact hl
    obtain ⟨t1, t2⟩ := TokAt.app.mp ht'
    obtain ⟨t3, t4⟩ := TokAt.app.mp t2
    simp only [List.length_map] at t3 t4
    refine ⟨⟨s, h1, h2, by omega, t1, ?_⟩, ih (i + 1) _ h4 ?_ (by omega)⟩
    · rcases h3 with h3 | ⟨u, e1, e2, e3⟩
      · exact Or.inl h3
      · rw [e1] at t3 hl'
        have t3' : TokAt (I (mb + 2)) (400 * K + s + y.1.length) (u.map tkI) := t3
        have hl2 : s + (y.1.length + (u.length + (trR c).length)) ≤ 400 := hl'
        exact Or.inr ⟨u, s + y.1.length, e1, e2, e3, by omega, by rw [show 400 * K + (s + y.1.length) = 400 * K + s + y.1.length by omega]; exact t3'⟩
    · rw [show 400 * K + (s + y.1.length + (y.2.getD []).length) = 400 * K + s + y.1.length + (y.2.getD []).length by omega]
      exact t4
