/-! RULE: a test on both sides, given facts -/
section TEST2
variable {N b mb n K : Nat} {w : Nat → Nat} {S : ST} {Rf : RT} {J J' : JT} {st : List Nat}
theorem emC_c {o : Option Nat} {tc : List Int32} {V : Nat} {I : IT} (h : PCt b tc V I) (hl : pnd o = 1 → tc.length < 400) : ∃ I1, emC b S Rf o I J = some ((), I1, J) ∧ PCt b (tc ++ (oT o).map tkC) V I1 ∧ ∀ a, a ≠ b + 62 → a ≠ b + 63 → I1 a = I a := by
  cases o with
  | none => exact ⟨I, rfl, by show PCt b (tc ++ []) V I; rw [List.append_nil]; exact h, fun _ _ _ => rfl⟩
  | some s =>
    obtain ⟨I1, c1, c2, c3, c4, c5⟩ := put_c (b := b) (S := S) (Rf := Rf) (J := J) (x := tkC (s, 0)) h.1 h.2.1 (hl rfl)
    exact ⟨I1, c1, ⟨c2, c3, (c5 3 (by decide)).trans h.2.2⟩, c4⟩
theorem dpS_app : ∀ a c : List Nat, dpS (a ++ c) = dpS a + dpS c := by
  intro a
  induction a with
  | nil => intro c; exact (Nat.zero_add _).symm
  | cons x a ih => intro c; show (if x = 11 ∨ x = 91 then 1 else 0) + dpS (a ++ c) = (if x = 11 ∨ x = 91 then 1 else 0) + dpS a + dpS c; rw [ih]; omega
theorem ia_f (a : Bool) : dpS (ia a) = 0 ∧ pcS (ia a) = (ia a).length ∧ (ia a).length = pnd (opA a) ∧ (∀ x, x ∈ ia a → x = 12) ∧ oT (opA a) = tk0 (ia a) ∧ okO (opA a) := by
  cases a
  · exact ⟨rfl, rfl, rfl, fun x hx => (by cases hx), rfl, fun s e => (by cases e)⟩
  · exact ⟨rfl, rfl, rfl, fun x hx => (by simpa [ia] using hx), rfl, fun s e => (by cases e; decide)⟩
theorem io_f (a : Bool) : dpS (io a) = 0 ∧ pcS (io a) = (io a).length ∧ (io a).length = pnd (opB a) ∧ (∀ x, x ∈ io a → x = 13) ∧ oT (opB a) = tk0 (io a) ∧ okO (opB a) := by
  cases a
  · exact ⟨rfl, rfl, rfl, fun x hx => (by cases hx), rfl, fun s e => (by cases e)⟩
  · exact ⟨rfl, rfl, rfl, fun x hx => (by simpa [io] using hx), rfl, fun s e => (by cases e; decide)⟩
theorem ia_red (a : Bool) (k : Nat) : RedB (k + 1 + (ia a).length) (k + 1) (tk0 (ia a)) := by
  cases a
  · exact RedB.nil _
  · exact RedB.op (Or.inl rfl) k
theorem io_red (a : Bool) (k : Nat) : RedB (k + 1 + (io a).length) (k + 1) (tk0 (io a)) := by
  cases a
  · exact RedB.nil _
  · exact RedB.op (Or.inr rfl) k
theorem tk0_cnt : ∀ l : List Nat, (∀ x, x ∈ l → 2 ≤ x) → cntT (tk0 l) = 0 := by
  intro l
  induction l with
  | nil => intro _; rfl
  | cons x l ih =>
    intro h
    show (if x ≤ 1 then 1 else 0) + cntT (tk0 l) = 0
    rw [ih (fun y hy => h y (by simp [hy])), if_neg (by have := h x (by simp); omega)]
theorem tk0_ok {l : List Nat} (h : ∀ x, x ∈ l → x = 12 ∨ x = 13) : ∀ t, t ∈ tk0 l → TkOK t := by
  intro t ht
  obtain ⟨x, hx, rfl⟩ := List.mem_map.mp ht
  exact Or.inr (Or.inr ⟨by show 2 ≤ x; have := h x hx; omega, by show x ≤ 14; have := h x hx; omega, rfl⟩)
end TEST2
