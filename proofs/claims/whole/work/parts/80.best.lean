/-! BENCHES, pure: rows of (case, judge), the best of them -/
abbrev Rw : Type := List (Nat × Nat)
abbrev Cd : Type := Nat × Nat × Rw × List Nat
def lexL : List Nat → List Nat → Prop
  | [], _ => False
  | _ :: _, [] => False
  | a :: s, c :: t => a < c ∨ (a = c ∧ lexL s t)
theorem lexL_irr : ∀ a, ¬ lexL a a := by
  intro a
  induction a with
  | nil => exact fun h => h
  | cons x s ih => intro h; exact h.elim (fun q => Nat.lt_irrefl _ q) (fun q => ih q.2)
theorem lexL_trans : ∀ {a c d : List Nat}, lexL a c → lexL c d → lexL a d := by
  intro a
  induction a with
  | nil => intro c d h; exact h.elim
  | cons x s ih =>
    intro c d h g
    cases c with
    | nil => exact h.elim
    | cons y t =>
      cases d with
      | nil => exact g.elim
      | cons z u =>
        rcases h with h | ⟨rfl, h⟩ <;> rcases g with g | ⟨rfl, g⟩
        · exact Or.inl (Nat.lt_trans h g)
        · exact Or.inl h
        · exact Or.inl g
        · exact Or.inr ⟨rfl, ih h g⟩
theorem lexL_tri : ∀ {a c : List Nat}, a.length = c.length → lexL a c ∨ a = c ∨ lexL c a := by
  intro a
  induction a with
  | nil =>
    intro c h
    cases c with
    | nil => exact Or.inr (Or.inl rfl)
    | cons y t => simp at h
  | cons x s ih =>
    intro c h
    cases c with
    | nil => simp at h
    | cons y t =>
      rcases Nat.lt_trichotomy x y with q | rfl | q
      · exact Or.inl (Or.inl q)
      · rcases ih (c := t) (by simpa using h) with g | rfl | g
        · exact Or.inl (Or.inr ⟨rfl, g⟩)
        · exact Or.inr (Or.inl rfl)
        · exact Or.inr (Or.inr (Or.inr ⟨rfl, g⟩))
      · exact Or.inr (Or.inr (Or.inl q))
theorem lexL_pre {a c : List Nat} : ∀ q : List Nat, lexL a c → lexL (q ++ a) (q ++ c) := by
  intro q h
  induction q with
  | nil => exact h
  | cons x q ih => exact Or.inr ⟨rfl, ih⟩
theorem lexL_suf {s t : List Nat} : ∀ {a c : List Nat}, a.length = c.length → lexL a c → lexL (a ++ s) (c ++ t) := by
  intro a
  induction a with
  | nil => intro c _ h; exact h.elim
  | cons x a ih =>
    intro c hl h
    cases c with
    | nil => exact h.elim
    | cons y c =>
      rcases h with h | ⟨rfl, h⟩
      · exact Or.inl h
      · exact Or.inr ⟨rfl, ih (by simpa using hl) h⟩
def keyL (x : Cd) : List Nat := x.2.2.1.map Prod.fst ++ x.2.2.1.map Prod.snd
/-- x is better than y -/
def btr (x y : Cd) : Prop := y.1 < x.1 ∨ (x.1 = y.1 ∧ (x.2.1 < y.2.1 ∨ (x.2.1 = y.2.1 ∧ lexL (keyL x) (keyL y))))
theorem btr_irr (x : Cd) : ¬ btr x x := by
  intro h
  rcases h with h | ⟨_, h | ⟨_, h⟩⟩
  · omega
  · omega
  · exact lexL_irr _ h
theorem btr_trans {x y z : Cd} (h : btr x y) (g : btr y z) : btr x z := by
  unfold btr at *
  rcases h with h | ⟨h1, h | ⟨h2, h⟩⟩ <;> rcases g with g | ⟨g1, g | ⟨g2, g⟩⟩
  · exact Or.inl (by omega)
  · exact Or.inl (by omega)
  · exact Or.inl (by omega)
  · exact Or.inl (by omega)
  · exact Or.inr ⟨by omega, Or.inl (by omega)⟩
  · exact Or.inr ⟨by omega, Or.inl (by omega)⟩
  · exact Or.inl (by omega)
  · exact Or.inr ⟨by omega, Or.inl (by omega)⟩
  · exact Or.inr ⟨by omega, Or.inr ⟨by omega, lexL_trans h g⟩⟩
def IsBest (V : Cd → Prop) (o : Option Cd) : Prop := (o = none ∧ ∀ x, ¬ V x) ∨ ∃ x, o = some x ∧ V x ∧ ∀ y, V y → ¬ btr y x
section BEST
variable {V V' : Cd → Prop} {x y : Cd} {o : Option Cd}
theorem IsBest.cg (h : IsBest V o) (hv : ∀ z, V' z ↔ V z) : IsBest V' o := by
  rcases h with ⟨h1, h2⟩ | ⟨z, h1, h2, h3⟩
  · exact Or.inl ⟨h1, fun z q => h2 z ((hv z).mp q)⟩
  · exact Or.inr ⟨z, h1, (hv z).mpr h2, fun u q => h3 u ((hv u).mp q)⟩
theorem IsBest.new (h : IsBest V none) (hv : ∀ z, V' z ↔ V z ∨ z = x) : IsBest V' (some x) := by
  rcases h with ⟨_, h2⟩ | ⟨z, h1, _⟩
  · refine Or.inr ⟨x, rfl, (hv x).mpr (Or.inr rfl), fun u q => ?_⟩
    rcases (hv u).mp q with z | rfl
    · exact absurd z (h2 u)
    · exact btr_irr _
  · cases h1
theorem IsBest.up (h : IsBest V (some y)) (hb : btr x y) (hv : ∀ z, V' z ↔ V z ∨ z = x) : IsBest V' (some x) := by
  rcases h with ⟨h1, _⟩ | ⟨z, h1, h2, h3⟩
  · cases h1
  · cases h1
    refine Or.inr ⟨x, rfl, (hv x).mpr (Or.inr rfl), fun u q => ?_⟩
    rcases (hv u).mp q with z | rfl
    · exact fun g => h3 u z (btr_trans g hb)
    · exact btr_irr _
theorem IsBest.stay (h : IsBest V (some y)) (hb : ¬ btr x y) (hv : ∀ z, V' z ↔ V z ∨ z = x) : IsBest V' (some y) := by
  rcases h with ⟨h1, _⟩ | ⟨z, h1, h2, h3⟩
  · cases h1
  · cases h1
    refine Or.inr ⟨y, rfl, (hv y).mpr (Or.inl h2), fun u q => ?_⟩
    rcases (hv u).mp q with z | rfl
    · exact h3 u z
    · exact hb
end BEST
def updN (o : Nat → Nat) (j x : Nat) : Nat → Nat := fun i => if i = j then x else o i
theorem updN_s (o : Nat → Nat) (j x : Nat) : updN o j x j = x := if_pos rfl
theorem updN_n (o : Nat → Nat) {j i : Nat} (x : Nat) (h : i ≠ j) : updN o j x i = o i := if_neg h
theorem updN_c (o : Nat → Nat) {j i : Nat} (x y : Nat) (h : i ≠ j) : updN (updN o j x) i y = updN (updN o i y) j x := by
  funext k
  unfold updN
  by_cases h1 : k = i
  · rw [if_pos h1, if_neg (fun e => h (h1.symm.trans e)), if_pos h1]
  · rw [if_neg h1, if_neg h1]
section ROWS
variable (lg : Nat → Nat → Nat) (Bg : Nat → Nat → Option Nat) (Rt : Nat → Nat → Nat) (ln : Nat → Nat) (P : Nat)
def okW (o : Nat → Nat) : Rw → Prop
  | [] => True
  | (c, j) :: t => j < P ∧ 0 < lg (o j) c ∧ Bg j (lg (o j) c) ≠ none ∧ okW (updN o j (lg (o j) c)) t
def ordW (o : Nat → Nat) : Rw → Nat → Nat
  | [] => o
  | (c, j) :: t => ordW (updN o j (lg (o j) c)) t
def rsW (o : Nat → Nat) : Rw → Nat
  | [] => 0
  | (c, j) :: t => Rt j (lg (o j) c) + rsW (updN o j (lg (o j) c)) t
def enW (o : Nat → Nat) : Rw → Nat
  | [] => 0
  | (c, j) :: t => max ((Bg j (lg (o j) c)).getD 0 + ln c) (enW (updN o j (lg (o j) c)) t)
def dyW (o : Nat → Nat) : Rw → List Nat
  | [] => []
  | (c, j) :: t => (Bg j (lg (o j) c)).getD 0 :: dyW (updN o j (lg (o j) c)) t
def prW : Option (Nat × Nat) → Rw → Prop
  | _, [] => True
  | none, (c, j) :: t => prW (some (c, j)) t
  | some q, (c, j) :: t => (c < q.1 → j = q.2) ∧ prW (some (c, j)) t
def o00 : Nat → Nat := fun _ => 0
def rcW (r : Rw) : Cd := (rsW lg Rt o00 r, enW lg Bg ln o00 r, r, dyW lg Bg o00 r)
def FuV (m : Nat) (x : Cd) : Prop := ∃ r : Rw, r.length = m ∧ (r.map Prod.fst).Nodup ∧ (∀ c, c ∈ r.map Prod.fst → c < m) ∧ okW lg Bg P o00 r ∧ x = rcW lg Bg Rt ln r
def PrV (m : Nat) (x : Cd) : Prop := ∃ r : Rw, r.length = m ∧ (r.map Prod.fst).Nodup ∧ (∀ c, c ∈ r.map Prod.fst → c < m) ∧ okW lg Bg P o00 r ∧ prW none r ∧ x = rcW lg Bg Rt ln r
variable {lg Bg Rt ln P}
theorem okW_app : ∀ (a : Rw) (o : Nat → Nat) (t : Rw), okW lg Bg P o (a ++ t) ↔ okW lg Bg P o a ∧ okW lg Bg P (ordW lg o a) t := by
  intro a
  induction a with
  | nil => intro o t; exact ⟨fun h => ⟨trivial, h⟩, fun h => h.2⟩
  | cons x a ih =>
    intro o t
    obtain ⟨c, j⟩ := x
    constructor
    · rintro ⟨h1, h2, h3, h4⟩
      obtain ⟨g1, g2⟩ := (ih _ t).mp h4
      exact ⟨⟨h1, h2, h3, g1⟩, g2⟩
    · rintro ⟨⟨h1, h2, h3, h4⟩, h5⟩
      exact ⟨h1, h2, h3, (ih _ t).mpr ⟨h4, h5⟩⟩
theorem ordW_app : ∀ (a : Rw) (o : Nat → Nat) (t : Rw), ordW lg o (a ++ t) = ordW lg (ordW lg o a) t := by
  intro a
  induction a with
  | nil => intro o t; rfl
  | cons x a ih => intro o t; exact ih _ t
theorem rsW_app : ∀ (a : Rw) (o : Nat → Nat) (t : Rw), rsW lg Rt o (a ++ t) = rsW lg Rt o a + rsW lg Rt (ordW lg o a) t := by
  intro a
  induction a with
  | nil => intro o t; exact (Nat.zero_add _).symm
  | cons x a ih =>
    intro o t
    obtain ⟨c, j⟩ := x
    show _ + rsW lg Rt _ (a ++ t) = _ + _ + _
    rw [ih, Nat.add_assoc]
    rfl
theorem enW_app : ∀ (a : Rw) (o : Nat → Nat) (t : Rw), enW lg Bg ln o (a ++ t) = max (enW lg Bg ln o a) (enW lg Bg ln (ordW lg o a) t) := by
  intro a
  induction a with
  | nil => intro o t; exact (Nat.max_eq_right (Nat.zero_le _)).symm
  | cons x a ih =>
    intro o t
    obtain ⟨c, j⟩ := x
    show max _ (enW lg Bg ln _ (a ++ t)) = max (max _ _) _
    rw [ih, Nat.max_assoc]
    rfl
theorem dyW_app : ∀ (a : Rw) (o : Nat → Nat) (t : Rw), dyW lg Bg o (a ++ t) = dyW lg Bg o a ++ dyW lg Bg (ordW lg o a) t := by
  intro a
  induction a with
  | nil => intro o t; rfl
  | cons x a ih =>
    intro o t
    obtain ⟨c, j⟩ := x
    show _ :: dyW lg Bg _ (a ++ t) = _
    rw [ih]
    rfl
theorem dyW_len : ∀ (a : Rw) (o : Nat → Nat), (dyW lg Bg o a).length = a.length := by
  intro a
  induction a with
  | nil => intro o; rfl
  | cons x a ih =>
    intro o
    obtain ⟨c, j⟩ := x
    show (dyW lg Bg _ a).length + 1 = a.length + 1
    rw [ih]
/-- two neighbours before two judges change places -/
theorem swapW {o : Nat → Nat} {c1 j1 c2 j2 : Nat} {t : Rw} (h : j1 ≠ j2) : (okW lg Bg P o ((c1, j1) :: (c2, j2) :: t) → okW lg Bg P o ((c2, j2) :: (c1, j1) :: t)) ∧ rsW lg Rt o ((c1, j1) :: (c2, j2) :: t) = rsW lg Rt o ((c2, j2) :: (c1, j1) :: t) ∧ enW lg Bg ln o ((c1, j1) :: (c2, j2) :: t) = enW lg Bg ln o ((c2, j2) :: (c1, j1) :: t) := by
  have e1 : updN o j1 (lg (o j1) c1) j2 = o j2 := updN_n _ _ (fun q => h q.symm)
  have e2 : updN o j2 (lg (o j2) c2) j1 = o j1 := updN_n _ _ h
  have e3 : updN (updN o j1 (lg (o j1) c1)) j2 (lg (o j2) c2) = updN (updN o j2 (lg (o j2) c2)) j1 (lg (o j1) c1) := updN_c _ _ _ (fun q => h q.symm)
  simp only [okW, rsW, enW, e1, e2, e3]
  refine ⟨fun q => ⟨q.2.2.2.1, q.2.2.2.2.1, q.2.2.2.2.2.1, q.1, q.2.1, q.2.2.1, q.2.2.2.2.2.2⟩, by omega, ?_⟩
  rw [← Nat.max_assoc, ← Nat.max_assoc]
  congr 1
  exact Nat.max_comm _ _
theorem prW_split : ∀ (r : Rw) (q : Option (Nat × Nat)), ¬ prW q r → (∃ c' j' c j t, q = some (c', j') ∧ r = (c, j) :: t ∧ c < c' ∧ j ≠ j') ∨ ∃ a c1 j1 c2 j2 t, r = a ++ (c1, j1) :: (c2, j2) :: t ∧ c2 < c1 ∧ j1 ≠ j2 := by
  intro r
  induction r with
  | nil => intro q h; exact absurd (by cases q <;> trivial) h
  | cons x r ih =>
    intro q h
    obtain ⟨c, j⟩ := x
    have key : ¬ prW (some (c, j)) r → ∃ a c1 j1 c2 j2 t, (c, j) :: r = a ++ (c1, j1) :: (c2, j2) :: t ∧ c2 < c1 ∧ j1 ≠ j2 := by
      intro g
      rcases ih (some (c, j)) g with ⟨c', j', c2, j2, t, e1, e2, e3, e4⟩ | ⟨a, c1, j1, c2, j2, t, e1, e2, e3⟩
      · cases e1
        exact ⟨[], c, j, c2, j2, t, by rw [e2]; rfl, e3, fun z => e4 z.symm⟩
      · exact ⟨(c, j) :: a, c1, j1, c2, j2, t, by rw [e1]; rfl, e2, e3⟩
    cases q with
    | none => exact Or.inr (key h)
    | some p =>
      obtain ⟨c', j'⟩ := p
      by_cases g : prW (some (c, j)) r
      · left
        have : ¬ (c < c' → j = j') := fun z => h ⟨z, g⟩
        refine ⟨c', j', c, j, r, rfl, rfl, ?_, ?_⟩
        · exact Classical.byContradiction fun z => this (fun y => absurd y z)
        · exact fun z => this (fun _ => z)
      · exact Or.inr (key g)
theorem FuV_key {m : Nat} {x : Cd} (h : FuV lg Bg Rt ln P m x) : (keyL x).length = m + m := by
  obtain ⟨r, h1, _, _, _, rfl⟩ := h
  unfold keyL rcW
  simp [h1]
theorem PrV.fu {m : Nat} {x : Cd} (h : PrV lg Bg Rt ln P m x) : FuV lg Bg Rt ln P m x := by
  obtain ⟨r, h1, h2, h3, h4, h5, h6⟩ := h
  exact ⟨r, h1, h2, h3, h4, h6⟩
/-- the best of all rows is one of those that are tried -/
theorem best_pr {m : Nat} {x : Cd} (h : IsBest (FuV lg Bg Rt ln P m) (some x)) : PrV lg Bg Rt ln P m x := by
  rcases h with ⟨h1, _⟩ | ⟨z, h1, ⟨r, g1, g2, g3, g4, g5⟩, h3⟩
  · cases h1
  · cases h1
    refine ⟨r, g1, g2, g3, g4, Classical.byContradiction fun hp => ?_, g5⟩
    rcases prW_split r none hp with ⟨c', j', c, j, t, e, _⟩ | ⟨a, c1, j1, c2, j2, t, rfl, e2, e3⟩
    · cases e
    · obtain ⟨s1, s2, s3⟩ := swapW (lg := lg) (Bg := Bg) (Rt := Rt) (ln := ln) (P := P) (o := ordW lg o00 a) (c1 := c1) (c2 := c2) (t := t) e3
      have hm : ∀ c, c ∈ (a ++ (c2, j2) :: (c1, j1) :: t).map Prod.fst ↔ c ∈ (a ++ (c1, j1) :: (c2, j2) :: t).map Prod.fst := by
        intro c
        simp only [List.map_append, List.map_cons, List.mem_append, List.mem_cons]
        constructor <;> (intro q; rcases q with q | q | q | q <;> simp [q])
      have f1 : FuV lg Bg Rt ln P m (rcW lg Bg Rt ln (a ++ (c2, j2) :: (c1, j1) :: t)) := by
        refine ⟨_, by simpa using g1, ?_, fun c hc => g3 c ((hm c).mp hc), ?_, rfl⟩
        · have g2' := g2
          simp only [List.map_append, List.map_cons] at g2' ⊢
          rw [List.nodup_append] at g2' ⊢
          obtain ⟨q1, q2, q3⟩ := g2'
          rw [List.nodup_cons, List.nodup_cons] at q2
          refine ⟨q1, ?_, fun u hu v hv => q3 u hu v (by simp only [List.mem_cons] at hv ⊢; rcases hv with z | z | z <;> simp [z])⟩
          rw [List.nodup_cons, List.nodup_cons]
          refine ⟨?_, fun z => q2.1 (List.mem_cons_of_mem _ z), q2.2.2⟩
          intro z
          rcases List.mem_cons.mp z with z | z
          · exact q2.1 (by rw [z]; exact List.mem_cons_self)
          · exact q2.2.1 z
        · exact (okW_app _ _ _).mpr ⟨((okW_app _ _ _).mp g4).1, s1 ((okW_app _ _ _).mp g4).2⟩
      refine h3 _ f1 ?_
      subst g5
      refine Or.inr ⟨?_, Or.inr ⟨?_, ?_⟩⟩
      · show rsW lg Rt o00 _ = rsW lg Rt o00 _
        rw [rsW_app, rsW_app, s2]
      · show enW lg Bg ln o00 _ = enW lg Bg ln o00 _
        rw [enW_app, enW_app, s3]
      · unfold keyL rcW
        refine lexL_suf (by simp) ?_
        rw [List.map_append, List.map_append]
        exact lexL_pre _ (Or.inl e2)
theorem rw_ext : ∀ {r s : Rw}, r.length = s.length → r.map Prod.fst ++ r.map Prod.snd = s.map Prod.fst ++ s.map Prod.snd → r = s := by
  intro r s hl h
  have h1 : r.map Prod.fst = s.map Prod.fst := (List.append_inj h (by simp [hl])).1
  have h2 : r.map Prod.snd = s.map Prod.snd := (List.append_inj h (by simp [hl])).2
  apply List.ext_getElem hl
  intro i i1 i2
  have e1 : (r.map Prod.fst)[i]'(by simpa using i1) = (s.map Prod.fst)[i]'(by simpa using i2) := by simp [h1]
  have e2 : (r.map Prod.snd)[i]'(by simpa using i1) = (s.map Prod.snd)[i]'(by simpa using i2) := by simp [h2]
  simp only [List.getElem_map] at e1 e2
  exact Prod.ext e1 e2
theorem best_eq {m : Nat} {oR oC : Option Cd} (h : IsBest (FuV lg Bg Rt ln P m) oR) (g : IsBest (PrV lg Bg Rt ln P m) oC) : oR = oC := by
  rcases id h with ⟨h1, h2⟩ | ⟨x, rfl, h2, h3⟩
  · rcases g with ⟨g1, _⟩ | ⟨y, _, g2, _⟩
    · rw [h1, g1]
    · exact absurd g2.fu (h2 y)
  · have hp := best_pr h
    rcases g with ⟨_, g2⟩ | ⟨y, rfl, g2, g3⟩
    · exact absurd hp (g2 x)
    · have n1 := g3 x hp
      have n2 := h3 y g2.fu
      unfold btr at n1 n2
      have e1 : x.1 = y.1 := by
        rcases Nat.lt_trichotomy x.1 y.1 with q | q | q
        · exact absurd (Or.inl q) n2
        · exact q
        · exact absurd (Or.inl q) n1
      have e2 : x.2.1 = y.2.1 := by
        rcases Nat.lt_trichotomy x.2.1 y.2.1 with q | q | q
        · exact absurd (Or.inr ⟨e1, Or.inl q⟩) n1
        · exact q
        · exact absurd (Or.inr ⟨e1.symm, Or.inl q⟩) n2
      have e3 : keyL x = keyL y := by
        rcases lexL_tri (a := keyL x) (c := keyL y) (by rw [FuV_key h2, FuV_key g2.fu]) with q | q | q
        · exact absurd (Or.inr ⟨e1, Or.inr ⟨e2, q⟩⟩) n1
        · exact q
        · exact absurd (Or.inr ⟨e1.symm, Or.inr ⟨e2.symm, q⟩⟩) n2
      obtain ⟨r, r1, _, _, _, rfl⟩ := h2
      obtain ⟨s, s1, _, _, _, rfl⟩ := g2.fu
      have : r = s := rw_ext (by rw [r1, s1]) e3
      rw [this]
end ROWS
