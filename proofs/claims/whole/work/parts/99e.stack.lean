/-! RULE: the reference's stack of what waits -/
def PCt (b : Nat) (tc : List Int32) (V : Nat) (I : IT) : Prop := I (b + 62) 2 = nI tc.length ∧ TokAt (I (b + 63)) 0 tc ∧ I (b + 62) 3 = nI V
def PMt (mb K : Nat) (tr : List Int32) (V : Nat) (I' : IT) : Prop := I' mb 11 = nI K ∧ I' (mb + 3) K = nI tr.length ∧ TokAt (I' (mb + 2)) (400 * K) tr ∧ I' mb 12 = nI V
theorem PS_iff {b mb n K p p' V : Nat} {w : Nat → Nat} {tc tr : List Int32} {I I' : IT} : PS b mb n w K p p' tc tr V I I' ↔ Rd b mb n w p p' I I' ∧ PCt b tc V I ∧ V ≤ 60 ∧ K < 6 ∧ PMt mb K tr V I' ∧ tr.length ≤ tc.length := Iff.rfl
theorem PCt.cg {b V : Nat} {tc : List Int32} {I I1 : IT} (h : PCt b tc V I) (h1 : I1 (b + 62) = I (b + 62)) (h2 : I1 (b + 63) = I (b + 63)) : PCt b tc V I1 := by unfold PCt; rw [h1, h2]; exact h
theorem PMt.cg {mb K V : Nat} {tr : List Int32} {I' I1' : IT} (h : PMt mb K tr V I') (h1 : I1' mb 11 = I' mb 11) (h2 : I1' mb 12 = I' mb 12) (h3 : I1' (mb + 3) = I' (mb + 3)) (h4 : I1' (mb + 2) = I' (mb + 2)) : PMt mb K tr V I1' := by unfold PMt; rw [h1, h2, h3, h4]; exact h
/-- what waits, the top first: 13 or, 12 and, 11 not, 91 a bracket -/
def StC (f : Nat → Int32) : List Nat → Prop
  | [] => True
  | x :: r => f r.length = nI x ∧ StC f r
theorem StC.cg {f g : Nat → Int32} : ∀ {st : List Nat}, (∀ i, i < st.length → g i = f i) → StC f st → StC g st
  | [], _, _ => trivial
  | x :: r, h, q => ⟨by rw [h _ (by simp)]; exact q.1, StC.cg (fun i hi => h i (by simp; omega)) q.2⟩
def dpS : List Nat → Nat
  | [] => 0
  | x :: r => (if x = 11 ∨ x = 91 then 1 else 0) + dpS r
def pcS : List Nat → Nat
  | [] => 0
  | x :: r => (if x = 91 then 0 else 1) + pcS r
def stE (x : Nat) : Prop := x = 11 ∨ x = 12 ∨ x = 13 ∨ x = 91
def strN (x : Nat) : Nat := if x = 13 then 1 else if x = 12 then 2 else if x = 11 then 3 else 0
def StM (mb : Nat) (st : List Nat) (I' : IT) : Prop := I' mb 16 = nI st.length ∧ StC (I' (mb + 7)) st ∧ I' mb 13 = nI (dpS st) ∧ (∀ x, x ∈ st → stE x) ∧ st.length ≤ 400
/-- only tokens, the stack's height and the depth changed -/
def FT6 (mb K : Nat) (I' I1' : IT) : Prop := (∀ a, a ≠ mb → a ≠ mb + 2 → a ≠ mb + 3 → I1' a = I' a) ∧ (∀ k, k ≠ 13 → k ≠ 16 → I1' mb k = I' mb k) ∧ (∀ i, i < 400 * K → I1' (mb + 2) i = I' (mb + 2) i) ∧ ∀ i, i ≠ K → I1' (mb + 3) i = I' (mb + 3) i
section STACK
variable {N b mb n p p' K V e : Nat} {w : Nat → Nat} {tc tr : List Int32} {S : ST} {Rf : RT} {I I1 I2 I' I1' I2' : IT} {J J' : JT} {r : Int32}
theorem FT6.rf (mb K : Nat) (I' : IT) : FT6 mb K I' I' := ⟨fun _ _ _ _ => rfl, fun _ _ _ => rfl, fun _ _ => rfl, fun _ _ => rfl⟩
theorem FT6.t2 (h : FT6 mb K I' I1') (g : FT6 mb K I1' I2') : FT6 mb K I' I2' := ⟨fun a h1 h2 h3 => (g.1 a h1 h2 h3).trans (h.1 a h1 h2 h3), fun k h1 h2 => (g.2.1 k h1 h2).trans (h.2.1 k h1 h2), fun i hi => (g.2.2.1 i hi).trans (h.2.2.1 i hi), fun i hi => (g.2.2.2 i hi).trans (h.2.2.2 i hi)⟩
theorem m_strength {x : Nat} (h : stE x) : f12_strength mb (nI x) I' J' = some (nI (strN x), I', J') := by
  unfold f12_strength strN
  rcases h with rfl | rfl | rfl | rfl
  · rw [if_neg (show ¬ nI 11 = (13 : Int32) by decide), if_neg (show ¬ nI 11 = (12 : Int32) by decide), if_pos (show nI 11 = (11 : Int32) from rfl)]; rfl
  · rw [if_neg (show ¬ nI 12 = (13 : Int32) by decide), if_pos (show nI 12 = (12 : Int32) from rfl)]; rfl
  · rw [if_pos (show nI 13 = (13 : Int32) from rfl)]; rfl
  · rw [if_neg (show ¬ nI 91 = (13 : Int32) by decide), if_neg (show ¬ nI 91 = (12 : Int32) by decide), if_neg (show ¬ nI 91 = (11 : Int32) by decide)]; rfl
theorem strN_3 {x : Nat} (h : stE x) : strN x ≤ 3 ∧ (x = 91 ↔ strN x = 0) := by
  rcases h with rfl | rfl | rfl | rfl <;> decide
/-- what is strong enough is put, from the top on -/
theorem m_settles {Lv : Nat} (hL1 : 1 ≤ Lv) (hL : Lv ≤ 3) (hK : K < 6) (rest : List Nat) (hrest : ∀ x r, rest = x :: r → strN x < Lv) : ∀ (pops : List Nat) (m : Nat) (tr : List Int32) (I' : IT), pops.length < m → (∀ x, x ∈ pops → Lv ≤ strN x) → StM mb (pops ++ rest) I' → PMt mb K tr V I' → tr.length + pops.length ≤ 400 →
    ∃ I1', f12_settles_L0 N mb (nI Lv) m I' J' = some ((), I1', J') ∧ StM mb rest I1' ∧ PMt mb K (tr ++ pops.map (fun s => tkI (s, 0))) V I1' ∧ FT6 mb K I' I1' := by
  intro pops
  induction pops with
  | nil =>
    intro m tr I' hm hp hst hpm hl
    obtain ⟨m, rfl⟩ : ∃ q, m = q + 1 := ⟨m - 1, by simp at hm; omega⟩
    rw [List.nil_append] at hst
    obtain ⟨s1, s2, s3, s4, s5⟩ := id hst
    rw [f12_settles_L0, s1]
    have done : PMt mb K (tr ++ ([] : List Nat).map (fun s => tkI (s, 0))) V I' := by
      rw [List.map_nil, List.append_nil]; exact hpm
    cases rest with
    | nil =>
      rw [if_pos (show nI ([] : List Nat).length ≤ 0 by decide)]
      exact ⟨I', rfl, hst, done, FT6.rf _ _ _⟩
    | cons x r =>
      have hx := s4 x (by simp)
      have e1 : nI (x :: r).length - 1 = nI r.length := by
        show nI (r.length + 1) - nI 1 = _
        rw [pk_sub (by omega)]; rfl
      have s5' : r.length + 1 ≤ 400 := by simpa using s5
      rw [if_neg (nI_nle (by simp) (by simp; omega)), e1, yb_ck_t (inb_nI (show r.length < 400 by omega) (by decide)), nI_clamp (show r.length < 2 ^ 31 by omega), s2.1, m_strength hx, b3s, if_pos (nI_lt (hrest x r rfl) (by omega))]
      exact ⟨I', rfl, hst, done, FT6.rf _ _ _⟩
  | cons x pops ih =>
    intro m tr I' hm hp hst hpm hl
    obtain ⟨m, rfl⟩ : ∃ q, m = q + 1 := ⟨m - 1, by simp at hm; omega⟩
    obtain ⟨s1, s2, s3, s4, s5⟩ := id hst
    have hx := s4 x (by simp)
    have hxL := hp x (by simp)
    have s21 : I' (mb + 7) (pops ++ rest).length = nI x := s2.1
    have s5' : (pops ++ rest).length + 1 ≤ 400 := by simpa using s5
    have hl' : tr.length + pops.length + 1 ≤ 400 := by simp at hl; omega
    have e1 : nI (x :: pops ++ rest).length - 1 = nI (pops ++ rest).length := by
      show nI ((pops ++ rest).length + 1) - nI 1 = _
      rw [pk_sub (by omega)]; rfl
    have hK3 := strN_3 hx
    rw [f12_settles_L0, s1, if_neg (nI_nle (by simp) (by simp at s5' ⊢; omega)), e1, yb_ck_t (inb_nI (show (pops ++ rest).length < 400 by omega) (by decide)), nI_clamp (show (pops ++ rest).length < 2 ^ 31 by omega), s21, m_strength hx, b3s, if_neg (show ¬ nI (strN x) < nI Lv from nI_nlt hxL (by omega)), lts, s1, e1]
    have hpm2 : PMt mb K tr V (up2 I' mb 16 (nI (pops ++ rest).length)) := hpm.cg (up2_at (Or.inr (by decide))) (up2_at (Or.inr (by decide))) (up2_ne _ _ _ (by omega)) (up2_ne _ _ _ (by omega))
    have c7 : up2 I' mb 16 (nI (pops ++ rest).length) (mb + 7) (pops ++ rest).length = nI x := by rw [up2_ne _ _ _ (by omega)]; exact s21
    obtain ⟨I2, g1, g2, g3, g4, g5, g6⟩ := puts_m (mb := mb) (K := K) (s := nI x) (v := 0) (J' := J') hK hpm2.1 hpm2.2.1 hpm2.2.2.1 (by omega)
    have et : nI x + 16 * (0 : Int32) = tkI (x, 0) := by
      show nI x + nI 16 * nI 0 = nI (x + 16 * 0)
      rw [pk_mul, nI_add]
    rw [et] at g2 g3
    have em : I2 mb = up2 I' mb 16 (nI (pops ++ rest).length) mb := g4 _ (by omega) (by omega)
    have e7 : I2 (mb + 7) = I' (mb + 7) := by rw [g4 _ (by omega) (by omega), up2_ne _ _ _ (by omega)]
    have e16 : I2 mb 16 = nI (pops ++ rest).length := by rw [em, up2_same]
    have e13 : I2 mb 13 = nI (dpS (x :: pops ++ rest)) := by rw [em, up2_at (Or.inr (by decide))]; exact s3
    have hpm3 : PMt mb K (tr ++ [tkI (x, 0)]) V I2 := ⟨by rw [em]; exact hpm2.1, g2, g3, by rw [em]; exact hpm2.2.2.2⟩
    have ft : FT6 mb K I' I2 := ⟨fun a h1 h2 h3 => by rw [g4 a h2 h3, up2_ne _ _ _ h1], fun k h1 h2 => by rw [em, up2_at (Or.inr h2)], fun i hi => by rw [g5 i hi, up2_ne _ _ _ (by omega)], fun i hi => by rw [g6 i hi, up2_ne _ _ _ (by omega)]⟩
    rw [up2_same, yb_ck_t (inb_nI (show (pops ++ rest).length < 400 by omega) (by decide)), nI_clamp (show (pops ++ rest).length < 2 ^ 31 by omega), c7, g1, b3s, e16, yb_ck_t (inb_nI (show (pops ++ rest).length < 400 by omega) (by decide)), nI_clamp (show (pops ++ rest).length < 2 ^ 31 by omega), e7, s21]
    have fin : ∀ I3 : IT, I3 mb 13 = nI (dpS (pops ++ rest)) → (∀ a k, (a ≠ mb ∨ k ≠ 13) → I3 a k = I2 a k) → ∃ I1', f12_settles_L0 N mb (nI Lv) m I3 J' = some ((), I1', J') ∧ StM mb rest I1' ∧ PMt mb K (tr ++ (x :: pops).map (fun s => tkI (s, 0))) V I1' ∧ FT6 mb K I' I1' := by
      intro I3 h13 hI3
      have hA : ∀ a, a ≠ mb → I3 a = I2 a := fun a ha => funext fun k => hI3 a k (Or.inl ha)
      obtain ⟨I4, k1, k2, k3, k4⟩ := ih m (tr ++ [tkI (x, 0)]) I3 (by simp at hm; omega) (fun y hy => hp y (by simp [hy])) ⟨by rw [hI3 _ _ (Or.inr (by decide))]; exact e16, by rw [hA _ (by omega), e7]; exact s2.2, h13, fun y hy => s4 y (by simp at hy ⊢; exact Or.inr hy), by omega⟩ (hpm3.cg (hI3 _ _ (Or.inr (by decide))) (hI3 _ _ (Or.inr (by decide))) (hA _ (by omega)) (hA _ (by omega))) (by simp; omega)
      refine ⟨I4, k1, k2, by rw [List.append_assoc] at k3; exact k3, (ft.t2 ⟨fun a h1 _ _ => hA a h1, fun k h1 _ => hI3 _ _ (Or.inr h1), fun i _ => by rw [hA _ (by omega)], fun i _ => by rw [hA _ (by omega)]⟩).t2 k4⟩
    by_cases c11 : x = 11
    · subst c11
      have ed : nI (dpS (11 :: pops ++ rest)) - 1 = nI (dpS (pops ++ rest)) := by
        show nI ((if 11 = 11 ∨ 11 = 91 then 1 else 0) + dpS (pops ++ rest)) - nI 1 = _
        rw [if_pos (Or.inl rfl), pk_sub (by omega), Nat.add_sub_cancel_left]
      rw [if_pos (show nI 11 = (11 : Int32) from rfl), e13, ed, lts]
      exact fin _ (up2_same _ _ _ _) (fun a k hk => up2_at hk)
    · have hx' : x = 12 ∨ x = 13 := by
        rcases hx with q | q | q | q
        · exact absurd q c11
        · exact Or.inl q
        · exact Or.inr q
        · have := hK3.2.mp q
          omega
      have ed : dpS (x :: pops ++ rest) = dpS (pops ++ rest) := by
        show (if x = 11 ∨ x = 91 then 1 else 0) + dpS (pops ++ rest) = _
        rw [if_neg (by omega), Nat.zero_add]
      rw [ed] at e13
      rw [if_neg (show ¬ nI x = (11 : Int32) from fun z => c11 ((nI_eq (a := x) (b := 11) (by omega) (by omega)).mp z))]
      exact fin I2 e13 (fun _ _ _ => rfl)
end STACK
