/-! RULE: what the reference does behind a fact -/
def f12_tsT (N : Nat) (mb : Nat) (n : Nat) (I : IT) (J : JT) : Option ((Int32 ⊕ (Unit)) × IT × JT) :=
  yb_b3 (f12_isWord N mb (6385252 : Int64) I J) fun r_13 I_14 J_15 =>
  if r_13 = 0 then
    yb_b3 (f12_isWord N mb (28530 : Int64) I_14 J_15) fun r_54 I_55 J_56 =>
    if r_54 = 0 then
      f12_tested_L12 N mb n (0 : Int32) I_55 J_56
    else
      yb_b3 (f12_isWord N mb (6385252 : Int64) I_55 J_56) fun r_61 I_62 J_63 =>
      if r_61 = 0 then
        yb_b3 (f12_passWord N mb  I_62 J_63) fun r_66 I_67 J_68 =>
        yb_b3 (f12_strength mb (13 : Int32) I_67 J_68) fun r_70 I_71 J_72 =>
        yb_b3 (f12_settles N mb r_70 I_71 J_72) fun r_74 I_75 J_76 =>
        yb_ck (inb (I_75 mb 16) 400) fun _ =>
        yb_let (up2 I_75 (mb + 7) (I_75 mb 16).toNatClampNeg (13 : Int32)) fun I_79 =>
        yb_let (up2 I_79 mb 16 ((I_79 mb 16) + (1 : Int32))) fun I_80 =>
        f12_tested_L12 N mb n (1 : Int32) I_80 J_76
      else
        yb_b3 (f12_passWord N mb  I_62 J_63) fun r_81 I_82 J_83 =>
        yb_b3 (f12_strength mb (12 : Int32) I_82 J_83) fun r_85 I_86 J_87 =>
        yb_b3 (f12_settles N mb r_85 I_86 J_87) fun r_89 I_90 J_91 =>
        yb_ck (inb (I_90 mb 16) 400) fun _ =>
        yb_let (up2 I_90 (mb + 7) (I_90 mb 16).toNatClampNeg (12 : Int32)) fun I_94 =>
        yb_let (up2 I_94 mb 16 ((I_94 mb 16) + (1 : Int32))) fun I_95 =>
        f12_tested_L12 N mb n (1 : Int32) I_95 J_91
  else
    yb_b3 (f12_isWord N mb (6385252 : Int64) I_14 J_15) fun r_19 I_20 J_21 =>
    if r_19 = 0 then
      yb_b3 (f12_passWord N mb  I_20 J_21) fun r_24 I_25 J_26 =>
      yb_b3 (f12_strength mb (13 : Int32) I_25 J_26) fun r_28 I_29 J_30 =>
      yb_b3 (f12_settles N mb r_28 I_29 J_30) fun r_32 I_33 J_34 =>
      yb_ck (inb (I_33 mb 16) 400) fun _ =>
      yb_let (up2 I_33 (mb + 7) (I_33 mb 16).toNatClampNeg (13 : Int32)) fun I_37 =>
      yb_let (up2 I_37 mb 16 ((I_37 mb 16) + (1 : Int32))) fun I_38 =>
      f12_tested_L12 N mb n (1 : Int32) I_38 J_34
    else
      yb_b3 (f12_passWord N mb  I_20 J_21) fun r_39 I_40 J_41 =>
      yb_b3 (f12_strength mb (12 : Int32) I_40 J_41) fun r_43 I_44 J_45 =>
      yb_b3 (f12_settles N mb r_43 I_44 J_45) fun r_47 I_48 J_49 =>
      yb_ck (inb (I_48 mb 16) 400) fun _ =>
      yb_let (up2 I_48 (mb + 7) (I_48 mb 16).toNatClampNeg (12 : Int32)) fun I_52 =>
      yb_let (up2 I_52 mb 16 ((I_52 mb 16) + (1 : Int32))) fun I_53 =>
      f12_tested_L12 N mb n (1 : Int32) I_53 J_49
theorem tested_eq (N mb n : Nat) (I : IT) (J : JT) : f12_tested_L12 N mb (n + 1) 1 I J = yb_b3 (f12_fact N mb I J) fun r I J => if r = 0 then some (Sum.inl (0 : Int32), I, J) else yb_b3 (f12_closes N mb I J) fun _ I J => f12_tsT N mb n I J := by
  rw [f12_tested_L12, if_neg i10]
  rfl
theorem tested_0 (N mb n : Nat) (I : IT) (J : JT) : f12_tested_L12 N mb (n + 1) 0 I J = some (Sum.inr (), I, J) := by
  rw [f12_tested_L12, if_pos rfl]
/-- behind the loop -/
def tsE (N mb : Nat) (q : Int32 ⊕ Unit) (I : IT) (J : JT) : Option (Int32 × IT × JT) :=
  yb_sm q (fun v => some (v, I, J)) fun _ =>
  yb_b3 (f12_isInside N mb I J) fun r I J => if r = 0 then yb_b3 (f12_settles N mb (1 : Int32) I J) fun _ I J => some ((1 : Int32), I, J) else
  yb_b3 (f12_see N mb I J) fun _ I J => yb_b3 (f12_fails mb (0 : Int32) (I mb 8) I J) fun r I J => yb_ck (bz r) fun _ => some (r, I, J)
theorem tested_all (N mb : Nat) (I : IT) (J : JT) : f12_tested N mb I J = yb_b3 (f12_tested_L12 N mb N 1 (up2 (up2 I mb 16 0) mb 13 0) J) (tsE N mb) := rfl
def pushW (N mb s n : Nat) (I : IT) (J : JT) : Option ((Int32 ⊕ Unit) × IT × JT) :=
  yb_b3 (f12_settles N mb (nI (strN s)) I J) fun _ I J => yb_ck (inb (I mb 16) 400) fun _ => yb_let (up2 I (mb + 7) (I mb 16).toNatClampNeg (nI s)) fun I => yb_let (up2 I mb 16 ((I mb 16) + 1)) fun I => f12_tested_L12 N mb n 1 I J
section TAIL
variable {N b mb n p p' K V e : Nat} {w : Nat → Nat} {tc tr : List Int32} {S : ST} {Rf : RT} {I I1 I2 I' I1' I2' : IT} {J J' : JT} {r : Int32} {st : List Nat}
theorem ts_word (hN : 1000 ≤ N) (h : Rd b mb n w p p' I I') (hr : WIx w n p r) (m : Nat) :
    (r = nI 15 → f12_tsT N mb m I' J' = pushW N mb 12 m (up2 I' mb 8 (nI (ltr w n p))) J') ∧ (r = nI 14 → f12_tsT N mb m I' J' = pushW N mb 13 m (up2 I' mb 8 (nI (ltr w n p))) J') ∧ (¬ r = nI 15 → ¬ r = nI 14 → f12_tsT N mb m I' J' = f12_tested_L12 N mb m 0 (up2 I' mb 8 (nI p)) J') := by
  have hs := h.seen
  have w1 := q_isWord (J' := J') (W := 6385252) hN h hr (j := 15) (by decide) wc15
  have pw := m_pass (N := N) (J' := J') hN hs.2.1 hs.2.2.2.2.2.1 hs.le
  rw [up2_up2] at pw
  have s12 : ∀ (I : IT), f12_strength mb 12 I J' = some (nI (strN 12), I, J') := fun I => m_strength (I' := I) (Or.inr (Or.inl rfl))
  have s13 : ∀ (I : IT), f12_strength mb 13 I J' = some (nI (strN 13), I, J') := fun I => m_strength (I' := I) (Or.inr (Or.inr (Or.inl rfl)))
  refine ⟨fun e => ?_, fun e => ?_, fun e1 e2 => ?_⟩
  · unfold f12_tsT pushW
    rw [w1, if_pos e, b3s, if_neg i10, q_isWY hN hs hr (by decide) wc15 e, b3s, if_neg i10, pw, b3s, s12, b3s]
    rfl
  · have ne : ¬ r = nI 15 := by rw [e]; decide
    unfold f12_tsT pushW
    rw [w1, if_neg ne, b3s, if_pos rfl, q_isWY hN hs hr (by decide) wc14 e, b3s, if_neg i10, q_isWN hN hs hr (by decide) wc15 ne, b3s, if_pos rfl, pw, b3s, s13, b3s]
    rfl
  · unfold f12_tsT
    rw [w1, if_neg e1, b3s, if_pos rfl, q_isWN hN hs hr (by decide) wc14 e2, b3s, if_pos rfl]
theorem StC_at {f : Nat → Int32} : ∀ {st : List Nat}, StC f st → ∀ i, i < st.length → f i = nI (st.getD (st.length - 1 - i) 0)
  | [], _, i, hi => by simp at hi
  | x :: r, h, i, hi => by
    by_cases e : i = r.length
    · subst e
      rw [h.1]
      simp
    · have hi' : i < r.length := by simp at hi; omega
      rw [StC_at h.2 i hi']
      have : (x :: r).length - 1 - i = (r.length - 1 - i) + 1 := by simp; omega
      rw [this]
      rfl
theorem m_inside (hN : 1000 ≤ N) (h : StM mb st I') : f12_isInside N mb I' J' = some (if 91 ∈ st then 1 else 0, I', J') := by
  obtain ⟨s1, s2, s3, s4, s5⟩ := h
  have hx : ∀ j, st.getD j 0 < 2 ^ 31 := fun j => by
    rcases Nat.lt_or_ge j st.length with q | q
    · have hm : st.getD j 0 ∈ st := List.mem_of_getElem? (gd_get q)
      rcases s4 _ hm with e | e | e | e <;> rw [e] <;> omega
    · rw [List.getD_eq_getElem?_getD, List.getElem?_eq_none q]; decide
  have loop : ∀ r i m, i + r = st.length → r < m → ∃ q, f12_isInside_L2 N mb m (nI i) I' J' = some (q, I', J') ∧ (sumB q = 0 ∨ sumB q = 1) ∧ (sumB q = 1 ↔ ∃ j, i ≤ j ∧ j < st.length ∧ st.getD (st.length - 1 - j) 0 = 91) := by
    intro r
    induction r with
    | zero =>
      intro i m hi hm
      obtain ⟨m, rfl⟩ : ∃ q, m = q + 1 := ⟨m - 1, by omega⟩
      rw [f12_isInside_L2, s1, if_pos (nI_le (by omega) (by omega))]
      exact ⟨_, rfl, Or.inl rfl, ⟨fun z => absurd (show (0 : Int32) = 1 from z) (by decide), fun ⟨j, h1, h2, _⟩ => by omega⟩⟩
    | succ r ih =>
      intro i m hi hm
      obtain ⟨m, rfl⟩ : ∃ q, m = q + 1 := ⟨m - 1, by omega⟩
      rw [f12_isInside_L2, s1, if_neg (nI_ge (by omega) (by omega)), yb_ck_t (inb_nI (show i < 400 by omega) (by decide)), nI_clamp (show i < 2 ^ 31 by omega), StC_at s2 i (by omega)]
      by_cases c : st.getD (st.length - 1 - i) 0 = 91
      · rw [c, if_pos (show nI 91 = (91 : Int32) from rfl)]
        exact ⟨_, rfl, Or.inr rfl, ⟨fun _ => ⟨i, Nat.le_refl _, by omega, c⟩, fun _ => rfl⟩⟩
      · rw [if_neg (show ¬ nI (st.getD (st.length - 1 - i) 0) = (91 : Int32) from fun z => c ((nI_eq (b := 91) (hx _) (by omega)).mp z)), nI_1, lts]
        obtain ⟨q, e1, e2, e3⟩ := ih (i + 1) m (by omega) (by omega)
        refine ⟨q, e1, e2, e3.trans ⟨fun ⟨j, h1, h2, h3⟩ => ⟨j, by omega, h2, h3⟩, fun ⟨j, h1, h2, h3⟩ => ⟨j, ?_, h2, h3⟩⟩⟩
        rcases Nat.eq_or_lt_of_le h1 with rfl | h1
        · exact absurd h3 c
        · exact h1
  obtain ⟨q, e1, e2, e3⟩ := loop st.length 0 N (by omega) (by omega)
  rw [show nI 0 = (0 : Int32) from rfl] at e1
  unfold f12_isInside
  rw [e1, b3s]
  have fin : (yb_sm q (fun v_9 => some (v_9, I', J')) fun x_10 => some ((0 : Int32), I', J')) = some (sumB q, I', J') := by cases q <;> rfl
  rw [fin]
  have mem : sumB q = 1 ↔ 91 ∈ st := by
    rw [e3]
    constructor
    · rintro ⟨j, _, h2, h3⟩
      rw [← h3]
      exact List.mem_of_getElem? (gd_get (show st.length - 1 - j < st.length by omega))
    · intro hm
      obtain ⟨j, hj⟩ := List.mem_iff_getElem?.mp hm
      have hlt := (List.getElem?_eq_some_iff.mp hj).1
      refine ⟨st.length - 1 - j, Nat.zero_le _, by omega, ?_⟩
      rw [show st.length - 1 - (st.length - 1 - j) = j by omega, List.getD_eq_getElem?_getD, hj]
      rfl
  by_cases c : 91 ∈ st
  · rw [if_pos c, mem.mpr c]
  · rw [if_neg c]
    rcases e2 with z | z
    · rw [z]
    · exact absurd (mem.mp z) c
/-- and, or goes on top -/
theorem m_push {x : Nat} (h : StM mb st I') (hx : x = 12 ∨ x = 13) (hl : st.length < 400) : StM mb (x :: st) (up2 (up2 I' (mb + 7) st.length (nI x)) mb 16 (nI (st.length + 1))) := by
  obtain ⟨s1, s2, s3, s4, s5⟩ := h
  refine ⟨by rw [up2_same]; rfl, ⟨?_, ?_⟩, ?_, fun y hy => ?_, by simp; omega⟩
  · rw [up2_ne _ _ _ (by omega), up2_same]
  · rw [up2_ne _ _ _ (by omega)]
    exact s2.cg (fun i hi => up2_at (Or.inr (by omega)))
  · rw [up2_at (Or.inr (by decide)), up2_ne _ _ _ (by omega), s3]
    show nI (dpS st) = nI ((if x = 11 ∨ x = 91 then 1 else 0) + dpS st)
    rw [if_neg (by omega), Nat.zero_add]
  · rcases List.mem_cons.mp hy with rfl | hy
    · rcases hx with q | q
      · exact Or.inr (Or.inl q)
      · exact Or.inr (Or.inr (Or.inl q))
    · exact s4 y hy
/-- not, or a bracket goes on top, or it is too deep -/
theorem m_opens {x : Nat} (h : StM mb st I') (hx : x = 11 ∨ x = 91) (hl : st.length < 400) (h9 : I' mb 9 = 0) (h8 : I' mb 8 = nI p) : (dpS st = 10 ∧ f12_opens mb (nI x) I' J' = some (0, up2 I' mb 9 ((1 + 8 * nI p) + 2), J')) ∨ (dpS st ≠ 10 ∧ ∃ I1', f12_opens mb (nI x) I' J' = some (1, I1', J') ∧ StM mb (x :: st) I1' ∧ (∀ a, a ≠ mb → a ≠ mb + 7 → I1' a = I' a) ∧ ∀ k, k ≠ 13 → k ≠ 16 → I1' mb k = I' mb k) := by
  obtain ⟨s1, s2, s3, s4, s5⟩ := h
  have hd : dpS st < 2 ^ 31 := by
    have : ∀ l : List Nat, dpS l ≤ l.length := by
      intro l
      induction l with
      | nil => exact Nat.le_refl _
      | cons y l ih =>
        show (if y = 11 ∨ y = 91 then 1 else 0) + dpS l ≤ l.length + 1
        split <;> omega
    have := this st
    omega
  unfold f12_opens
  rw [s3]
  by_cases c : dpS st = 10
  · rw [c, if_pos (show nI 10 = (10 : Int32) from rfl), h8, m_fails h9, b3s, yb_ck_t (show bz 0 = true from rfl)]
    exact Or.inl ⟨rfl, rfl⟩
  · have e16 : up2 I' mb 13 (nI (dpS st + 1)) mb 16 = nI st.length := (up2_at (Or.inr (by decide))).trans s1
    rw [if_neg (show ¬ nI (dpS st) = (10 : Int32) from fun z => c ((nI_eq (b := 10) hd (by omega)).mp z)), nI_1, lts, e16, yb_ck_t (inb_nI hl (by decide)), nI_clamp (show st.length < 2 ^ 31 by omega), lts, up2_ne _ _ _ (show mb ≠ mb + 7 by omega), e16, nI_1, lts]
    refine Or.inr ⟨c, _, rfl, ⟨by rw [up2_same]; rfl, ⟨?_, ?_⟩, ?_, fun y hy => ?_, by simp; omega⟩, fun a h1 h2 => ?_, fun k h1 h2 => ?_⟩
    · rw [up2_ne _ _ _ (by omega), up2_same]
    · rw [up2_ne _ _ _ (by omega)]
      exact s2.cg (fun i hi => by rw [up2_at (Or.inr (by omega)), up2_ne _ _ _ (by omega)])
    · rw [up2_at (Or.inr (by decide)), up2_ne _ _ _ (by omega), up2_same]
      show nI (dpS st + 1) = nI ((if x = 11 ∨ x = 91 then 1 else 0) + dpS st)
      rw [if_pos hx, Nat.add_comm]
    · rcases List.mem_cons.mp hy with rfl | hy
      · rcases hx with q | q
        · exact Or.inl q
        · exact Or.inr (Or.inr (Or.inr q))
      · exact s4 y hy
    · rw [up2_ne _ _ _ h1, up2_ne _ _ _ h2, up2_ne _ _ _ h1]
    · rw [up2_at (Or.inr h2), up2_ne _ _ _ (by omega), up2_at (Or.inr h1)]
end TAIL
