/-! BENCHES, the class: days and rights of each order before each judge -/
def cnV (v : Nat → Int32) (u : List Nat) (D : Nat) : Nat → Nat → Nat → Int32 := fun c j d => canH v (u.getD c 0) j (nI (D + d))
def lnV (v : Nat → Int32) (u : List Nat) : Nat → Nat := fun c => (v (47 + 11 * u.getD c 0)).toNatClampNeg
def frV (v : Nat → Int32) (C j : Nat) : Nat := if hbF v j C 0 < 0 then 0 else (v (50 + 11 * (hbF v j C 0).toNatClampNeg)).toNatClampNeg
def BV (v : Nat → Int32) (u : List Nat) (C D : Nat) : Nat → Nat → Option Nat := Bd (cnV v u D) (frV v C) (lnV v u) u.length
def HV (v : Nat → Int32) (u : List Nat) (C D : Nat) : Nat → Nat → Option (List (Nat × Nat)) := Hh (cnV v u D) (frV v C) (lnV v u) u.length
def bI (D : Nat) : Option Nat → Int32
  | none => -1
  | some d => nI (D + d)
/-- the open cases as the class holds them -/
def OpC (b mb P C D : Nat) (u : List Nat) (I I' : IT) : Prop := CoreR b mb I I' P C D ∧ TblR b I ∧ I (b + 33) 14 = nI u.length ∧ u.length ≤ 4 ∧ ∀ i, i < u.length → u.getD i 0 < C ∧ I (b + 39) i = nI (u.getD i 0)
theorem hb_cases {v : Nat → Int32} {j : Nat} : ∀ r k, hbF v j r k = -1 ∨ ∃ c, k ≤ c ∧ c < k + r ∧ hbF v j r k = nI c ∧ v (49 + 11 * c) = nI j := by
  intro r
  induction r with
  | zero => intro k; exact Or.inl rfl
  | succ r ih =>
    intro k
    rw [hbF]
    by_cases c : v (49 + 11 * k) = nI j
    · rw [if_pos c]; exact Or.inr ⟨k, by omega, by omega, rfl, c⟩
    · rw [if_neg c]
      rcases ih (k + 1) with q | ⟨c, q1, q2, q3, q4⟩
      · exact Or.inl q
      · exact Or.inr ⟨c, by omega, by omega, q3, q4⟩
section PLACE
variable {N b mb P C D M K j o : Nat} {L : List Nat} {u : List Nat} {I I0 I' : IT} {J : JT} {S : ST} {Rf : RT} {Rl : Nat → List (List Tk × Option (List Tk))}
theorem OpC.keep {I1 : IT} (h : OpC b mb P C D u I I') (hI : ∀ a, a ≠ b + 33 → (a < b + 37 ∨ a = b + 39) → I1 a = I a) (h14 : I1 (b + 33) 14 = I (b + 33) 14) : OpC b mb P C D u I1 I' :=
  ⟨h.1.keep (fun a h1 h2 => hI a (by omega) (Or.inl (by omega))) rfl, h.2.1.cg (fun a h1 h2 => hI a (by omega) (Or.inl (by omega))), h14.trans h.2.2.1, h.2.2.2.1, fun i hi => ⟨(h.2.2.2.2 i hi).1, by rw [hI (b + 39) (by omega) (Or.inr rfl)]; exact (h.2.2.2.2 i hi).2⟩⟩
theorem OpC.ln (h : OpC b mb P C D u I I') {c : Nat} (hc : c < u.length) : I' (mb + 10) (47 + 11 * u.getD c 0) = nI (lnV (I' (mb + 10)) u c) ∧ 1 ≤ lnV (I' (mb + 10)) u c ∧ lnV (I' (mb + 10)) u c ≤ 9 := by
  obtain ⟨a, g, n, f, ea, eg, en, ef, ha, _, _, hn1, hn2, _⟩ := h.1.1.2.2.2.2.2.1 _ (h.2.2.2.2 c hc).1
  unfold lnV
  rw [en, nI_clamp (by omega)]
  exact ⟨rfl, hn1, hn2⟩
theorem OpC.t35 (h : OpC b mb P C D u I I') (ho : o < 65) : I (b + 35) o = nI (shN o) := by rw [h.2.1.2.1]; exact (tb1 o ho).1
theorem OpC.t36 (h : OpC b mb P C D u I I') (ho : o < 65) : I (b + 36) o = nI (laN o) := by rw [h.2.1.2.2]; exact (tb1 o ho).2.1
theorem ix65 (j o : Nat) : nI j * 65 + nI o = nI (j * 65 + o) := by
  show nI j * nI 65 + nI o = _
  rw [pk_mul, nI_add]
theorem c_free {d l : Nat} (hO : OpC b mb P C D u I I') (hj : j < 7) (hd : d ≤ 200) (hl : l ≤ 9) : ∀ r o i n h, dpN o = r → o < 65 → i + r ≤ 4 → r < n → HV (I' (mb + 10)) u C D j o = some h → (∀ o', 0 < o' → o' ≤ o → I (b + 37) (j * 65 + o') = bI D (BV (I' (mb + 10)) u C D j o')) →
    ∃ q, f4_isFree_L6 N b S Rf (nI j) (nI (D + d)) (nI l) n (nI o) (nI i) I J = some (q, I, J) ∧ sumQ q = if freeB (lnV (I' (mb + 10)) u) h d l = true then 1 else 0 := by
  have h12 := co_D12 hO.1
  have hC6 := co_C6 hO.1
  have hu4 := hO.2.2.2.1
  intro r
  induction r with
  | zero =>
    intro o i n h hr ho hi hn hh hB
    obtain ⟨n, rfl⟩ : ∃ q, n = q + 1 := ⟨n - 1, by omega⟩
    have o0 : o = 0 := by
      rcases Nat.eq_zero_or_pos o with q | q
      · exact q
      · have := (tb1 o ho).2.2.2.2.2.2.1 q; omega
    subst o0
    have : h = [] := by
      have e : HV (I' (mb + 10)) u C D j 0 = some [] := Hh_0
      rw [e] at hh; exact (Option.some.inj hh).symm
    subst this
    rw [f4_isFree_L6]
    by_cases c4 : (4 : Int32) ≤ nI i
    · rw [if_pos c4]; exact ⟨_, rfl, rfl⟩
    · rw [if_neg c4, if_pos (show nI 0 ≤ 0 by decide)]; exact ⟨_, rfl, rfl⟩
  | succ r ih =>
    intro o i n h hr ho hi hn hh hB
    obtain ⟨n, rfl⟩ : ∃ q, n = q + 1 := ⟨n - 1, by omega⟩
    have o0 : 0 < o := by
      rcases Nat.eq_zero_or_pos o with q | q
      · subst q; rw [dp0] at hr; omega
      · exact q
    obtain ⟨t1, t2, t3, t4, t5, t6, t7, t8⟩ := tb1 o ho
    have t5' := t5 o0
    have t7' := t7 o0
    cases hb : BV (I' (mb + 10)) u C D j o with
    | none =>
      have : HV (I' (mb + 10)) u C D j o = none := Bd_none o0 ho hb
      rw [this] at hh; cases hh
    | some d0 =>
      obtain ⟨t, e1, e2, e3, e4⟩ := Hh_some o0 ho hb
      have e1' : HV (I' (mb + 10)) u C D j (shN o) = some t := e1
      have e2' : HV (I' (mb + 10)) u C D j o = some ((laN o, d0) :: t) := e2
      rw [e2'] at hh
      have hh' := Option.some.inj hh
      subst hh'
      have hbo := hB o o0 (Nat.le_refl _)
      rw [hb] at hbo
      have hbo' : I (b + 37) (j * 65 + o) = nI (D + d0) := hbo
      obtain ⟨l1, l2, l3⟩ := hO.ln e3
      obtain ⟨u1, u2⟩ := hO.2.2.2.2 _ e3
      have hrec := ih (shN o) (i + 1) n t (by omega) t4 (by omega) (by omega) e1' (fun o' h1 h2 => hB o' h1 (by omega))
      rw [f4_isFree_L6, if_neg (show ¬ (4 : Int32) ≤ nI i from nI_ge (b := 4) (by omega) (by omega)), if_neg (nI_nle o0 (by omega)), ix65, yb_ck_t (inb_nI (show j * 65 + o < 455 by omega) (by decide)), nI_clamp (show j * 65 + o < 2 ^ 31 by omega), hbo', lts, yb_ck_t (inb_nI ho (by decide)), nI_clamp (show o < 2 ^ 31 by omega), hO.t36 ho, yb_ck_t (inb_nI t3 (by decide)), nI_clamp (show laN o < 2 ^ 31 by omega), u2, yb_ck_t (inb_nI (show u.getD (laN o) 0 < 6 by omega) (by decide)), nI_clamp (show u.getD (laN o) 0 < 2 ^ 31 by omega), co_len hO.1 u1, l1, nI_add, lts, hO.t35 ho, nI_add]
      have fb : freeB (lnV (I' (mb + 10)) u) ((laN o, d0) :: t) d l = ((decide (d0 + lnV (I' (mb + 10)) u (laN o) ≤ d) || decide (d + l ≤ d0)) && freeB (lnV (I' (mb + 10)) u) t d l) := rfl
      rw [fb]
      by_cases c1 : d0 + lnV (I' (mb + 10)) u (laN o) ≤ d
      · rw [if_pos (nI_le (by omega) (by omega)), lts, lts, nI_1, decide_eq_true c1, Bool.true_or, Bool.true_and]
        exact hrec
      · rw [if_neg (nI_ge (by omega) (by omega)), decide_eq_false c1, Bool.false_or]
        by_cases c2 : d + l ≤ d0
        · rw [if_pos (nI_le (by omega) (by omega)), lts, lts, nI_1, decide_eq_true c2, Bool.true_and]
          exact hrec
        · rw [if_neg (nI_ge (by omega) (by omega)), decide_eq_false c2, Bool.false_and]
          exact ⟨_, rfl, rfl⟩
theorem c_fdL {c s : Nat} {h : List (Nat × Nat)} (hN : 1000 ≤ N) (hO : OpC b mb P C D u I I') (hj : j < P) (hc : c < u.length) (hs : s < 65) (hh : HV (I' (mb + 10)) u C D j s = some h) (hB : ∀ o', 0 < o' → o' ≤ s → I (b + 37) (j * 65 + o') = bI D (BV (I' (mb + 10)) u C D j o')) : ∀ r d n, d + r = 100 → r < n →
    ∃ q, f4_firstDay_L107 N b S Rf (nI j) (nI s) (nI (u.getD c 0)) n (nI (D + d)) I J = some (q, I, J) ∧ sumM q = bI D (fdF (fun d => decide (cnV (I' (mb + 10)) u D c j d ≠ 0) && freeB (lnV (I' (mb + 10)) u) h d (lnV (I' (mb + 10)) u c)) r d) := by
  have h12 := co_D12 hO.1
  have hC6 := co_C6 hO.1
  have h7 := co_P7 hO.1
  obtain ⟨l1, l2, l3⟩ := hO.ln hc
  obtain ⟨u1, u2⟩ := hO.2.2.2.2 _ hc
  intro r
  induction r with
  | zero =>
    intro d n hd hn
    obtain ⟨n, rfl⟩ : ∃ q, n = q + 1 := ⟨n - 1, by omega⟩
    rw [f4_firstDay_L107, co_D hO.1, show (100 : Int32) = nI 100 from rfl, nI_add, if_pos (nI_le (by omega) (by omega))]
    exact ⟨_, rfl, rfl⟩
  | succ r ih =>
    intro d n hd hn
    obtain ⟨n, rfl⟩ : ∃ q, n = q + 1 := ⟨n - 1, by omega⟩
    have hi := ih (d + 1) n (by omega) (by omega)
    rw [show D + (d + 1) = D + d + 1 by omega] at hi
    rw [f4_firstDay_L107, co_D hO.1, show (100 : Int32) = nI 100 from rfl, nI_add, if_neg (nI_ge (by omega) (by omega)), q1_canHear hO.1 u1 hj, b3s, fdF]
    have ec : cnV (I' (mb + 10)) u D c j d = canH (I' (mb + 10)) (u.getD c 0) j (nI (D + d)) := rfl
    rw [ec]
    rcases canH01 (I' (mb + 10)) (u.getD c 0) j (nI (D + d)) with z | z
    · rw [z, if_pos rfl, lts, nI_1, decide_eq_false (fun q => q rfl), Bool.false_and, if_neg (by decide)]
      exact hi
    · obtain ⟨q, f1, f2⟩ := c_free (N := N) (S := S) (Rf := Rf) (J := J) (d := d) (l := lnV (I' (mb + 10)) u c) hO (show j < 7 by omega) (by omega) l3 (dpN s) s 0 N h rfl hs (by have := (tb1 s hs).2.2.2.2.2.1; omega) (by have := (tb1 s hs).2.2.2.2.2.1; omega) hh hB
      rw [show nI 0 = (0 : Int32) from rfl] at f1
      unfold f4_isFree
      rw [z, if_neg i10, yb_ck_t (inb_nI (show u.getD c 0 < 6 by omega) (by decide)), nI_clamp (show u.getD c 0 < 2 ^ 31 by omega), co_len hO.1 u1, l1, f1, b3s, decide_eq_true (show (1 : Int32) ≠ 0 by decide), Bool.true_and]
      by_cases cf : freeB (lnV (I' (mb + 10)) u) h d (lnV (I' (mb + 10)) u c) = true
      · rw [if_pos cf] at f2
        rw [if_pos cf]
        cases q with
        | inl x =>
          have : x = 1 := f2
          subst this
          rw [sml, b3s, if_neg i10]; exact ⟨_, rfl, rfl⟩
        | inr x => rw [smr, b3s, if_neg i10]; exact ⟨_, rfl, rfl⟩
      · rw [if_neg cf] at f2
        rw [if_neg cf]
        cases q with
        | inl x =>
          have : x = 0 := f2
          subst this
          rw [sml, b3s, if_pos rfl, lts, nI_1]; exact hi
        | inr x => exact absurd (show (1 : Int32) = 0 from f2) (by decide)
theorem fr_cases (h : CoreR b mb I I' P C D) {j : Nat} (hj : j < P) : frV (I' (mb + 10)) C j ≤ 9 ∧ ((hbF (I' (mb + 10)) j C 0 = -1 ∧ frV (I' (mb + 10)) C j = 0) ∨ ∃ c, c < C ∧ hbF (I' (mb + 10)) j C 0 = nI c ∧ I' (mb + 10) (50 + 11 * c) = nI (frV (I' (mb + 10)) C j)) := by
  have h6 := co_C6 h
  have h7 := co_P7 h
  unfold frV
  rcases hb_cases (v := I' (mb + 10)) (j := j) C 0 with q | ⟨c, q1, q2, q3, q4⟩
  · rw [q, if_pos (show (-1 : Int32) < 0 by decide)]
    exact ⟨by omega, Or.inl ⟨rfl, rfl⟩⟩
  · rw [q3, if_neg (nI_pos (by omega)), nI_clamp (by omega)]
    rcases (h.1.2.2.2.2.2.2.1 c (by omega)).1 with z | ⟨i, t, z1, z2, z3, z4, z5⟩
    · rw [z] at q4
      exact absurd (show nI j < 0 by rw [← q4]; decide) (nI_pos (by omega))
    · rw [z3, nI_clamp (by omega)]
      exact ⟨z5, Or.inr ⟨c, by omega, rfl, z3⟩⟩
theorem c_firstDay (hN : 1000 ≤ N) (hO : OpC b mb P C D u I I') (hj : j < P) (h0 : 0 < o) (ho : o < 65) (hB : ∀ o', 0 < o' → o' < o → I (b + 37) (j * 65 + o') = bI D (BV (I' (mb + 10)) u C D j o')) : f4_firstDay N b S Rf (nI j) (nI o) I J = some (bI D (BV (I' (mb + 10)) u C D j o), I, J) := by
  have h12 := co_D12 hO.1
  have hC6 := co_C6 hO.1
  have h7 := co_P7 hO.1
  have hu4 := hO.2.2.2.1
  obtain ⟨t1, t2, t3, t4, t5, t6, t7, t8⟩ := tb1 o ho
  have t5' := t5 h0
  unfold f4_firstDay
  have e65 : nI j * 65 = nI (j * 65) := by show nI j * nI 65 = _; rw [pk_mul]
  have eB : BV (I' (mb + 10)) u C D j o = if u.length ≤ laN o then none else match HV (I' (mb + 10)) u C D j (shN o) with
    | none => none
    | some h => fdF (fdP (cnV (I' (mb + 10)) u D) (frV (I' (mb + 10)) C) (lnV (I' (mb + 10)) u) j h (laN o)) 100 0 := Bd_eq h0 ho
  rw [e65, lts, yb_ck_t (inb_nI ho (by decide)), nI_clamp (show o < 2 ^ 31 by omega), hO.t35 ho, lts, hO.t36 ho, hO.2.2.1, eB]
  by_cases cm : u.length ≤ laN o
  · rw [if_pos (nI_le cm (by omega)), if_pos cm]; rfl
  · have hc : laN o < u.length := by omega
    obtain ⟨u1, u2⟩ := hO.2.2.2.2 _ hc
    rw [if_neg (nI_ge (by omega) (by omega)), if_neg cm]
    obtain ⟨fr9, frc⟩ := fr_cases hO.1 hj
    have tail : ∀ h, HV (I' (mb + 10)) u C D j (shN o) = some h → ∃ q, (yb_b3 (f0_heardBy N b S Rf (b + 14) (nI j) I J) fun r_8 I_9 J_10 =>
      if 0 ≤ r_8 then
        yb_ck (inb r_8 6) fun _ =>
        yb_let ((I_9 (b + 14) 9) + (I_9 (b + 18) r_8.toNatClampNeg)) fun x8_14 =>
        yb_b3 (f4_firstDay_L107 N b S Rf (nI j) (nI (shN o)) (nI (u.getD (laN o) 0)) N x8_14 I_9 J_10) fun q_29 I_30 J_31 =>
        yb_sm q_29 (fun v_33 => some (v_33, I_30, J_31)) fun x_34 =>
        some ((-1 : Int32), I_30, J_31)
      else
        yb_let ((I_9 (b + 14) 9) + (0 : Int32)) fun x8_35 =>
        yb_b3 (f4_firstDay_L107 N b S Rf (nI j) (nI (shN o)) (nI (u.getD (laN o) 0)) N x8_35 I_9 J_10) fun q_36 I_37 J_38 =>
        yb_sm q_36 (fun v_40 => some (v_40, I_37, J_38)) fun x_41 =>
        some ((-1 : Int32), I_37, J_38)) = some (q, I, J) ∧ q = bI D (fdF (fdP (cnV (I' (mb + 10)) u D) (frV (I' (mb + 10)) C) (lnV (I' (mb + 10)) u) j h (laN o)) 100 0) := by
      intro h hh
      obtain ⟨q, f1, f2⟩ := c_fdL (N := N) (S := S) (Rf := Rf) (J := J) hN hO hj hc t4 hh (fun o' h1 h2 => hB o' h1 (by omega)) (100 - frV (I' (mb + 10)) C j) (frV (I' (mb + 10)) C j) N (by omega) (by omega)
      have ef : fdF (fdP (cnV (I' (mb + 10)) u D) (frV (I' (mb + 10)) C) (lnV (I' (mb + 10)) u) j h (laN o)) 100 0 = fdF (fun d => decide (cnV (I' (mb + 10)) u D (laN o) j d ≠ 0) && freeB (lnV (I' (mb + 10)) u) h d (lnV (I' (mb + 10)) u (laN o))) (100 - frV (I' (mb + 10)) C j) (frV (I' (mb + 10)) C j) := by
        have s1 := fdF_skip (p := fdP (cnV (I' (mb + 10)) u D) (frV (I' (mb + 10)) C) (lnV (I' (mb + 10)) u) j h (laN o)) (f := frV (I' (mb + 10)) C j) (frV (I' (mb + 10)) C j) 0 (100 - frV (I' (mb + 10)) C j) (by omega) (fun d hd => by
          unfold fdP
          rw [decide_eq_false (show ¬ frV (I' (mb + 10)) C j ≤ d by omega), Bool.false_and, Bool.and_false])
        rw [show frV (I' (mb + 10)) C j + (100 - frV (I' (mb + 10)) C j) = 100 by omega] at s1
        rw [s1]
        refine fdF_congr _ _ (fun d h1 h2 => ?_)
        unfold fdP
        rw [decide_eq_true h1, Bool.true_and]
      rw [ef, ← f2, q0_heardBy (by omega) hO.1 hj, b3s]
      rcases frc with ⟨z1, z2⟩ | ⟨c, z1, z2, z3⟩
      · rw [z2, Nat.add_zero] at f1
        rw [z1, if_neg (show ¬ (0 : Int32) ≤ -1 by decide), co_D hO.1, Int32.add_zero, lts, f1, b3s]
        cases q with
        | inl x => rw [sml]; exact ⟨x, rfl, rfl⟩
        | inr x => rw [smr]; exact ⟨-1, rfl, rfl⟩
      · rw [z2, if_pos (nI_pos' (by omega)), yb_ck_t (inb_nI (show c < 6 by omega) (by decide)), nI_clamp (show c < 2 ^ 31 by omega), co_D hO.1, co_toGo hO.1 z1, z3, nI_add, lts, f1, b3s]
        cases q with
        | inl x => rw [sml]; exact ⟨x, rfl, rfl⟩
        | inr x => rw [smr]; exact ⟨-1, rfl, rfl⟩
    by_cases cs : shN o = 0
    · have hh : HV (I' (mb + 10)) u C D j (shN o) = some [] := by rw [cs]; exact Hh_0
      obtain ⟨q, g1, g2⟩ := tail [] hh
      rw [hh, if_pos (show nI (shN o) ≤ 0 by rw [cs]; decide), yb_ck_t (inb_nI t3 (by decide)), nI_clamp (show laN o < 2 ^ 31 by omega), u2, lts, g1, g2]
    · have hbs := hB (shN o) (by omega) t5'
      rw [if_neg (nI_nle (by omega) (by omega)), nI_add, yb_ck_t (inb_nI (show j * 65 + shN o < 455 by omega) (by decide)), nI_clamp (show j * 65 + shN o < 2 ^ 31 by omega), hbs]
      cases hb : BV (I' (mb + 10)) u C D j (shN o) with
      | none =>
        have hh : HV (I' (mb + 10)) u C D j (shN o) = none := Bd_none (by omega) t4 hb
        rw [hh, if_neg (show ¬ (0 : Int32) ≤ bI D none from (by decide : ¬ (0 : Int32) ≤ -1))]
        rfl
      | some d0 =>
        obtain ⟨t, _, e2, _, e4⟩ := Hh_some (show 0 < shN o by omega) t4 hb
        have hh : HV (I' (mb + 10)) u C D j (shN o) = some ((laN (shN o), d0) :: t) := e2
        obtain ⟨q, g1, g2⟩ := tail _ hh
        rw [hh, if_pos (show (0 : Int32) ≤ bI D (some d0) from nI_pos' (by omega)), yb_ck_t (inb_nI t3 (by decide)), nI_clamp (show laN o < 2 ^ 31 by omega), u2, lts, g1, g2]
theorem c_placeL (hN : 1000 ≤ N) (hj : j < P) (h0 : OpC b mb P C D u I0 I') : ∀ r o n (I : IT), o + r = 65 → 1 ≤ o → r < n → (∀ a, a ≠ b + 37 → I a = I0 a) → (∀ i, (i ≤ j * 65 ∨ j * 65 + 65 ≤ i) → I (b + 37) i = I0 (b + 37) i) → (∀ o', 0 < o' → o' < o → I (b + 37) (j * 65 + o') = bI D (BV (I' (mb + 10)) u C D j o')) →
    ∃ I1, f4_placeAll_L21 N b S Rf (nI j) n (nI o) I J = some ((), I1, J) ∧ (∀ a, a ≠ b + 37 → I1 a = I0 a) ∧ (∀ i, (i ≤ j * 65 ∨ j * 65 + 65 ≤ i) → I1 (b + 37) i = I0 (b + 37) i) ∧ ∀ o', 0 < o' → o' < 65 → I1 (b + 37) (j * 65 + o') = bI D (BV (I' (mb + 10)) u C D j o') := by
  have h7 := co_P7 h0.1
  intro r
  induction r with
  | zero =>
    intro o n I hr h1 hn f1 f2 f3
    obtain ⟨n, rfl⟩ : ∃ q, n = q + 1 := ⟨n - 1, by omega⟩
    rw [f4_placeAll_L21, if_pos (show (65 : Int32) ≤ nI o from nI_le (a := 65) (by omega) (by omega))]
    exact ⟨I, rfl, f1, f2, fun o' g1 g2 => f3 o' g1 (by omega)⟩
  | succ r ih =>
    intro o n I hr h1 hn f1 f2 f3
    obtain ⟨n, rfl⟩ : ∃ q, n = q + 1 := ⟨n - 1, by omega⟩
    have hO : OpC b mb P C D u I I' := h0.keep (fun a g1 g2 => f1 a (by omega)) (by rw [f1 _ (by omega)])
    rw [f4_placeAll_L21, if_neg (show ¬ (65 : Int32) ≤ nI o from nI_ge (b := 65) (by omega) (by omega)), c_firstDay hN hO hj (by omega) (by omega) f3, b3s, ix65, yb_ck_t (inb_nI (show j * 65 + o < 455 by omega) (by decide)), nI_clamp (show j * 65 + o < 2 ^ 31 by omega), lts, lts, nI_1]
    refine ih (o + 1) n _ (by omega) (by omega) (by omega) (fun a ha => (up2_ne _ _ _ ha).trans (f1 a ha)) (fun i hi => (up2_at (Or.inr (by omega))).trans (f2 i hi)) (fun o' g1 g2 => ?_)
    by_cases ce : o' = o
    · subst ce; exact up2_same _ _ _ _
    · rw [up2_at (Or.inr (by omega))]; exact f3 o' g1 (by omega)
theorem c_weighL (hN : 1000 ≤ N) (hj : j < P) (h0 : RelB b mb L S Rf I0 I' P C D M K Rl) (hO : OpC b mb P C D u I0 I') (hB : ∀ o, 0 < o → o < 65 → I0 (b + 37) (j * 65 + o) = bI D (BV (I' (mb + 10)) u C D j o)) : ∀ r o n (I : IT) (J : JT), o + r = 65 → 1 ≤ o → r < n → (∀ a, a ≠ b + 38 → I a = I0 a) → (∀ i, (i ≤ j * 65 ∨ j * 65 + 65 ≤ i) → I (b + 38) i = I0 (b + 38) i) → (∀ o' d, 0 < o' → o' < o → BV (I' (mb + 10)) u C D j o' = some d → I (b + 38) (j * 65 + o') = rgtC (I' (mb + 10)) (I' mb 21) Rl (u.getD (laN o') 0) j (nI (D + d)) (I' (mb + 10) (14 + 5 * j)) 0) →
    ∃ I1 J1, f4_weigh_L18 N b S Rf (nI j) (I' (mb + 10) (14 + 5 * j)) n (nI o) I J = some ((), I1, J1) ∧ (∀ a, a ≠ b + 38 → I1 a = I0 a) ∧ (∀ i, (i ≤ j * 65 ∨ j * 65 + 65 ≤ i) → I1 (b + 38) i = I0 (b + 38) i) ∧ ∀ o' d, 0 < o' → o' < 65 → BV (I' (mb + 10)) u C D j o' = some d → I1 (b + 38) (j * 65 + o') = rgtC (I' (mb + 10)) (I' mb 21) Rl (u.getD (laN o') 0) j (nI (D + d)) (I' (mb + 10) (14 + 5 * j)) 0 := by
  have h7 := co_P7 hO.1
  have h12 := co_D12 hO.1
  have hC6 := co_C6 hO.1
  intro r
  induction r with
  | zero =>
    intro o n I J hr h1 hn f1 f2 f3
    obtain ⟨n, rfl⟩ : ∃ q, n = q + 1 := ⟨n - 1, by omega⟩
    rw [f4_weigh_L18, if_pos (show (65 : Int32) ≤ nI o from nI_le (a := 65) (by omega) (by omega))]
    exact ⟨I, J, rfl, f1, f2, fun o' d g1 g2 => f3 o' d g1 (by omega)⟩
  | succ r ih =>
    intro o n I J hr h1 hn f1 f2 f3
    obtain ⟨n, rfl⟩ : ∃ q, n = q + 1 := ⟨n - 1, by omega⟩
    have ho : o < 65 := by omega
    have h : RelB b mb L S Rf I I' P C D M K Rl := h0.keep (fun a ha => f1 a (by omega)) (SameM.rf mb I')
    have e37 : I (b + 37) (j * 65 + o) = bI D (BV (I' (mb + 10)) u C D j o) := by rw [f1 _ (by omega)]; exact hB o (by omega) ho
    rw [f4_weigh_L18, if_neg (show ¬ (65 : Int32) ≤ nI o from nI_ge (b := 65) (by omega) (by omega)), ix65, lts, yb_ck_t (inb_nI (show j * 65 + o < 455 by omega) (by decide)), nI_clamp (show j * 65 + o < 2 ^ 31 by omega), e37]
    cases hb : BV (I' (mb + 10)) u C D j o with
    | none =>
      rw [if_pos (show bI D none < 0 from (by decide : (-1 : Int32) < 0)), lts, nI_1]
      refine ih (o + 1) n I J (by omega) (by omega) (by omega) f1 f2 (fun o' d g1 g2 g3 => ?_)
      by_cases ce : o' = o
      · subst ce; rw [hb] at g3; cases g3
      · exact f3 o' d g1 (by omega) g3
    | some d =>
      obtain ⟨t, _, _, e3, e4⟩ := Hh_some (show 0 < o by omega) ho hb
      obtain ⟨u1, u2⟩ := hO.2.2.2.2 _ e3
      have t3 := (tb1 o ho).2.2.1
      have e36 : I (b + 36) o = nI (laN o) := by rw [f1 _ (by omega)]; exact hO.t36 ho
      have e39 : I (b + 39) (laN o) = nI (u.getD (laN o) 0) := by rw [f1 _ (by omega)]; exact u2
      obtain ⟨a, g, n1, J1, r1, ha, hg, _, _, ea, eg, en, hC, _⟩ := q1_chargeOf (J := J) (S := S) (Rf := Rf) (ti := 0) h.core u1
      obtain ⟨J2, s1, _, _⟩ := q1_rightOf (J := J1) hN h.core h.rules h.f6 h.fo (d := nI (D + d)) (ru := I' (mb + 10) (14 + 5 * j)) hj ha hg hC
      have er : rgtV (I' (mb + 10)) (I' mb 21) Rl j a (nI g) (nI n1) (nI (D + d)) (I' (mb + 10) (14 + 5 * j)) 0 = rgtC (I' (mb + 10)) (I' mb 21) Rl (u.getD (laN o) 0) j (nI (D + d)) (I' (mb + 10) (14 + 5 * j)) 0 := by
        unfold rgtC
        have := co_P7 h.core
        rw [ea, eg, en, nI_clamp (by omega)]
      rw [er] at s1
      have e37' : I (b + 37) (j * 65 + o) = nI (D + d) := by rw [e37, hb]; rfl
      rw [if_neg (show ¬ bI D (some d) < 0 from nI_pos (by omega)), yb_ck_t (inb_nI ho (by decide)), nI_clamp (show o < 2 ^ 31 by omega), e36, yb_ck_t (inb_nI t3 (by decide)), nI_clamp (show laN o < 2 ^ 31 by omega), e39, r1, b3s, e37', s1, b3s, lts, lts, nI_1]
      refine ih (o + 1) n _ J2 (by omega) (by omega) (by omega) (fun a ha => (up2_ne _ _ _ ha).trans (f1 a ha)) (fun i hi => (up2_at (Or.inr (by omega))).trans (f2 i hi)) (fun o' d' g1 g2 g3 => ?_)
      by_cases ce : o' = o
      · subst ce
        rw [hb] at g3
        cases g3
        exact up2_same _ _ _ _
      · rw [up2_at (Or.inr (by omega))]; exact f3 o' d' g1 (by omega) g3
end PLACE
