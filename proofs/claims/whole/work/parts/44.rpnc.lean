section CLS
variable {N b q : Nat} {S : ST} {Rf : RT} {I : IT} {J : JT}
theorem tkO_eq {s : Nat} (h1 : 2 ≤ s) (h2 : s ≤ 14) : tkO s ≤ 12 ∧ (tkO s = 12 ↔ s = 11) := by
  obtain rfl | rfl | rfl | rfl | rfl | rfl | rfl | rfl | rfl | rfl | rfl | rfl | rfl : s = 2 ∨ s = 3 ∨ s = 4 ∨ s = 5 ∨ s = 6 ∨ s = 7 ∨ s = 8 ∨ s = 9 ∨ s = 10 ∨ s = 11 ∨ s = 12 ∨ s = 13 ∨ s = 14 := by omega
  all_goals decide
theorem k5_joined {s : Nat} {x y : Int64} (h1 : 2 ≤ s) (h2 : s ≤ 14) (h3 : s ≠ 11) : f5_joined b S Rf (nI (200000 + tkO s)) x y I J = some (opV s x y, I, J) := by
  have hz : lg_cmp y 0 ≠ 0 → ¬ y = 0 := fun c e => c (by rw [e]; decide)
  obtain rfl | rfl | rfl | rfl | rfl | rfl | rfl | rfl | rfl | rfl | rfl | rfl : s = 2 ∨ s = 3 ∨ s = 4 ∨ s = 5 ∨ s = 6 ∨ s = 7 ∨ s = 8 ∨ s = 9 ∨ s = 10 ∨ s = 12 ∨ s = 13 ∨ s = 14 := by omega
  · rfl
  · rfl
  · rfl
  · show (if lg_cmp y 0 = 0 then some ((0 : Int64), I, J) else if y = 0 then none else some (x / y, I, J)) = some ((if lg_cmp y 0 = 0 then 0 else x / y), I, J)
    by_cases c : lg_cmp y 0 = 0
    · rw [if_pos c, if_pos c]
    · rw [if_neg c, if_neg c, if_neg (hz c)]
  · show (if 0 ≤ lg_cmp x y then some ((0 : Int64), I, J) else some ((1 : Int64), I, J)) = some ((if 0 ≤ lg_cmp x y then 0 else 1), I, J)
    split <;> rfl
  · show (if 0 < lg_cmp x y then some ((0 : Int64), I, J) else some ((1 : Int64), I, J)) = some ((if 0 < lg_cmp x y then 0 else 1), I, J)
    split <;> rfl
  · show (if lg_cmp x y = 0 then some ((1 : Int64), I, J) else some ((0 : Int64), I, J)) = some ((if lg_cmp x y = 0 then 1 else 0), I, J)
    split <;> rfl
  · show (if lg_cmp x y < 0 then some ((0 : Int64), I, J) else some ((1 : Int64), I, J)) = some ((if lg_cmp x y < 0 then 0 else 1), I, J)
    split <;> rfl
  · show (if lg_cmp x y ≤ 0 then some ((0 : Int64), I, J) else some ((1 : Int64), I, J)) = some ((if lg_cmp x y ≤ 0 then 0 else 1), I, J)
    split <;> rfl
  · rfl
  · rfl
  · show (if lg_cmp y 0 = 0 then some ((0 : Int64), I, J) else if y = 0 then none else some (x - x / y * y, I, J)) = some ((if lg_cmp y 0 = 0 then 0 else x - x / y * y), I, J)
    by_cases c : lg_cmp y 0 = 0
    · rw [if_pos c, if_pos c]
    · rw [if_neg c, if_neg c, if_neg (hz c)]
/-- the steps of a list of tokens, one by one: the loop stands behind them with their stack -/
theorem k5_run {W : Nat → Int64} : ∀ (ts : List Tk) (p n : Nat) (st st1 : List Int64) (J : JT), p + ts.length ≤ (S (q + 1)).2 → (S (q + 1)).2 < 2 ^ 31 → (∀ t ∈ ts, TkOK t) → TokAt (I (q + 1)) p (ts.map tkC) → runT W ts st = some st1 → st.length + cntT ts ≤ 64 → StkR (J (b + 32)) st → (∀ i, i < 12 → J (b + 31) i = W i) →
    ∃ J1, f5_sum_L5 N b S Rf q (n + ts.length) (nI st.length) (nI p) I J = f5_sum_L5 N b S Rf q n (nI st1.length) (nI (p + ts.length)) I J1 ∧ StkR (J1 (b + 32)) st1 ∧ (∀ a, a ≠ b + 32 → J1 a = J a)
  | [], p, n, st, st1, J, hp, hS2, ho, ha, hr, hc, hS, hW => by
    cases hr
    exact ⟨J, rfl, hS, fun _ _ => rfl⟩
  | t :: ts, p, n, st, st1, J, hp, hS2, ho, ha, hr, hc, hS, hW => by
    simp only [List.length_cons] at hp ⊢
    have hto := ho t (List.mem_cons_self ..)
    have hat : I (q + 1) p = tkC t := ha.1
    rw [show n + (ts.length + 1) = (n + ts.length) + 1 by omega, f5_sum_L5, if_neg (nI_ge (by omega) hS2), yb_ck_t (inb_nI (by omega) hS2), nI_clamp (by omega), hat, lts]
    simp only [runT] at hr
    simp only [cntT] at hc
    have fin : ∀ (s1 : List Int64) (J2 : JT), stepT W t st = some s1 → s1.length + cntT ts ≤ 64 → StkR (J2 (b + 32)) s1 → (∀ a, a ≠ b + 32 → J2 a = J a) →
        ∃ J1, f5_sum_L5 N b S Rf q (n + ts.length) (nI s1.length) (nI p + 1) I J2 = f5_sum_L5 N b S Rf q n (nI st1.length) (nI (p + (ts.length + 1))) I J1 ∧ StkR (J1 (b + 32)) st1 ∧ (∀ a, a ≠ b + 32 → J1 a = J a) := by
      intro s1 J2 q1 q2 q4 q6
      rw [q1] at hr
      obtain ⟨J1, r1, r3, r6⟩ := k5_run ts (p + 1) n s1 st1 J2 (by omega) hS2 (fun t h => ho t (List.mem_cons_of_mem _ h)) ha.2 hr q2 q4 (fun i hi => by rw [q6 _ (by omega)]; exact hW i hi)
      rw [nI_1, r1, show p + 1 + ts.length = p + (ts.length + 1) by omega]
      exact ⟨J1, rfl, r3, fun a h => (r6 a h).trans (q6 a h)⟩
    have hlen : st.length ≤ 64 := by omega
    rcases hto with ⟨t0, tv⟩ | ⟨t1, tv⟩ | ⟨t2, t14, tv⟩
    · have e : tkC t = nI t.2 := by unfold tkC; rw [if_pos t0]
      rw [if_pos (by omega)] at hc
      rw [e, if_neg (show ¬ (200000 : Int32) ≤ nI t.2 from nI_ge (a := t.2) (b := 200000) (by omega) (by omega)), if_pos (nI_lt (by omega) (by omega))]
      unfold f5_valueOf
      rw [if_neg (show ¬ (100000 : Int32) ≤ nI t.2 from nI_ge (a := t.2) (b := 100000) (by omega) (by omega)), b3s, yb_ck_t (inb_nI (by omega) (by decide)), nI_clamp (by omega), lts, nI_1, lts, lts]
      refine fin (_ :: st) _ (by unfold stepT; rw [if_pos t0]) (by simp only [List.length_cons]; omega) ?_ (fun a h => up2J_ne _ _ _ h)
      rw [up2J_at]; exact hS.push
    · have e : tkC t = nI (100000 + t.2) := by unfold tkC; rw [if_neg (by omega), if_pos t1]
      rw [if_pos (by omega)] at hc
      rw [e, if_neg (show ¬ (200000 : Int32) ≤ nI (100000 + t.2) from nI_ge (b := 200000) (by omega) (by omega)), if_pos (nI_lt (by omega) (by omega))]
      unfold f5_valueOf
      rw [if_pos (show (100000 : Int32) ≤ nI (100000 + t.2) from nI_le (a := 100000) (by omega) (by omega)), lts]
      have e2 : nI (100000 + t.2) - 100000 = nI t.2 := by
        show nI (100000 + t.2) - nI 100000 = _
        rw [pk_sub (Nat.le_add_right ..), Nat.add_sub_cancel_left]
      rw [e2, if_neg (nI_ge (by omega) (by omega)), yb_ck_t (inb_nI (by omega) (by decide)), nI_clamp (by omega), hW _ (by omega), b3s, yb_ck_t (inb_nI (by omega) (by decide)), nI_clamp (by omega), lts, nI_1, lts, lts]
      refine fin (_ :: st) _ (by unfold stepT; rw [if_neg (by omega), if_pos t1]) (by simp only [List.length_cons]; omega) ?_ (fun a h => up2J_ne _ _ _ h)
      rw [up2J_at]; exact hS.push
    · have e : tkC t = nI (200000 + tkO t.1) := by unfold tkC; rw [if_neg (by omega), if_neg (by omega)]
      obtain ⟨o1, o2⟩ := tkO_eq t2 t14
      rw [if_neg (by omega)] at hc
      rw [e, if_pos (show (200000 : Int32) ≤ nI (200000 + tkO t.1) from nI_le (a := 200000) (by omega) (by omega))]
      by_cases c11 : t.1 = 11
      · have o12 : tkO t.1 = 12 := o2.mpr c11
        rw [o12, if_pos (show (200011 : Int32) < nI (200000 + 12) by decide), if_pos (show nI (200000 + 12) = 200012 from rfl)]
        have hst : stepT W t st = stN st := by unfold stepT; rw [if_neg (by omega), if_neg (by omega), if_pos c11]
        cases st with
        | nil => rw [hst] at hr; cases hr
        | cons x r =>
          simp only [List.length_cons] at hc hlen ⊢
          have e1 : J (b + 32) r.length = x := hS.1
          rw [if_pos (show (1 : Int32) ≤ nI (r.length + 1) from nI_le (a := 1) (by omega) (by omega)), nI_pred, yb_ck_t (inb_nI (by omega) (by decide)), nI_clamp (by omega), e1, lts, lts]
          refine fin ((1 - x) :: r) _ hst (by simp only [List.length_cons]; omega) ?_ (fun a h => up2J_ne _ _ _ h)
          rw [up2J_at]
          exact hS.2.push
      · have o12 : tkO t.1 ≠ 12 := fun h => c11 (o2.mp h)
        rw [if_neg (show ¬ (200011 : Int32) < nI (200000 + tkO t.1) from nI_nlt (b := 200000 + tkO t.1) (a := 200011) (by omega) (by omega))]
        have hst : stepT W t st = stO t.1 st := by unfold stepT; rw [if_neg (by omega), if_neg (by omega), if_neg c11]
        rcases st with _ | ⟨y, _ | ⟨x, r⟩⟩
        · rw [hst] at hr; cases hr
        · rw [hst] at hr; cases hr
        ·
          simp only [List.length_cons] at hc hlen ⊢
          have em : nI (r.length + 1 + 1) + (-1) = nI (r.length + 1) := pk_m1 _
          have e1 : J (b + 32) (r.length + 1) = y := hS.1
          have e2 : J (b + 32) r.length = x := hS.2.1
          rw [if_pos (show (2 : Int32) ≤ nI (r.length + 1 + 1) from nI_le (a := 2) (by omega) (by omega)), em, lts, nI_pred, yb_ck_t (inb_nI (by omega) (by decide)), yb_ck_t (inb_nI (by omega) (by decide)), nI_clamp (by omega), nI_clamp (by omega), e1, e2, k5_joined t2 t14 c11, b3s, lts, lts]
          refine fin _ _ hst (by simp only [List.length_cons]; omega) ?_ (fun a h => up2J_ne _ _ _ h)
          rw [up2J_at]
          exact hS.2.2.push
end CLS
/-- one clause's steps -/
def encC (x : List Tk × Option (List Tk)) : List Int32 := match x.2 with
  | none => x.1.map tkC ++ [nI 200013]
  | some u => x.1.map tkC ++ (u.map tkC ++ [nI 200014])
def encR : List (List Tk × Option (List Tk)) → List Int32
  | [] => []
  | x :: r => encC x ++ encR r
def ClOK (x : List Tk × Option (List Tk)) : Prop := SemA x.1 ∧ (∀ t ∈ x.1, TkOK t) ∧ cntT x.1 ≤ 60 ∧ ∀ u, x.2 = some u → SemB u ∧ (∀ t ∈ u, TkOK t) ∧ cntT u ≤ 60
/-- one clause in the reference's rows -/
def ClR (I : IT) (mb k i : Nat) (x : List Tk × Option (List Tk)) : Prop :=
  ∃ s, I (mb + 4) (48 * k + 4 * i) = nI s ∧ I (mb + 4) (48 * k + 4 * i + 1) = nI (s + x.1.length) ∧ s + x.1.length ≤ 400 ∧ TokAt (I (mb + 2)) (400 * k + s) (x.1.map tkI) ∧
    ((x.2 = none ∧ I (mb + 4) (48 * k + 4 * i + 2) = -1) ∨ ∃ u s1, x.2 = some u ∧ I (mb + 4) (48 * k + 4 * i + 2) = nI s1 ∧ I (mb + 4) (48 * k + 4 * i + 3) = nI (s1 + u.length) ∧ s1 + u.length ≤ 400 ∧ TokAt (I (mb + 2)) (400 * k + s1) (u.map tkI))
def ClsR (I : IT) (mb k : Nat) : Nat → List (List Tk × Option (List Tk)) → Prop
  | _, [] => True
  | i, x :: r => ClR I mb k i x ∧ ClsR I mb k (i + 1) r
/-- what a rule comes to -/
def sumV (W : Nat → Int64) : List (List Tk × Option (List Tk)) → Int64
  | [] => 0
  | x :: r => match x.2 with
    | none => valT W x.1
    | some u => if valT W u = 0 then sumV W r else valT W x.1
section TWO
variable {N b mb q : Nat} {S : ST} {Rf : RT} {I : IT}
theorem k5_sumL {W : Nat → Int64} : ∀ (cl : List (List Tk × Option (List Tk))) (p n : Nat) (J : JT), (∀ x ∈ cl, ClOK x) → p + (encR cl).length = (S (q + 1)).2 → (S (q + 1)).2 < 2 ^ 31 → (encR cl).length < n → TokAt (I (q + 1)) p (encR cl) → (∀ i, i < 12 → J (b + 31) i = W i) →
    ∃ r J1, f5_sum_L5 N b S Rf q n 0 (nI p) I J = some (r, I, J1) ∧ (r = Sum.inl (sumV W cl) ∨ (r = Sum.inr () ∧ sumV W cl = 0)) ∧ (∀ a, a ≠ b + 32 → J1 a = J a)
  | [], p, n, J, ho, hp, hS2, hn, ha, hW => by
    obtain ⟨n, rfl⟩ : ∃ q, n = q + 1 := ⟨n - 1, by omega⟩
    simp only [encR, List.length_nil, Nat.add_zero] at hp
    refine ⟨_, J, ?_, Or.inr ⟨rfl, rfl⟩, fun _ _ => rfl⟩
    rw [f5_sum_L5, hp, if_pos (nI_le (Nat.le_refl _) hS2)]
  | (x, o) :: cl, p, n, J, ho, hp, hS2, hn, ha, hW => by
    obtain ⟨hA, hT, hc, hB⟩ := ho (x, o) (List.mem_cons_self ..)
    have hc : cntT x ≤ 60 := hc
    have ha' : TokAt (I (q + 1)) p (encC (x, o)) ∧ TokAt (I (q + 1)) (p + (encC (x, o)).length) (encR cl) := TokAt.app.mp ha
    have hlen : (encR ((x, o) :: cl)).length = (encC (x, o)).length + (encR cl).length := List.length_append
    rw [hlen] at hp hn
    obtain ⟨ha1, ha2⟩ := ha'
    cases o with
    | none =>
      have e : encC (x, none) = x.map tkC ++ [nI 200013] := rfl
      rw [e] at ha1 ha2 hp hn
      simp only [List.length_append, List.length_map, List.length_cons, List.length_nil] at hp hn ha2
      obtain ⟨c1, c2⟩ := TokAt.app.mp ha1
      simp only [List.length_map] at c2
      obtain ⟨m, rfl⟩ : ∃ m, n = (m + 1) + x.length := ⟨n - x.length - 1, by omega⟩
      obtain ⟨J1, r1, r2, r3⟩ := k5_run (N := N) (b := b) (q := q) (S := S) (Rf := Rf) (I := I) (W := W) x p (m + 1) [] _ J (by omega) hS2 hT c1 (hA.run W []) (by simp only [List.length_nil]; omega) trivial hW
      rw [show (0 : Int32) = nI ([] : List Int64).length from rfl, r1, f5_sum_L5, if_neg (nI_ge (by omega) hS2), yb_ck_t (inb_nI (by omega) hS2), nI_clamp (by omega), c2.1, lts, if_pos (show (200000 : Int32) ≤ nI 200013 by decide), if_pos (show (200011 : Int32) < nI 200013 by decide), if_neg (show ¬ nI 200013 = 200012 by decide), if_pos (show nI 200013 = 200013 from rfl)]
      simp only [List.length_cons, List.length_nil]
      rw [if_pos (show (1 : Int32) ≤ nI (0 + 1) by decide), nI_pred, yb_ck_t (inb_nI (by omega) (by decide)), nI_clamp (by omega)]
      have e1 : J1 (b + 32) 0 = valT W x := r2.1
      rw [e1]
      exact ⟨_, J1, rfl, Or.inl rfl, r3⟩
    | some u =>
      obtain ⟨hB1, hB2, hB3⟩ := hB u rfl
      have e : encC (x, some u) = x.map tkC ++ (u.map tkC ++ [nI 200014]) := rfl
      rw [e] at ha1 ha2 hp hn
      simp only [List.length_append, List.length_map, List.length_cons, List.length_nil] at hp hn ha2
      obtain ⟨c1, c2⟩ := TokAt.app.mp ha1
      obtain ⟨c2, c3⟩ := TokAt.app.mp c2
      simp only [List.length_map] at c2 c3
      obtain ⟨m, rfl⟩ : ∃ m, n = ((m + 1) + u.length) + x.length := ⟨n - x.length - u.length - 1, by omega⟩
      obtain ⟨J1, r1, r2, r3⟩ := k5_run (N := N) (b := b) (q := q) (S := S) (Rf := Rf) (I := I) (W := W) x p (m + 1 + u.length) [] _ J (by omega) hS2 hT c1 (hA.run W []) (by simp only [List.length_nil]; omega) trivial hW
      obtain ⟨J2, g1, g2, g3⟩ := k5_run (N := N) (b := b) (q := q) (S := S) (Rf := Rf) (I := I) (W := W) u (p + x.length) (m + 1) [valT W x] _ J1 (by omega) hS2 hB2 c2 (hB1.a.run W _) (by simp only [List.length_cons, List.length_nil]; omega) r2 (fun i hi => by rw [r3 _ (by omega)]; exact hW i hi)
      rw [show (0 : Int32) = nI ([] : List Int64).length from rfl, r1, g1, f5_sum_L5, if_neg (nI_ge (by omega) hS2), yb_ck_t (inb_nI (by omega) hS2), nI_clamp (by omega), c3.1, lts, if_pos (show (200000 : Int32) ≤ nI 200014 by decide), if_pos (show (200011 : Int32) < nI 200014 by decide), if_neg (show ¬ nI 200014 = 200012 by decide), if_neg (show ¬ nI 200014 = 200013 by decide)]
      simp only [List.length_cons, List.length_nil]
      have e1 : J2 (b + 32) 1 = valT W u := g2.1
      have e2 : J2 (b + 32) 0 = valT W x := g2.2.1
      rw [if_pos (show (2 : Int32) ≤ nI (0 + 1 + 1) by decide), nI_pred, yb_ck_t (inb_nI (by omega) (by decide)), nI_clamp (by omega), e1]
      have hfr : ∀ a, a ≠ b + 32 → J2 a = J a := fun a h => (g3 a h).trans (r3 a h)
      have hz : lg_cmp (valT W u) 0 = 0 ↔ valT W u = 0 := by
        rcases hB1.val W with v | v
        · rw [v]; decide
        · rw [v]; decide
      by_cases cz : valT W u = 0
      · rw [if_pos (hz.mpr cz), lts, lts, nI_1]
        obtain ⟨r, J3, k1, k2, k3⟩ := k5_sumL (W := W) cl (p + x.length + u.length + 1) m J2 (fun y h => ho y (List.mem_cons_of_mem _ h)) (by omega) hS2 (by omega) (by rw [show p + x.length + u.length + 1 = p + (x.length + (u.length + (0 + 1))) by omega]; exact ha2) (fun i hi => by rw [hfr _ (by omega)]; exact hW i hi)
        have es : sumV W ((x, some u) :: cl) = sumV W cl := if_pos cz
        rw [es]
        exact ⟨r, J3, k1, k2, fun a h => (k3 a h).trans (hfr a h)⟩
      · have es : sumV W ((x, some u) :: cl) = valT W x := if_neg cz
        rw [if_neg (fun h => cz (hz.mp h)), show nI (0 + 1 + 1) - 2 = nI 0 from rfl, yb_ck_t (inb_nI (by omega) (by decide)), nI_clamp (by omega), e2, es]
        exact ⟨_, J2, rfl, Or.inl rfl, hfr⟩
end TWO
