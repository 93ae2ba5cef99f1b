/-! RULE: a sum -/
def oT : Option Nat → List Tk
  | none => []
  | some s => [(s, 0)]
def tC : Option Nat → Int32
  | none => -1
  | some s => tkC (s, 0)
def pnd : Option Nat → Nat
  | none => 0
  | some _ => 1
def okO (o : Option Nat) : Prop := ∀ s, o = some s → 2 ≤ s ∧ s ≤ 14 ∧ s ≠ 11
def emO (mb : Nat) : Option Nat → IT → JT → Option (Unit × IT × JT)
  | none, I, J => some ((), I, J)
  | some s, I, J => f12_puts mb (nI s) 0 I J
def emC (b : Nat) (S : ST) (Rf : RT) : Option Nat → IT → JT → Option (Unit × IT × JT)
  | none, I, J => some ((), I, J)
  | some s, I, J => f6_put b S Rf (tkC (s, 0)) I J
def RTm (N mb : Nat) (to : Option Nat) (m1 : Nat) (I : IT) (J : JT) : Option (Int32 × IT × JT) :=
  yb_b3 (f12_value N mb I J) fun r I J => if r = 0 then some ((0 : Int32), I, J) else
  yb_b3 (emO mb to I J) fun _ I J =>
  yb_b3 (f12_term_L9 N mb m1 I J) fun q I J => yb_sm q (fun v => some (v, I, J)) fun _ => some ((1 : Int32), I, J)
def RCm (N mb : Nat) (to po : Option Nat) (m1 m2 : Nat) (I : IT) (J : JT) : Option (Int32 × IT × JT) :=
  yb_b3 (RTm N mb to m1 I J) fun r I J => if r = 0 then some ((0 : Int32), I, J) else
  yb_b3 (emO mb po I J) fun _ I J =>
  yb_b3 (f12_sum_L9 N mb m2 I J) fun q I J => yb_sm q (fun v => some (v, I, J)) fun _ => some ((1 : Int32), I, J)
theorem RTm_term (N mb : Nat) (I : IT) (J : JT) : RTm N mb none N I J = f12_term N mb I J := rfl
theorem RCm_sum (N mb : Nat) (I : IT) (J : JT) : RCm N mb none none N N I J = f12_sum N mb I J := rfl
theorem tC_ne {o : Option Nat} (h : okO o) {s : Nat} (e : o = some s) : tC o ≠ -1 := by
  obtain ⟨h1, h2, _⟩ := h s e
  have := (tkO_eq h1 h2).1
  subst e
  unfold tC tkC
  show (if s = 0 then _ else if s = 1 then _ else nI (200000 + tkO s)) ≠ -1
  rw [if_neg (by omega), if_neg (by omega)]
  exact fun q => nI_pos (n := 200000 + tkO s) (by omega) (by rw [q]; decide)
section SUM6
variable {N b mb n p p' K V e : Nat} {w : Nat → Nat} {tc tr : List Int32} {S : ST} {Rf : RT} {I I1 I2 I' I1' I2' : IT} {J J' : JT} {r : Int32}
theorem L6_eq {to po : Option Nat} (h1 : okO to) (h2 : okO po) (m : Nat) (i : Int32) : f6_readsSum_L6 N b S Rf (m + 1) (tC to) (tC po) i I J = if (400 : Int32) ≤ i then some (Sum.inr (), I, J) else
    yb_b3 (f6_readsValue N b S Rf I J) fun r I J => if r = 0 then some (Sum.inl (0 : Int32), I, J) else
    yb_b3 (emC b S Rf to I J) fun _ I J => yb_b3 (f6_timesOrBy b S Rf I J) fun r8 I J =>
    if r8 = (-1 : Int32) then
      yb_b3 (emC b S Rf po I J) fun _ I J => yb_b3 (f6_plusOrMinus b S Rf I J) fun r9 I J =>
      if r9 = (-1 : Int32) then some (Sum.inl (1 : Int32), I, J) else
      yb_b3 (f3_passSign N b S Rf I J) fun _ I J => f6_readsSum_L6 N b S Rf m r8 r9 (i + 1) I J
    else yb_b3 (f3_passSign N b S Rf I J) fun _ I J => f6_readsSum_L6 N b S Rf m r8 (tC po) (i + 1) I J := by
  rw [f6_readsSum_L6]
  cases to with
  | none =>
    cases po with
    | none => rfl
    | some s =>
      have := tC_ne h2 rfl
      simp only [if_neg this]
      rfl
  | some s =>
    have ht := tC_ne h1 rfl
    cases po with
    | none =>
      simp only [if_neg ht]
      rfl
    | some s' =>
      have := tC_ne h2 rfl
      simp only [if_neg ht, if_neg this]
      rfl
theorem q_emO {o : Option Nat} (h : PS b mb n w K p p' tc tr V I I') (hl : pnd o = 1 → tc.length < 400) (ho : okO o) : ∃ I1 I1', emC b S Rf o I J = some ((), I1, J) ∧ emO mb o I' J' = some ((), I1', J') ∧ PS b mb n w K p p' (tc ++ (oT o).map tkC) (tr ++ (oT o).map tkI) V I1 I1' ∧ FR b mb K I I1 I' I1' ∧ FS mb I' I1' := by
  cases o with
  | none =>
    refine ⟨I, I', rfl, rfl, ?_, FR.rf _ _ _ _ _, FS.rf _ _⟩
    show PS b mb n w K p p' (tc ++ []) (tr ++ []) V I I'
    rw [List.append_nil, List.append_nil]
    exact h
  | some s =>
    obtain ⟨I1, I1', g1, g2, g3, g4, g5, g6, g7⟩ := q_emit (S := S) (Rf := Rf) (J := J) (J' := J') (x := tkC (s, 0)) (s := nI s) (v := 0) h (hl rfl)
    have et : nI s + 16 * (0 : Int32) = tkI (s, 0) := by
      show nI s + nI 16 * nI 0 = nI (s + 16 * 0)
      rw [pk_mul, nI_add]
    rw [et] at g3
    exact ⟨I1, I1', g1, g2, g3, g4, by rw [g6], by rw [g6], g7⟩
/-- what stands there: *, / or %, or none of them -/
theorem q_times (hN : 1000 ≤ N) (h : Rd b mb n w p p' I I') : ∃ o : Option Nat, f6_timesOrBy b S Rf I J = some (tC o, I, J) ∧ okO o ∧ (o = none → ∀ m, f12_term_L9 N mb (m + 1) I' J' = some (Sum.inr (), up2 I' mb 8 (nI p), J')) ∧ ∀ s, o = some s → p < n ∧ ∀ m, f12_term_L9 N mb (m + 1) I' J' = yb_b3 (f12_value N mb (up2 I' mb 8 (nI (p + 1))) J') fun r I J => if r = 0 then some (Sum.inl (0 : Int32), I, J) else yb_b3 (f12_puts mb (nI s) 0 I J) fun _ I J => f12_term_L9 N mb m I J := by
  have hs := h.seen
  have hw := h.w256
  have h4 := h.n4
  have e8 : up2 I' mb 8 (nI p) mb 8 = nI p := up2_same _ _ _ _
  have e81 : up2 (up2 I' mb 8 (nI p)) mb 8 (nI p + 1) = up2 I' mb 8 (nI (p + 1)) := by rw [up2_up2, nI_1]
  have see1 := q_see (J' := J') hN h
  have see2 : f12_see N mb (up2 I' mb 8 (nI p)) J' = some (chr w n p, up2 I' mb 8 (nI p), J') := by
    have := q_see (J' := J') hN hs
    rw [up2_up2] at this
    exact this
  have cell : ∀ c, c < 128 → chr w n p = nI c → p < n ∧ up2 I' mb 8 (nI p) (mb + 1) p = nI c := fun c hc hx => by
    obtain ⟨z1, z2⟩ := chr_n (k := c) rfl (by omega) hw hx
    exact ⟨z1, by rw [(hs.2.1.2.2 p z1).2, z2, sx_lo hc]⟩
  have nee : ∀ a c, a < 256 → c < 256 → a ≠ c → ¬ nI a = nI c := fun a c h1 h2 h3 q => h3 ((nI_eq (by omega) (by omega)).mp q)
  unfold f6_timesOrBy
  rw [q_sign h, b3s]
  by_cases c1 : chr w n p = 42
  · obtain ⟨z1, z2⟩ := cell 42 (by omega) c1
    rw [if_neg (show ¬ chr w n p = (37 : Int32) by rw [c1]; decide), if_pos c1]
    refine ⟨some 4, rfl, fun s e => (by cases e; decide), fun e => (by cases e), fun s e => ⟨z1, fun m => ?_⟩⟩
    cases e
    rw [f12_term_L9, see1, b3s, if_pos c1, e8, yb_ck_t (inb_nI (show p < 400 by omega) (by decide)), nI_clamp (show p < 2 ^ 31 by omega), z2, if_pos (show nI 42 = (42 : Int32) from rfl), lts, e81]
    rfl
  · by_cases c2 : chr w n p = 47
    · obtain ⟨z1, z2⟩ := cell 47 (by omega) c2
      rw [if_neg (show ¬ chr w n p = (37 : Int32) by rw [c2]; decide), if_neg c1, if_pos c2]
      refine ⟨some 5, rfl, fun s e => (by cases e; decide), fun e => (by cases e), fun s e => ⟨z1, fun m => ?_⟩⟩
      cases e
      rw [f12_term_L9, see1, b3s, if_neg c1, see2, b3s, if_pos c2, e8, yb_ck_t (inb_nI (show p < 400 by omega) (by decide)), nI_clamp (show p < 2 ^ 31 by omega), z2, if_neg (show ¬ nI 47 = (42 : Int32) by decide), if_pos (show nI 47 = (47 : Int32) from rfl), lts, e81]
      rfl
    · by_cases c3 : chr w n p = 37
      · obtain ⟨z1, z2⟩ := cell 37 (by omega) c3
        rw [if_pos c3]
        refine ⟨some 14, rfl, fun s e => (by cases e; decide), fun e => (by cases e), fun s e => ⟨z1, fun m => ?_⟩⟩
        cases e
        rw [f12_term_L9, see1, b3s, if_neg c1, see2, b3s, if_neg c2, see2, b3s, if_pos c3, e8, yb_ck_t (inb_nI (show p < 400 by omega) (by decide)), nI_clamp (show p < 2 ^ 31 by omega), z2, if_neg (show ¬ nI 37 = (42 : Int32) by decide), if_neg (show ¬ nI 37 = (47 : Int32) by decide), lts, e81]
        rfl
      · rw [if_neg c3, if_neg c1, if_neg c2]
        refine ⟨none, rfl, fun s e => (by cases e), fun _ m => ?_, fun s e => (by cases e)⟩
        rw [f12_term_L9, see1, b3s, if_neg c1, see2, b3s, if_neg c2, see2, b3s, if_neg c3]
theorem q_plus (hN : 1000 ≤ N) (h : Rd b mb n w p p' I I') : ∃ o : Option Nat, f6_plusOrMinus b S Rf I J = some (tC o, I, J) ∧ okO o ∧ (o = none → ∀ m, f12_sum_L9 N mb (m + 1) I' J' = some (Sum.inr (), up2 I' mb 8 (nI p), J')) ∧ ∀ s, o = some s → p < n ∧ ∀ m, f12_sum_L9 N mb (m + 1) I' J' = yb_b3 (f12_term N mb (up2 I' mb 8 (nI (p + 1))) J') fun r I J => if r = 0 then some (Sum.inl (0 : Int32), I, J) else yb_b3 (f12_puts mb (nI s) 0 I J) fun _ I J => f12_sum_L9 N mb m I J := by
  have hs := h.seen
  have hw := h.w256
  have h4 := h.n4
  have e8 : up2 I' mb 8 (nI p) mb 8 = nI p := up2_same _ _ _ _
  have e81 : up2 (up2 I' mb 8 (nI p)) mb 8 (nI p + 1) = up2 I' mb 8 (nI (p + 1)) := by rw [up2_up2, nI_1]
  have see1 := q_see (J' := J') hN h
  have see2 : f12_see N mb (up2 I' mb 8 (nI p)) J' = some (chr w n p, up2 I' mb 8 (nI p), J') := by
    have := q_see (J' := J') hN hs
    rw [up2_up2] at this
    exact this
  have cell : ∀ c, c < 128 → chr w n p = nI c → p < n ∧ up2 I' mb 8 (nI p) (mb + 1) p = nI c := fun c hc hx => by
    obtain ⟨z1, z2⟩ := chr_n (k := c) rfl (by omega) hw hx
    exact ⟨z1, by rw [(hs.2.1.2.2 p z1).2, z2, sx_lo hc]⟩
  unfold f6_plusOrMinus
  rw [q_sign h, b3s]
  by_cases c1 : chr w n p = 43
  · obtain ⟨z1, z2⟩ := cell 43 (by omega) c1
    rw [if_pos c1]
    refine ⟨some 2, rfl, fun s e => (by cases e; decide), fun e => (by cases e), fun s e => ⟨z1, fun m => ?_⟩⟩
    cases e
    rw [f12_sum_L9, see1, b3s, if_pos c1, e8, yb_ck_t (inb_nI (show p < 400 by omega) (by decide)), nI_clamp (show p < 2 ^ 31 by omega), z2, if_pos (show nI 43 = (43 : Int32) from rfl), lts, e81]
    rfl
  · by_cases c2 : chr w n p = 45
    · obtain ⟨z1, z2⟩ := cell 45 (by omega) c2
      rw [if_neg c1, if_pos c2]
      refine ⟨some 3, rfl, fun s e => (by cases e; decide), fun e => (by cases e), fun s e => ⟨z1, fun m => ?_⟩⟩
      cases e
      rw [f12_sum_L9, see1, b3s, if_neg c1, see2, b3s, if_pos c2, e8, yb_ck_t (inb_nI (show p < 400 by omega) (by decide)), nI_clamp (show p < 2 ^ 31 by omega), z2, if_neg (show ¬ nI 45 = (43 : Int32) by decide), lts, e81]
      rfl
    · rw [if_neg c1, if_neg c2]
      refine ⟨none, rfl, fun s e => (by cases e), fun _ m => ?_, fun s e => (by cases e)⟩
      rw [f12_sum_L9, see1, b3s, if_neg c1, see2, b3s, if_neg c2]
end SUM6
