/-- the end of the reference's reading -/
def tlR (N mb : Nat) (q : Int32) (I : IT) (J : JT) : Option (Int32 × IT × JT) :=
  if q = 0 then
    yb_let (up2 I mb 1 (0 : Int32)) fun I_27 =>
    if (I_27 mb 9) = 0 then
      some ((1 : Int32), I_27, J)
    else
      some ((0 : Int32), I_27, J)
  else
    yb_b3 (f12_see N mb  I J) fun r_29 I_30 J_31 =>
    if r_29 = (-1 : Int32) then
      yb_let (up2 I_30 mb 1 (0 : Int32)) fun I_34 =>
      if (I_34 mb 9) = 0 then
        some ((1 : Int32), I_34, J_31)
      else
        some ((0 : Int32), I_34, J_31)
    else
      yb_b3 (f12_fails mb (0 : Int32) (I_30 mb 8) I_30 J_31) fun r_36 I_37 J_38 =>
      yb_let (up2 I_37 mb 1 (0 : Int32)) fun I_40 =>
      if (I_40 mb 9) = 0 then
        some ((1 : Int32), I_40, J_38)
      else
        some ((0 : Int32), I_40, J_38)
def lpR (N mb m : Nat) (I : IT) (J : JT) : Option (Int32 × IT × JT) :=
  yb_b3 (f12_clauseHere N mb I J) fun r I J => yb_b3 (f12_readsAll_L35 N mb m r I J) fun q I J => tlR N mb q I J
theorem readsAll_eq (N mb : Nat) (I : IT) (J : JT) : f12_readsAll N mb I J = yb_ck (inb (I mb 11) 7) fun _ => lpR N mb N (up2 (up2 (up2 (up2 (up2 I (mb + 3) (I mb 11).toNatClampNeg (0 : Int32)) mb 14 0) mb 8 0) mb 9 0) mb 12 0) J := rfl
theorem b3_assoc {α β γ : Type} (o : Option (α × IT × JT)) (k : α → IT → JT → Option (β × IT × JT)) (g : β → IT → JT → Option γ) : yb_b3 (yb_b3 o k) g = yb_b3 o (fun a I J => yb_b3 (k a I J) g) := by
  cases o <;> rfl
theorem tlR_0 {N mb : Nat} {I : IT} {J : JT} (h : I mb 9 ≠ 0) : tlR N mb 0 I J = some (0, up2 I mb 1 0, J) := by
  unfold tlR
  rw [if_pos rfl, lts, up2_at (Or.inr (by decide)), if_neg h]
theorem TwP.cg {g g1 : Nat → Nat → Int32} {x3 x4 y3 y4 : Int32} {v : Nat → Int32} {P C T : Nat} (h : TwP g x3 x4 v P C T) (hg : ∀ k, k ≤ 8 → g1 k = g k) (e3 : y3 = x3) (e4 : y4 = x4) : TwP g1 y3 y4 v P C T := by
  subst e3; subst e4
  unfold TwP at h ⊢
  rw [hg 0 (by omega), hg 1 (by omega), hg 2 (by omega), hg 3 (by omega), hg 4 (by omega), hg 5 (by omega), hg 6 (by omega), hg 7 (by omega), hg 8 (by omega)]
  exact h
section TOWN
variable {N b mb n p p' : Nat} {w : Nat → Nat} {S : ST} {Rf : RT} {I I1 I' I1' I0 I0' : IT} {J J' : JT} {P C T k : Nat} {r : Int32}
theorem chr_m1 (hw : ∀ q, q < n → w q < 256) : chr w n p = -1 ↔ ¬ p < n := by
  unfold chr
  by_cases c : p < n
  · rw [if_pos c]
    exact ⟨fun q => absurd (show nI (w p) < 0 by rw [q]; decide) (nI_pos (by have := hw p c; omega)), fun q => absurd c q⟩
  · rw [if_neg c]
    exact ⟨fun _ => c, fun _ => rfl⟩
theorem Rd.w256 (h : Rd b mb n w p p' I I') : ∀ q, q < n → w q < 256 := fun q hq => (h.1.2.2 q hq).1
/-- behind the last clause, no more comes or something that can't stand -/
theorem q_tail (hN : 1000 ≤ N) (h : Rd b mb n w p p' I I') : (p < n → tlR N mb 1 I' J' = some (0, up2 (up2 (up2 I' mb 8 (nI p)) mb 9 ((1 + 8 * nI p) + 0)) mb 1 0, J')) ∧ (¬ p < n → tlR N mb 1 I' J' = some (1, up2 (up2 I' mb 8 (nI p)) mb 1 0, J')) := by
  have hm := chr_m1 (p := p) h.w256
  have z9 : up2 I' mb 8 (nI p) mb 9 = 0 := h.seen.2.2.2.2.2.2
  have hpn := h.le
  have h4 := h.n4
  unfold tlR
  rw [if_neg i10, q_see hN h, b3s]
  constructor
  · intro c
    rw [if_neg (fun q => hm.mp q c), up2_same, m_fails z9, b3s, lts, up2_at (Or.inr (by decide)), up2_same, if_neg (flt_ne (x := 0) (k := 0) rfl (by omega) (by omega))]
  · intro c
    rw [if_pos (hm.mpr c), lts, up2_at (Or.inr (by decide)), z9, if_pos rfl]
/-- a reader's frame with the TAPE's length -/
def FV (b mb : Nat) (I0 I I0' I' : IT) : Prop := (∀ a, a ≠ b + 2 → (a < b + 52 ∨ b + 61 < a) → I a = I0 a) ∧ ∀ a k, (a = mb → k ≠ 1 ∧ k ≠ 8 ∧ k ≠ 9 ∧ k ≠ 10 ∧ k ≠ 14) → a ≠ mb + 6 → I' a k = I0' a k
theorem FW.fv (h : FW b mb I0 I I0' I') (h1 : ∀ a, a ≠ b + 2 → (a < b + 52 ∨ b + 61 < a) → I1 a = I a) (h2 : ∀ a k, (a = mb → k ≠ 1 ∧ k ≠ 8 ∧ k ≠ 9 ∧ k ≠ 10 ∧ k ≠ 14) → a ≠ mb + 6 → I1' a k = I' a k) : FV b mb I0 I1 I0' I1' :=
  ⟨fun a g1 g2 => (h1 a g1 g2).trans (h.1 a g1 g2), fun a k g1 g2 => (h2 a k g1 g2).trans (h.2 a k (fun e => (g1 e).2) g2)⟩
theorem tw_loop (hN : 1000 ≤ N) : ∀ s k m m' p p' P C T (I I' : IT), Rd b mb n w p p' I I' → TwS b mb I I' P C T → I' mb 11 = 6 → I (b + 61) 2 = nI k → I' mb 14 = nI k → k + s = 40 → s < m → s < m' → FW b mb I0 I I0' I' →
    (∃ I1 I1', f10_reads_L22 N b S Rf m I J = some (Sum.inl 0, I1, J) ∧ lpR N mb m' I' J' = some (0, I1', J') ∧ I1 (b + 2) 4 = I1' mb 9 ∧ I1' mb 1 = 0 ∧ FV b mb I0 I1 I0' I1') ∨ (∃ P C T I1 I1', f10_reads_L22 N b S Rf m I J = some (Sum.inl 1, I1, J) ∧ lpR N mb m' I' J' = some (1, I1', J') ∧ TwS b mb I1 I1' P C T ∧ I1' mb 1 = 0 ∧ FV b mb I0 I1 I0' I1') := by
  intro s
  induction s with
  | zero =>
    intro k m m' p p' P C T I I' h hT h11 c2 m14 hk hm hm' hF
    obtain ⟨m, rfl⟩ : ∃ q, m = q + 1 := ⟨m - 1, by omega⟩
    obtain ⟨m', rfl⟩ : ∃ q, m' = q + 1 := ⟨m' - 1, by omega⟩
    unfold lpR
    rw [f10_reads_L22, c2, if_neg (show ¬ (40 : Int32) < nI k from nI_nlt (a := 40) (by omega) (by omega))]
    rcases tw_clause (S := S) (Rf := Rf) (J := J) (J' := J') hN h hT h11 c2 m14 (by omega) with ⟨A, A', e1, e2, ⟨e3, e4⟩, e5⟩ | ⟨q, q', P1, C1, T1, A, A', e1, e2, e3, e4, e5, e6, e7, e8⟩
    · rw [e1, e2, b3s, b3s, if_pos rfl, f12_readsAll_L35, if_pos rfl, b3s, tlR_0 e4]
      exact Or.inl ⟨_, _, rfl, rfl, e3.trans (up2_at (Or.inr (by decide))).symm, up2_same _ _ _ _, (hF.tr e5).fv (fun _ _ _ => rfl) (fun a j g1 g2 => up2_at (by
        by_cases ca : a = mb
        · exact Or.inr (g1 ca).1
        · exact Or.inl ca))⟩
    · omega
  | succ s ih =>
    intro k m m' p p' P C T I I' h hT h11 c2 m14 hk hm hm' hF
    obtain ⟨m, rfl⟩ : ∃ q, m = q + 1 := ⟨m - 1, by omega⟩
    obtain ⟨m', rfl⟩ : ∃ q, m' = q + 1 := ⟨m' - 1, by omega⟩
    unfold lpR
    rw [f10_reads_L22, c2, if_neg (show ¬ (40 : Int32) < nI k from nI_nlt (a := 40) (by omega) (by omega))]
    rcases tw_clause (S := S) (Rf := Rf) (J := J) (J' := J') hN h hT h11 c2 m14 (by omega) with ⟨A, A', e1, e2, ⟨e3, e4⟩, e5⟩ | ⟨q, q', P1, C1, T1, A, A', e1, e2, e3, e4, e5, e6, e7, e8⟩
    · rw [e1, e2, b3s, b3s, if_pos rfl, f12_readsAll_L35, if_pos rfl, b3s, tlR_0 e4]
      exact Or.inl ⟨_, _, rfl, rfl, e3.trans (up2_at (Or.inr (by decide))).symm, up2_same _ _ _ _, (hF.tr e5).fv (fun _ _ _ => rfl) (fun a j g1 g2 => up2_at (by
        by_cases ca : a = mb
        · exact Or.inr (g1 ca).1
        · exact Or.inl ca))⟩
    · have hqn := e3.le
      have hs := e3.seen
      have fW := hF.tr e8
      rw [e1, e2, b3s, b3s, if_neg i10, f12_readsAll_L35, if_neg i10, q_sign e3, b3s, q_see hN e3, b3s]
      have hm1 := chr_m1 (p := q) e3.w256
      by_cases cq : q < n
      · rw [if_neg (fun z => hm1.mp z cq)]
        by_cases c59 : chr w n q = 59
        · obtain ⟨ps1, ps2⟩ := q_passSign (S := S) (Rf := Rf) (J := J) hN hs cq
          rw [q_sign e3, b3s, if_pos c59, if_pos c59, ps1, b3s, up2_same, nI_1]
          have u61 : up2 A (b + 2) 2 (nI (skp w n (q + 1))) (b + 61) 2 = nI k := (up2_at (Or.inl (by omega))).trans e5
          have u8 : up2 (up2 A' mb 8 (nI q)) mb 8 (nI (q + 1)) = up2 A' mb 8 (nI (q + 1)) := up2_up2 _ _ _ _ _
          rw [u61, nI_1, lts, lts, u8, b3_assoc]
          rw [u8] at ps2
          have hh := ih (k + 1) m m' (skp w n (q + 1)) (q + 1) P1 C1 T1 (up2 (up2 A (b + 2) 2 (nI (skp w n (q + 1)))) (b + 61) 2 (nI (k + 1))) (up2 A' mb 8 (nI (q + 1))) (ps2.keep (up2_at (Or.inl (by omega))) (up2_at (Or.inl (by omega))) (up2_ne _ _ _ (by omega)) rfl rfl rfl rfl) (by
            show TwP _ _ _ (up2 A' mb 8 (nI (q + 1)) (mb + 6)) P1 C1 T1
            rw [up2_ne _ _ _ (show mb + 6 ≠ mb by omega)]
            refine e4.cg (fun z hz => ?_) ?_ ?_
            · show up2 (up2 A (b + 2) 2 _) (b + 61) 2 _ (b + 52 + z) = A (b + 52 + z)
              rw [up2_ne _ _ _ (by omega), up2_ne _ _ _ (by omega)]
            · rw [up2_at (Or.inr (by decide)), up2_ne _ _ _ (by omega)]
            · rw [up2_at (Or.inr (by decide)), up2_ne _ _ _ (by omega)]) ((up2_at (Or.inr (by decide))).trans ((e8.2 mb 11 (fun _ => ⟨by decide, by decide, by decide, by decide⟩) (by omega)).trans h11)) (up2_same _ _ _ _) ((up2_at (Or.inr (by decide))).trans e6) (by omega) (by omega) (by omega) ⟨fun a g1 g2 => by
              rw [up2_ne _ _ _ (by omega), up2_ne _ _ _ g1]; exact fW.1 a g1 g2, fun a j g1 g2 => by
              rw [up2_at (by
                by_cases ca : a = mb
                · exact Or.inr (g1 ca).1
                · exact Or.inl ca)]; exact fW.2 a j g1 g2⟩
          unfold lpR at hh
          exact hh
        · have cp : A (b + 2) 2 = nI q := e3.2.2.2.2.1
          have tl := (q_tail (J' := J') hN hs).1 cq
          rw [q_sign e3, b3s, if_neg c59, if_neg c59, c_fail cp, b3s, yb_ck_t (show bz 0 = true from rfl), b3s, tl]
          refine Or.inl ⟨_, _, rfl, rfl, ?_, up2_same _ _ _ _, fW.fv (fun a g1 g2 => up2_ne _ _ _ g1) (fun a j g1 g2 => ?_)⟩
          · rw [up2_same, up2_at (Or.inr (by decide)), up2_same]
          · have : a ≠ mb ∨ (j ≠ 1 ∧ j ≠ 8 ∧ j ≠ 9) := by
              by_cases ca : a = mb
              · exact Or.inr ⟨(g1 ca).1, (g1 ca).2.1, (g1 ca).2.2.1⟩
              · exact Or.inl ca
            rw [up2_at (by omega), up2_at (by omega), up2_at (by omega), up2_at (by omega)]
      · have em := hm1.mpr cq
        have tl := (q_tail (J' := J') hN hs).2 cq
        rw [if_pos em, if_neg (show ¬ chr w n q = 59 by rw [em]; decide), b3s, tl]
        refine Or.inr ⟨P1, C1, T1, _, _, rfl, rfl, ?_, up2_same _ _ _ _, fW.fv (fun _ _ _ => rfl) (fun a j g1 g2 => ?_)⟩
        · unfold TwS
          rw [up2_ne _ _ _ (show mb + 6 ≠ mb by omega), up2_ne _ _ _ (show mb + 6 ≠ mb by omega), up2_ne _ _ _ (show mb + 6 ≠ mb by omega)]
          exact e4
        · have : a ≠ mb ∨ (j ≠ 1 ∧ j ≠ 8) := by
            by_cases ca : a = mb
            · exact Or.inr ⟨(g1 ca).1, (g1 ca).2.1⟩
            · exact Or.inl ca
          rw [up2_at (by omega), up2_at (by omega), up2_at (by omega)]
end TOWN
