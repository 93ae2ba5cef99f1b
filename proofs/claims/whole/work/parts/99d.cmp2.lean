/-! RULE: a comparison on both sides -/
theorem up2_cm (I : IT) {a k c j : Nat} (x y : Int32) (h : a ≠ c ∨ k ≠ j) : up2 (up2 I a k x) c j y = up2 (up2 I c j y) a k x := by
  funext d i
  by_cases e1 : d = a ∧ i = k
  · obtain ⟨rfl, rfl⟩ := e1
    rw [up2_at h, up2_same, up2_same]
  · by_cases e2 : d = c ∧ i = j
    · obtain ⟨rfl, rfl⟩ := e2
      rw [up2_same, up2_at (by omega), up2_same]
    · rw [up2_at (by omega), up2_at (by omega), up2_at (by omega), up2_at (by omega)]
def cmC (N b : Nat) (S : ST) (Rf : RT) (I : IT) (J : JT) : Option (Int32 × IT × JT) :=
  yb_b3 (f6_readsSum N b S Rf I J) fun r I J => if r = 0 then some ((0 : Int32), I, J) else
  yb_b3 (f6_readsComparison N b S Rf I J) fun r18 I J => if r18 = (-1 : Int32) then some ((0 : Int32), I, J) else
  yb_b3 (f6_readsSum N b S Rf I J) fun r I J => if r = 0 then some ((0 : Int32), I, J) else
  yb_b3 (f6_put b S Rf r18 I J) fun _ I J => some ((1 : Int32), I, J)
section CMP2
variable {N b mb n p p' K V e : Nat} {w : Nat → Nat} {tc tr : List Int32} {S : ST} {Rf : RT} {I I1 I2 I' I1' I2' : IT} {J J' : JT} {r : Int32}
theorem Rd.to (h : Rd b mb n w p p' I I') {m : Nat} (hm : m ≤ n) : Rd b mb n w (skp w n m) m (up2 I (b + 2) 2 (nI (skp w n m))) (up2 I' mb 8 (nI m)) := by
  obtain ⟨h1, h2, h3, h4, h5, h6, h7⟩ := h
  exact ⟨h1.keep (up2_at (Or.inr (by decide))) (up2_ne _ _ _ (by omega)), h2.keep (up2_at (Or.inr (by decide))) (up2_ne _ _ _ (by omega)), hm, rfl, up2_same _ _ _ _, up2_same _ _ _ _, (up2_at (Or.inr (by decide))).trans h7⟩
theorem FrN.to (x y : Int32) : FrN b mb I (up2 I (b + 2) 2 x) I' (up2 I' mb 8 y) := ⟨fun a k z => up2_at (by omega), fun a k z => up2_at (by omega)⟩
theorem tkC_cmp : ∀ s, s ≤ 4 → tkC (6 + s, 0) = nI (200005 + s) ∧ ¬ tkC (6 + s, 0) = -1 ∧ (tkC (6 + s, 0) = (200006 : Int32) ↔ s = 1) ∧ (tkC (6 + s, 0) = (200008 : Int32) ↔ s = 3) := by decide
theorem q_compare (hN : 1000 ≤ N) (h : PS b mb n w K p p' tc tr V I I') (hb : tc.length + e ≤ p') :
    (∃ I1 I1', cmC N b S Rf I J = some (0, I1, J) ∧ f12_compare N mb I' J' = some (0, I1', J') ∧ FL b mb K I I1 I' I1') ∨
    ∃ (ts : List Tk) (q q' V' : Nat) (I1 I1' : IT), cmC N b S Rf I J = some (1, I1, J) ∧ f12_compare N mb I' J' = some (1, I1', J') ∧ PS b mb n w K q q' (tc ++ ts.map tkC) (tr ++ ts.map tkI) V' I1 I1' ∧ FR b mb K I I1 I' I1' ∧ FS mb I' I1' ∧ p' < q' ∧ tc.length + ts.length + e ≤ q' ∧ (∀ t, t ∈ ts → TkOK t) ∧ (∀ k, RedB k (k + 1) ts) ∧ V + cntT ts ≤ V' := by
  unfold cmC
  rw [compare_eq]
  rcases q_sum (S := S) (Rf := Rf) (J := J) (J' := J') hN h hb with ⟨I1, I1', a1, a2, a3⟩ | ⟨ta, q, q', I1, I1', a1, a2, a3, a4, a5, a6, a7, a8, a9⟩
  · exact Or.inl ⟨I1, I1', by rw [a1, b3s, if_pos rfl], by rw [a2, b3s, if_pos rfl], a3⟩
  · have hr := a3.1
    have h4 := hr.n4
    have hpn := hr.le
    have hqq : q' ≤ q := by rw [← hr.2.2.2.1]; exact run_ge hr.2.2.1
    have hs := hr.seen
    rw [a1, b3s, if_neg i10, a2, b3s, if_neg i10]
    unfold f6_readsComparison
    rcases q_cmp (S := S) (Rf := Rf) (J := J) (J' := J') hN hr with ⟨c1, c2⟩ | ⟨s, l, s4, l1, ln, lk, c1, c2⟩
    · rw [c1, b3s, if_pos rfl, c_fail hr.2.2.2.2.1, b3s, b3s, if_pos rfl, c2]
      exact Or.inl ⟨_, _, rfl, rfl, fl_at (k := 0) rfl (by omega) (by omega) (a4.t2 (FrN.see (b := b) (I := I1) (nI q)).fr)⟩
    · obtain ⟨k1, k2, k3, k4⟩ := tkC_cmp s s4
      have hPm := a3.mv (hr.to ln) (FrN.to _ _)
      rw [c1, b3s, if_neg k2, a3.2.1.2.2, c2]
      unfold cmK
      rcases q_makes (J' := J') (at_ := q) hPm with ⟨c, m1⟩ | ⟨c, m1⟩
      · rw [c, if_neg (show ¬ nI 60 < (60 : Int32) by decide), c_fail hr.2.2.2.2.1, b3s, b3s, if_pos rfl, m1, b3s, if_pos rfl]
        have frQ : FrN b mb I1 I1 I1' (up2 I1' mb 8 (nI (q + l))) := FrN.see _
        exact Or.inl ⟨_, _, rfl, rfl, fl_at (k := 3) rfl (by omega) (by omega) (a4.t2 frQ.fr)⟩
      · have hv := a3.val c
        have hTo := hv.1.to ln
        have e2 : up2 I1 (b + 62) 3 (nI (V + cntT ta + 1)) (b + 2) 2 = nI q := by rw [up2_ne _ _ _ (by omega)]; exact hr.2.2.2.2.1
        have hP2 := hv.mv hTo (FrN.to _ _)
        have frA := (a4.t2 (FR.val (b := b) (K := K) (I := I1) (I' := I1') (nI (V + cntT ta + 1)) (nI (V + cntT ta + 1)))).t2 (FrN.to (b := b) (mb := mb) (I := up2 I1 (b + 62) 3 (nI (V + cntT ta + 1))) (I' := up2 I1' mb 12 (nI (V + cntT ta + 1))) (nI (skp w n (q + l))) (nI (q + l))).fr
        have fsA := (a5.t2 (FS.val (mb := mb) (I' := I1') (nI (V + cntT ta + 1)))).t2 (FrN.to (b := b) (mb := mb) (I := up2 I1 (b + 62) 3 (nI (V + cntT ta + 1))) (I' := up2 I1' mb 12 (nI (V + cntT ta + 1))) (nI (skp w n (q + l))) (nI (q + l))).fs
        have mv : (if tkC (6 + s, 0) = (200006 : Int32) then yb_b3 (f3_moveTo N b S Rf (nI q + 2) (up2 I1 (b + 62) 3 (nI (V + cntT ta + 1))) J) fun r_10 I_11 J_12 => some (tkC (6 + s, 0), I_11, J_12) else if tkC (6 + s, 0) = (200008 : Int32) then yb_b3 (f3_moveTo N b S Rf (nI q + 2) (up2 I1 (b + 62) 3 (nI (V + cntT ta + 1))) J) fun r_21 I_22 J_23 => some (tkC (6 + s, 0), I_22, J_23) else yb_b3 (f3_moveTo N b S Rf (nI q + 1) (up2 I1 (b + 62) 3 (nI (V + cntT ta + 1))) J) fun r_16 I_17 J_18 => some (tkC (6 + s, 0), I_17, J_18)) = some (tkC (6 + s, 0), up2 (up2 I1 (b + 62) 3 (nI (V + cntT ta + 1))) (b + 2) 2 (nI (skp w n (q + l))), J) := by
          have mt := c_move (N := N) (S := S) (Rf := Rf) (J := J) hN hv.1.1 ln
          rcases lk with ⟨rfl, rfl | rfl⟩ | ⟨rfl, lk⟩
          · rw [if_pos (k3.mpr rfl), show nI q + 2 = nI (q + 2) from nI_add q 2, mt, b3s]
          · rw [if_neg (fun z => by have := k3.mp z; omega), if_pos (k4.mpr rfl), show nI q + 2 = nI (q + 2) from nI_add q 2, mt, b3s]
          · rw [if_neg (fun z => by have := k3.mp z; omega), if_neg (fun z => by have := k4.mp z; omega), nI_1, mt, b3s]
        rw [if_pos (show nI (V + cntT ta) < (60 : Int32) from nI_lt (b := 60) c (by omega)), nI_1, lts, e2, mv, b3s, if_neg k2, m1, b3s, if_neg i10, up2_cm I1' (a := mb) (k := 8) (c := mb) (j := 12) _ _ (Or.inr (by decide))]
        have lta : (tc ++ ta.map tkC).length = tc.length + ta.length := by simp
        rcases q_sum (S := S) (Rf := Rf) (J := J) (J' := J') (e := e + 1) hN hP2 (by rw [lta]; omega) with ⟨I2, I2', d1, d2, d3⟩ | ⟨tb, z, z', I2, I2', d1, d2, d3, d4, d5, d6, d7, d8, d9⟩
        · exact Or.inl ⟨I2, I2', by rw [d1, b3s, if_pos rfl], by rw [d2, b3s, if_pos rfl], FL.of frA d3⟩
        · have hz'n := d3.1.2.2.1
          rw [lta] at d7
          have ltb : (tc ++ ta.map tkC ++ tb.map tkC).length = tc.length + ta.length + tb.length := by simp; omega
          obtain ⟨I3, I3', g1, g2, g3, g4, g5, g6, g7⟩ := q_emit (S := S) (Rf := Rf) (J := J) (J' := J') (x := tkC (6 + s, 0)) (s := nI (6 + s)) (v := 0) d3 (by rw [ltb]; omega)
          have et : nI (6 + s) + 16 * (0 : Int32) = tkI (6 + s, 0) := by
            show nI (6 + s) + nI 16 * nI 0 = nI (6 + s + 16 * 0)
            rw [pk_mul, nI_add]
          rw [et] at g3
          refine Or.inr ⟨ta ++ tb ++ [(6 + s, 0)], z, z', V + cntT ta + 1 + cntT tb, I3, I3', by rw [d1, b3s, if_neg i10, g1, b3s], by rw [d2, b3s, if_neg i10, g2, b3s], ?_, (frA.t2 d4).t2 g4, (fsA.t2 d5).t2 ⟨by rw [g6], by rw [g6], g7⟩, by omega, ?_, ?_, fun k => RedB.cmp a9 d9 (by omega) (by omega) k, ?_⟩
          · simp only [List.map_append, List.map_cons, List.map_nil, ← List.append_assoc] at g3 ⊢
            exact g3
          · simp only [List.length_append, List.length_cons, List.length_nil]
            omega
          · intro x hx
            rcases List.mem_append.mp hx with hx | hx
            · rcases List.mem_append.mp hx with hx | hx
              · exact a8 x hx
              · exact d8 x hx
            · simp at hx
              subst hx
              exact Or.inr (Or.inr ⟨by show 2 ≤ 6 + s; omega, by show 6 + s ≤ 14; omega, rfl⟩)
          · rw [cntT_app, cntT_app]
            have : cntT [(6 + s, 0)] = 0 := by show (if 6 + s ≤ 1 then 1 else 0) + 0 = 0; rw [if_neg (by omega)]
            omega
end CMP2
