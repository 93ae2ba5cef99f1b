theorem y_back {N b mb P C D D2 X : Nat} {S : ST} {Rf : RT} {I0 I0' I I' : IT} {J J' : JT} {x1 x2 x3 x4 x5 x6 : Int32} (hN : 3000 ≤ N) (h0 : CoreR b mb I0 I0' P C D) (hk : CourseR (fun k => I0 (b + 64 + k)) (I0' (mb + 10)) P C) (hm : ∀ i, i < 111 → I0' (mb + 25) i = I0' (mb + 10) i) (h : YS b mb P C D2 X I0 I0' I I' J') : ∃ I1 I1', f0_copy b S Rf (b + 14) (b + 64) I J = some ((), I1, J) ∧ f12_years_L201 N mb x1 x2 x3 x4 x5 x6 N 0 I' J' = some ((), I1', J') ∧ YS b mb P C D X I0 I0' I1 I1' J' ∧ (∀ i, I1' (mb + 10) i = I0' (mb + 10) i) := by
  have hP7 := co_P7 h0
  have hC6 := co_C6 h0
  obtain ⟨g1, g2, g3, g4, g5, g6, g7, g8⟩ := h
  obtain ⟨I1, c1, c2⟩ := q0_copy (b := b) (t0 := b + 14) (t1 := b + 64) (S := S) (Rf := Rf) (I := I) (J := J) (by omega)
  obtain ⟨I1', r1, r2, r3, r4⟩ := cl_years_L201 (N := N) (mb := mb) (J := J') (x1 := x1) (x2 := x2) (x3 := x3) (x4 := x4) (x5 := x5) (x6 := x6) 111 0 N I' (by omega) (by omega)
  rw [show nI 0 = (0 : Int32) from rfl] at r1
  have e25 : I' (mb + 25) = I0' (mb + 25) := funext fun k => g7 _ k (by omega) (Or.inl (by omega))
  have hv : ∀ i, I1' (mb + 10) i = I0' (mb + 10) i := fun i => by
    rcases Nat.lt_or_ge i 111 with q | q
    · rw [r4 i (by omega) q, e25, hm i q]
    · rw [r3 i (Or.inr q), g8 i q]
  have hvf : I1' (mb + 10) = I0' (mb + 10) := funext hv
  refine ⟨I1, I1', c1, r1, ⟨⟨?_, ?_, ?_⟩, ?_, g3, g4, fun a ha hb => ?_, fun k hk => ?_, fun a k h1 h2 => ?_, fun i _ => hv i⟩, hv⟩
  · rw [hvf]; exact h0.1
  · rw [hvf]; exact h0.2.1.congr (fun k hk => (c2.1 _ (Or.inl (by omega))).trans (g5 _ (by omega) (Or.inl (by omega))))
  · rw [hvf]
    exact CourseR.copy hP7 hC6 c2 (hk.congr (fun k hk => g5 _ (by omega) (Or.inr (by omega))))
  · rw [c2.1 _ (Or.inl (by omega))]; exact g2
  · rw [c2.1 a (by omega), g5 a ha hb]
  · rw [c2.1 _ (Or.inl (by omega)), g6 k hk]
  · rw [r2 a h1, g7 a k h1 h2]
theorem y_times {N b mb P C D K y m : Nat} {S : ST} {Rf : RT} {I0 I0' : IT} {Rl : Nat → List (List Tk × Option (List Tk))} {fo : Int32} {z3 z5 w3 : Int32} (hN : 3000 ≤ N) (hmb : mb = b + 75) (hq : ∀ k q, Rf (b + 3) k = some q → b + 105 ≤ q) (hR : RulesR b mb K S Rf I0 I0' Rl) (hf : I0 (b + 4) 6 = fo) (hf' : I0' mb 21 = fo) (hF : FoR fo K) (hP : 0 < P) (hD : D + y ≤ 1199) (hm10 : m ≤ 10) (h0 : CoreR b mb I0 I0' P C D) (hk : CourseR (fun k => I0 (b + 64 + k)) (I0' (mb + 10)) P C) (hm : ∀ i, i < 111 → I0' (mb + 25) i = I0' (mb + 10) i) :
    ∀ r k n n' (X : Nat) (a c : Int32) (I I' : IT) (J J' : JT), YS b mb P C D X I0 I0' I I' J' → (∀ i, I' (mb + 10) i = I0' (mb + 10) i) → k + r = m → r < n → r < n' → ∃ X1 qa qc I1 J1 I1' J1', f11_years_L90 N b S Rf (nI m) (nI y) z3 z5 n a c (nI k) I J = some ((qa, qc), I1, J1) ∧ f12_years_L91 N mb (nI m) (nI y) w3 n' a c (nI k) I' J' = some ((qa, qc), I1', J1') ∧ YS b mb P C D X1 I0 I0' I1 I1' J1' ∧ (∀ i, I1' (mb + 10) i = I0' (mb + 10) i) := by
  intro r
  induction r with
  | zero =>
    intro k n n' X a c I I' J J' h hvv hkr hn hn'
    obtain ⟨n, rfl⟩ : ∃ q, n = q + 1 := ⟨n - 1, by omega⟩
    obtain ⟨n', rfl⟩ : ∃ q, n' = q + 1 := ⟨n' - 1, by omega⟩
    rw [f11_years_L90, f12_years_L91, if_pos (nI_le (by omega) (by omega)), if_pos (nI_le (by omega) (by omega))]
    exact ⟨X, _, _, _, _, _, _, rfl, rfl, h, hvv⟩
  | succ r ih =>
    intro k n n' X a c I I' J J' h hvv hkr hn hn'
    have hP7 := co_P7 h.1
    obtain ⟨n, rfl⟩ : ∃ q, n = q + 1 := ⟨n - 1, by omega⟩
    obtain ⟨n', rfl⟩ : ∃ q, n' = q + 1 := ⟨n' - 1, by omega⟩
    obtain ⟨X1, qa, qc, A, JA, A', JA', e1, e2, e3⟩ := y_days (N := N) (z1 := nI m) (z3 := z3) (z5 := z5) (z8 := nI k) (w1 := nI m) (w3 := w3) (w6 := nI k) hN hmb hq hR hf hf' hF hP hD y 0 N N X a c I I' J J' h (by omega) (by omega) (by omega)
    rw [show nI 0 = (0 : Int32) from rfl] at e1 e2
    obtain ⟨B, B', c1, c2, c3, c4⟩ := y_back (S := S) (Rf := Rf) (J := JA) (x1 := nI m) (x2 := nI y) (x3 := w3) (x4 := qa) (x5 := qc) (x6 := nI k) hN h0 hk hm e3
    rw [f11_years_L90, f12_years_L91, if_neg (nI_ge (by omega) (by omega)), if_neg (nI_ge (by omega) (by omega)), e1, b3s, c1, b3s, lts, cv_P h.1, if_neg (nI_nle hP (by omega)), e2, b3s, c2, b3s, lts, nI_1]
    exact ih (k + 1) n n' X1 qa qc B B' JA JA' c3 c4 (by omega) (by omega) (by omega)
theorem y0_days {N b mb D y : Nat} {S : ST} {Rf : RT} {I0 : IT} {z1 z3 z5 z8 : Int32} (hN : 3000 ≤ N) (hP0 : I0 (b + 5) 13 = 0) (hC0 : I0 (b + 5) 14 = 0) (hy : y ≤ 99) : ∀ r k n (a c : Int32) (I : IT) (J : JT), (∀ q j, (q ≠ b + 14 ∨ j ≠ 9) → I q j = I0 q j) → k + r = y → r < n → ∃ I1 J1, f11_years_L99 N b S Rf z1 (nI y) z3 z5 z8 n a c (nI k) I J = some ((a, c), I1, J1) ∧ (∀ q j, (q ≠ b + 14 ∨ j ≠ 9) → I1 q j = I0 q j) := by
  intro r
  induction r with
  | zero =>
    intro k n a c I J h hk hn
    obtain ⟨n, rfl⟩ : ∃ q, n = q + 1 := ⟨n - 1, by omega⟩
    rw [f11_years_L99, if_pos (nI_le (by omega) (by omega))]
    exact ⟨_, _, rfl, h⟩
  | succ r ih =>
    intro k n a c I J h hk hn
    obtain ⟨n, rfl⟩ : ∃ q, n = q + 1 := ⟨n - 1, by omega⟩
    obtain ⟨N, rfl⟩ : ∃ q, N = q + 1 := ⟨N - 1, by omega⟩
    have e13 : I (b + 5) 13 = 0 := (h _ _ (Or.inl (by omega))).trans hP0
    have e14 : I (b + 5) 14 = 0 := (h _ _ (Or.inl (by omega))).trans hC0
    have f14 : up2 I (b + 14) 9 (I (b + 14) 9 + 1) (b + 5) 14 = 0 := by rw [up2_ne _ _ _ (by omega), e14]
    rw [f11_years_L99, if_neg (nI_ge (by omega) (by omega))]
    unfold f11_hearByDraw f0_pass
    rw [e13, lts, if_neg (show ¬ (0 : Int32) < 0 by decide), b3s, f0_pass_L4, e14, if_pos (show (0 : Int32) ≤ 0 by decide), b3s, lts, b3s, bc_eq, b3s, lts]
    unfold f11_ruledRightly
    rw [f11_ruledRightly_L4, f14, if_pos (show (0 : Int32) ≤ 0 by decide), b3s, b3s, lts, lts, nI_1, show bcV 0 = 0 by decide, Int32.add_zero, Int32.add_zero]
    exact ih (k + 1) n a c _ J (fun q j hh => (up2_at hh).trans (h q j hh)) (by omega) (by omega)
theorem y0_times {N b D y m : Nat} {S : ST} {Rf : RT} {I0 : IT} {z3 z5 : Int32} (hN : 3000 ≤ N) (hP0 : I0 (b + 5) 13 = 0) (hC0 : I0 (b + 5) 14 = 0) (hy : y ≤ 99) (hm : m ≤ 10) : ∀ r k n (a c : Int32) (I : IT) (J : JT), (∀ q, (q < b + 14 ∨ b + 23 < q) → I q = I0 q) → CopyC (b + 14) (b + 64) I0 I → k + r = m → r < n → ∃ I1 J1, f11_years_L90 N b S Rf (nI m) (nI y) z3 z5 n a c (nI k) I J = some ((a, c), I1, J1) ∧ (∀ q, (q < b + 14 ∨ b + 23 < q) → I1 q = I0 q) ∧ CopyC (b + 14) (b + 64) I0 I1 := by
  intro r
  induction r with
  | zero =>
    intro k n a c I J h hc hk hn
    obtain ⟨n, rfl⟩ : ∃ q, n = q + 1 := ⟨n - 1, by omega⟩
    rw [f11_years_L90, if_pos (nI_le (by omega) (by omega))]
    exact ⟨_, _, rfl, h, hc⟩
  | succ r ih =>
    intro k n a c I J h hc hk hn
    obtain ⟨n, rfl⟩ : ∃ q, n = q + 1 := ⟨n - 1, by omega⟩
    obtain ⟨A, JA, e1, e2⟩ := y0_days (N := N) (b := b) (D := 0) (mb := 0) (S := S) (Rf := Rf) (z1 := nI m) (z3 := z3) (z5 := z5) (z8 := nI k) (I0 := I) hN (by rw [h _ (Or.inl (by omega))]; exact hP0) (by rw [h _ (Or.inl (by omega))]; exact hC0) hy y 0 N a c I J (fun _ _ _ => rfl) (by omega) (by omega)
    rw [show nI 0 = (0 : Int32) from rfl] at e1
    obtain ⟨B, c1, c2⟩ := q0_copy (b := b) (t0 := b + 14) (t1 := b + 64) (S := S) (Rf := Rf) (I := A) (J := JA) (by omega)
    have hA : ∀ q, (q < b + 14 ∨ b + 23 < q) → A q = I0 q := fun q hq => (funext fun j => e2 q j (Or.inl (by omega))).trans (h q hq)
    rw [f11_years_L90, if_neg (nI_ge (by omega) (by omega)), e1, b3s, c1, b3s, lts, nI_1]
    refine ih (k + 1) n a c B JA (fun q hq => (c2.1 q (by omega)).trans (hA q hq)) ⟨fun q hq => (c2.1 q hq).trans (hA q (by omega)), ?_, fun j p h1 h2 h3 => ?_, fun j p h1 h2 h3 => ?_⟩ (by omega) (by omega)
    · rw [c2.2.1, hA _ (Or.inr (by omega))]
    · rw [c2.2.2.1 j p h1 h2 h3, hA _ (Or.inr (by omega))]
    · rw [c2.2.2.2 j p h1 h2 h3, hA _ (Or.inr (by omega))]
theorem G_years {N : Nat} (hN : 3000 ≤ N) : Gd_years N RelY := by
  intro b mb L S Rf I J I' J' x1 x2 x3 hR
  obtain ⟨P, C, D, M, K, Rl, h⟩ := hR
  have hc := h.core
  have hP7 := co_P7 hc
  have hC6 := co_C6 hc
  have hmb := h.1
  have hd9 := h.d999
  have hh : ∀ r, ∃ (r_1 : Int32) (I1 : IT) (J1 : JT) (I1' : IT) (J1' : JT), some (r, I, J) = some (r_1, I1, J1) ∧ some (r, I', J') = some (r_1, I1', J1') ∧ RelY b mb L S Rf I1 J1 I1' J1' := fun r => ⟨r, I, J, I', J', rfl, rfl, P, C, D, M, K, Rl, h⟩
  unfold f11_years f12_years
  rcases co_isTown (J' := J') hc with ⟨t1, t2⟩ | ⟨t1, t2, t3⟩
  · rw [t1, t2, b3s, if_pos rfl, if_pos rfl]; exact hh _
  · rw [t1, t2, b3s, if_neg i10, if_neg i10, l_inc (a := 1) (c := 10) 1 10 rfl rfl, b3s]
    by_cases c0 : x1 < 1
    · rw [if_pos c0, if_pos c0, if_pos rfl]; exact hh _
    rw [if_neg c0, if_neg c0]
    by_cases c1 : 10 < x1
    · rw [if_pos c1, if_pos c1, if_pos rfl]; exact hh _
    rw [if_neg c1, if_neg c1, if_neg i10, l_inc (a := 1) (c := 99) 1 99 rfl rfl, b3s]
    by_cases c2 : x2 < 1
    · rw [if_pos c2, if_pos c2, if_pos rfl]; exact hh _
    rw [if_neg c2, if_neg c2]
    by_cases c3 : 99 < x2
    · rw [if_pos c3, if_pos c3, if_pos rfl]; exact hh _
    rw [if_neg c3, if_neg c3, if_neg i10, l_inc (a := 0) (c := 1) 0 1 rfl rfl, b3s]
    by_cases c4 : x3 < 0
    · rw [if_pos c4, if_pos c4, if_pos rfl]; exact hh _
    rw [if_neg c4, if_neg c4]
    by_cases c5 : 1 < x3
    · rw [if_neg (Int32.not_le.mpr c5), if_pos c5, if_pos rfl]; exact hh _
    rw [if_pos (Int32.not_lt.mp c5), if_neg c5, if_neg i10]
    obtain ⟨m, hm, rfl⟩ := nI_of2 (M := 10) (n := 10) rfl (fun q => c0 (Int32.lt_trans q (by decide))) (Int32.not_lt.mp c1)
    obtain ⟨y, hy, rfl⟩ := nI_of2 (M := 99) (n := 99) rfl (fun q => c2 (Int32.lt_trans q (by decide))) (Int32.not_lt.mp c3)
    have hS := h.2.2.2.2.1
    have e7 : I (b + 4) 7 = I' mb 22 := hS.2.2.2.2.2.1.2.1
    obtain ⟨X, hX, eX⟩ := nI_of (x := I' mb 22) hS.2.2.2.2.2.1.2.2
    obtain ⟨I0, d1, d2⟩ := q0_copy (b := b) (t0 := b + 64) (t1 := b + 14) (S := S) (Rf := Rf) (I := I) (J := J) (by omega)
    obtain ⟨I0', r1, r2, r3, r4⟩ := cl_years_L61 (N := N) (mb := mb) (J := up2J J' mb 43 (I' mb 22).toInt64) (x1 := nI m) (x2 := nI y) (x3 := x3) (x4 := 0) (x5 := 0) 111 0 N I' (by omega) (by omega)
    rw [show nI 0 = (0 : Int32) from rfl] at r1
    rw [lts, d1, b3s, lts, r1, b3s]
    have h0 : RelB b mb L S Rf I0 I0' P C D M K Rl := h.keep (fun a ha => d2.1 a (by omega)) ⟨⟨by rw [r2 _ (by omega)], by rw [r2 _ (by omega)], by rw [r2 _ (by omega)], by rw [r2 _ (by omega)], by rw [r2 _ (by omega)]⟩, fun k hk => r2 _ (by omega)⟩
    have v10 : I0' (mb + 10) = I' (mb + 10) := r2 _ (by omega)
    have hk : CourseR (fun k => I0 (b + 64 + k)) (I0' (mb + 10)) P C := by rw [v10]; exact CourseR.copy hP7 hC6 d2 hc.2.2
    have hm25 : ∀ i, i < 111 → I0' (mb + 25) i = I0' (mb + 10) i := fun i hi => by rw [r4 i (by omega) hi, v10]
    have x7 : I0 (b + 4) 7 = nI X := by rw [d2.1 _ (Or.inl (by omega)), e7, eX]
    by_cases hP : 0 < P
    · obtain ⟨X1, qa, qc, A, JA, A', JA', s1, s2, s3, s4⟩ := y_times (N := N) (z3 := x3) (z5 := I (b + 4) 7) (w3 := x3) hN hmb (fun k q e => (h.2.2.1.2.1 _ k q (Or.inl rfl) e).1) h0.rules h0.f6 rfl h0.fo hP (show D + y ≤ 1199 by omega) hm h0.core hk hm25 m 0 N N X 0 0 I0 I0' J (up2J J' mb 43 (I' mb 22).toInt64) ⟨h0.core, x7, hX, by rw [up2J_at, pk_uLs, eX, nI_l hX], fun _ _ _ => rfl, fun _ _ => rfl, fun _ _ _ _ => rfl, fun _ _ => rfl⟩ (fun _ => rfl) (by omega) (by omega) (by omega)
      rw [show nI 0 = (0 : Int32) from rfl] at s1 s2
      rw [s1, s2, b3s, b3s, lts]
      obtain ⟨g1, g2, g3, g4, g5, g6, g7, g8⟩ := s3
      have hfin : RelB b mb L S Rf (up2 A (b + 4) 7 (I (b + 4) 7)) A' P C D M K Rl := by
        refine h0.act (fun a ha => ?_) g7 g8 (g1.keep (fun a h1 h2 => up2_ne _ _ _ (by omega)) rfl) hd9
        by_cases c : a = b + 4
        · subst c
          funext j
          by_cases cj : j = 7
          · subst cj; rw [up2_same, x7, e7, eX]
          · rw [up2_at (Or.inr cj), g6 j cj]
        · rw [up2_ne _ _ _ c, g5 a c ha]
      by_cases c6 : x3 = 0
      · rw [if_pos c6, if_pos c6]; exact ⟨_, _, _, _, _, rfl, rfl, P, C, D, M, K, Rl, hfin⟩
      · rw [if_neg c6, if_neg c6]; exact ⟨_, _, _, _, _, rfl, rfl, P, C, D, M, K, Rl, hfin⟩
    · have hP0 : P = 0 := by omega
      have hC0 : C = 0 := by
        rcases Nat.eq_zero_or_pos C with q | q
        · exact q
        · obtain ⟨a, g, n, f, _, _, _, _, ha, _⟩ := hc.1.2.2.2.2.2.1 0 q
          omega
      have p13 : I0 (b + 5) 13 = 0 := by rw [co_P h0.core, hP0]; rfl
      have p14 : I0 (b + 5) 14 = 0 := by rw [co_C h0.core, hC0]; rfl
      have hcc : CopyC (b + 14) (b + 64) I0 I0 := ⟨fun _ _ => rfl, by rw [d2.1 (b + 14) (by omega)]; exact d2.2.1.symm, fun k p h1 h2 h3 => by rw [d2.1 (b + 14 + k) (by omega)]; exact (d2.2.2.1 k p h1 h2 h3).symm, fun k p h1 h2 h3 => by rw [d2.1 (b + 14 + k) (by omega)]; exact (d2.2.2.2 k p h1 h2 h3).symm⟩
      obtain ⟨A, JA, s1, s2, s3⟩ := y0_times (N := N) (D := 0) (S := S) (Rf := Rf) (z3 := x3) (z5 := I (b + 4) 7) hN p13 p14 hy hm m 0 N 0 0 I0 J (fun _ _ => rfl) hcc (by omega) (by omega)
      rw [show nI 0 = (0 : Int32) from rfl] at s1
      obtain ⟨n1, hn1⟩ : ∃ q, N = q + 1 := ⟨N - 1, by omega⟩
      have s4 : ∀ Jx, f12_years_L91 N mb (nI m) (nI y) x3 N 0 0 0 I0' Jx = some ((0, 0), I0', Jx) := by
        intro Jx
        have e2 : I0' (mb + 10) 2 = 0 := by rw [cv_P h0.core, hP0]; rfl
        conv => lhs; arg 6; rw [hn1]
        rw [f12_years_L91, e2, if_pos (show (0 : Int32) ≤ 0 by decide)]
        by_cases c : nI m ≤ 0
        · rw [if_pos c]
        · rw [if_neg c]
      rw [s1, s4, b3s, b3s, lts]
      have hfin : RelB b mb L S Rf (up2 A (b + 4) 7 (I (b + 4) 7)) I0' P C D M K Rl := by
        refine h0.act (fun a ha => ?_) (fun _ _ _ _ => rfl) (fun _ _ => rfl) ⟨h0.core.1, h0.core.2.1.congr (fun k hk => ?_), ?_⟩ hd9
        · by_cases c : a = b + 4
          · subst c
            funext j
            by_cases cj : j = 7
            · subst cj; rw [up2_same, x7, e7, eX]
            · rw [up2_at (Or.inr cj), s2 _ (Or.inl (by omega))]
          · rw [up2_ne _ _ _ c, s2 a ha]
        · rw [up2_ne _ _ _ (by omega), s2 _ (Or.inl (by omega))]
        · exact (CourseR.copy hP7 hC6 s3 hk).congr (fun k hk => up2_ne _ _ _ (by omega))
      by_cases c6 : x3 = 0
      · rw [if_pos c6, if_pos c6]; exact ⟨_, _, _, _, _, rfl, rfl, P, C, D, M, K, Rl, hfin⟩
      · rw [if_neg c6, if_neg c6]; exact ⟨_, _, _, _, _, rfl, rfl, P, C, D, M, K, Rl, hfin⟩
