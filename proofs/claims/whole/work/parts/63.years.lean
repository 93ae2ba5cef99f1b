/-! YEARS BY DRAWS (y_mask as in the kit's laws of bits) -/
theorem y_mask {n : Nat} (hn : n < 2 ^ 63) : lN n &&& (2147483647 : Int64) = lN (n % 2147483648) := by
  apply Int64.toBitVec_inj.mp
  have e : ∀ m, (lN m).toBitVec = BitVec.ofNat 64 m := fun m => rfl
  show (lN n &&& lN 2147483647).toBitVec = _
  rw [Int64.toBitVec_and, e, e, e]
  apply BitVec.eq_of_toNat_eq
  rw [BitVec.toNat_and, BitVec.toNat_ofNat, BitVec.toNat_ofNat, BitVec.toNat_ofNat, Nat.mod_eq_of_lt (show n < 2 ^ 64 by omega), Nat.mod_eq_of_lt (show 2147483647 < 2 ^ 64 by omega), Nat.mod_eq_of_lt (show n % 2147483648 < 2 ^ 64 by omega)]
  exact Nat.and_two_pow_sub_one_eq_mod n 31
def nxtX (X : Nat) : Nat := (X * 1103515245 + 12345) % 2147483648
/-- both sides while the years go by: days D, seed X, what else there was at the start -/
def YS (b mb P C D X : Nat) (I0 I0' I I' : IT) (J' : JT) : Prop := CoreR b mb I I' P C D ∧ I (b + 4) 7 = nI X ∧ X < 2 ^ 31 ∧ J' mb 43 = lN X ∧ (∀ a, a ≠ b + 4 → (a < b + 14 ∨ b + 23 < a) → I a = I0 a) ∧ (∀ k, k ≠ 7 → I (b + 4) k = I0 (b + 4) k) ∧ (∀ a k, a ≠ mb + 10 → (a ≠ mb ∨ k ≠ 18) → I' a k = I0' a k) ∧ ∀ i, 111 ≤ i → I' (mb + 10) i = I0' (mb + 10) i
section YEARS
variable {N b mb P C D X K : Nat} {S : ST} {Rf : RT} {I0 I0' I I' : IT} {J J' : JT} {Rl : Nat → List (List Tk × Option (List Tk))} {fo : Int32}
theorem nxt_lt : nxtX X < 2 ^ 31 := Nat.mod_lt _ (by decide)
theorem y_drawC (h : YS b mb P C D X I0 I0' I I' J') : f8_draw b S Rf (b + 4) I J = some (nI (nxtX X / 65536), up2 I (b + 4) 7 (nI (nxtX X)), J) := by
  obtain ⟨h1, h2, h3, h4, h5, h6, h7, h8⟩ := h
  have hl := nxt_lt (X := X)
  unfold f8_draw
  have e : (((I (b + 4) 7).toInt64 * (1103515245 : Int64) + (12345 : Int64)) &&& (2147483647 : Int64)).toInt32 = nI (nxtX X) := by
    rw [h2, nI_l (by omega)]
    show ((lN X * lN 1103515245 + lN 12345) &&& 2147483647).toInt32 = _
    rw [lN_mul, lN_add, y_mask (by omega), lN_i]
    rfl
  rw [e, lts, up2_same]
  show some (nI (nxtX X) / nI 65536, _, _) = _
  rw [pk_div (by omega) (by omega) (by omega)]
theorem y_drawR {m : Nat} (hm : 0 < m) (hm2 : m ≤ 1000) (h : YS b mb P C D X I0 I0' I I' J') : f12_draw mb (nI m) I' J' = some (nI (nxtX X / 65536 % m), I', up2J J' mb 43 (lN (nxtX X))) := by
  obtain ⟨h1, h2, h3, h4, h5, h6, h7, h8⟩ := h
  have hl := nxt_lt (X := X)
  unfold f12_draw
  have e : ((J' mb 43 * (1103515245 : Int64)) + (12345 : Int64)) - ((J' mb 43 * (1103515245 : Int64)) + (12345 : Int64)) / (2147483648 : Int64) * (2147483648 : Int64) = lN (nxtX X) := by
    rw [h4]
    show ((lN X * lN 1103515245) + lN 12345) - ((lN X * lN 1103515245) + lN 12345) / lN 2147483648 * lN 2147483648 = _
    rw [lN_mul, lN_add, pk_lRem (by omega) (by omega) (by omega)]
    rfl
  rw [e, lts, up2J_at, pk_uLs, nI_l (by omega)]
  have hz : ¬ lN m = 0 := by
    show ¬ lN m = lN 0
    rw [pk_lEQ (by omega) (by omega)]; omega
  rw [if_neg hz]
  show some ((lN (nxtX X) / lN 65536 - lN (nxtX X) / lN 65536 / lN m * lN m).toInt32, _, _) = _
  rw [pk_lDiv (by omega) (by omega) (by omega), pk_lRem (by omega) hm (by omega), lN_i]
theorem YS.drawn (h : YS b mb P C D X I0 I0' I I' J') : YS b mb P C D (nxtX X) I0 I0' (up2 I (b + 4) 7 (nI (nxtX X))) I' (up2J J' mb 43 (lN (nxtX X))) := by
  obtain ⟨h1, h2, h3, h4, h5, h6, h7, h8⟩ := h
  refine ⟨h1.keep (fun a h1 h2 => up2_ne _ _ _ (by omega)) rfl, up2_same _ _ _ _, nxt_lt, by rw [up2J_at, pk_uLs], fun a ha hb => ?_, fun k hk => ?_, h7, h8⟩
  · rw [up2_ne _ _ _ ha, h5 a ha hb]
  · rw [up2_at (Or.inr hk), h6 k hk]
theorem y_hear {j : Nat} (hN : 3000 ≤ N) (hmb : mb = b + 75) (hq : ∀ k q, Rf (b + 3) k = some q → b + 105 ≤ q) (hR : RulesR b mb K S Rf I0 I0' Rl) (hf : I0 (b + 4) 6 = fo) (hf' : I0' mb 21 = fo) (hF : FoR fo K) (hj : j < P) : ∀ r k n n' (I I' : IT) (J J' : JT), YS b mb P C D X I0 I0' I I' J' → k + r = C → r < n → r < n' → ∃ q I1 J1 I1' J1', f11_hearByDraw_L28 N b S Rf (nI j) n (nI k) I J = some (q, I1, J1) ∧ f12_hearsDrawn_L13 N mb (nI j) n' (nI k) I' J' = some (q, I1', J1') ∧ YS b mb P C D X I0 I0' I1 I1' J1' := by
  intro r
  induction r with
  | zero =>
    intro k n n' I I' J J' h hk hn hn'
    have hC6 := co_C6 h.1
    obtain ⟨n, rfl⟩ : ∃ q, n = q + 1 := ⟨n - 1, by omega⟩
    obtain ⟨n', rfl⟩ : ∃ q, n' = q + 1 := ⟨n' - 1, by omega⟩
    rw [f11_hearByDraw_L28, f12_hearsDrawn_L13, co_C h.1, cv_C h.1, if_pos (nI_le (by omega) (by omega)), if_pos (nI_le (by omega) (by omega))]
    exact ⟨_, _, _, _, _, rfl, rfl, h⟩
  | succ r ih =>
    intro k n n' I I' J J' h hk hn hn'
    have hC6 := co_C6 h.1
    have hkC : k < C := by omega
    obtain ⟨n, rfl⟩ : ∃ q, n = q + 1 := ⟨n - 1, by omega⟩
    obtain ⟨n', rfl⟩ : ∃ q, n' = q + 1 := ⟨n' - 1, by omega⟩
    obtain ⟨w, w0, w1, w2, w3⟩ := q_may (N := N) (S := S) (Rf := Rf) (J := J) (J' := J') (by omega) h.1 hkC hj
    rw [f11_hearByDraw_L28, f12_hearsDrawn_L13, co_C h.1, cv_C h.1, if_neg (nI_ge (by omega) (by omega)), if_neg (nI_ge (by omega) (by omega)), w1, w2, b3s, b3s]
    rcases w0 with rfl | rfl
    · rw [if_pos rfl, if_pos rfl, lts, lts, nI_1]
      exact ih (k + 1) n n' I I' J J' h (by omega) (by omega) (by omega)
    · obtain ⟨h1, h2, h3, h4, h5, h6, h7, h8⟩ := h
      have hMa : ∀ x, x ≠ 10 → 0 < x → I' (mb + x) = I0' (mb + x) := fun x g1 g2 => funext fun y => h7 _ y (by omega) (Or.inl (by omega))
      have hR1 : RulesR b mb K S Rf I I' Rl := hR.keep hq (fun a ha => h5 a (by omega) (Or.inr (by omega))) (hMa 2 (by decide) (by decide)) (hMa 4 (by decide) (by decide)) (hMa 5 (by decide) (by decide))
      obtain ⟨r0, I1, J1, I1', J1', p1, p2, p3, p4, p5, p6, p7, p8⟩ := q_begin (N := N) (J := J) (J' := J') (by omega) h1 hR1 ((h6 6 (by decide)).trans hf) ((h7 mb 21 (by omega) (Or.inr (by decide))).trans hf') hF hkC hj
      rw [if_neg i10, if_neg i10, p1, p3, b3s, b3s]
      refine ⟨_, _, _, _, _, rfl, rfl, p4, ?_, h3, ?_, fun a ha hb => ?_, fun y hy => ?_, fun a y h1 h2 => ?_, fun i hi => ?_⟩
      · rw [p5 _ (by omega) (by omega) (by omega)]; exact h2
      · rw [p8]; exact h4
      · rw [p5 a (by omega) (by omega) (by omega), h5 a ha hb]
      · rw [p5 _ (by omega) (by omega) (by omega), h6 y hy]
      · rw [p6 a y h1 h2, h7 a y h1 h2]
      · rw [p7 i hi, h8 i hi]
theorem y_hearBy (hN : 3000 ≤ N) (hmb : mb = b + 75) (hq : ∀ k q, Rf (b + 3) k = some q → b + 105 ≤ q) (hR : RulesR b mb K S Rf I0 I0' Rl) (hf : I0 (b + 4) 6 = fo) (hf' : I0' mb 21 = fo) (hF : FoR fo K) (hP : 0 < P) (h : YS b mb P C D X I0 I0' I I' J') : ∃ I1 J1 I1' J1', f11_hearByDraw N b S Rf I J = some ((), I1, J1) ∧ f12_hearsDrawn N mb I' J' = some ((), I1', J1') ∧ YS b mb P C D (nxtX X) I0 I0' I1 I1' J1' := by
  have hP7 := co_P7 h.1
  have hC6 := co_C6 h.1
  have hl := nxt_lt (X := X)
  unfold f11_hearByDraw f12_hearsDrawn
  rw [co_P h.1, cv_P h.1, lts, if_pos (show 0 < nI P from nI_lt (a := 0) hP (by omega)), y_drawC h, b3s, if_neg (nI_ne0 hP (by omega)), pk_rem (by omega) hP (by omega), lts, y_drawR hP (by omega) h, b3s]
  obtain ⟨q, I1, J1, I1', J1', e1, e2, e3⟩ := y_hear (X := nxtX X) hN hmb hq hR hf hf' hF (show nxtX X / 65536 % P < P from Nat.mod_lt _ hP) C 0 N N _ _ J _ h.drawn (by omega) (by omega) (by omega)
  rw [show nI 0 = (0 : Int32) from rfl] at e1 e2
  rw [e1, e2, b3s, b3s]
  cases q with
  | inl x => rw [sml, sml]; exact ⟨I1, J1, I1', J1', rfl, rfl, e3⟩
  | inr x => rw [smr, smr]; exact ⟨I1, J1, I1', J1', rfl, rfl, e3⟩
theorem y_rule {m : Int32} {x1 x2 x3 x5 x6 x7 : Int32} (a0 : Int32) : ∀ r k n n' (X : Nat) (cnt : Int32) (I I' : IT) (J J' : JT), YS b mb P C D X I0 I0' I I' J' → k + r = C → r < n → r < n' → ∃ X1 q I1 J1 I1' J1', f11_ruledRightly_L4 N b S Rf m n cnt (nI k) I J = some (q, I1, J1) ∧ f12_years_L138 N mb x1 x2 x3 x5 x6 x7 m n' (a0 + cnt) (nI k) I' J' = some (a0 + q, I1', J1') ∧ YS b mb P C D X1 I0 I0' I1 I1' J1' := by
  intro r
  induction r with
  | zero =>
    intro k n n' X cnt I I' J J' h hk hn hn'
    have hC6 := co_C6 h.1
    obtain ⟨n, rfl⟩ : ∃ q, n = q + 1 := ⟨n - 1, by omega⟩
    obtain ⟨n', rfl⟩ : ∃ q, n' = q + 1 := ⟨n' - 1, by omega⟩
    rw [f11_ruledRightly_L4, f12_years_L138, co_C h.1, cv_C h.1, if_pos (nI_le (by omega) (by omega)), if_pos (nI_le (by omega) (by omega))]
    exact ⟨X, _, _, _, _, _, rfl, rfl, h⟩
  | succ r ih =>
    intro k n n' X cnt I I' J J' h hk hn hn'
    have hC6 := co_C6 h.1
    have hkC : k < C := by omega
    obtain ⟨n, rfl⟩ : ∃ q, n = q + 1 := ⟨n - 1, by omega⟩
    obtain ⟨n', rfl⟩ : ∃ q, n' = q + 1 := ⟨n' - 1, by omega⟩
    rw [f11_ruledRightly_L4, f12_years_L138, co_C h.1, cv_C h.1, if_neg (nI_ge (by omega) (by omega)), if_neg (nI_ge (by omega) (by omega))]
    unfold f12_isOf
    rcases and1 (m >>> (nI k &&& 31)) with e | e
    · rw [e, if_pos rfl, if_neg (show ¬ (0 : Int32) = 1 by decide), b3s, if_pos rfl, lts, lts, nI_1]
      exact ih (k + 1) n n' X cnt I I' J J' h (by omega) (by omega) (by omega)
    · rw [e, if_neg i10, if_pos rfl, b3s, if_neg i10, y_drawC h, b3s, yb_ck_t (inb_nI (by omega) (by decide)), nI_clamp (by omega), show (100 : Int32) = nI 100 from rfl, pk_rem (by have := nxt_lt (X := X); omega) (by omega) (by omega), y_drawR (m := 100) (by omega) (by omega) h, b3s, k12_c7 (by omega), b3s]
      have hd := h.drawn
      rw [co_right hd.1 hkC]
      by_cases c : I' (mb + 10) (52 + 11 * k) ≤ nI (nxtX X / 65536 % 100)
      · rw [if_pos c, if_pos c, lts, lts, lts, nI_1, Int32.add_zero]
        exact ih (k + 1) n n' (nxtX X) cnt _ _ _ _ hd (by omega) (by omega) (by omega)
      · rw [if_neg c, if_neg c, lts, lts, lts, lts, nI_1, Int32.add_assoc]
        exact ih (k + 1) n n' (nxtX X) (cnt + 1) _ _ _ _ hd (by omega) (by omega) (by omega)
theorem y_days {y : Nat} {z1 z3 z5 z8 w1 w3 w6 : Int32} (hN : 3000 ≤ N) (hmb : mb = b + 75) (hq : ∀ k q, Rf (b + 3) k = some q → b + 105 ≤ q) (hR : RulesR b mb K S Rf I0 I0' Rl) (hf : I0 (b + 4) 6 = fo) (hf' : I0' mb 21 = fo) (hF : FoR fo K) (hP : 0 < P) (hD : D + y ≤ 1199) : ∀ r k n n' (X : Nat) (a c : Int32) (I I' : IT) (J J' : JT), YS b mb P C (D + k) X I0 I0' I I' J' → k + r = y → r < n → r < n' → ∃ X1 qa qc I1 J1 I1' J1', f11_years_L99 N b S Rf z1 (nI y) z3 z5 z8 n a c (nI k) I J = some ((qa, qc), I1, J1) ∧ f12_years_L109 N mb w1 (nI y) w3 w6 n' a c (nI k) I' J' = some ((qa, qc), I1', J1') ∧ YS b mb P C (D + y) X1 I0 I0' I1 I1' J1' := by
  intro r
  induction r with
  | zero =>
    intro k n n' X a c I I' J J' h hk hn hn'
    obtain ⟨n, rfl⟩ : ∃ q, n = q + 1 := ⟨n - 1, by omega⟩
    obtain ⟨n', rfl⟩ : ∃ q, n' = q + 1 := ⟨n' - 1, by omega⟩
    rw [f11_years_L99, f12_years_L109, if_pos (nI_le (by omega) (by omega)), if_pos (nI_le (by omega) (by omega))]
    rw [show D + k = D + y by omega] at h
    exact ⟨X, _, _, _, _, _, _, rfl, rfl, h⟩
  | succ r ih =>
    intro k n n' X a c I I' J J' h hk hn hn'
    have hC6 := co_C6 h.1
    have hP7 := co_P7 h.1
    obtain ⟨n, rfl⟩ : ∃ q, n = q + 1 := ⟨n - 1, by omega⟩
    obtain ⟨n', rfl⟩ : ∃ q, n' = q + 1 := ⟨n' - 1, by omega⟩
    obtain ⟨A, JA, A', JA', e1, e2, e3⟩ := y_hearBy (J := J) hN hmb hq hR hf hf' hF hP h
    obtain ⟨q, B, B', p1, p2, p3, p4, p5, p6, p7⟩ := q_pass (N := N) (S := S) (Rf := Rf) (J := JA) (J' := JA') (by omega) (show D + k ≤ 1199 by omega) e3.1 (co_v0 e3.1 (Or.inl hP))
    obtain ⟨b1, b2⟩ := q_bits (N := N) (mb := mb) (q := q) (I := B) (I' := B') (J := JA) (J' := JA') (by omega) p3
    have h2 : YS b mb P C (D + (k + 1)) (nxtX X) I0 I0' B B' JA' := by
      obtain ⟨g1, g2, g3, g4, g5, g6, g7, g8⟩ := e3
      refine ⟨p4, ?_, g3, g4, fun a ha hb => ?_, fun y hy => ?_, fun a y h1 h2 => ?_, fun i hi => ?_⟩
      · rw [p5 _ (Or.inl (by omega))]; exact g2
      · rw [p5 a hb, g5 a ha hb]
      · rw [p5 _ (Or.inl (by omega)), g6 y hy]
      · rw [p6 a h1, g7 a y h1 h2]
      · rw [p7 i hi, g8 i hi]
    obtain ⟨X1, w, E, JE, E', JE', r1, r2, r3⟩ := y_rule (N := N) (S := S) (Rf := Rf) (m := nI q) (x1 := w1) (x2 := nI y) (x3 := w3) (x5 := c + bcV (nI q)) (x6 := w6) (x7 := nI k) a C 0 N N (nxtX X) 0 B B' JA JA' h2 (by omega) (by omega) (by omega)
    rw [show nI 0 = (0 : Int32) from rfl] at r1 r2
    rw [Int32.add_zero] at r2
    rw [f11_years_L99, f12_years_L109, if_neg (nI_ge (by omega) (by omega)), if_neg (nI_ge (by omega) (by omega)), e1, e2, b3s, b3s, p1, p2, b3s, b3s, b1, b2, b3s, b3s, lts, lts]
    unfold f11_ruledRightly
    rw [r1, b3s, b3s, lts, lts, r2, b3s, lts, nI_1]
    exact ih (k + 1) n n' X1 (a + w) (c + bcV (nI q)) E E' JE JE' r3 (by omega) (by omega) (by omega)
end YEARS
