/-! TEACH, UNDO, IMAGE, BACK -/
theorem wit_core {b mb P C D p W : Nat} {I I' I1 I1' : IT} (h : CoreR b mb I I' P C D) (hp : p < P) (hW : W ≤ 9) (hI : ∀ a k, (a ≠ b + 15 ∨ k ≠ p) → I1 a k = I a k) (e1 : I1 (b + 15) p = nI W) (hv : ∀ i, i < 111 → i ≠ 11 + 5 * p → I1' (mb + 10) i = I' (mb + 10) i) (e2 : I1' (mb + 10) (11 + 5 * p) = nI W) : CoreR b mb I1 I1' P C D := by
  have hP7 := co_P7 h
  have hC6 := co_C6 h
  obtain ⟨⟨⟨a1, a2⟩, ⟨b1, b2⟩, ⟨c1, c2⟩, d, e, f, g, t⟩, ⟨u1, u2, u3, u4, u5⟩, ⟨w1, w2, w3, w4⟩⟩ := id h
  have HI : ∀ a, a ≠ b + 15 → I1 a = I a := fun a ha => funext fun k => hI a k (Or.inl ha)
  refine ⟨⟨⟨(hv 2 (by omega) (by omega)).trans a1, a2⟩, ⟨(hv 3 (by omega) (by omega)).trans b1, b2⟩, ⟨(hv 4 (by omega) (by omega)).trans c1, c2⟩, ?_, fun q hq => ?_, fun x hx => ?_, fun x hx => ?_, fun j a hj ha => ?_⟩, ⟨?_, ?_, ?_, fun q hq => ?_, fun x hx => ?_⟩, ⟨?_, fun q hq => ?_, fun x hx => ?_, fun h0 x h1 h2 => ?_⟩⟩
  · rw [hv 0 (by omega) (by omega), hv 1 (by omega) (by omega), hv 5 (by omega) (by omega), hv 6 (by omega) (by omega)]; exact d
  · rw [hv (10 + 5 * q) (by omega) (by omega), hv (12 + 5 * q) (by omega) (by omega)]
    obtain ⟨A, W0, Z, z1, z2, z3, z4, z5, z6⟩ := e q hq
    by_cases c : q = p
    · subst c; exact ⟨A, W, Z, z1, e2, z3, z4, hW, z6⟩
    · exact ⟨A, W0, Z, z1, by rw [hv _ (by omega) (by omega)]; exact z2, z3, z4, z5, z6⟩
  · rw [hv (45 + 11 * x) (by omega) (by omega), hv (46 + 11 * x) (by omega) (by omega), hv (47 + 11 * x) (by omega) (by omega), hv (48 + 11 * x) (by omega) (by omega)]; exact f x hx
  · rw [hv (49 + 11 * x) (by omega) (by omega), hv (50 + 11 * x) (by omega) (by omega), hv (51 + 11 * x) (by omega) (by omega), hv (54 + 11 * x) (by omega) (by omega)]; exact g x hx
  · have := t j a hj ha
    unfold twM at this ⊢
    rw [hv (13 + 5 * a) (by omega) (by omega), hv (13 + 5 * j) (by omega) (by omega)]; exact this
  · show I1 (b + 5) 9 = _ ∧ I1 (b + 5) 10 = _ ∧ I1 (b + 5) 13 = _ ∧ I1 (b + 5) 14 = _
    rw [HI (b + 5) (by omega), hv 0 (by omega) (by omega), hv 1 (by omega) (by omega), hv 2 (by omega) (by omega), hv 3 (by omega) (by omega)]; exact u1
  · show _ → I1 (b + 5) 8 = 1 ∧ I1 (b + 5) 11 = _ ∧ I1 (b + 5) 12 = _
    rw [HI (b + 5) (by omega), hv 0 (by omega) (by omega), hv 5 (by omega) (by omega), hv 6 (by omega) (by omega)]; exact u2
  · show _ → I1 (b + 5) 8 = 0
    rw [HI (b + 5) (by omega), hv 0 (by omega) (by omega)]; exact u3
  · show I1 (b + 6) q = _ ∧ I1 (b + 8) q = _ ∧ I1 (b + 9) q = _
    rw [HI (b + 6) (by omega), HI (b + 8) (by omega), HI (b + 9) (by omega), hv (10 + 5 * q) (by omega) (by omega), hv (12 + 5 * q) (by omega) (by omega), hv (13 + 5 * q) (by omega) (by omega)]; exact u4 q hq
  · show I1 (b + 10) x = _ ∧ I1 (b + 11) x = _ ∧ I1 (b + 12) x = _ ∧ I1 (b + 13) x = _
    rw [HI (b + 10) (by omega), HI (b + 11) (by omega), HI (b + 12) (by omega), HI (b + 13) (by omega), hv (45 + 11 * x) (by omega) (by omega), hv (46 + 11 * x) (by omega) (by omega), hv (47 + 11 * x) (by omega) (by omega), hv (48 + 11 * x) (by omega) (by omega)]; exact u5 x hx
  · show I1 (b + 14) 9 = _
    rw [HI (b + 14) (by omega), hv 4 (by omega) (by omega)]; exact w1
  · show I1 (b + 15) q = _ ∧ I1 (b + 16) q = _
    rw [HI (b + 16) (by omega), hv (14 + 5 * q) (by omega) (by omega)]
    refine ⟨?_, (w2 q hq).2⟩
    by_cases c : q = p
    · subst c; rw [e1, e2]
    · rw [hI _ _ (Or.inr c), hv _ (by omega) (by omega)]; exact (w2 q hq).1
  · show I1 (b + 17) x = _ ∧ I1 (b + 18) x = _ ∧ (_ → I1 (b + 19) x = _) ∧ I1 (b + 20) x = _ ∧ I1 (b + 21) x = _ ∧ I1 (b + 22) x = _ ∧ I1 (b + 23) x = _
    rw [HI (b + 17) (by omega), HI (b + 18) (by omega), HI (b + 19) (by omega), HI (b + 20) (by omega), HI (b + 21) (by omega), HI (b + 22) (by omega), HI (b + 23) (by omega), hv (49 + 11 * x) (by omega) (by omega), hv (50 + 11 * x) (by omega) (by omega), hv (51 + 11 * x) (by omega) (by omega), hv (52 + 11 * x) (by omega) (by omega), hv (53 + 11 * x) (by omega) (by omega), hv (54 + 11 * x) (by omega) (by omega), hv (55 + 11 * x) (by omega) (by omega)]; exact w3 x hx
  · show I1 (b + 17) x = -1
    rw [hv 0 (by omega) (by omega)] at h0
    rw [HI (b + 17) (by omega)]; exact w4 h0 x h1 h2
theorem teach_core {N b mb P C D M K p : Nat} {L : List Nat} {S : ST} {Rf : RT} {I I' : IT} {J J' : JT} {Rl : Nat → List (List Tk × Option (List Tk))} (hN : 3000 ≤ N) (h : RelB b mb L S Rf I I' P C D M K Rl) (hp : p < P) (hw : ¬ I' (mb + 10) (11 + 5 * p) = 9) (hs : ∃ q, Rf (b + 29) (I (b + 28) 1).toNatClampNeg = some q) : ∃ r I1 I1' I2 I2', f2_keep b S Rf (b + 14) I J = some ((), I2, J) ∧ h11_teach_B N b S Rf (nI p) I2 J = some (r, I1, J) ∧ f12_keepsAct N mb I' J' = some ((), I2', J') ∧ (yb_ck (inb (((10 : Int32) + ((5 : Int32) * nI p)) + (1 : Int32)) 142) fun _ => yb_let (up2 I2' (mb + 10) (((10 : Int32) + ((5 : Int32) * nI p)) + (1 : Int32)).toNatClampNeg ((I2' (mb + 10) (((10 : Int32) + ((5 : Int32) * nI p)) + (1 : Int32)).toNatClampNeg) + (1 : Int32))) fun I_16 => yb_b3 (f12_personOf mb (nI p) (1 : Int32) I_16 J') fun r_17 I_18 J_19 => some (r_17, I_18, J_19)) = some (r, I1', J') ∧ RelB b mb L S Rf I1 I1' P C D M K Rl := by
  have hP7 := co_P7 h.core
  obtain ⟨I2, I2', k1, k2, h2, k3, k4⟩ := q_keep (J := J) (J' := J') hN h hs
  obtain ⟨W, Z, w1, w2, w3, w4⟩ := co_wzr h2.core hp
  rw [k3] at w1
  have hW : W < 9 := by
    rcases Nat.lt_or_ge W 9 with g | g
    · exact g
    · exact absurd (by rw [w1, show W = 9 by omega]; rfl) hw
  have ex : (10 : Int32) + 5 * nI p + 1 = nI (11 + 5 * p) := by
    show nI 10 + nI 5 * nI p + nI 1 = _
    rw [pk_mul, nI_add, nI_add]; congr 1; omega
  refine ⟨nI (W + 1), up2 I2 (b + 15) p (nI (W + 1)), up2 I2' (mb + 10) (11 + 5 * p) (nI (W + 1)), I2, I2', k1, ?_, k2, ?_, ?_⟩
  · unfold h11_teach_B
    rw [yb_ck_t (inb_nI (by omega) (by decide)), nI_clamp (by omega), co_wit h2.core hp, k3, w1, nI_1, lts, up2_same]
  · rw [ex, yb_ck_t (inb_nI (by omega) (by decide)), nI_clamp (by omega), k3, w1, nI_1, lts, k12_p1 (by omega), b3s, up2_same]
  · refine h2.act (fun a ha => up2_ne _ _ _ (by omega)) (fun a k h1 _ => by rw [up2_ne _ _ _ h1]) (fun i hi => up2_at (Or.inr (by omega))) (wit_core h2.core hp (show W + 1 ≤ 9 by omega) (fun a k hh => up2_at hh) (up2_same _ _ _ _) (fun i hi hne => up2_at (Or.inr hne)) (up2_same _ _ _ _)) h.d999
theorem G_teach {N : Nat} (hN : 3000 ≤ N) : Gd_teach N RelY := by
  intro b mb L S Rf I J I' J' x1 hR
  obtain ⟨P, C, D, M, K, Rl, h⟩ := hR
  have hc := h.core
  have hP7 := co_P7 hc
  rcases co_isPerson (J := J) (J' := J') (S := S) (Rf := Rf) hc x1 with ⟨a1, a2⟩ | ⟨p, hp, rfl, a1, a2⟩
  · left
    refine ⟨-1, I, J, I', J', ?_, ?_, P, C, D, M, K, Rl, h⟩
    · unfold f11_teach; rw [a1, b3s, if_pos rfl]
    · unfold f12_teach; rw [a2, b3s, if_pos rfl]
  · obtain ⟨W, Z, w1, w2, w3, w4⟩ := co_wzr hc hp
    by_cases cw : I' (mb + 10) (11 + 5 * p) = 9
    · left
      refine ⟨-1, I, J, I', J', ?_, ?_, P, C, D, M, K, Rl, h⟩
      · unfold f11_teach; rw [a1, b3s, if_neg i10, yb_ck_t (inb_nI (by omega) (by decide)), nI_clamp (by omega), co_wit hc hp, cw, if_neg (by decide)]
      · unfold f12_teach; rw [a2, b3s, if_neg i10, k12_p1 (by omega), b3s, if_pos cw]
    · have hlt : I' (mb + 10) (11 + 5 * p) < 9 := by
        rw [w1] at cw ⊢
        rcases Nat.lt_or_ge W 9 with g | g
        · exact nI_lt (b := 9) g (by omega)
        · exact absurd (by rw [show W = 9 by omega]; rfl) cw
      cases hq : Rf (b + 29) (I (b + 28) 1).toNatClampNeg with
      | some q =>
        left
        obtain ⟨r, I1, I1', I2, I2', e1, e2, e3, e4, e5⟩ := teach_core (J := J) (J' := J') hN h hp cw ⟨q, hq⟩
        refine ⟨r, I1, J, I1', J', ?_, ?_, P, C, D, M, K, Rl, e5⟩
        · unfold f11_teach; rw [a1, b3s, if_neg i10, yb_ck_t (inb_nI (by omega) (by decide)), nI_clamp (by omega), co_wit hc hp, if_pos hlt, e1, b3s]
          unfold h11_teach_B at e2
          rw [yb_ck_t (inb_nI (by omega) (by decide)), nI_clamp (by omega)] at e2
          exact e2
        · unfold f12_teach; rw [a2, b3s, if_neg i10, k12_p1 (by omega), b3s, if_neg cw, e3, b3s]; exact e4
      | none =>
        right
        intro z hz hzm
        have hmb := h.1
        have hzb : b + 105 ≤ z := by
          have := hzm _ (ml_mem mb 29 (by decide))
          omega
        have h2 := rel_new (J := J) h hz hzm hq
        have h28 : (nwC z S Rf I J).2.2.1 (b + 28) 1 = I (b + 28) 1 := by rw [nwC_I (by omega)]
        obtain ⟨nx, u, g1, g2, g3, _⟩ := h.2.2.2.2.2.2.2.2
        obtain ⟨r, I1, I1', I2, I2', e1, e2, e3, e4, e5⟩ := teach_core (J := (nwC z S Rf I J).2.2.2) (J' := J') hN h2 hp cw ⟨z, by rw [h28]; unfold kpR; rw [up2R_self, va_up_self]⟩
        refine ⟨r, _, _, I1, (nwC z S Rf I J).2.2.2, I1', J', ?_, ?_, P, C, D, M, K, Rl, e5⟩
        · unfold f11_teachN; rw [a1, b3s, if_neg i10, yb_ck_t (inb_nI (by omega) (by decide)), nI_clamp (by omega), co_wit hc hp, if_pos hlt, yb_ck_t (by rw [g3]; exact inb_nI g1 (by decide)), hq, opn, keep_B, e1, b3s, e2, b3s]
        · unfold f12_teach; rw [a2, b3s, if_neg i10, k12_p1 (by omega), b3s, if_neg cw, e3, b3s]; exact e4
theorem G_undo {N : Nat} (hN : 3000 ≤ N) : Gd_undo N RelY := by
  intro b mb L S Rf I J I' J' hR
  obtain ⟨P, C, D, M, K, Rl, h⟩ := hR
  have hc := h.core
  have hP7 := co_P7 hc
  have hC6 := co_C6 hc
  have hDy := h.2.2.1
  obtain ⟨nx, u, g1, g2, g3, g4, g5, g6⟩ := h.2.2.2.2.2.2.2.2
  unfold f11_undo f12_undo f2_takeBack
  rw [g3, g4, g5]
  by_cases cu : u = 0
  · subst cu
    rw [if_pos (show nI 0 = 0 from rfl)]
    refine ⟨-1, I, J, I', J', ?_, rfl, P, C, D, M, K, Rl, h⟩
    by_cases cn : nI nx ≤ 0
    · rw [if_pos cn, if_pos (show nI 0 ≤ 0 by decide), b3s, if_pos rfl]
    · rw [if_neg cn, lts, if_pos (show nI 0 ≤ 0 by decide), b3s, if_pos rfl]
  · obtain ⟨q, D2, f1, f2, f3, f4, f5⟩ := g6 (u - 1) (by omega)
    have hq := (hDy.2.1 _ _ q (Or.inr (Or.inr rfl)) f1).1
    have hidx : (nx + 20 - u + (u - 1)) % 20 = (nx + 19) % 20 := by omega
    rw [hidx] at f1
    obtain ⟨I0, c1, c2⟩ := q0_copy (b := b) (t0 := b + 14) (t1 := q) (S := S) (Rf := Rf) (I := I) (J := J) (Or.inr (by omega))
    have k28 : I0 (b + 28) = I (b + 28) := c2.1 _ (Or.inr (by omega))
    have em : nI u - 1 = nI (u - 1) := pk_sub (b := 1) (by omega)
    rw [if_neg (nI_ne0 (by omega) (by omega)), em, lts (a := up2 I' mb 24 (nI (u - 1)))]
    obtain ⟨I1', r1, r2, r3, r4⟩ := cl_undo_L21 (N := N) (mb := mb) (u := u - 1) (J := J') (by omega) 111 0 N (up2 I' mb 24 (nI (u - 1))) (by omega) (by omega) (up2_same _ _ _ _)
    rw [show nI 0 = (0 : Int32) from rfl] at r1
    rw [r1, b3s, r2 mb (by omega), up2_same]
    have hcl : ∃ I1, (yb_b3 (if nI nx ≤ 0 then if nI u ≤ 0 then some ((0 : Int32), I, J) else yb_op (Rf (b + 29) 19) (fun _ => some ((0 : Int32), I, J)) fun t_3 => yb_b3 (f0_copy b S Rf (b + 14) t_3 I J) fun r_5 I_6 J_7 => yb_let (up2 I_6 (b + 28) 1 (19 : Int32)) fun I_9 => yb_let (up2 I_9 (b + 28) 2 ((I_9 (b + 28) 2) - (1 : Int32))) fun I_10 => some ((1 : Int32), I_10, J_7) else yb_let (nI nx - (1 : Int32)) fun x2_11 => if nI u ≤ 0 then some ((0 : Int32), I, J) else yb_ck (inb x2_11 20) fun _ => yb_op (Rf (b + 29) x2_11.toNatClampNeg) (fun _ => some ((0 : Int32), I, J)) fun t_14 => yb_b3 (f0_copy b S Rf (b + 14) t_14 I J) fun r_16 I_17 J_18 => yb_let (up2 I_17 (b + 28) 1 x2_11) fun I_20 => yb_let (up2 I_20 (b + 28) 2 ((I_20 (b + 28) 2) - (1 : Int32))) fun I_21 => some ((1 : Int32), I_21, J_18)) fun r_1 I_2 J_3 => if r_1 = 0 then some ((-1 : Int32), I_2, J_3) else some ((I_2 (b + 28) 2), I_2, J_3)) = some (nI (u - 1), I1, J) ∧ (∀ a, a ≠ b + 28 → I1 a = I0 a) ∧ I1 (b + 28) 1 = nI ((nx + 19) % 20) ∧ I1 (b + 28) 2 = nI (u - 1) := by
      have hm : ∀ x : Int32, up2 I0 (b + 28) 1 x (b + 28) 2 = nI u := fun x => by rw [up2_at (Or.inr (by decide)), k28, g4]
      by_cases cn : nx = 0
      · subst cn
        rw [if_pos (show nI 0 ≤ 0 by decide), if_neg (nI_nle (by omega) (by omega)), show Rf (b + 29) 19 = some q from f1, ops, c1, b3s, lts, hm, em, lts, b3s, if_neg i10, up2_same]
        exact ⟨_, rfl, fun a ha => by rw [up2_ne _ _ _ ha, up2_ne _ _ _ ha], by rw [up2_at (Or.inr (by decide)), up2_same]; rfl, up2_same _ _ _ _⟩
      · have en : nI nx - 1 = nI (nx - 1) := pk_sub (b := 1) (by omega)
        rw [if_neg (nI_nle (by omega) (by omega)), en, lts, if_neg (nI_nle (by omega) (by omega)), yb_ck_t (inb_nI (by omega) (by decide)), nI_clamp (by omega), show Rf (b + 29) (nx - 1) = some q by rw [show nx - 1 = (nx + 19) % 20 by omega]; exact f1, ops, c1, b3s, lts, hm, em, lts, b3s, if_neg i10, up2_same]
        exact ⟨_, rfl, fun a ha => by rw [up2_ne _ _ _ ha, up2_ne _ _ _ ha], by rw [up2_at (Or.inr (by decide)), up2_same]; congr 1; omega, up2_same _ _ _ _⟩
    obtain ⟨I1, d1, d2, d3, d4⟩ := hcl
    have hI : ∀ a, a ≠ b + 28 → (a < b + 14 ∨ b + 23 < a) → I1 a = I a := fun a h1 h2 => (d2 a h1).trans (c2.1 a (by omega))
    have hM : ∀ a, a ≠ mb → a ≠ mb + 10 → I1' a = I' a := fun a h1 h2 => by rw [r2 a h2, up2_ne _ _ _ h1]
    have hMb : ∀ k, k ≠ 24 → I1' mb k = I' mb k := fun k hk => by rw [r2 mb (by omega), up2_at (Or.inr hk)]
    have hv : ∀ i, i < 111 → I1' (mb + 10) i = I' (mb + 11) (111 * (u - 1) + i) := fun i hi => by rw [r4 i (by omega) hi, up2_ne _ _ _ (by omega)]
    refine ⟨nI (u - 1), I1, J, I1', J', d1, rfl, P, C, D2, M, K, Rl, ?_⟩
    refine h.swapK (fun k hk => hI _ (by omega) (Or.inl (by omega))) (fun k h1 h2 => hI _ (by omega) (Or.inr (by omega))) (fun a h1 h2 => hI _ (by omega) (Or.inr (by omega))) (fun k p e => ?_) (fun k p i e hi => ?_) ⟨hMb 1 (by decide), hMb 2 (by decide), hMb 21 (by decide), hMb 22 (by decide)⟩ (fun k hk => hM _ (by omega) (by omega)) (fun i hi => by rw [r3 i (Or.inr hi), up2_ne _ _ _ (by omega)]) f2 (f3.vc hv) ((f4.congr (fun k hk => hI _ (by omega) (Or.inl (by omega)))).vc hP7 hC6 hv) ?_ ?_
    · have := (hDy.2.1 _ k p (Or.inl rfl) e).1
      exact hI _ (by omega) (Or.inr (by omega))
    · have := (hDy.2.1 _ k p (Or.inr (Or.inl rfl)) e).1
      exact hI _ (by omega) (Or.inr (by omega))
    · have hcc : CourseR (fun k => I0 (b + 14 + k)) (fun i => I' (mb + 11) (111 * (u - 1) + i)) P C := CourseR.copy hP7 hC6 c2 f5
      exact (hcc.congr (fun k hk => d2 _ (by omega))).vc hP7 hC6 hv
    · refine ⟨(nx + 19) % 20, u - 1, Nat.mod_lt _ (by omega), by omega, d3, d4, by rw [r2 mb (by omega), up2_same], fun j hj => ?_⟩
      obtain ⟨p, D3, e1, e2, e3, e4, e5⟩ := g6 j (by omega)
      have hp := (hDy.2.1 _ _ p (Or.inr (Or.inr rfl)) e1).1
      rw [hM (mb + 11) (by omega) (by omega)]
      refine ⟨p, D3, ?_, e2, e3, e4.congr (fun k hk => hI _ (by omega) (Or.inl (by omega))), e5.congr (fun k hk => hI _ (by omega) (Or.inr (by omega)))⟩
      rw [show ((nx + 19) % 20 + 20 - (u - 1) + j) % 20 = (nx + 20 - u + j) % 20 by omega]; exact e1
