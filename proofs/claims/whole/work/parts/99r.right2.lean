/-! RULE: one clause behind its first word -/
section RIGHT2
variable {N b mb n p p' K V i : Nat} {w : Nat → Nat} {tc tr : List Int32} {S : ST} {Rf : RT} {I I1 I2 I' I1' I2' : IT} {J J' : JT} {r : Int32}
theorem q_right (hN : 1000 ≤ N) (h : PS b mb n w K p p tc tr V I I') (he : I (b + 2) 3 = nI (ltr w n p)) (hlt : p + 2 ≤ ltr w n p) (hb : tc.length ≤ p) (hi : i < 12) (h5 : I' (mb + 5) K = nI i) :
    (∃ I1 I1', rgC N b S Rf I J = some (0, I1, J) ∧ f12_isRightHere N mb I' J' = some (0, I1', J') ∧ FQ b mb K I I1 I' I1' ∧ I1 (b + 2) 4 = I1' mb 9 ∧ I1' mb 9 ≠ 0) ∨
    ∃ (x : List Tk × Option (List Tk)) (q q' V' : Nat) (I1 I1' : IT), rgC N b S Rf I J = some (1, I1, J) ∧ f12_isRightHere N mb I' J' = some (1, I1', J') ∧ PS b mb n w K q q' (tc ++ encC x) (tr ++ (x.1.map tkI ++ (x.2.getD []).map tkI)) V' I1 I1' ∧ FQ b mb K I I1 I' I1' ∧ tc.length + (encC x).length + 1 ≤ q' ∧ p < q' ∧ ClOK x ∧ Rw1 (I1' (mb + 4)) K i tr.length x ∧ (∀ j, j < 48 * K + 4 * i → I1' (mb + 4) j = I' (mb + 4) j) ∧ I1' (mb + 5) K = nI (i + 1) ∧ I1' mb 14 = I' mb 14 := by
  obtain ⟨hrd, hpc, hV, hK, hpm, hlen⟩ := PS_iff.mp h
  have h4 := hrd.n4
  obtain ⟨pw1, pw2, pw3⟩ := q_passW (S := S) (Rf := Rf) (J := J) (J' := J') hN hrd he
  have hPa := h.mv pw3 (FrN.to _ _)
  have ex : (48 : Int32) * nI K + 4 * nI i = nI (48 * K + 4 * i) := by
    show nI 48 * nI K + nI 4 * nI i = _
    rw [pk_mul, pk_mul, nI_add]
  have ex1 : nI (48 * K + 4 * i) + 1 = nI (48 * K + 4 * i + 1) := nI_add _ 1
  have ex2 : nI (48 * K + 4 * i) + 2 = nI (48 * K + 4 * i + 2) := nI_add _ 2
  have ex3 : nI (48 * K + 4 * i) + 3 = nI (48 * K + 4 * i + 3) := nI_add _ 3
  have g11 : up2 I' mb 8 (nI (ltr w n p)) mb 11 = nI K := (up2_at (Or.inr (by decide))).trans hpm.1
  have g5 : up2 I' mb 8 (nI (ltr w n p)) (mb + 5) K = nI i := by rw [up2_ne _ _ _ (by omega)]; exact h5
  have g3 : up2 I' mb 8 (nI (ltr w n p)) (mb + 3) K = nI tr.length := by rw [up2_ne _ _ _ (by omega)]; exact hpm.2.1
  have hPb := hPa.m45 (a := mb + 4) (j := 48 * K + 4 * i) (x := nI tr.length) (Or.inl rfl)
  have fqA : FQ b mb K I (up2 I (b + 2) 2 (nI (skp w n (ltr w n p)))) I' (up2 (up2 I' mb 8 (nI (ltr w n p))) (mb + 4) (48 * K + 4 * i) (nI tr.length)) := (FrN.to (b := b) (mb := mb) (I := I) (I' := I') _ _).fr.fq.t2 (FQ.m45 _ (Or.inl ⟨rfl, by omega⟩))
  unfold rgC f12_isRightHere
  rw [pw1, b3s, pw2, b3s, g11, yb_ck_t (inb_nI hK (by decide)), nI_clamp (show K < 2 ^ 31 by omega), g5, ex, lts, yb_ck_t (inb_nI (show K < 7 by omega) (by decide)), yb_ck_t (inb_nI (show 48 * K + 4 * i < 288 by omega) (by decide)), g3, nI_clamp (show 48 * K + 4 * i < 2 ^ 31 by omega), lts]
  rcases q_sum (S := S) (Rf := Rf) (J := J) (J' := J') (e := 2) hN hPb (by omega) with ⟨I1, I1', a1, a2, a3⟩ | ⟨ta, q, q', I1, I1', a1, a2, a3, a4, a5, a6, a7, a8, a9⟩
  · exact Or.inl ⟨I1, I1', by rw [a1, b3s, if_pos rfl], by rw [a2, b3s, if_pos rfl], fqA.t2 a3.1.fq, a3.2⟩
  · rw [a1, b3s, if_neg i10, a2, b3s, if_neg i10]
    obtain ⟨hrd1, hpc1, hV1, _, hpm1, hlen1⟩ := PS_iff.mp a3
    have hqq : q' ≤ q := by rw [← hrd1.2.2.2.1]; exact run_ge hrd1.2.2.1
    have hqn := hrd1.le
    have hq'n := hrd1.2.2.1
    rw [hpm1.1, yb_ck_t (inb_nI (show K < 7 by omega) (by decide)), ex1, yb_ck_t (inb_nI (show 48 * K + 4 * i + 1 < 288 by omega) (by decide)), nI_clamp (show K < 2 ^ 31 by omega), nI_clamp (show 48 * K + 4 * i + 1 < 2 ^ 31 by omega), hpm1.2.1, lts, ex2, yb_ck_t (inb_nI (show 48 * K + 4 * i + 2 < 288 by omega) (by decide)), nI_clamp (show 48 * K + 4 * i + 2 < 2 ^ 31 by omega), lts, ex3]
    have hPc := (a3.m45 (a := mb + 4) (j := 48 * K + 4 * i + 1) (x := nI (tr ++ ta.map tkI).length) (Or.inl rfl)).m45 (a := mb + 4) (j := 48 * K + 4 * i + 2) (x := -1) (Or.inl rfl)
    have fqB := ((fqA.t2 a4.fq).t2 (FQ.m45 (b := b) (I := I1) (a := mb + 4) (j := 48 * K + 4 * i + 1) (nI (tr ++ ta.map tkI).length) (Or.inl ⟨rfl, by omega⟩))).t2 (FQ.m45 (b := b) (I := I1) (a := mb + 4) (j := 48 * K + 4 * i + 2) (-1) (Or.inl ⟨rfl, by omega⟩))
    obtain ⟨r, w1, w2⟩ := q_word (S := S) (Rf := Rf) (J := J) hN hPc.1
    have iw := q_isWord (J' := J') (W := 26982) hN hPc.1 w2 (j := 13) (by decide) wc13
    have q5 : I1' (mb + 5) K = nI i := by rw [a4.2.2.1 _ (by omega) (by omega) (by omega) (by omega), up2_ne _ _ _ (by omega), up2_ne _ _ _ (by omega)]; exact h5
    have q4 : ∀ j, j ≠ 48 * K + 4 * i → I1' (mb + 4) j = I' (mb + 4) j := fun j hj => by rw [a4.2.2.1 _ (by omega) (by omega) (by omega) (by omega), up2_at (Or.inr hj), up2_ne _ _ _ (by omega)]
    have q40 : I1' (mb + 4) (48 * K + 4 * i) = nI tr.length := by rw [a4.2.2.1 _ (by omega) (by omega) (by omega) (by omega), up2_same]
    have q14 : I1' mb 14 = I' mb 14 := by rw [a4.2.2.2.1 14 (by decide) (by decide) (by decide) (by decide) (by decide) (by decide), up2_ne _ _ _ (by omega), up2_at (Or.inr (by decide))]
    have lta : (tc ++ ta.map tkC).length = tc.length + ta.length := by simp
    have ltr1 : (tr ++ ta.map tkI).length = tr.length + ta.length := by simp
    have cnt60 : cntT ta ≤ 60 := by omega
    have hrdw := hPc.1.seen.word (nI (ltr w n q))
    have frW : FrN b mb I1 (up2 I1 (b + 2) 3 (nI (ltr w n q))) (up2 (up2 I1' (mb + 4) (48 * K + 4 * i + 1) (nI (tr ++ ta.map tkI).length)) (mb + 4) (48 * K + 4 * i + 2) (-1)) (up2 (up2 (up2 I1' (mb + 4) (48 * K + 4 * i + 1) (nI (tr ++ ta.map tkI).length)) (mb + 4) (48 * K + 4 * i + 2) (-1)) mb 8 (nI q)) := ⟨fun a k z => up2_at (by omega), fun a k z => up2_at (by omega)⟩
    have hPd := hPc.mv hrdw frW
    have z11 := hPd.2.2.2.2.1.1
    have z3 := hPd.2.2.2.2.1.2.1
    rw [w1, b3s]
    by_cases c13 : r = nI 13
    · rw [if_pos c13] at iw
      obtain ⟨pv1, pv2, pv3⟩ := q_passW (S := S) (Rf := Rf) (J := J) (J' := J') hN hPd.1 (up2_same _ _ _ _)
      generalize hIb : up2 (up2 (up2 I1' (mb + 4) (48 * K + 4 * i + 1) (nI (tr ++ ta.map tkI).length)) (mb + 4) (48 * K + 4 * i + 2) (-1)) mb 8 (nI q) = Ib at *
      have tk : f12_takesWord N mb 26982 (up2 (up2 I1' (mb + 4) (48 * K + 4 * i + 1) (nI (tr ++ ta.map tkI).length)) (mb + 4) (48 * K + 4 * i + 2) (-1)) J' = some (1, up2 Ib mb 8 (nI (ltr w n q)), J') := by unfold f12_takesWord; rw [iw, b3s, if_neg i10, pv2, b3s]
      have hlw : q < ltr w n q := by
        rcases WIx_rng w2 with z | ⟨_, _, _, z⟩
        · rw [z] at c13; exact absurd c13 (by decide)
        · exact z
      have hPf := (hPd.mv pv3 (FrN.to _ _)).m45 (a := mb + 4) (j := 48 * K + 4 * i + 2) (x := nI (tr ++ ta.map tkI).length) (Or.inl rfl)
      have v11 : up2 Ib mb 8 (nI (ltr w n q)) mb 11 = nI K := (up2_at (Or.inr (by decide))).trans z11
      have v3 : up2 Ib mb 8 (nI (ltr w n q)) (mb + 3) K = nI (tr ++ ta.map tkI).length := by rw [up2_ne _ _ _ (by omega)]; exact z3
      rw [if_pos (show r = (13 : Int32) from c13), pv1, b3s, tk, b3s, if_neg i10, v11, yb_ck_t (inb_nI (show K < 7 by omega) (by decide)), nI_clamp (show K < 2 ^ 31 by omega), v3, lts]
      have fqE := ((fqB.t2 (frW.fr (K := K)).fq).t2 (FrN.to (b := b) (mb := mb) (I := up2 I1 (b + 2) 3 (nI (ltr w n q))) (I' := Ib) (nI (skp w n (ltr w n q))) (nI (ltr w n q))).fr.fq).t2 (FQ.m45 (b := b) (a := mb + 4) (j := 48 * K + 4 * i + 2) (nI (tr ++ ta.map tkI).length) (Or.inl ⟨rfl, by omega⟩))
      rcases q_tested (S := S) (Rf := Rf) (J := J) (J' := J') (e := 2) hN hPf (by rw [lta]; omega) with ⟨I2, I2', t1, t2, t3⟩ | ⟨tb, y, y', V2, I2, I2', t1, t2, t3, t4, t5, t6, t7, t8, t9⟩
      · exact Or.inl ⟨I2, I2', by rw [t1, b3s, if_pos rfl], by rw [t2, b3s, if_pos rfl], fqE.t2 t3.1.fq, t3.2⟩
      · obtain ⟨hrd2, hpc2, hV2, _, hpm2, hlen2⟩ := PS_iff.mp t3
        have hy'n := hrd2.2.2.1
        rw [lta] at t6
        have l5 : (tc ++ ta.map tkC ++ tb.map tkC).length = tc.length + ta.length + tb.length := by simp; omega
        have hb45 : ∀ a, a ≠ mb → a ≠ mb + 2 → a ≠ mb + 3 → a ≠ mb + 4 → a ≠ mb + 7 → I2' a = I1' a := fun a h1 h2 h3 h4 h7 => by rw [t4.2.2.1 a h1 h2 h3 h7, up2_ne _ _ _ h4, up2_ne _ _ _ h1, ← hIb, up2_ne _ _ _ h1, up2_ne _ _ _ h4, up2_ne _ _ _ h4]
        have hb4 : ∀ j, I2' (mb + 4) j = up2 (up2 I1' (mb + 4) (48 * K + 4 * i + 1) (nI (tr ++ ta.map tkI).length)) (mb + 4) (48 * K + 4 * i + 2) (nI (tr ++ ta.map tkI).length) (mb + 4) j := fun j => by
          rw [t4.2.2.1 _ (by omega) (by omega) (by omega) (by omega)]
          by_cases ej : j = 48 * K + 4 * i + 2
          · subst ej; rw [up2_same, up2_same]
          · rw [up2_at (Or.inr ej), up2_ne _ _ _ (by omega), ← hIb, up2_ne _ _ _ (by omega), up2_at (Or.inr ej), up2_at (Or.inr ej)]
        obtain ⟨I3, d1, d2, d3, d4, d5⟩ := put_c (b := b) (S := S) (Rf := Rf) (J := J) (x := (200014 : Int32)) hpc2.1 hpc2.2.1 (by rw [l5]; omega)
        have y11 : ∀ x, up2 I2' (mb + 4) (48 * K + 4 * i + 3) x mb 11 = nI K := fun x => by rw [up2_ne _ _ _ (by omega)]; exact hpm2.1
        have y5 : ∀ x, up2 I2' (mb + 4) (48 * K + 4 * i + 3) x (mb + 5) K = nI i := fun x => by rw [up2_ne _ _ _ (by omega), hb45 _ (by omega) (by omega) (by omega) (by omega) (by omega)]; exact q5
        rw [t1, b3s, if_neg i10, d1, b3s, t2, b3s, if_neg i10, hpm2.1, yb_ck_t (inb_nI (show K < 7 by omega) (by decide)), yb_ck_t (inb_nI (show 48 * K + 4 * i + 3 < 288 by omega) (by decide)), nI_clamp (show K < 2 ^ 31 by omega), hpm2.2.1, nI_clamp (show 48 * K + 4 * i + 3 < 2 ^ 31 by omega), lts, y11, yb_ck_t (inb_nI hK (by decide)), nI_clamp (show K < 2 ^ 31 by omega), y5, nI_1, lts]
        have t3e := (t3.m45 (a := mb + 4) (j := 48 * K + 4 * i + 3) (x := nI (tr ++ ta.map tkI ++ tb.map tkI).length) (Or.inl rfl)).m45 (a := mb + 5) (j := K) (x := nI (i + 1)) (Or.inr rfl)
        obtain ⟨hrdE, hpcE, hVE, _, hpmE, hlenE⟩ := PS_iff.mp t3e
        have ltr2 : (tr ++ ta.map tkI ++ tb.map tkI).length = tr.length + ta.length + tb.length := by simp; omega
        refine Or.inr ⟨(ta, some tb), y, y', V2, I3, _, rfl, rfl, PS_iff.mpr ⟨hrdE.keep (by rw [d4 _ (by omega) (by omega)]) (by rw [d4 _ (by omega) (by omega)]) (d4 _ (by omega) (by omega)) rfl rfl rfl rfl, ⟨?_, ?_, (d5 3 (by decide)).trans hpcE.2.2⟩, hVE, hK, ?_, ?_⟩, ?_, ?_, by omega, ⟨a9.sem, a8, cnt60, fun u e => ?_⟩, ⟨?_, ?_, Or.inr ⟨tb, rfl, ?_, ?_⟩⟩, fun j hj => ?_, up2_same _ _ _ _, ?_⟩
        · show _ = nI (tc ++ (ta.map tkC ++ (tb.map tkC ++ [nI 200014]))).length
          rw [← List.append_assoc, ← List.append_assoc]; exact d2
        · show TokAt _ 0 (tc ++ (ta.map tkC ++ (tb.map tkC ++ [nI 200014])))
          rw [← List.append_assoc, ← List.append_assoc]; exact d3
        · show PMt mb K (tr ++ (ta.map tkI ++ tb.map tkI)) _ _
          rw [← List.append_assoc]; exact hpmE
        · show (tr ++ (ta.map tkI ++ tb.map tkI)).length ≤ (tc ++ (ta.map tkC ++ (tb.map tkC ++ [nI 200014]))).length
          simp; omega
        · have fqC : FQ b mb K I2 I3 I' I' := ⟨fun a _ h2 h3 => d4 a h2 h3, by rw [d4 _ (by omega) (by omega)], fun _ _ _ _ _ _ _ => rfl, fun _ _ _ _ _ _ _ _ => rfl, fun _ _ => rfl, fun _ _ => rfl, fun _ _ => rfl⟩
          have fqD := ((fqE.t2 t4.fq).t2 (FQ.m45 (b := b) (I := I2) (a := mb + 4) (j := 48 * K + 4 * i + 3) (nI (tr ++ ta.map tkI ++ tb.map tkI).length) (Or.inl ⟨rfl, by omega⟩))).t2 (FQ.m45 (b := b) (I := I2) (a := mb + 5) (j := K) (nI (i + 1)) (Or.inr ⟨rfl, Nat.le_refl _⟩))
          exact ⟨fun a h1 h2 h3 => (fqC.1 a h1 h2 h3).trans (fqD.1 a h1 h2 h3), fqC.2.1.trans fqD.2.1, fqD.2.2⟩
        · show tc.length + (ta.map tkC ++ (tb.map tkC ++ [nI 200014])).length + 1 ≤ y'
          simp; omega
        · cases e
          exact ⟨t8.sem, t7, by omega⟩
        · rw [up2_ne _ _ _ (by omega), up2_at (Or.inr (by omega)), hb4, up2_at (Or.inr (by omega)), up2_at (Or.inr (by omega))]; exact q40
        · rw [up2_ne _ _ _ (by omega), up2_at (Or.inr (by omega)), hb4, up2_at (Or.inr (by omega)), up2_same, ltr1]
        · rw [up2_ne _ _ _ (by omega), up2_at (Or.inr (by omega)), hb4, up2_same, ltr1]
        · rw [up2_ne _ _ _ (by omega), up2_same, ltr2]
        · rw [up2_ne _ _ _ (by omega), up2_at (Or.inr (by omega)), hb4, up2_at (Or.inr (by omega)), up2_at (Or.inr (by omega))]; exact q4 j (by omega)
        · rw [up2_ne _ _ _ (by omega), up2_ne _ _ _ (by omega), t4.2.2.2.1 14 (by decide) (by decide) (by decide) (by decide) (by decide) (by decide), up2_ne _ _ _ (by omega), up2_at (Or.inr (by decide)), ← hIb, up2_at (Or.inr (by decide)), up2_ne _ _ _ (by omega), up2_ne _ _ _ (by omega)]; exact q14
    · rw [if_neg c13] at iw
      obtain ⟨I2, d1, d2, d3, d4, d5⟩ := put_c (b := b) (S := S) (Rf := Rf) (J := J) (x := (200013 : Int32)) hPd.2.1.1 hPd.2.1.2.1 (by rw [lta]; omega)
      have tk : f12_takesWord N mb 26982 (up2 (up2 I1' (mb + 4) (48 * K + 4 * i + 1) (nI (tr ++ ta.map tkI).length)) (mb + 4) (48 * K + 4 * i + 2) (-1)) J' = some (0, up2 (up2 (up2 I1' (mb + 4) (48 * K + 4 * i + 1) (nI (tr ++ ta.map tkI).length)) (mb + 4) (48 * K + 4 * i + 2) (-1)) mb 8 (nI q), J') := by unfold f12_takesWord; rw [iw, b3s, if_pos rfl]
      have y11 : up2 (up2 (up2 (up2 I1' (mb + 4) (48 * K + 4 * i + 1) (nI (tr ++ ta.map tkI).length)) (mb + 4) (48 * K + 4 * i + 2) (-1)) mb 8 (nI q)) (mb + 4) (48 * K + 4 * i + 3) (nI (tr ++ ta.map tkI).length) mb 11 = nI K := by rw [up2_ne _ _ _ (by omega)]; exact z11
      have y5 : up2 (up2 (up2 (up2 I1' (mb + 4) (48 * K + 4 * i + 1) (nI (tr ++ ta.map tkI).length)) (mb + 4) (48 * K + 4 * i + 2) (-1)) mb 8 (nI q)) (mb + 4) (48 * K + 4 * i + 3) (nI (tr ++ ta.map tkI).length) (mb + 5) K = nI i := by rw [up2_ne _ _ _ (by omega), up2_ne _ _ _ (by omega), up2_ne _ _ _ (by omega), up2_ne _ _ _ (by omega)]; exact q5
      rw [if_neg (show ¬ r = (13 : Int32) from c13), d1, b3s, tk, b3s, if_pos rfl, z11, yb_ck_t (inb_nI (show K < 7 by omega) (by decide)), yb_ck_t (inb_nI (show 48 * K + 4 * i + 3 < 288 by omega) (by decide)), nI_clamp (show K < 2 ^ 31 by omega), z3, nI_clamp (show 48 * K + 4 * i + 3 < 2 ^ 31 by omega), lts, y11, yb_ck_t (inb_nI hK (by decide)), nI_clamp (show K < 2 ^ 31 by omega), y5, nI_1, lts]
      have hPe := (hPd.m45 (a := mb + 4) (j := 48 * K + 4 * i + 3) (x := nI (tr ++ ta.map tkI).length) (Or.inl rfl)).m45 (a := mb + 5) (j := K) (x := nI (i + 1)) (Or.inr rfl)
      obtain ⟨hrdE, hpcE, hVE, _, hpmE, hlenE⟩ := PS_iff.mp hPe
      refine Or.inr ⟨(ta, none), q, q, V + cntT ta, I2, _, rfl, rfl, PS_iff.mpr ⟨hrdE.keep (by rw [d4 _ (by omega) (by omega)]) (by rw [d4 _ (by omega) (by omega)]) (d4 _ (by omega) (by omega)) rfl rfl rfl rfl, ⟨?_, ?_, (d5 3 (by decide)).trans hpcE.2.2⟩, hVE, hK, ?_, ?_⟩, ?_, ?_, by omega, ⟨a9.sem, a8, cnt60, fun u e => (by cases e)⟩, ⟨?_, ?_, Or.inl ⟨rfl, ?_⟩⟩, fun j hj => ?_, up2_same _ _ _ _, ?_⟩
      · show _ = nI (tc ++ (ta.map tkC ++ [nI 200013])).length
        rw [← List.append_assoc]; exact d2
      · show TokAt _ 0 (tc ++ (ta.map tkC ++ [nI 200013]))
        rw [← List.append_assoc]; exact d3
      · show PMt mb K (tr ++ (ta.map tkI ++ [])) _ _
        rw [List.append_nil]; exact hpmE
      · show (tr ++ (ta.map tkI ++ [])).length ≤ (tc ++ (ta.map tkC ++ [nI 200013])).length
        simp; omega
      · have fqC : FQ b mb K (up2 I1 (b + 2) 3 (nI (ltr w n q))) I2 I' I' := ⟨fun a _ h2 h3 => d4 a h2 h3, by rw [d4 _ (by omega) (by omega)], fun _ _ _ _ _ _ _ => rfl, fun _ _ _ _ _ _ _ _ => rfl, fun _ _ => rfl, fun _ _ => rfl, fun _ _ => rfl⟩
        have fqD := ((fqB.t2 (frW.fr (K := K)).fq).t2 (FQ.m45 (b := b) (I := up2 I1 (b + 2) 3 (nI (ltr w n q))) (a := mb + 4) (j := 48 * K + 4 * i + 3) (nI (tr ++ ta.map tkI).length) (Or.inl ⟨rfl, by omega⟩))).t2 (FQ.m45 (b := b) (I := up2 I1 (b + 2) 3 (nI (ltr w n q))) (a := mb + 5) (j := K) (nI (i + 1)) (Or.inr ⟨rfl, Nat.le_refl _⟩))
        exact ⟨fun a h1 h2 h3 => (fqC.1 a h1 h2 h3).trans (fqD.1 a h1 h2 h3), fqC.2.1.trans fqD.2.1, fqD.2.2⟩
      · show tc.length + (ta.map tkC ++ [nI 200013]).length + 1 ≤ q
        simp; omega
      · rw [up2_ne _ _ _ (by omega), up2_at (Or.inr (by omega)), up2_ne _ _ _ (by omega), up2_at (Or.inr (by omega)), up2_at (Or.inr (by omega))]; exact q40
      · rw [up2_ne _ _ _ (by omega), up2_at (Or.inr (by omega)), up2_ne _ _ _ (by omega), up2_at (Or.inr (by omega)), up2_same, ltr1]
      · rw [up2_ne _ _ _ (by omega), up2_at (Or.inr (by omega)), up2_ne _ _ _ (by omega), up2_same]
      · rw [up2_ne _ _ _ (by omega), up2_at (Or.inr (by omega)), up2_ne _ _ _ (by omega), up2_at (Or.inr (by omega)), up2_at (Or.inr (by omega))]; exact q4 j (by omega)
      · rw [up2_ne _ _ _ (by omega), up2_ne _ _ _ (by omega), up2_at (Or.inr (by decide)), up2_ne _ _ _ (by omega), up2_ne _ _ _ (by omega)]; exact q14
end RIGHT2
