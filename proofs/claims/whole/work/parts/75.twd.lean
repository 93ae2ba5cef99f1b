section TWD
variable {N b mb n p p' : Nat} {w : Nat → Nat} {S : ST} {Rf : RT} {I I1 I' I1' I0 I0' : IT} {J J' : JT} {P C T : Nat}
theorem ex3 (t : Nat) : ((10 : Int32) + 5 * nI t) + 3 = nI (13 + 5 * t) := by
  have := m_pi (p := t) (k := 3)
  rw [show 10 + 5 * t + 3 = 13 + 5 * t by omega] at this
  exact this
theorem tw_twins {x : Int32} (hN : 1000 ≤ N) (h : Rd b mb n w p p I I') (he : I (b + 2) 3 = nI (ltr w n p)) (hT : TwS b mb I I' P C T) (hT4 : T < 4) : TOut b mb n w I I' J J' (yb_b3 (f3_passWord N b S Rf I J) fun _ I2 J2 => f10_readsTwins N b S Rf I2 J2) (f12_areTwinsHere N mb x I' J') := by
  obtain ⟨a1, a2, hr⟩ := q_passW (S := S) (Rf := Rf) (J := J) (J' := J') hN h he
  have f0 : FT b mb I (up2 I (b + 2) 2 (nI (skp w n (ltr w n p)))) I' (up2 I' mb 8 (nI (ltr w n p))) := (FT.rf I I').nn ⟨fun a k q => up2_at (by omega), fun a k q => up2_at (by omega)⟩
  have eP : I' (mb + 6) 2 = nI P := hT.1.1
  have cP : I (b + 52) 13 = nI P := hT.1.2.2
  have hP7 : P ≤ 7 := hT.1.2.1
  have eT : I' (mb + 6) 7 = nI T := hT.2.2.2.2.2.1.1
  have cT : I (b + 61) 3 = nI T := hT.2.2.2.2.2.1.2.1
  unfold f12_areTwinsHere f10_readsTwins
  rw [eT, if_neg (show ¬ nI T = (4 : Int32) from nI_nl 4 rfl (by omega) (by omega) (by omega)), a1, a2, b3s, b3s, up2_ne _ _ _ (show mb + 6 ≠ mb by omega), up2_ne _ _ _ (show b + 52 ≠ b + 2 by omega), eP, cP]
  rcases q_num (S := S) (Rf := Rf) (J := J) (J' := J') hN hr 0 (nI P - 1) with ⟨A, A', e1, e2, e3, e4⟩ | ⟨v, q, q', A, A', e1, e2, e3, e4, e5, e6, e7, _⟩
  · rw [e1, e2, b3s, b3s, if_neg (show ¬ (0 : Int32) ≤ -1 by decide), if_pos rfl]
    exact Or.inl ⟨_, _, rfl, rfl, e4, f0.nn e3⟩
  · obtain ⟨i, hi, rfl⟩ := num_ix hP7 e3 e4
    have hA : ∀ a, a ≠ b + 2 → A a = I a := fun a ha => (e7.a ha).trans (up2_ne _ _ _ ha)
    have hA6 : A' (mb + 6) = I' (mb + 6) := by rw [e7.m (by omega), up2_ne _ _ _ (by omega)]
    have hs := e6.seen
    have f1 : FT b mb I A I' (up2 A' mb 8 (nI q)) := (f0.nn e7).nn (FrN.see _)
    rw [e1, e2, b3s, b3s, if_pos (nI_pos' (by omega)), if_neg i10, e5, lts, lts, q_see hN e6, b3s, hs.2.2.2.2.2.1, lts, e6.2.2.2.2.1, up2_ne _ _ _ (show mb + 6 ≠ mb by omega), hA6, eP, hA _ (show b + 52 ≠ b + 2 by omega), cP]
    rcases q_num (S := S) (Rf := Rf) (J := J) (J' := J') hN hs 0 (nI P - 1) with ⟨B, B', g1, g2, g3, g4⟩ | ⟨v2, q2, q2', B, B', g1, g2, g3, g4, g5, g6, g7, _⟩
    · rw [g1, g2, b3s, b3s, if_neg (show ¬ (0 : Int32) ≤ -1 by decide), if_pos rfl]
      exact Or.inl ⟨_, _, rfl, rfl, g4, f1.nn g3⟩
    · obtain ⟨j, hj, rfl⟩ := num_ix hP7 g3 g4
      have f2 := f1.nn g7
      rw [g1, g2, b3s, b3s, if_pos (nI_pos' (by omega)), if_neg i10, g5]
      by_cases cij : j = i
      · subst cij
        rw [if_pos rfl, if_pos rfl, c_failAt, b3s, yb_ck_t (show bz 0 = true from rfl), m_fails g6.2.2.2.2.2.2, b3s, yb_ck_t (show bz 0 = true from rfl)]
        exact Or.inl ⟨_, _, rfl, rfl, ⟨by rw [up2_same, up2_same], by rw [up2_same]; exact flt_ne (k := 1) rfl (by have := e6.le; have := e6.n4; omega) (by omega)⟩, f2.nn ⟨fun a k q => up2_at (by omega), fun a k q => up2_at (by omega)⟩⟩
      · have hne : ¬ nI j = nI i := fun z => cij ((nI_eq (by omega) (by omega)).mp z)
        have hB : ∀ a, a ≠ b + 2 → B a = I a := fun a ha => (g7.a ha).trans (hA a ha)
        have hB6 : B' (mb + 6) = I' (mb + 6) := by rw [g7.m (by omega), up2_ne _ _ _ (by omega), hA6]
        have y1 : ∀ k x, up2 B' (mb + 6) k x mb 10 = nI j := fun k x => (up2_at (Or.inl (by omega))).trans g5
        rw [if_neg hne, if_neg hne, yb_ck_t (inb_nI (show i < 7 by omega) (by decide)), nI_clamp (show i < 2 ^ 31 by omega), lts, yb_ck_t (inb_nI (show j < 7 by omega) (by decide)), nI_clamp (show j < 2 ^ 31 by omega), lts, lts, ex3, yb_ck_t (inb_nI (show 13 + 5 * i < 111 by omega) (by decide)), nI_clamp (show 13 + 5 * i < 2 ^ 31 by omega), lts, y1, ex3, yb_ck_t (inb_nI (show 13 + 5 * j < 111 by omega) (by decide)), nI_clamp (show 13 + 5 * j < 2 ^ 31 by omega), lts, lts]
        have u1 : up2 (up2 B (b + 56) i (B (b + 56) i ||| 1 <<< (nI j &&& 31))) (b + 56) j (up2 B (b + 56) i (B (b + 56) i ||| 1 <<< (nI j &&& 31)) (b + 56) j ||| 1 <<< (nI i &&& 31)) (b + 61) 3 = nI T := by rw [up2_ne _ _ _ (by omega), up2_ne _ _ _ (by omega), hB _ (by omega)]; exact cT
        have u2 : up2 B (b + 56) i (B (b + 56) i ||| 1 <<< (nI j &&& 31)) (b + 56) j = I (b + 56) j := by rw [up2_at (Or.inr cij), hB _ (by omega)]
        have u3 : up2 B' (mb + 6) (13 + 5 * i) (B' (mb + 6) (13 + 5 * i) ||| 1 <<< (nI j &&& 31)) (mb + 6) (13 + 5 * j) = I' (mb + 6) (13 + 5 * j) := by rw [up2_at (Or.inr (by omega)), hB6]
        have u4 : up2 (up2 B' (mb + 6) (13 + 5 * i) (B' (mb + 6) (13 + 5 * i) ||| 1 <<< (nI j &&& 31))) (mb + 6) (13 + 5 * j) (up2 B' (mb + 6) (13 + 5 * i) (B' (mb + 6) (13 + 5 * i) ||| 1 <<< (nI j &&& 31)) (mb + 6) (13 + 5 * j) ||| 1 <<< (nI i &&& 31)) (mb + 6) 7 = nI T := by rw [up2_at (Or.inr (by omega)), up2_at (Or.inr (by omega)), hB6]; exact eT
        rw [u1, u4, u2, u3, nI_1, hB _ (show b + 56 ≠ b + 2 by omega), hB6]
        refine Or.inr ⟨q2, q2', P, C, T + 1, _, _, rfl, rfl, ?_, ?_, (((((f2.cc _ (by omega)).cc _ (by omega)).cc _ (by omega)).m6 _ _).m6 _ _).m6 _ _⟩
        · exact g6.keep (by rw [up2_ne _ _ _ (by omega), up2_ne _ _ _ (by omega), up2_ne _ _ _ (by omega)]) (by rw [up2_ne _ _ _ (by omega), up2_ne _ _ _ (by omega), up2_ne _ _ _ (by omega)]) (by rw [up2_ne _ _ _ (by omega), up2_ne _ _ _ (by omega), up2_ne _ _ _ (by omega)]) (by rw [up2_ne _ _ _ (by omega), up2_ne _ _ _ (by omega), up2_ne _ _ _ (by omega)]) (by rw [up2_ne _ _ _ (by omega), up2_ne _ _ _ (by omega), up2_ne _ _ _ (by omega)]) (by rw [up2_ne _ _ _ (by omega), up2_ne _ _ _ (by omega), up2_ne _ _ _ (by omega)]) (by rw [up2_ne _ _ _ (by omega), up2_ne _ _ _ (by omega), up2_ne _ _ _ (by omega)])
        · refine hT.twinsY (x := i) (y := j) hi hj (fun z => cij z.symm) hT4 ?_ (fun k h1 h2 h3 => ?_) ?_ ?_ (fun k h1 h2 => ?_) ?_ ?_ ?_ (fun k h1 h2 h3 => ?_) ?_ ?_
          · show up2 _ (b + 61) 3 _ (b + 52) = I (b + 52)
            rw [up2_ne _ _ _ (by omega), up2_ne _ _ _ (by omega), up2_ne _ _ _ (by omega), hB _ (by omega)]
          · show up2 _ (b + 61) 3 _ (b + 52 + k) = I (b + 52 + k)
            rw [up2_ne _ _ _ (by omega), up2_ne _ _ _ (by omega), up2_ne _ _ _ (by omega), hB _ (by omega)]
          · show up2 _ (b + 61) 3 _ (b + 56) i = _
            rw [up2_ne _ _ _ (by omega), up2_at (Or.inr (fun z => cij z.symm)), up2_same]
          · show up2 _ (b + 61) 3 _ (b + 56) j = _
            rw [up2_ne _ _ _ (by omega), up2_same]
          · show up2 _ (b + 61) 3 _ (b + 56) k = I (b + 56) k
            rw [up2_ne _ _ _ (by omega), up2_at (Or.inr h2), up2_at (Or.inr h1), hB _ (by omega)]
          · exact up2_same _ _ _ _
          · rw [up2_at (Or.inr (by omega)), up2_at (Or.inr (by omega)), up2_same]
          · rw [up2_at (Or.inr (by omega)), up2_same]
          · rw [up2_at (Or.inr h1), up2_at (Or.inr h3), up2_at (Or.inr h2), hB6]
          · exact up2_same _ _ _ _
          · rw [up2_at (Or.inr (by decide)), up2_ne _ _ _ (by omega), up2_ne _ _ _ (by omega), hB _ (by omega)]
theorem case_L {m c : Nat} {x2 : Int32} (hx : x2 = nI (45 + 11 * c)) (hc : c < 6) : ∃ I1', f12_isCaseHere_L95 N mb x2 (m + 8) 4 I' J' = some ((), I1', J') ∧ (∀ a, a ≠ mb + 6 → I1' a = I' a) ∧ (∀ i, (i < 49 + 11 * c ∨ 55 + 11 * c < i) → I1' (mb + 6) i = I' (mb + 6) i) ∧ I1' (mb + 6) (49 + 11 * c) = -1 ∧ I1' (mb + 6) (50 + 11 * c) = 0 ∧ I1' (mb + 6) (51 + 11 * c) = -1 ∧ I1' (mb + 6) (52 + 11 * c) = -1 ∧ I1' (mb + 6) (53 + 11 * c) = -1 ∧ I1' (mb + 6) (54 + 11 * c) = 0 ∧ I1' (mb + 6) (55 + 11 * c) = 0 := by
  have ix : ∀ k, x2 + nI k = nI (45 + 11 * c + k) := fun k => by rw [hx, nI_add]
  have i4 : x2 + 4 = nI (49 + 11 * c) := (ix 4).trans (by congr 1; omega)
  have i5 : x2 + 5 = nI (50 + 11 * c) := (ix 5).trans (by congr 1; omega)
  have i6 : x2 + 6 = nI (51 + 11 * c) := (ix 6).trans (by congr 1; omega)
  have i7 : x2 + 7 = nI (52 + 11 * c) := (ix 7).trans (by congr 1; omega)
  have i8 : x2 + 8 = nI (53 + 11 * c) := (ix 8).trans (by congr 1; omega)
  have i9 : x2 + 9 = nI (54 + 11 * c) := (ix 9).trans (by congr 1; omega)
  have iA : x2 + 10 = nI (55 + 11 * c) := (ix 10).trans (by congr 1; omega)
  rw [f12_isCaseHere_L95, if_neg (show ¬ (11 : Int32) ≤ 4 by decide), if_neg (show ¬ (4 : Int32) = 5 by decide), if_neg (show ¬ (4 : Int32) = 9 by decide), if_neg (show ¬ (4 : Int32) = 10 by decide), i4, yb_ck_t (inb_nI (show 49 + 11 * c < 111 by omega) (by decide)), nI_clamp (show 49 + 11 * c < 2 ^ 31 by omega), lts, lts, show (4 : Int32) + 1 = 5 from rfl,
    f12_isCaseHere_L95, if_neg (show ¬ (11 : Int32) ≤ 5 by decide), if_pos rfl, i5, yb_ck_t (inb_nI (show 50 + 11 * c < 111 by omega) (by decide)), nI_clamp (show 50 + 11 * c < 2 ^ 31 by omega), lts, lts, show (5 : Int32) + 1 = 6 from rfl,
    f12_isCaseHere_L95, if_neg (show ¬ (11 : Int32) ≤ 6 by decide), if_neg (show ¬ (6 : Int32) = 5 by decide), if_neg (show ¬ (6 : Int32) = 9 by decide), if_neg (show ¬ (6 : Int32) = 10 by decide), i6, yb_ck_t (inb_nI (show 51 + 11 * c < 111 by omega) (by decide)), nI_clamp (show 51 + 11 * c < 2 ^ 31 by omega), lts, lts, show (6 : Int32) + 1 = 7 from rfl,
    f12_isCaseHere_L95, if_neg (show ¬ (11 : Int32) ≤ 7 by decide), if_neg (show ¬ (7 : Int32) = 5 by decide), if_neg (show ¬ (7 : Int32) = 9 by decide), if_neg (show ¬ (7 : Int32) = 10 by decide), i7, yb_ck_t (inb_nI (show 52 + 11 * c < 111 by omega) (by decide)), nI_clamp (show 52 + 11 * c < 2 ^ 31 by omega), lts, lts, show (7 : Int32) + 1 = 8 from rfl,
    f12_isCaseHere_L95, if_neg (show ¬ (11 : Int32) ≤ 8 by decide), if_neg (show ¬ (8 : Int32) = 5 by decide), if_neg (show ¬ (8 : Int32) = 9 by decide), if_neg (show ¬ (8 : Int32) = 10 by decide), i8, yb_ck_t (inb_nI (show 53 + 11 * c < 111 by omega) (by decide)), nI_clamp (show 53 + 11 * c < 2 ^ 31 by omega), lts, lts, show (8 : Int32) + 1 = 9 from rfl,
    f12_isCaseHere_L95, if_neg (show ¬ (11 : Int32) ≤ 9 by decide), if_neg (show ¬ (9 : Int32) = 5 by decide), if_pos rfl, i9, yb_ck_t (inb_nI (show 54 + 11 * c < 111 by omega) (by decide)), nI_clamp (show 54 + 11 * c < 2 ^ 31 by omega), lts, lts, show (9 : Int32) + 1 = 10 from rfl,
    f12_isCaseHere_L95, if_neg (show ¬ (11 : Int32) ≤ 10 by decide), if_neg (show ¬ (10 : Int32) = 5 by decide), if_neg (show ¬ (10 : Int32) = 9 by decide), if_pos rfl, iA, yb_ck_t (inb_nI (show 55 + 11 * c < 111 by omega) (by decide)), nI_clamp (show 55 + 11 * c < 2 ^ 31 by omega), lts, lts, show (10 : Int32) + 1 = 11 from rfl,
    f12_isCaseHere_L95, if_pos (show (11 : Int32) ≤ 11 by decide)]
  refine ⟨_, rfl, fun a ha => ?_, fun i hi => ?_, ?_, ?_, ?_, ?_, ?_, ?_, ?_⟩
  · rw [up2_ne _ _ _ ha, up2_ne _ _ _ ha, up2_ne _ _ _ ha, up2_ne _ _ _ ha, up2_ne _ _ _ ha, up2_ne _ _ _ ha, up2_ne _ _ _ ha]
  · rw [up2_at (Or.inr (by omega)), up2_at (Or.inr (by omega)), up2_at (Or.inr (by omega)), up2_at (Or.inr (by omega)), up2_at (Or.inr (by omega)), up2_at (Or.inr (by omega)), up2_at (Or.inr (by omega))]
  · rw [up2_at (Or.inr (by omega)), up2_at (Or.inr (by omega)), up2_at (Or.inr (by omega)), up2_at (Or.inr (by omega)), up2_at (Or.inr (by omega)), up2_at (Or.inr (by omega)), up2_same]
  · rw [up2_at (Or.inr (by omega)), up2_at (Or.inr (by omega)), up2_at (Or.inr (by omega)), up2_at (Or.inr (by omega)), up2_at (Or.inr (by omega)), up2_same]
  · rw [up2_at (Or.inr (by omega)), up2_at (Or.inr (by omega)), up2_at (Or.inr (by omega)), up2_at (Or.inr (by omega)), up2_same]
  · rw [up2_at (Or.inr (by omega)), up2_at (Or.inr (by omega)), up2_at (Or.inr (by omega)), up2_same]
  · rw [up2_at (Or.inr (by omega)), up2_at (Or.inr (by omega)), up2_same]
  · rw [up2_at (Or.inr (by omega)), up2_same]
  · rw [up2_same]
theorem tw_case {x : Int32} (hN : 1000 ≤ N) (h : Rd b mb n w p p I I') (he : I (b + 2) 3 = nI (ltr w n p)) (hT : TwS b mb I I' P C T) (hC : C < 6) : TOut b mb n w I I' J J' (yb_b3 (f3_passWord N b S Rf I J) fun _ I2 J2 => f10_readsCase N b S Rf I2 J2) (f12_isCaseHere N mb x I' J') := by
  obtain ⟨a1, a2, hr⟩ := q_passW (S := S) (Rf := Rf) (J := J) (J' := J') hN h he
  have f0 : FT b mb I (up2 I (b + 2) 2 (nI (skp w n (ltr w n p)))) I' (up2 I' mb 8 (nI (ltr w n p))) := (FT.rf I I').nn ⟨fun a k q => up2_at (by omega), fun a k q => up2_at (by omega)⟩
  have eP : I' (mb + 6) 2 = nI P := hT.1.1
  have cP : I (b + 52) 13 = nI P := hT.1.2.2
  have hP7 : P ≤ 7 := hT.1.2.1
  have eC : I' (mb + 6) 3 = nI C := hT.2.1.1
  have cC : I (b + 52) 14 = nI C := hT.2.1.2.2
  have ex : (45 : Int32) + 11 * nI C = nI (45 + 11 * C) := by
    show nI 45 + nI 11 * nI C = _
    rw [pk_mul, nI_add]
  have ex1 : nI (45 + 11 * C) + 1 = nI (46 + 11 * C) := by rw [nI_1]; congr 1; omega
  have ex2 : nI (45 + 11 * C) + 2 = nI (47 + 11 * C) := by show _ + nI 2 = _; rw [nI_add]; congr 1; omega
  have ex3 : nI (45 + 11 * C) + 3 = nI (48 + 11 * C) := by show _ + nI 3 = _; rw [nI_add]; congr 1; omega
  unfold f12_isCaseHere f10_readsCase
  rw [eC, if_neg (show ¬ nI C = (6 : Int32) from nI_nl 6 rfl (by omega) (by omega) (by omega)), a1, a2, b3s, b3s, up2_ne _ _ _ (show mb + 6 ≠ mb by omega), eC, eP, ex, lts, ex1, ex2, ex3, up2_ne _ _ _ (show b + 52 ≠ b + 2 by omega), cP]
  rcases q_cell (S := S) (Rf := Rf) (J := J) (J' := J') (k := 45 + 11 * C) hN hr 0 (nI P - 1) (by omega) with ⟨A, A', e1, e2, e3, e4⟩ | ⟨v, q, q', A, A', e1, e2, e3, e4, e5, e6⟩
  · rw [e1, e2, b3s, b3s, if_neg (show ¬ (0 : Int32) ≤ -1 by decide), if_pos rfl]
    exact Or.inl ⟨_, _, rfl, rfl, e4, f0.nn e3⟩
  · obtain ⟨ac, hac, rfl⟩ := num_ix hP7 e3 e4
    have f1 := (f0.nn e6).m6 (45 + 11 * C) (nI ac)
    rw [e1, e2, b3s, b3s, if_pos (nI_pos' (by omega)), if_neg i10]
    rcases q_cell (S := S) (Rf := Rf) (J := J) (J' := J') (k := 46 + 11 * C) hN e5 1 9 (by omega) with ⟨B, B', g1, g2, g3, g4⟩ | ⟨v2, q2, q2', B, B', g1, g2, g3, g4, g5, g6⟩
    · rw [g1, g2, b3s, b3s, if_neg (show ¬ (0 : Int32) ≤ -1 by decide), if_pos rfl]
      exact Or.inl ⟨_, _, rfl, rfl, g4, f1.nn g3⟩
    · obtain ⟨gr, hg1, hg9, rfl⟩ := num_rng (m := 9) 1 rfl rfl (by omega) g3 g4
      have f2 := (f1.nn g6).m6 (46 + 11 * C) (nI gr)
      rw [g1, g2, b3s, b3s, if_pos (nI_pos' (by omega)), if_neg i10]
      rcases q_cell (S := S) (Rf := Rf) (J := J) (J' := J') (k := 47 + 11 * C) hN g5 1 9 (by omega) with ⟨E, E', i1, i2, i3, i4⟩ | ⟨v3, q3, q3', E, E', i1, i2, i3, i4, i5, i6⟩
      · rw [i1, i2, b3s, b3s, if_neg (show ¬ (0 : Int32) ≤ -1 by decide), if_pos rfl]
        exact Or.inl ⟨_, _, rfl, rfl, i4, f2.nn i3⟩
      · obtain ⟨le, hl1, hl9, rfl⟩ := num_rng (m := 9) 1 rfl rfl (by omega) i3 i4
        have f3 := (f2.nn i6).m6 (47 + 11 * C) (nI le)
        rw [i1, i2, b3s, b3s, if_pos (nI_pos' (by omega)), if_neg i10]
        rcases q_cell (S := S) (Rf := Rf) (J := J) (J' := J') (k := 48 + 11 * C) hN i5 0 99 (by omega) with ⟨F, F', k1, k2, k3, k4⟩ | ⟨v4, q4, q4', F, F', k1, k2, k3, k4, k5, k6⟩
        · rw [k1, k2, b3s, b3s, if_neg (show ¬ (0 : Int32) ≤ -1 by decide), if_pos rfl]
          exact Or.inl ⟨_, _, rfl, rfl, k4, f3.nn k3⟩
        · obtain ⟨fr, _, hf, rfl⟩ := num_rng (m := 99) 0 rfl rfl (by omega) k3 k4
          have f4 := (f3.nn k6).m6 (48 + 11 * C) (nI fr)
          have hE : ∀ a, a ≠ b + 2 → F a = I a := fun a ha => (k6.a ha).trans ((i6.a ha).trans ((g6.a ha).trans ((e6.a ha).trans (up2_ne _ _ _ ha))))
          have hM : F' (mb + 6) = upd (upd (upd (I' (mb + 6)) (45 + 11 * C) (nI ac)) (46 + 11 * C) (nI gr)) (47 + 11 * C) (nI le) := by rw [k6.m (by omega), up2_self, i6.m (by omega), up2_self, g6.m (by omega), up2_self, e6.m (by omega), up2_ne _ _ _ (by omega)]
          have z1 : F (b + 52) 14 = nI C := by rw [hE _ (by omega)]; exact cC
          have z2 : up2 F (b + 57) C (nI ac) (b + 52) 14 = nI C := (up2_at (Or.inl (by omega))).trans z1
          have z3 : up2 (up2 F (b + 57) C (nI ac)) (b + 58) C (nI gr) (b + 52) 14 = nI C := (up2_at (Or.inl (by omega))).trans z2
          have z4 : up2 (up2 (up2 F (b + 57) C (nI ac)) (b + 58) C (nI gr)) (b + 59) C (nI le) (b + 52) 14 = nI C := (up2_at (Or.inl (by omega))).trans z3
          have z5 : up2 (up2 (up2 (up2 F (b + 57) C (nI ac)) (b + 58) C (nI gr)) (b + 59) C (nI le)) (b + 60) C (nI fr) (b + 52) 14 = nI C := (up2_at (Or.inl (by omega))).trans z4
          obtain ⟨m, hm⟩ : ∃ m, N = m + 8 := ⟨N - 8, by omega⟩
          obtain ⟨G', l1, l2, l3, l49, l50, l51, l52, l53, l54, l55⟩ := case_L (N := N) (mb := mb) (m := m) (I' := up2 F' (mb + 6) (48 + 11 * C) (nI fr)) (J' := J') (c := C) rfl hC
          rw [← hm] at l1
          have y3 : G' (mb + 6) 3 = nI C := by rw [l3 3 (by omega), up2_at (Or.inr (by omega)), hM, pk_un (by omega), pk_un (by omega), pk_un (by omega)]; exact eC
          rw [k1, k2, b3s, b3s, if_pos (nI_pos' (by omega)), if_neg i10, z1, yb_ck_t (inb_nI hC (by decide)), nI_clamp (by omega), lts, z2, yb_ck_t (inb_nI hC (by decide)), nI_clamp (by omega), lts, z3, yb_ck_t (inb_nI hC (by decide)), nI_clamp (by omega), lts, z4, yb_ck_t (inb_nI hC (by decide)), nI_clamp (by omega), lts, z5, lts, nI_1, l1, b3s, y3, lts, nI_1]
          have f5 : FT b mb I F I' G' := ⟨f4.1, f4.2.1, fun a k h1 h2 => by rw [l2 a h2]; exact f4.2.2 a k h1 h2⟩
          refine Or.inr ⟨q4, q4', P, C + 1, T, _, _, rfl, rfl, ?_, ?_, ((((((f5.m6 _ _).cc _ (by omega)).cc _ (by omega)).cc _ (by omega)).cc _ (by omega)).cc _ (by omega))⟩
          · exact k5.keep (by rw [up2_ne _ _ _ (by omega), up2_ne _ _ _ (by omega), up2_ne _ _ _ (by omega), up2_ne _ _ _ (by omega), up2_ne _ _ _ (by omega)]) (by rw [up2_ne _ _ _ (by omega), up2_ne _ _ _ (by omega), up2_ne _ _ _ (by omega), up2_ne _ _ _ (by omega), up2_ne _ _ _ (by omega)]) (by rw [up2_ne _ _ _ (by omega), up2_ne _ _ _ (by omega), up2_ne _ _ _ (by omega), up2_ne _ _ _ (by omega), up2_ne _ _ _ (by omega)]) (by rw [up2_ne _ _ _ (by omega), l2 _ (by omega)]) (by rw [up2_ne _ _ _ (by omega), l2 _ (by omega)]) (by rw [up2_ne _ _ _ (by omega), l2 _ (by omega)]) (by rw [up2_ne _ _ _ (by omega), l2 _ (by omega)])
          · have fin : ∀ a, a ≠ b + 2 → a ≠ b + 52 → a ≠ b + 57 → a ≠ b + 58 → a ≠ b + 59 → a ≠ b + 60 → up2 (up2 (up2 (up2 (up2 F (b + 57) C (nI ac)) (b + 58) C (nI gr)) (b + 59) C (nI le)) (b + 60) C (nI fr)) (b + 52) 14 (nI (C + 1)) a = I a := fun a h1 h2 h3 h4 h5 h6 => by rw [up2_ne _ _ _ h2, up2_ne _ _ _ h6, up2_ne _ _ _ h5, up2_ne _ _ _ h4, up2_ne _ _ _ h3, hE a h1]
            have vo : ∀ i, i ≠ 3 → (i < 49 + 11 * C ∨ 55 + 11 * C < i) → up2 G' (mb + 6) 3 (nI (C + 1)) (mb + 6) i = upd (upd (upd (upd (I' (mb + 6)) (45 + 11 * C) (nI ac)) (46 + 11 * C) (nI gr)) (47 + 11 * C) (nI le)) (48 + 11 * C) (nI fr) i := fun i h1 h2 => by rw [up2_at (Or.inr h1), l3 i h2, up2_self, hM]
            refine hT.caseY (a := ac) (q := gr) (n := le) (f := fr) hC hac hg1 hg9 hl1 hl9 hf ?_ (fun k hk => ?_) (fun k h1 h2 => ?_) (fun k i h1 h2 h3 => ?_) ?_ ?_ ?_ ?_ ?_ ?_ ?_ ?_ ?_ ?_ ?_ ?_ ?_ ?_ ?_ ?_ (fun i hi hi2 => ?_) ?_ ?_
            · exact up2_same _ _ _ _
            · show up2 _ (b + 52) 14 _ (b + 52) k = I (b + 52) k
              rw [up2_at (Or.inr hk), up2_ne _ _ _ (by omega), up2_ne _ _ _ (by omega), up2_ne _ _ _ (by omega), up2_ne _ _ _ (by omega), hE _ (by omega)]
            · exact fin _ (by omega) (by omega) (by omega) (by omega) (by omega) (by omega)
            · show up2 _ (b + 52) 14 _ (b + 52 + k) i = I (b + 52 + k) i
              rw [up2_ne _ _ _ (by omega), up2_at (Or.inr h3), up2_at (Or.inr h3), up2_at (Or.inr h3), up2_at (Or.inr h3), hE _ (by omega)]
            · show up2 _ (b + 52) 14 _ (b + 57) C = _
              rw [up2_ne _ _ _ (by omega), up2_ne _ _ _ (by omega), up2_ne _ _ _ (by omega), up2_ne _ _ _ (by omega), up2_same]
            · show up2 _ (b + 52) 14 _ (b + 58) C = _
              rw [up2_ne _ _ _ (by omega), up2_ne _ _ _ (by omega), up2_ne _ _ _ (by omega), up2_same]
            · show up2 _ (b + 52) 14 _ (b + 59) C = _
              rw [up2_ne _ _ _ (by omega), up2_ne _ _ _ (by omega), up2_same]
            · show up2 _ (b + 52) 14 _ (b + 60) C = _
              rw [up2_ne _ _ _ (by omega), up2_same]
            · exact up2_same _ _ _ _
            · rw [vo _ (by omega) (by omega), pk_un (by omega), pk_un (by omega), pk_un (by omega), pk_us]
            · rw [vo _ (by omega) (by omega), pk_un (by omega), pk_un (by omega), pk_us]
            · rw [vo _ (by omega) (by omega), pk_un (by omega), pk_us]
            · rw [vo _ (by omega) (by omega), pk_us]
            · rw [up2_at (Or.inr (by omega))]; exact l49
            · rw [up2_at (Or.inr (by omega))]; exact l50
            · rw [up2_at (Or.inr (by omega))]; exact l51
            · rw [up2_at (Or.inr (by omega))]; exact l52
            · rw [up2_at (Or.inr (by omega))]; exact l53
            · rw [up2_at (Or.inr (by omega))]; exact l54
            · rw [up2_at (Or.inr (by omega))]; exact l55
            · rw [vo _ hi (by omega), pk_un (by omega), pk_un (by omega), pk_un (by omega), pk_un (by omega)]
            · rw [fin _ (by omega) (by omega) (by omega) (by omega) (by omega) (by omega)]
            · rw [fin _ (by omega) (by omega) (by omega) (by omega) (by omega) (by omega)]
end TWD
