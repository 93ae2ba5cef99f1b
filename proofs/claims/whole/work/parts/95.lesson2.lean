/-! LESSON: the pupils, and the call -/
def WM (who most : Int32) : Prop := (who = -2 ∧ most = -2) ∨ ∃ w m : Nat, w < 7 ∧ m ≤ 400 ∧ who = nI w ∧ most = nI m
section LESSON2
variable {N b mb P C D M K p : Nat} {L : List Nat} {u : List Nat} {I I0 I' I0' : IT} {J J' : JT} {S : ST} {Rf : RT} {Rl : Nat → List (List Tk × Option (List Tk))}
/-- one pupil's lesson on both sides -/
theorem les_one {W q : Nat} (hN : 6000000 ≤ N) (h0 : RelB b mb L S Rf I0 I0' P C D M K Rl) (hu : u = opL (I0' (mb + 10)) C 0) (h4 : u.length ≤ 4) (hq : q < P) (w1 : I0' (mb + 10) (11 + 5 * q) = nI W) (hW : W + 1 ≤ 9) (hF : FrB mb I0' I') (hC : FrC b I0 I) (hO : OpC b mb P C D u I I0') (hP : PlC b C D (I0' (mb + 10)) (I0' mb 21) Rl u (fun x => x < P) I) :
    ∃ br r' I16 J16 I20 I25 J25 I2' J2', f4_weigh N b S Rf (nI q) (up2 I (b + 15) q (nI (W + 1))) J = some ((), I16, J16) ∧ f4_search N b S Rf I16 J16 = some ((), I20, J16) ∧ I20 (b + 15) q = nI (W + 1) ∧ f4_weigh N b S Rf (nI q) (up2 I20 (b + 15) q (nI W)) J16 = some ((), I25, J25) ∧ f12_benchesNow N mb (up2 I' (mb + 10) (11 + 5 * q) (nI (W + 1))) J' = some (r', I2', J2') ∧ I2' (mb + 10) (11 + 5 * q) = nI (W + 1) ∧ FrB mb I0' (up2 I2' (mb + 10) (11 + 5 * q) (nI W)) ∧ FrC b I0 I25 ∧ OpC b mb P C D u I25 I0' ∧ PlC b C D (I0' (mb + 10)) (I0' mb 21) Rl u (fun x => x < P) I25 ∧ I25 (b + 33) 15 = br ∧ ((r' = 0 ∧ I2' mb 35 = br ∧ ∃ y : Nat, y ≤ 400 ∧ br = nI y) ∨ (r' = -2 ∧ br = -1)) := by
  have h7 := co_P7 h0.core
  have ev : I' (mb + 10) = I0' (mb + 10) := hF.1 _ (by omega)
  have hS : Same b I0 I := fun a ha => hC a (by omega)
  have hR : RelB b mb L S Rf I I' P C D M K Rl := h0.keep hS hF.sm
  have hR2 := wit_rel hR hq hW
  have ewv : ∀ i, i ≠ 11 + 5 * q → up2 I' (mb + 10) (11 + 5 * q) (nI (W + 1)) (mb + 10) i = I0' (mb + 10) i := fun i hi => (up2_at (Or.inr hi)).trans (by rw [ev])
  have eB := w_BV (u := u) (C := C) (D := D) ewv (by omega)
  have eo : opL (up2 I' (mb + 10) (11 + 5 * q) (nI (W + 1)) (mb + 10)) C 0 = u := by rw [hu]; exact w_opL ewv (by omega) C 0
  have ef : up2 I' (mb + 10) (11 + 5 * q) (nI (W + 1)) mb 21 = I0' mb 21 := by rw [up2_ne _ _ _ (by omega)]; exact hF.2 21 (by decide) (by decide) (by decide) (by decide)
  have eR : ∀ j o, j ≠ q → RtV (up2 I' (mb + 10) (11 + 5 * q) (nI (W + 1)) (mb + 10)) (I0' mb 21) Rl u C D j o = RtV (I0' (mb + 10)) (I0' mb 21) Rl u C D j o := fun j o hj => w_RtV ewv (by omega) _ _ _ _ _ hj o
  have hO2 : OpC b mb P C D u (up2 I (b + 15) q (nI (W + 1))) (up2 I' (mb + 10) (11 + 5 * q) (nI (W + 1))) := ⟨hR2.core, hR2.2.1.2, by rw [up2_ne _ _ _ (by omega)]; exact hO.2.2.1, h4, fun i hi => by rw [up2_ne _ _ _ (show b + 39 ≠ b + 15 by omega)]; exact hO.2.2.2.2 i hi⟩
  obtain ⟨I16, J16, a1, a2, a3, a4⟩ := weigh_c (N := N) (J := J) (by omega) hq hR2 hO2 (fun o h1 h2 => by rw [up2_ne _ _ _ (by omega), eB]; exact (hP q o hq h1 h2).1)
  rw [ef] at a4
  have hO16 : OpC b mb P C D u I16 (up2 I' (mb + 10) (11 + 5 * q) (nI (W + 1))) := hO2.keep (fun a g1 g2 => a2 a (by omega)) (by rw [a2 _ (by omega)])
  have hP16 : PlC b C D (up2 I' (mb + 10) (11 + 5 * q) (nI (W + 1)) (mb + 10)) (I0' mb 21) Rl u (fun x => x < P) I16 := by
    intro j o h1 h2 h3
    by_cases ej : j = q
    · exact a4 j o ej h2 h3
    · obtain ⟨y1, y2⟩ := hP j o h1 h2 h3
      rw [eB, eR j o ej]
      refine ⟨?_, fun d hd => ?_⟩
      · rw [a2 _ (by omega), up2_ne _ _ _ (by omega)]; exact y1
      · rw [a3 _ (by omega), up2_ne _ _ _ (by omega)]; exact y2 d hd
  obtain ⟨I20, s1, s2, s3⟩ := searchAll_c (N := N) (S := S) (Rf := Rf) (J := J16) (by omega) hO16 hP16
  obtain ⟨r', I2', J2', n1, n2, n3⟩ := now_m (N := N) (J' := J') hN hR2
  unfold BnM at n3
  rw [eo, ef] at n3
  have e20 : ∀ a, (a < b + 33 ∨ (b + 33 < a ∧ a < b + 38) ∨ a = b + 39 ∨ b + 46 < a) → I20 a = up2 I (b + 15) q (nI (W + 1)) a := fun a ha => by rw [s2.1 a (by omega), a2 a (by omega)]
  have e23 : ∀ a, (a < b + 33 ∨ (b + 33 < a ∧ a < b + 38) ∨ a = b + 39 ∨ b + 46 < a) → up2 I20 (b + 15) q (nI W) a = I a := fun a ha => by
    by_cases e : a = b + 15
    · subst e
      funext i
      by_cases ei : i = q
      · subst ei; rw [up2_same, co_wit hO.1 hq]; exact w1.symm
      · rw [up2_at (Or.inr ei), e20 _ ha, up2_at (Or.inr ei)]
    · rw [up2_ne _ _ _ e, e20 a ha, up2_ne _ _ _ e]
  have e14 : up2 I20 (b + 15) q (nI W) (b + 33) 14 = I (b + 33) 14 := by
    rw [up2_ne _ _ _ (by omega), s2.2 14 (by decide) (by decide), a2 _ (by omega), up2_ne _ _ _ (by omega)]
  have hC23 : FrC b I0 (up2 I20 (b + 15) q (nI W)) := fun a ha => (e23 a (by omega)).trans (hC a ha)
  have hO23 : OpC b mb P C D u (up2 I20 (b + 15) q (nI W)) I0' := hO.keep (fun a g1 g2 => e23 a (by omega)) e14
  have hR23 : RelB b mb L S Rf (up2 I20 (b + 15) q (nI W)) I0' P C D M K Rl := h0.keep (fun a ha => hC23 a (by omega)) (SameM.rf mb I0')
  obtain ⟨I25, J25, c1, c2, c3, c4⟩ := weigh_c (N := N) (J := J16) (by omega) hq hR23 hO23 (fun o h1 h2 => by rw [e23 _ (by omega)]; exact (hP q o hq h1 h2).1)
  have hO25 : OpC b mb P C D u I25 I0' := hO23.keep (fun a g1 g2 => c2 a (by omega)) (by rw [c2 _ (by omega)])
  have hP25 : PlC b C D (I0' (mb + 10)) (I0' mb 21) Rl u (fun x => x < P) I25 := by
    intro j o h1 h2 h3
    by_cases ej : j = q
    · exact c4 j o ej h2 h3
    · obtain ⟨y1, y2⟩ := hP j o h1 h2 h3
      refine ⟨?_, fun d hd => ?_⟩
      · rw [c2 _ (by omega), e23 _ (by omega)]; exact y1
      · rw [c3 _ (by omega), up2_ne _ _ _ (by omega), s2.1 _ (by omega), a3 _ (by omega), up2_ne _ _ _ (by omega)]; exact y2 d hd
  have e15 : I25 (b + 33) 15 = I20 (b + 33) 15 := by rw [c2 _ (by omega), up2_ne _ _ _ (by omega)]
  refine ⟨I25 (b + 33) 15, r', I16, J16, I20, I25, J25, I2', J2', a1, s1, by rw [e20 _ (by omega), up2_same], c1, n1, by rw [n2.1 _ (by omega), up2_same], hF.wit w1 n2, fun a ha => (c2 a (by omega)).trans (hC23 a ha), hO25, hP25, rfl, ?_⟩
  rw [e15]
  rcases s3 with ⟨z0, y1, _⟩ | ⟨z0, best, y1, y2⟩
  · rcases n3 with ⟨z, _⟩ | ⟨_, rfl, z1, _⟩ | ⟨z, _⟩
    · omega
    · exact Or.inl ⟨rfl, by rw [z1, y1], 0, by omega, y1⟩
    · omega
  · rcases n3 with ⟨z, _⟩ | ⟨z, _⟩ | ⟨_, _, best', b1, b2, b3⟩
    · omega
    · omega
    · have eb := best_eq b1 y2
      subst eb
      rcases b3 with ⟨rfl, rfl⟩ | ⟨hne, rfl, _⟩
      · exact Or.inr ⟨rfl, y1.1⟩
      · cases best' with
        | none => exact absurd rfl hne
        | some x => exact Or.inl ⟨rfl, by rw [b2.1, y1.1], x.1, y1.2.2.1.1, y1.1⟩
theorem les_L (hN : 6000000 ≤ N) (h0 : RelB b mb L S Rf I0 I0' P C D M K Rl) (hu : u = opL (I0' (mb + 10)) C 0) (h4 : u.length ≤ 4) (x1 x1' : Int32) : ∀ r q n n' who most (I : IT) (J : JT) (I' : IT) (J' : JT), q + r = P → r < n → r < n' → FrB mb I0' I' → FrC b I0 I → OpC b mb P C D u I I0' → PlC b C D (I0' (mb + 10)) (I0' mb 21) Rl u (fun x => x < P) I → WM who most →
    ∃ w1 m1 I1 J1 I1' J1', f4_bestPupil_L43 N b S Rf x1 n who most (nI q) I J = some ((w1, m1), I1, J1) ∧ f12_lesson_L28 N mb x1' n' who most (nI q) I' J' = some ((w1, m1), I1', J1') ∧ FrC b I0 I1 ∧ FrB mb I0' I1' := by
  have h7 := co_P7 h0.core
  intro r
  induction r with
  | zero =>
    intro q n n' who most I J I' J' hq hn hn' hF hC hO hP hw
    obtain ⟨n, rfl⟩ : ∃ q, n = q + 1 := ⟨n - 1, by omega⟩
    obtain ⟨n', rfl⟩ : ∃ q, n' = q + 1 := ⟨n' - 1, by omega⟩
    rw [f4_bestPupil_L43, f12_lesson_L28, hF.1 _ (by omega), cv_P h0.core, co_P hO.1, if_pos (nI_le (by omega) (by omega)), if_pos (nI_le (by omega) (by omega))]
    exact ⟨who, most, I, J, I', J', rfl, rfl, hC, hF⟩
  | succ r ih =>
    intro q n n' who most I J I' J' hq hn hn' hF hC hO hP hw
    obtain ⟨n, rfl⟩ : ∃ q, n = q + 1 := ⟨n - 1, by omega⟩
    obtain ⟨n', rfl⟩ : ∃ q, n' = q + 1 := ⟨n' - 1, by omega⟩
    have hqP : q < P := by omega
    obtain ⟨W, Z, w1, _, w3, _⟩ := co_wzr h0.core hqP
    have ev : I' (mb + 10) = I0' (mb + 10) := hF.1 _ (by omega)
    have nge : ¬ nI P ≤ nI q := nI_ge (by omega) (by omega)
    have ltN : ∀ (x : Int32) (f : Int32 → Option ((Int32 × Int32) × IT × JT)), yb_let x f = f x := fun _ _ => rfl
    have ltI : ∀ (x : IT) (f : IT → Option ((Int32 × Int32) × IT × JT)), yb_let x f = f x := fun _ _ => rfl
    rw [f4_bestPupil_L43, f12_lesson_L28, ev, cv_P h0.core, co_P hO.1, if_neg nge, if_neg nge, les_ix, ltN (nI (11 + 5 * q)), yb_ck_t (inb_nI (show q < 7 by omega) (by decide)), yb_ck_t (inb_nI (show 11 + 5 * q < 142 by omega) (by decide)), nI_clamp (show q < 2 ^ 31 by omega), nI_clamp (show 11 + 5 * q < 2 ^ 31 by omega), co_wit hO.1 hqP, w1]
    by_cases c9 : W = 9
    · subst c9
      rw [if_pos (show (9 : Int32) ≤ nI 9 by decide), if_pos (show nI 9 = (9 : Int32) from rfl), lts, lts, nI_1]
      exact ih (q + 1) n n' who most I J I' J' (by omega) (by omega) (by omega) hF hC hO hP hw
    · obtain ⟨br, r', I16, J16, I20, I25, J25, I2', J2', a1, a2, a3, a4, a5, a6, a7, a8, a9, a10, a11, a12⟩ := les_one (N := N) (J := J) (J' := J') hN h0 hu h4 hqP w1 (by omega) hF hC hO hP
      have es : nI (W + 1) - 1 = nI W := (pk_sub (b := 1) (by omega)).trans (by rw [Nat.add_sub_cancel])
      have e35 : up2 I2' (mb + 10) (11 + 5 * q) (nI W) mb 35 = I2' mb 35 := by rw [up2_ne _ _ _ (by omega)]
      rw [if_neg (show ¬ (9 : Int32) ≤ nI W from nI_ge (b := 9) (by omega) (by omega)), if_neg (show ¬ nI W = (9 : Int32) from fun z => c9 ((nI_eq (a := W) (b := 9) (by omega) (by omega)).mp z)), nI_1, ltI, ltI, a1, b3s, a2, b3s, a3, es, ltI, a4, b3s, a5, b3s, a6, es, ltI, a11, e35]
      simp only [ltN, nI_1]
      have go : ∀ who most, WM who most → ∃ w1 m1 I1 J1 I1' J1', f4_bestPupil_L43 N b S Rf x1 n who most (nI (q + 1)) I25 J25 = some ((w1, m1), I1, J1) ∧ f12_lesson_L28 N mb x1' n' who most (nI (q + 1)) (up2 I2' (mb + 10) (11 + 5 * q) (nI W)) J2' = some ((w1, m1), I1', J1') ∧ FrC b I0 I1 ∧ FrB mb I0' I1' := fun who most hw => ih (q + 1) n n' who most I25 J25 _ J2' (by omega) (by omega) (by omega) a7 a8 a9 a10 hw
      rcases a12 with ⟨rfl, y1, y, hy, rfl⟩ | ⟨rfl, rfl⟩
      · rw [if_pos rfl, y1]
        rcases hw with ⟨rfl, rfl⟩ | ⟨w, m, g1, g2, rfl, rfl⟩
        · have t1 : ¬ nI y ≤ (-2 : Int32) := fun z => nI_pos (n := y) (by omega) (Int32.lt_of_le_of_lt z (by decide))
          rw [if_neg t1, if_neg (nI_pos (by omega)), if_pos (show (-2 : Int32) < 0 by decide)]
          exact go _ _ (Or.inr ⟨q, y, by omega, hy, rfl, rfl⟩)
        · rw [if_neg (show ¬ nI w < 0 from nI_pos (by omega))]
          by_cases cm : y ≤ m
          · rw [if_pos (nI_le cm (by omega)), if_neg (show ¬ nI m < nI y from nI_nlt cm (by omega))]
            exact go _ _ (Or.inr ⟨w, m, g1, g2, rfl, rfl⟩)
          · rw [if_neg (show ¬ nI y ≤ nI m from nI_ge (by omega) (by omega)), if_neg (show ¬ nI y < 0 from nI_pos (by omega)), if_pos (show nI m < nI y from nI_lt (by omega) (by omega))]
            exact go _ _ (Or.inr ⟨q, y, by omega, hy, rfl, rfl⟩)
      · rw [if_neg (show ¬ (-2 : Int32) = 0 by decide)]
        rcases hw with ⟨rfl, rfl⟩ | ⟨w, m, g1, g2, rfl, rfl⟩
        · rw [if_neg (show ¬ (-1 : Int32) ≤ -2 by decide), if_pos (show (-1 : Int32) < 0 by decide)]
          exact go _ _ (Or.inl ⟨rfl, rfl⟩)
        · have t1 : (-1 : Int32) ≤ nI m := Int32.le_trans (show (-1 : Int32) ≤ 0 by decide) (nI_pos' (by omega))
          rw [if_pos t1]
          exact go _ _ (Or.inr ⟨w, m, g1, g2, rfl, rfl⟩)
end LESSON2
theorem G_lesson {N : Nat} (hN : 6000000 ≤ N) : Gd_lesson N RelY := by
  intro b mb L S Rf I J I' J' x1 hR
  obtain ⟨P, C, D, M, K, Rl, h⟩ := hR
  have hc := h.core
  have h6 := co_C6 hc
  have h7 := co_P7 hc
  have hh : ∀ r, ∃ (r_1 : Int32) (I1 : IT) (J1 : JT) (I1' : IT) (J1' : JT), some (r, I, J) = some (r_1, I1, J1) ∧ some (r, I', J') = some (r_1, I1', J1') ∧ RelY b mb L S Rf I1 J1 I1' J1' := fun r => ⟨r, I, J, I', J', rfl, rfl, P, C, D, M, K, Rl, h⟩
  unfold f11_lesson f12_lesson
  rcases co_isTown (J' := J') hc with ⟨t1, t2⟩ | ⟨t1, t2, _⟩
  · rw [if_pos t1, t2, b3s, if_pos rfl]; exact hh _
  · rw [if_neg (by rw [t1]; exact i10), t2, b3s, if_neg i10, l_inc (a := 0) (c := 1) 0 1 rfl rfl, b3s]
    by_cases hk : ∃ d, d ≤ 1 ∧ x1 = nI d
    · obtain ⟨k, hk, rfl⟩ := hk
      rw [rngY (hi := 1) 1 rfl (by omega) hk, if_neg i10, if_neg (nI_pos (by omega)), if_pos (show nI k ≤ (1 : Int32) from nI_le (b := 1) hk (by omega))]
      have hl := opL_len (v := I' (mb + 10)) C 0
      obtain ⟨I1, g1, g2, g3, g4⟩ := gather_c (N := N) (J := J) (S := S) (Rf := Rf) (by omega) hc h.2.1.2
      have fin : ∀ (Ia : IT) (Ja : JT) (Ib : IT) (Jb : JT) (r : Int32), FrC b I Ia → FrB mb I' Ib → ∃ (r_1 : Int32) (I1 : IT) (J1 : JT) (I2' : IT) (J2' : JT), some (r, Ia, Ja) = some (r_1, I1, J1) ∧ some (r, Ib, Jb) = some (r_1, I2', J2') ∧ RelY b mb L S Rf I1 J1 I2' J2' := fun Ia Ja Ib Jb r hF hB => ⟨r, Ia, Ja, Ib, Jb, rfl, rfl, P, C, D, M, K, Rl, h.keep (fun a ha => hF a (by omega)) hB.sm⟩
      have opn : ∀ (Ib : IT) (Jb : JT), FrB mb I' Ib → ∃ Ic, f12_fillsOpen N mb Ib Jb = some ((), Ic, Jb) ∧ FrB mb I' Ic ∧ Ic mb 25 = nI (opL (I' (mb + 10)) C 0).length := fun Ib Jb hB => by
        have e : Ib (mb + 10) = I' (mb + 10) := hB.1 _ (by omega)
        obtain ⟨Ic, o1, o2, o3⟩ := open_m (N := N) (J' := Jb) (by omega) (hc.keep (I1' := Ib) (fun _ _ _ => rfl) e)
        rw [e] at o3
        exact ⟨Ic, o1, hB.tr o2, o3⟩
      by_cases c4 : (opL (I' (mb + 10)) C 0).length ≤ 4
      · have z4 : nI (opL (I' (mb + 10)) C 0).length ≤ (4 : Int32) := nI_le (b := 4) c4 (by omega)
        have hO := g4 c4
        have hR1 : RelB b mb L S Rf I1 I' P C D M K Rl := h.keep (fun a ha => g2 a (by omega) (by omega)) (SameM.rf mb I')
        obtain ⟨I2, J2, p1, p2, p3⟩ := placeAll_c (N := N) (J := J) (by omega) hR1 hO
        have hO2 : OpC b mb P C D (opL (I' (mb + 10)) C 0) I2 I' := hO.keep (fun a z1 z2 => p2 a (by omega) (by omega)) (by rw [p2 _ (by omega) (by omega)])
        have hC2 : FrC b I I2 := fun a ha => by rw [p2 a (by omega) (by omega), g2 a (by omega) (by omega)]
        have pup : ∀ x1c : Int32, ∃ w1 m1 I3 J3 I3' J3', f4_bestPupil_L43 N b S Rf x1c N (-2) (-2) 0 I2 J2 = some ((w1, m1), I3, J3) ∧ f12_lesson_L28 N mb (nI k) N (-2) (-2) 0 I' J' = some ((w1, m1), I3', J3') ∧ FrC b I I3 ∧ FrB mb I' I3' := fun x1c => les_L (N := N) hN h rfl c4 x1c (nI k) P 0 N N (-2) (-2) I2 J2 I' J' (by omega) (by omega) (by omega) (FrB.rf mb I') hC2 hO2 p3 (Or.inl ⟨rfl, rfl⟩)
        by_cases ck : k = 0
        · subst ck
          obtain ⟨w1, m1, I3, J3, I3', J3', q1, q2, q3, q4⟩ := pup 1
          obtain ⟨I4', o1, o2, o3⟩ := opn I3' J3' q4
          unfold f4_bestPupil
          rw [if_pos (show nI 0 = 0 from rfl), g1, b3s, g3, if_pos z4, p1, b3s, q1, b3s, if_neg i10, b3s, q2, b3s, o1, b3s, o3, if_pos z4, if_pos (show nI 0 = 0 from rfl)]
          exact fin _ _ _ _ _ q3 o2
        · have e1 : k = 1 := by omega
          subst e1
          obtain ⟨w1, m1, I3, J3, I3', J3', q1, q2, q3, q4⟩ := pup 0
          obtain ⟨I4', o1, o2, o3⟩ := opn I3' J3' q4
          unfold f4_bestPupil
          rw [if_neg (show ¬ nI 1 = 0 by decide), g1, b3s, g3, if_pos z4, p1, b3s, q1, b3s, if_pos rfl, b3s, q2, b3s, o1, b3s, o3, if_pos z4, if_neg (show ¬ nI 1 = 0 by decide)]
          exact fin _ _ _ _ _ q3 o2
      · have z4 : ¬ nI (opL (I' (mb + 10)) C 0).length ≤ (4 : Int32) := nI_ge (b := (opL (I' (mb + 10)) C 0).length) (a := 4) (by omega) (by omega)
        obtain ⟨I3', J3', q2, q4⟩ := les_ref (N := N) hN h (by omega) (nI k) (-2) (-2) P 0 N I' J' (by omega) (by omega) (FrB.rf mb I')
        rw [show nI 0 = (0 : Int32) from rfl] at q2
        obtain ⟨I4', o1, o2, o3⟩ := opn I3' J3' q4
        have hC1 : FrC b I I1 := fun a ha => g2 a (by omega) (by omega)
        unfold f4_bestPupil
        rw [q2, b3s, o1, b3s, o3, if_neg z4]
        by_cases ck : nI k = 0
        · rw [if_pos ck, g1, b3s, g3, if_neg z4, b3s]
          exact fin _ _ _ _ _ hC1 o2
        · rw [if_neg ck, g1, b3s, g3, if_neg z4, b3s]
          exact fin _ _ _ _ _ hC1 o2
    · have hn : ∀ d, d ≤ 1 → x1 ≠ nI d := fun d hd e => hk ⟨d, hd, e⟩
      rw [rngN (hi := 1) 1 rfl hn, if_pos rfl]
      by_cases c0 : x1 < 0
      · rw [if_pos c0]; exact hh _
      · rw [if_neg c0, if_neg (fun q => by obtain ⟨d, hd, e⟩ := nI_of2 (M := 1) (n := 1) rfl c0 q; exact hn d hd e)]; exact hh _
