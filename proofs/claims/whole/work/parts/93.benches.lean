/-! BENCHES: the call -/
theorem b_ix : ∀ k, k < 14 → 2 ≤ k → (nI k - 2) - (nI k - 2) / 4 * 4 = nI ((k - 2) % 4) := by decide +kernel
theorem G_benches {N : Nat} (hN : 6000000 ≤ N) : Gd_benches N RelY := by
  intro b mb L S Rf I J I' J' x1 hR
  obtain ⟨P, C, D, M, K, Rl, h⟩ := hR
  have hc := h.core
  have h12 := co_D12 hc
  have h6 := co_C6 hc
  have hh : ∀ r, ∃ (r_1 : Int32) (I1 : IT) (J1 : JT) (I1' : IT) (J1' : JT), some (r, I, J) = some (r_1, I1, J1) ∧ some (r, I', J') = some (r_1, I1', J1') ∧ RelY b mb L S Rf I1 J1 I1' J1' := fun r => ⟨r, I, J, I', J', rfl, rfl, P, C, D, M, K, Rl, h⟩
  unfold f11_benches f12_benches
  rcases co_isTown (J' := J') hc with ⟨t1, t2⟩ | ⟨t1, t2, _⟩
  · rw [if_pos t1, t2, b3s, if_pos rfl]; exact hh _
  · rw [if_neg (by rw [t1]; exact i10), t2, b3s, if_neg i10, l_inc (a := 0) (c := 13) 0 13 rfl rfl, b3s]
    by_cases hk : ∃ d, d ≤ 13 ∧ x1 = nI d
    · obtain ⟨k, hk, rfl⟩ := hk
      rw [rngY (hi := 13) 13 rfl (by omega) hk, if_neg i10, if_neg (nI_pos (by omega)), if_pos (show nI k ≤ (13 : Int32) from nI_le (b := 13) hk (by omega))]
      obtain ⟨I1, g1, g2, g3, g4⟩ := gather_c (N := N) (J := J) (S := S) (Rf := Rf) (by omega) hc h.2.1.2
      obtain ⟨r, I1', J1', n1, n2, n3⟩ := now_m (N := N) (J' := J') hN h
      have hl := opL_len (v := I' (mb + 10)) C 0
      have ev : I1' (mb + 10) = I' (mb + 10) := n2.1 _ (by omega)
      have k0 : nI k = 0 ↔ k = 0 := ⟨fun z => (nI_eq (a := k) (b := 0) (by omega) (by omega)).mp z, fun z => by rw [z]; rfl⟩
      have k1 : nI k = 1 ↔ k = 1 := ⟨fun z => (nI_eq (a := k) (b := 1) (by omega) (by omega)).mp z, fun z => by rw [z]; rfl⟩
      unfold f4_answer
      rw [g1, b3s, n1, b3s, g3]
      have fin : ∀ (Ia : IT) (Ja : JT) (r : Int32), (∀ a, (a < b + 33 ∨ (b + 33 < a ∧ a < b + 37) ∨ b + 46 < a) → Ia a = I a) → ∃ (r_1 : Int32) (I1 : IT) (J1 : JT) (I2' : IT) (J2' : JT), yb_b3 (some (r, Ia, Ja)) (fun r_4 I_5 J_6 => some (r_4, I_5, J_6)) = some (r_1, I1, J1) ∧ some (r, I1', J1') = some (r_1, I2', J2') ∧ RelY b mb L S Rf I1 J1 I2' J2' := fun Ia Ja r hF => ⟨r, Ia, Ja, I1', J1', b3s, rfl, P, C, D, M, K, Rl, h.keep (fun a ha => hF a (by omega)) n2.sm⟩
      by_cases c4 : (opL (I' (mb + 10)) C 0).length ≤ 4
      · rw [if_pos (show nI (opL (I' (mb + 10)) C 0).length ≤ (4 : Int32) from nI_le (b := 4) c4 (by omega))]
        have hO := g4 c4
        have hR1 : RelB b mb L S Rf I1 I' P C D M K Rl := h.keep (fun a ha => g2 a (by omega) (by omega)) (SameM.rf mb I')
        obtain ⟨I2, J2, p1, p2, p3⟩ := placeAll_c (N := N) (J := J) (by omega) hR1 hO
        have hO2 : OpC b mb P C D (opL (I' (mb + 10)) C 0) I2 I' := hO.keep (fun a z1 z2 => p2 a (by omega) (by omega)) (by rw [p2 _ (by omega) (by omega)])
        obtain ⟨I3, s1, s2, s3⟩ := searchAll_c (N := N) (S := S) (Rf := Rf) (J := J2) (by omega) hO2 p3
        have hF3 : ∀ a, (a < b + 33 ∨ (b + 33 < a ∧ a < b + 37) ∨ b + 46 < a) → I3 a = I a := fun a ha => by
          rw [s2.1 a (by omega), p2 a (by omega) (by omega), g2 a (by omega) (by omega)]
        have e14 : I3 (b + 33) 14 = nI (opL (I' (mb + 10)) C 0).length := (s2.2 14 (by decide) (by decide)).trans hO2.2.2.1
        rw [p1, b3s, s1, b3s, e14]
        rcases n3 with ⟨z, _⟩ | ⟨z0, rfl, z1, z2, z3⟩ | ⟨z0, _, best, w1, w2, w3⟩
        · omega
        · rcases s3 with ⟨_, y1, y2⟩ | ⟨y, _⟩
          · rw [y1, y2, if_pos (show (0 : Int32) ≤ 0 by decide), if_pos rfl, z1, z2, z3, if_neg (show ¬ (0 : Int32) ≤ -1 by decide), z0]
            by_cases c0 : k = 0
            · subst c0
              rw [if_neg (show ¬ (2 : Int32) ≤ nI 0 by decide), if_pos (show nI 0 = 0 from rfl), if_pos (show nI 0 = 0 from rfl)]
              exact fin I3 J2 _ hF3
            · by_cases c1 : k = 1
              · subst c1
                rw [if_neg (show ¬ (2 : Int32) ≤ nI 1 by decide), if_neg (show ¬ nI 1 = 0 by decide), if_neg (show ¬ nI 1 = 0 by decide), if_pos (show nI 1 = 1 from rfl)]
                exact fin I3 J2 _ hF3
              · rw [if_pos (show (2 : Int32) ≤ nI k from nI_le (a := 2) (by omega) (by omega)), if_neg (fun z => c0 (k0.mp z)), if_neg (fun z => c1 (k1.mp z)), b_ix k (by omega) (by omega), lts, lts, if_neg (show ¬ nI ((k - 2) % 4) < nI 0 from nI_pos (by omega)), if_neg (show ¬ nI ((k - 2) % 4) < 0 from nI_pos (by omega))]
                exact fin I3 J2 _ hF3
          · omega
        · rcases s3 with ⟨y, _⟩ | ⟨_, best', y1, y2⟩
          · omega
          · have eb := best_eq w1 y2
            subst eb
            rcases w3 with ⟨rfl, rfl⟩ | ⟨hne, rfl, w4⟩
            · rw [y1.1, if_neg (show ¬ (0 : Int32) ≤ -1 by decide), if_neg (show ¬ (-2 : Int32) = 0 by decide)]
              exact fin I3 J2 _ hF3
            · cases best with
              | none => exact absurd rfl hne
              | some x =>
                obtain ⟨a1, a2, ⟨a3, a4, a5⟩, a6, a7⟩ := y1
                obtain ⟨m1, m2, ⟨_, _, m3, m4⟩, m5, m6⟩ := w2
                rw [a1, a2, m1, m2, w4.1, ev, cv_D hc, if_pos (show (0 : Int32) ≤ nI x.1 from nI_pos' (by omega)), if_pos rfl]
                have e1 : nI x.2.1 - 1 = nI (x.2.1 - 1) := pk_sub (b := 1) a4
                by_cases c0 : k = 0
                · subst c0
                  rw [if_neg (show ¬ (2 : Int32) ≤ nI 0 by decide), if_pos (show nI 0 = 0 from rfl), if_pos (show nI 0 = 0 from rfl)]
                  exact fin I3 J2 _ hF3
                · by_cases c1 : k = 1
                  · subst c1
                    rw [if_neg (show ¬ (2 : Int32) ≤ nI 1 by decide), if_neg (show ¬ nI 1 = 0 by decide), if_neg (show ¬ nI 1 = 0 by decide), if_pos (show nI 1 = 1 from rfl), e1, if_pos (show (0 : Int32) ≤ nI (x.2.1 - 1) from nI_pos' (by omega)), nI_add, show D + (x.2.1 - 1) = D + x.2.1 - 1 by omega]
                    exact fin I3 J2 _ hF3
                  · rw [if_pos (show (2 : Int32) ≤ nI k from nI_le (a := 2) (by omega) (by omega)), if_neg (fun z => c0 (k0.mp z)), if_neg (fun z => c1 (k1.mp z)), b_ix k (by omega) (by omega), lts, lts]
                    have hi4 : (k - 2) % 4 < 4 := by omega
                    generalize hi : (k - 2) % 4 = i at hi4
                    by_cases ci : i < (opL (I' (mb + 10)) C 0).length
                    · have hix : i < x.2.2.1.length := by omega
                      obtain ⟨c, j, hcj⟩ : ∃ c j, x.2.2.1[i]? = some (c, j) := ⟨(x.2.2.1[i]).1, (x.2.2.1[i]).2, by rw [List.getElem?_eq_getElem hix]⟩
                      have hx : FuV lgN (BV (I' (mb + 10)) (opL (I' (mb + 10)) C 0) C D) (RtV (I' (mb + 10)) (I' mb 21) Rl (opL (I' (mb + 10)) C 0) C D) (lnV (I' (mb + 10)) (opL (I' (mb + 10)) C 0)) P (opL (I' (mb + 10)) C 0).length x := by
                        rcases w1 with ⟨q, _⟩ | ⟨y, q, q2, _⟩
                        · cases q
                        · cases q; exact q2
                      obtain ⟨ro, r1, _, r3, _, r5⟩ := hx
                      have hd : ∃ d, x.2.2.2[i]? = some d := by
                        have : x.2.2.2.length = x.2.2.1.length := by rw [r5]; exact dyW_len _ _
                        exact ⟨x.2.2.2[i]'(by omega), by rw [List.getElem?_eq_getElem]⟩
                      obtain ⟨d, hd⟩ := hd
                      have hcu : c < (opL (I' (mb + 10)) C 0).length := r3 c (List.mem_map.mpr ⟨(c, j), by
                        have : x.2.2.1 = ro := by rw [r5]; rfl
                        rw [← this]; exact List.mem_of_getElem? hcj, rfl⟩)
                      obtain ⟨b1, b2⟩ := a6 i c j hcj
                      obtain ⟨b3, b4⟩ := m5 i c j hcj
                      have hlt : nI i < nI (opL (I' (mb + 10)) C 0).length := nI_lt ci (by omega)
                      rw [if_pos hlt, if_pos hlt]
                      by_cases c6 : 6 ≤ k
                      · have z6 : (6 : Int32) ≤ nI k := nI_le (a := 6) c6 (by omega)
                        rw [if_pos z6, if_pos z6]
                        by_cases c10 : 10 ≤ k
                        · have z10 : (10 : Int32) ≤ nI k := nI_le (a := 10) c10 (by omega)
                          rw [if_pos z10, if_pos z10, yb_ck_t (inb_nI hi4 (by decide)), yb_ck_t (inb_nI hi4 (by decide)), nI_clamp (show i < 2 ^ 31 by omega), a7 i d hd, m6 i d hd, nI_add]
                          exact fin I3 J2 _ hF3
                        · have z10 : ¬ (10 : Int32) ≤ nI k := nI_ge (b := 10) (by omega) (by omega)
                          rw [if_neg z10, if_neg z10, yb_ck_t (inb_nI hi4 (by decide)), yb_ck_t (inb_nI hi4 (by decide)), nI_clamp (show i < 2 ^ 31 by omega), b2, b4]
                          exact fin I3 J2 _ hF3
                      · have z6 : ¬ (6 : Int32) ≤ nI k := nI_ge (b := 6) (by omega) (by omega)
                        rw [if_neg z6, if_neg z6, yb_ck_t (inb_nI hi4 (by decide)), yb_ck_t (inb_nI hi4 (by decide)), nI_clamp (show i < 2 ^ 31 by omega), b1, b3, yb_ck_t (inb_nI (show c < 6 by omega) (by decide)), nI_clamp (show c < 2 ^ 31 by omega), w4.2.2 c hcu]
                        exact fin I3 J2 _ hF3
                    · have hlt : ¬ nI i < nI (opL (I' (mb + 10)) C 0).length := nI_nlt (by omega) (by omega)
                      rw [if_neg hlt, if_neg hlt]
                      exact fin I3 J2 _ hF3
      · rw [if_neg (show ¬ nI (opL (I' (mb + 10)) C 0).length ≤ (4 : Int32) from nI_ge (b := (opL (I' (mb + 10)) C 0).length) (a := 4) (by omega) (by omega))]
        rcases n3 with ⟨_, rfl⟩ | ⟨z, _⟩ | ⟨_, z, _⟩
        · rw [if_neg (show ¬ (-3 : Int32) = 0 by decide)]
          exact fin I1 J _ (fun a ha => g2 a (by omega) (by omega))
        · omega
        · omega
    · have hn : ∀ d, d ≤ 13 → x1 ≠ nI d := fun d hd e => hk ⟨d, hd, e⟩
      rw [rngN (hi := 13) 13 rfl hn, if_pos rfl]
      by_cases c0 : x1 < 0
      · rw [if_pos c0]; exact hh _
      · rw [if_neg c0, if_neg (fun q => by obtain ⟨d, hd, e⟩ := nI_of2 (M := 13) (n := 13) rfl c0 q; exact hn d hd e)]; exact hh _
