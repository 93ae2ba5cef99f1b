/-! RULE: a value on both sides -/
section VALUE2
variable {N b mb n p p' K V e : Nat} {w : Nat → Nat} {tc tr : List Int32} {S : ST} {Rf : RT} {I I1 I2 I' I1' I2' : IT} {J J' : JT} {r : Int32}
/-- a fault told at the same place -/
theorem fl_at {x : Int32} {k q : Nat} (hx : x = nI k) (hk : k ≤ 4) (hq : q ≤ 400) (h : FR b mb K I I1 I' I1') : FL b mb K I (up2 I1 (b + 2) 4 ((1 + 8 * nI q) + x)) I' (up2 I1' mb 9 ((1 + 8 * nI q) + x)) := by
  refine ⟨h.t2 ⟨fun a h1 _ _ => up2_ne _ _ _ h1, up2_at (Or.inr (by decide)), fun a h1 _ _ _ => up2_ne _ _ _ h1, fun k _ h2 _ _ _ _ => up2_at (Or.inr h2), fun i _ => by rw [up2_ne _ _ _ (by omega)], fun i _ => by rw [up2_ne _ _ _ (by omega)]⟩, by rw [up2_same, up2_same], by rw [up2_same]; exact flt_ne hx hq hk⟩
theorem q_value (hN : 1000 ≤ N) (h : PS b mb n w K p p' tc tr V I I') (hb : tc.length + e ≤ p') :
    (∃ I1 I1', f6_readsValue N b S Rf I J = some (0, I1, J) ∧ f12_value N mb I' J' = some (0, I1', J') ∧ FL b mb K I I1 I' I1') ∨
    ∃ t q q' I1 I1', f6_readsValue N b S Rf I J = some (1, I1, J) ∧ f12_value N mb I' J' = some (1, I1', J') ∧ PS b mb n w K q q' (tc ++ [tkC t]) (tr ++ [tkI t]) (V + 1) I1 I1' ∧ FR b mb K I I1 I' I1' ∧ FS mb I' I1' ∧ p' < q' ∧ TkOK t ∧ t.1 ≤ 1 ∧ V < 60 := by
  have hr := h.1
  have h4 := hr.n4
  have hpn := hr.le
  have hp'p : p' ≤ p := by rw [← hr.2.2.2.1]; exact run_ge hr.2.2.1
  have hs := hr.seen
  have hPs : PS b mb n w K p p tc tr V I (up2 I' mb 8 (nI p)) := h.mv hs (FrN.see _)
  have frS : FR b mb K I I I' (up2 I' mb 8 (nI p)) := (FrN.see (nI p)).fr
  have fsS : FS mb I' (up2 I' mb 8 (nI p)) := (FrN.see (b := b) (I := I) (nI p)).fs
  have e8 : up2 I' mb 8 (nI p) mb 8 = nI p := up2_same _ _ _ _
  -- the value is put
  have fin : ∀ (t : Tk) (q q' : Nat) (Ia Ia' : IT), TkOK t → t.1 ≤ 1 → PS b mb n w K q q' tc tr V Ia Ia' → FR b mb K I Ia I' Ia' → FS mb I' Ia' → p' < q' → q' ≤ n → V < 60 → ∃ I1 I1', f6_put b S Rf (tkC t) (up2 Ia (b + 62) 3 (nI (V + 1))) J = some ((), I1, J) ∧ f12_puts mb (nI t.1) (nI t.2) (up2 Ia' mb 12 (nI (V + 1))) J' = some ((), I1', J') ∧ PS b mb n w K q q' (tc ++ [tkC t]) (tr ++ [tkI t]) (V + 1) I1 I1' ∧ FR b mb K I I1 I' I1' ∧ FS mb I' I1' := by
    intro t q q' Ia Ia' h1 h2 h3 h5 h6 h7 h8 h9
    have hv := h3.val h9
    obtain ⟨I1, I1', g1, g2, g3, g4, g5, g6, g7⟩ := q_emit (S := S) (Rf := Rf) (J := J) (J' := J') (x := tkC t) (s := nI t.1) (v := nI t.2) hv (by omega)
    have et : nI t.1 + 16 * nI t.2 = tkI t := by
      show nI t.1 + nI 16 * nI t.2 = nI (t.1 + 16 * t.2)
      rw [pk_mul, nI_add]
    rw [et] at g3
    exact ⟨I1, I1', g1, g2, g3, (h5.t2 (FR.val _ _)).t2 g4, (h6.t2 (FS.val _)).t2 ⟨by rw [g6], by rw [g6], g7⟩⟩
  unfold f6_readsValue f12_value
  rw [hr.2.2.2.2.1, lts, q_atDigit hr, b3s, q_see hN hr, b3s, e8, lts, m_digit hs.2.1 hpn, b3s]
  by_cases cd : p < n ∧ isDi w p = true
  · rw [if_pos cd, if_neg i10, if_neg i10]
    rcases q_num (S := S) (Rf := Rf) (J := J) (J' := J') hN hs 0 99999 with ⟨I1, I1', a1, a2, a3⟩ | ⟨v, q, q', I1, I1', a1, a2, a3, a4, a5, a6, a7, a8, _⟩
    · rw [a1, b3s, if_neg (show ¬ (0 : Int32) ≤ -1 by decide), a2, b3s, if_pos rfl]
      exact Or.inl ⟨I1, I1', rfl, rfl, FL.of frS a3.fl⟩
    · obtain ⟨m, hm, rfl⟩ := nI_of2 (M := 99999) (n := 99999) rfl a3 a4
      have hP1 := hPs.mv a6 a7
      have hF1 : FR b mb K I I1 I' I1' := frS.t2 a7.fr
      have hF2 : FS mb I' I1' := fsS.t2 a7.fs
      rw [a1, b3s, if_pos (show (0 : Int32) ≤ nI m from nI_pos' (by omega)), a2, b3s, if_neg i10, hP1.2.1.2.2]
      rcases q_makes (J' := J') (at_ := p) hP1 with ⟨c, m1⟩ | ⟨c, m1⟩
      · rw [c, if_neg (show ¬ nI 60 < (60 : Int32) by decide), c_failAt, b3s, yb_ck_t (show bz 0 = true from rfl), m1, b3s, if_pos rfl]
        exact Or.inl ⟨_, _, rfl, rfl, fl_at (k := 3) rfl (by omega) (by omega) hF1⟩
      · obtain ⟨I2, I2', g1, g2, g3, g4, g5⟩ := fin (0, m) q q' I1 I1' (Or.inl ⟨rfl, hm⟩) (by show (0 : Nat) ≤ 1; omega) hP1 hF1 hF2 (by omega) a6.2.2.1 c
        have e10 : up2 I1' mb 12 (nI (V + 1)) mb 10 = nI m := (up2_at (Or.inr (by decide))).trans a5
        have g1' : f6_put b S Rf (nI m) (up2 I1 (b + 62) 3 (nI (V + 1))) J = some ((), I2, J) := g1
        have g2' : f12_puts mb 0 (nI m) (up2 I1' mb 12 (nI (V + 1))) J' = some ((), I2', J') := g2
        rw [if_pos (show nI V < (60 : Int32) from nI_lt (b := 60) c (by omega)), nI_1, lts, g1', b3s, m1, b3s, if_neg i10, e10, g2', b3s]
        exact Or.inr ⟨(0, m), q, q', I2, I2', rfl, rfl, g3, g4, g5, by omega, Or.inl ⟨rfl, hm⟩, by show (0 : Nat) ≤ 1; omega, c⟩
  · rw [if_neg cd, if_pos rfl, if_pos rfl]
    obtain ⟨r, w1, w2⟩ := q_word (S := S) (Rf := Rf) (J := J) hN hr
    have hsw : Rd b mb n w p p (up2 I (b + 2) 3 (nI (ltr w n p))) (up2 I' mb 8 (nI p)) := hs.word _
    have frW : FrN b mb I (up2 I (b + 2) 3 (nI (ltr w n p))) I' (up2 I' mb 8 (nI p)) := ⟨fun a k q => up2_at (by omega), fun a k q => up2_at (by omega)⟩
    have e2 : up2 I (b + 2) 3 (nI (ltr w n p)) (b + 2) 2 = nI p := (up2_at (Or.inr (by decide))).trans hr.2.2.2.2.1
    rw [w1, b3s]
    rcases q_wordHere (J' := J') hN hsw w2 with ⟨j, hj, rfl, a1⟩ | ⟨a0, a1⟩
    · obtain ⟨pw1, pw2, pw3⟩ := q_passW (S := S) (Rf := Rf) (J := J) (J' := J') hN hsw (up2_same _ _ _ _)
      have frP : FrN b mb I (up2 (up2 I (b + 2) 3 (nI (ltr w n p))) (b + 2) 2 (nI (skp w n (ltr w n p)))) I' (up2 (up2 I' mb 8 (nI p)) mb 8 (nI (ltr w n p))) := ⟨fun a k q => (up2_at (by omega)).trans (up2_at (by omega)), fun a k q => (up2_at (by omega)).trans (up2_at (by omega))⟩
      have hP1 := h.mv pw3 frP
      have hlt : p < ltr w n p := by
        rcases WIx_rng w2 with q | ⟨i, _, _, q⟩
        · exact absurd (by rw [q]; decide) (nI_pos (n := j) (by omega))
        · exact q
      rw [if_neg (show ¬ nI j < 0 from nI_pos (by omega)), if_pos (show nI j < (12 : Int32) from nI_lt (b := 12) hj (by omega)), pw1, b3s, a1, b3s, if_pos (show (0 : Int32) ≤ nI j from nI_pos' (by omega)), hP1.2.1.2.2, lts]
      rcases q_makes (J' := J') (at_ := p) hPs with ⟨c, m1⟩ | ⟨c, m1⟩
      · rw [c, if_neg (show ¬ nI 60 < (60 : Int32) by decide), c_failAt, b3s, yb_ck_t (show bz 0 = true from rfl), m1, b3s, if_pos rfl]
        have frQ : FR b mb K I (up2 (up2 I (b + 2) 3 (nI (ltr w n p))) (b + 2) 2 (nI (skp w n (ltr w n p)))) I' (up2 I' mb 8 (nI p)) := FrN.fr ⟨fun a k q => (up2_at (by omega)).trans (up2_at (by omega)), fun a k q => up2_at (by omega)⟩
        exact Or.inl ⟨_, _, rfl, rfl, fl_at (k := 3) rfl (by omega) (by omega) frQ⟩
      · obtain ⟨I2, I2', g1, g2, g3, g4, g5⟩ := fin (1, j) (skp w n (ltr w n p)) (ltr w n p) _ _ (Or.inr (Or.inl ⟨rfl, by show j ≤ 11; omega⟩)) (Nat.le_refl _) hP1 frP.fr frP.fs (by omega) pw3.2.2.1 c
        have g1' : f6_put b S Rf (100000 + nI j) (up2 (up2 (up2 I (b + 2) 3 (nI (ltr w n p))) (b + 2) 2 (nI (skp w n (ltr w n p)))) (b + 62) 3 (nI (V + 1))) J = some ((), I2, J) := by
          rw [← g1]
          congr 1
          show nI 100000 + nI j = nI (100000 + j)
          rw [nI_add]
        have hR2 : Rd b mb n w p p (up2 I (b + 2) 3 (nI (ltr w n p))) (up2 (up2 I' mb 8 (nI p)) mb 12 (nI (V + 1))) := hsw.keep rfl rfl rfl (up2_at (Or.inr (by decide))) (up2_at (Or.inr (by decide))) (up2_at (Or.inr (by decide))) (up2_ne _ _ _ (by omega))
        obtain ⟨_, pw2', _⟩ := q_passW (S := S) (Rf := Rf) (J := J) (J' := J') hN hR2 (up2_same _ _ _ _)
        have ec : up2 (up2 (up2 I' mb 8 (nI p)) mb 12 (nI (V + 1))) mb 8 (nI (ltr w n p)) = up2 (up2 (up2 I' mb 8 (nI p)) mb 8 (nI (ltr w n p))) mb 12 (nI (V + 1)) := by
          funext a k
          by_cases ea : a = mb ∧ k = 8
          · obtain ⟨rfl, rfl⟩ := ea
            rw [up2_same, up2_at (Or.inr (by decide)), up2_same]
          · by_cases eb : a = mb ∧ k = 12
            · obtain ⟨rfl, rfl⟩ := eb
              rw [up2_at (Or.inr (by decide)), up2_same, up2_same]
            · rw [up2_at (by omega), up2_at (by omega), up2_at (by omega), up2_at (by omega), up2_at (by omega), up2_at (by omega)]
        rw [ec] at pw2'
        have g2' : f12_puts mb 1 (nI j) (up2 (up2 (up2 I' mb 8 (nI p)) mb 8 (nI (ltr w n p))) mb 12 (nI (V + 1))) J' = some ((), I2', J') := g2
        rw [if_pos (show nI V < (60 : Int32) from nI_lt (b := 60) c (by omega)), nI_1, lts, g1', b3s, m1, b3s, if_neg i10, pw2', b3s, g2', b3s]
        exact Or.inr ⟨(1, j), _, _, I2, I2', rfl, rfl, g3, g4, g5, by omega, Or.inr (Or.inl ⟨rfl, by show j ≤ 11; omega⟩), Nat.le_refl _, c⟩
    · rw [a1, b3s, if_neg (show ¬ (0 : Int32) ≤ -1 by decide), m_fails hs.2.2.2.2.2.2, b3s, yb_ck_t (show bz 0 = true from rfl)]
      have fl := fl_at (b := b) (mb := mb) (K := K) (x := 0) (k := 0) (q := p) rfl (by omega) (by omega) (frW.fr (K := K))
      by_cases c0 : r < 0
      · rw [if_pos c0, c_fail e2, b3s, yb_ck_t (show bz 0 = true from rfl)]
        exact Or.inl ⟨_, _, rfl, rfl, fl⟩
      · rw [if_neg c0, if_neg (a0.resolve_left c0), c_fail e2, b3s, yb_ck_t (show bz 0 = true from rfl)]
        exact Or.inl ⟨_, _, rfl, rfl, fl⟩
end VALUE2
