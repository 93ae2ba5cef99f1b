/-! THE TOWN'S CLAUSES on both sides -/
def FT (b mb : Nat) (I0 I I0' I' : IT) : Prop := (∀ a, a ≠ b + 2 → (a < b + 52 ∨ b + 61 < a) → I a = I0 a) ∧ I (b + 61) 2 = I0 (b + 61) 2 ∧ ∀ a k, (a = mb → k ≠ 8 ∧ k ≠ 9 ∧ k ≠ 10) → a ≠ mb + 6 → I' a k = I0' a k
abbrev TwS (b mb : Nat) (I I' : IT) (P C T : Nat) : Prop := TwP (fun k => I (b + 52 + k)) (I (b + 61) 3) (I (b + 61) 4) (I' (mb + 6)) P C T
def TOut (b mb n : Nat) (w : Nat → Nat) (I0 I0' : IT) (J J' : JT) (A A' : Option (Int32 × IT × JT)) : Prop :=
  (∃ I1 I1', A = some (0, I1, J) ∧ A' = some (0, I1', J') ∧ (I1 (b + 2) 4 = I1' mb 9 ∧ I1' mb 9 ≠ 0) ∧ FT b mb I0 I1 I0' I1') ∨ (∃ p p' P C T I1 I1', A = some (1, I1, J) ∧ A' = some (1, I1', J') ∧ Rd b mb n w p p' I1 I1' ∧ TwS b mb I1 I1' P C T ∧ FT b mb I0 I1 I0' I1')
section TWC
variable {N b mb n p p' : Nat} {w : Nat → Nat} {S : ST} {Rf : RT} {I I1 I' I1' I0 I0' : IT} {J J' : JT} {P C T : Nat}
theorem FT.rf (I I' : IT) : FT b mb I I I' I' := ⟨fun _ _ _ => rfl, rfl, fun _ _ _ _ => rfl⟩
theorem FT.nn (h : FT b mb I0 I I0' I') (g : FrN b mb I I1 I' I1') : FT b mb I0 I1 I0' I1' := by
  refine ⟨fun a h1 h2 => (g.a h1).trans (h.1 a h1 h2), by rw [g.a (by omega)]; exact h.2.1, fun a k h1 h2 => ?_⟩
  rw [g.2 a k (by omega)]; exact h.2.2 a k h1 h2
theorem FT.cc (h : FT b mb I0 I I0' I') {a k : Nat} (x : Int32) (ha : b + 52 ≤ a ∧ a ≤ b + 60 ∨ a = b + 61 ∧ k ≠ 2) : FT b mb I0 (up2 I a k x) I0' I' := by
  refine ⟨fun q h1 h2 => (up2_ne _ _ _ (by omega)).trans (h.1 q h1 h2), ?_, h.2.2⟩
  rw [up2_at (by omega)]; exact h.2.1
theorem FT.m6 (h : FT b mb I0 I I0' I') (k : Nat) (x : Int32) : FT b mb I0 I I0' (up2 I' (mb + 6) k x) :=
  ⟨h.1, h.2.1, fun a j h1 h2 => (up2_at (Or.inl h2)).trans (h.2.2 a j h1 h2)⟩
theorem num_rng {v lo hi : Int32} {m : Nat} (l : Nat) (hl : lo = nI l) (hm : hi.toInt = m) (hlm : l < 2 ^ 31) (h1 : ¬ v < lo) (h2 : v ≤ hi) : ∃ k : Nat, l ≤ k ∧ k ≤ m ∧ v = nI k := by
  have h0 : ¬ v < 0 := fun q => h1 (by
    rw [hl]
    exact Int32.lt_of_lt_of_le q (nI_pos' hlm))
  obtain ⟨k, hk, rfl⟩ := nI_of2 hm h0 h2
  refine ⟨k, ?_, hk, rfl⟩
  rcases Nat.lt_or_ge k l with z | z
  · rw [hl] at h1
    exact absurd (nI_lt z hlm) h1
  · exact z
/-- a number below how many there are -/
theorem num_ix {v : Int32} {P : Nat} (hP : P ≤ 7) (h1 : ¬ v < 0) (h2 : v ≤ nI P - 1) : ∃ k : Nat, k < P ∧ v = nI k := by
  rcases Nat.eq_zero_or_pos P with rfl | hp
  · exact absurd (Int32.lt_of_le_of_lt h2 (by decide)) h1
  · have e : nI P - 1 = nI (P - 1) := by
      show nI P - nI 1 = _
      rw [pk_sub hp]
    rw [e] at h2
    obtain ⟨k, _, hk, rfl⟩ := num_rng (m := P - 1) 0 rfl (nI_toInt (by omega)) (by omega) h1 h2
    exact ⟨k, by omega, rfl⟩
theorem tw_town {x : Int32} (hN : 1000 ≤ N) (h : Rd b mb n w p p I I') (he : I (b + 2) 3 = nI (ltr w n p)) (hT : TwS b mb I I' P C T) (h0 : I' (mb + 6) 0 = 0) : TOut b mb n w I I' J J' (yb_b3 (f3_passWord N b S Rf I J) fun _ I2 J2 => f10_readsTown N b S Rf I2 J2) (f12_isTownHere N mb x I' J') := by
  obtain ⟨a1, a2, hr⟩ := q_passW (S := S) (Rf := Rf) (J := J) (J' := J') hN h he
  have f0 : FT b mb I (up2 I (b + 2) 2 (nI (skp w n (ltr w n p)))) I' (up2 I' mb 8 (nI (ltr w n p))) := (FT.rf I I').nn ⟨fun a k q => up2_at (by omega), fun a k q => up2_at (by omega)⟩
  unfold f12_isTownHere f10_readsTown
  rw [h0, if_pos (show (0 : Int32) ≤ 0 by decide), a1, a2, b3s, b3s]
  rcases q_num (S := S) (Rf := Rf) (J := J) (J' := J') hN hr 1 99 with ⟨A, A', e1, e2, e3, e4⟩ | ⟨v, q, q', A, A', e1, e2, e3, e4, e5, e6, e7, _⟩
  · rw [e1, e2, b3s, b3s, lts, up2_same, if_neg (show ¬ (0 : Int32) ≤ -1 by decide), if_pos rfl]
    exact Or.inl ⟨_, _, rfl, rfl, ⟨(up2_at (Or.inl (by omega))).trans e4.1, e4.2⟩, (f0.nn e3).cc _ (by omega)⟩
  · obtain ⟨G, hG1, hG, rfl⟩ := num_rng (m := 99) 1 rfl rfl (by omega) e3 e4
    have hr2 : Rd b mb n w q q' (up2 A (b + 52) 9 (nI G)) A' := e6.keep (up2_at (Or.inl (by omega))) (up2_at (Or.inl (by omega))) (up2_ne _ _ _ (by omega)) rfl rfl rfl rfl
    have f1 := (f0.nn e7).cc (a := b + 52) (k := 9) (nI G) (by omega)
    rw [e1, e2, b3s, b3s, lts, up2_same, if_pos (nI_pos' (by omega)), if_neg i10, e5, lts]
    rcases q_cell (S := S) (Rf := Rf) (J := J) (J' := J') (k := 1) hN hr2 5 99 (by omega) with ⟨B, B', g1, g2, g3, g4⟩ | ⟨v2, q2, q2', B, B', g1, g2, g3, g4, g5, g6⟩
    · rw [show nI 1 = (1 : Int32) from rfl] at g2
      rw [g1, g2, b3s, b3s, lts, up2_same, if_pos (show (-1 : Int32) < 0 by decide), if_pos rfl, lts, up2_same, yb_ck_t (show bz 0 = true from rfl)]
      exact Or.inl ⟨_, _, rfl, rfl, ⟨(up2_at (Or.inl (by omega))).trans ((up2_at (Or.inl (by omega))).trans g4.1), g4.2⟩, ((f1.nn g3).cc _ (by omega)).cc _ (by omega)⟩
    · obtain ⟨Y, hY1, hY, rfl⟩ := num_rng (m := 99) 5 rfl rfl (by omega) g3 g4
      rw [show nI 1 = (1 : Int32) from rfl] at g2
      rw [g1, g2, b3s, b3s, lts, up2_same, if_neg (nI_pos (by omega)), if_neg i10, lts, up2_same, yb_ck_t (show bz 1 = true from rfl), lts]
      have hA : ∀ a, a ≠ b + 2 → A a = I a := fun a ha => (e7.a ha).trans (up2_ne _ _ _ ha)
      have hB : ∀ a, a ≠ b + 2 → a ≠ b + 52 → B a = I a := fun a ha hb => (g6.a ha).trans ((up2_ne _ _ _ hb).trans (hA a ha))
      have hB52 : B (b + 52) = upd (I (b + 52)) 9 (nI G) := by rw [g6.a (by omega), up2_self, hA _ (by omega)]
      have hM : B' (mb + 6) = I' (mb + 6) := by rw [g6.m (by omega), e7.m (by omega), up2_ne _ _ _ (by omega)]
      refine Or.inr ⟨q2, q2', P, C, T, _, _, rfl, rfl, ?_, ?_, ((((f1.nn g6).m6 _ _).cc _ (by omega)).cc _ (by omega)).m6 _ _⟩
      · exact g5.keep (by rw [up2_ne _ _ _ (by omega), up2_ne _ _ _ (by omega)]) (by rw [up2_ne _ _ _ (by omega), up2_ne _ _ _ (by omega)]) (by rw [up2_ne _ _ _ (by omega), up2_ne _ _ _ (by omega)]) (up2_at (Or.inl (by omega))) (up2_at (Or.inl (by omega))) (up2_at (Or.inl (by omega))) (up2_ne _ _ _ (by omega))
      · refine hT.townY (G := G) (Y := Y) h0 hG1 hG hY1 hY ?_ ?_ ?_ (fun k hk => ?_) (fun k h1 h2 => ?_) ?_ ?_ (fun i hi => ?_) ?_ ?_
        · exact up2_same _ _ _ _
        · show up2 (up2 B (b + 52) 10 _) (b + 52) 8 1 (b + 52) 9 = _
          rw [up2_at (Or.inr (by decide)), up2_at (Or.inr (by decide)), hB52, pk_us]
        · show up2 (up2 B (b + 52) 10 _) (b + 52) 8 1 (b + 52) 10 = _
          rw [up2_at (Or.inr (by decide)), up2_same]
        · show up2 (up2 B (b + 52) 10 _) (b + 52) 8 1 (b + 52) k = I (b + 52) k
          rw [up2_at (Or.inr (by omega)), up2_at (Or.inr (by omega)), hB52, pk_un (by omega)]
        · show up2 (up2 B (b + 52) 10 _) (b + 52) 8 1 (b + 52 + k) = I (b + 52 + k)
          rw [up2_ne _ _ _ (by omega), up2_ne _ _ _ (by omega), hB _ (by omega) (by omega)]
        · exact up2_same _ _ _ _
        · rw [up2_at (Or.inr (by decide)), up2_same]
        · rw [up2_at (Or.inr (by omega)), up2_at (Or.inr (by omega)), hM]
        · rw [up2_ne _ _ _ (by omega), up2_ne _ _ _ (by omega), hB _ (by omega) (by omega)]
        · rw [up2_ne _ _ _ (by omega), up2_ne _ _ _ (by omega), hB _ (by omega) (by omega)]
theorem tw_bench {x : Int32} (hN : 1000 ≤ N) (h : Rd b mb n w p p I I') (he : I (b + 2) 3 = nI (ltr w n p)) (hT : TwS b mb I I' P C T) (h0 : I' (mb + 6) 0 ≠ 0) (h5 : I' (mb + 6) 5 < 0) : TOut b mb n w I I' J J' (yb_b3 (f3_passWord N b S Rf I J) fun _ I2 J2 => f10_readsBench N b S Rf I2 J2) (f12_isBenchHere N mb x I' J') := by
  obtain ⟨a1, a2, hr⟩ := q_passW (S := S) (Rf := Rf) (J := J) (J' := J') hN h he
  have f0 : FT b mb I (up2 I (b + 2) 2 (nI (skp w n (ltr w n p)))) I' (up2 I' mb 8 (nI (ltr w n p))) := (FT.rf I I').nn ⟨fun a k q => up2_at (by omega), fun a k q => up2_at (by omega)⟩
  unfold f12_isBenchHere f10_readsBench
  rw [if_pos h5, a1, a2, b3s, b3s]
  rcases q_cell (S := S) (Rf := Rf) (J := J) (J' := J') (k := 5) hN hr 0 9999 (by omega) with ⟨A, A', e1, e2, e3, e4⟩ | ⟨v, q, q', A, A', e1, e2, e3, e4, e5, e6⟩
  · rw [show nI 5 = (5 : Int32) from rfl] at e2
    rw [e1, e2, b3s, b3s, lts, up2_same, if_neg (show ¬ (0 : Int32) ≤ -1 by decide), if_pos rfl]
    exact Or.inl ⟨_, _, rfl, rfl, ⟨(up2_at (Or.inl (by omega))).trans e4.1, e4.2⟩, (f0.nn e3).cc _ (by omega)⟩
  · obtain ⟨F, _, hF, rfl⟩ := num_rng (m := 9999) 0 rfl rfl (by omega) e3 e4
    rw [show nI 5 = (5 : Int32) from rfl] at e2
    have hr2 : Rd b mb n w q q' (up2 A (b + 52) 11 (nI F)) (up2 A' (mb + 6) 5 (nI F)) := e5.keep (up2_at (Or.inl (by omega))) (up2_at (Or.inl (by omega))) (up2_ne _ _ _ (by omega)) rfl rfl rfl rfl
    have f1 := ((f0.nn e6).cc (a := b + 52) (k := 11) (nI F) (by omega)).m6 5 (nI F)
    rw [e1, e2, b3s, b3s, lts, up2_same, if_pos (nI_pos' (by omega)), if_neg i10, up2_same]
    rcases q_cell (S := S) (Rf := Rf) (J := J) (J' := J') (k := 6) hN hr2 (nI F) 9999 (by omega) with ⟨B, B', g1, g2, g3, g4⟩ | ⟨v2, q2, q2', B, B', g1, g2, g3, g4, g5, g6⟩
    · rw [show nI 6 = (6 : Int32) from rfl] at g2
      rw [g1, g2, b3s, b3s, lts, up2_same, if_pos (show (-1 : Int32) < 0 by decide), if_pos rfl, lts, up2_same, yb_ck_t (show bz 0 = true from rfl)]
      exact Or.inl ⟨_, _, rfl, rfl, ⟨(up2_at (Or.inl (by omega))).trans ((up2_at (Or.inl (by omega))).trans g4.1), g4.2⟩, ((f1.nn g3).cc _ (by omega)).cc _ (by omega)⟩
    · obtain ⟨La, _, hL, rfl⟩ := num_rng (m := 9999) F rfl rfl (by omega) g3 g4
      rw [show nI 6 = (6 : Int32) from rfl] at g2
      rw [g1, g2, b3s, b3s, lts, up2_same, if_neg (nI_pos (by omega)), if_neg i10, lts, up2_same, yb_ck_t (show bz 1 = true from rfl)]
      have hA : ∀ a, a ≠ b + 2 → A a = I a := fun a ha => (e6.a ha).trans (up2_ne _ _ _ ha)
      have hB : ∀ a, a ≠ b + 2 → a ≠ b + 52 → B a = I a := fun a ha hb => (g6.a ha).trans ((up2_ne _ _ _ hb).trans (hA a ha))
      have hB52 : B (b + 52) = upd (I (b + 52)) 11 (nI F) := by rw [g6.a (by omega), up2_self, hA _ (by omega)]
      have hM : B' (mb + 6) = upd (I' (mb + 6)) 5 (nI F) := by rw [g6.m (by omega), up2_self, e6.m (by omega), up2_ne _ _ _ (by omega)]
      refine Or.inr ⟨q2, q2', P, C, T, _, _, rfl, rfl, ?_, ?_, (((f1.nn g6).m6 _ _).cc _ (by omega)).cc _ (by omega)⟩
      · exact g5.keep (by rw [up2_ne _ _ _ (by omega), up2_ne _ _ _ (by omega)]) (by rw [up2_ne _ _ _ (by omega), up2_ne _ _ _ (by omega)]) (by rw [up2_ne _ _ _ (by omega), up2_ne _ _ _ (by omega)]) rfl rfl rfl rfl
      · refine hT.benchY (F := F) (La := La) h0 hF hL ?_ ?_ (fun k hk hk2 => ?_) (fun k h1 h2 => ?_) ?_ ?_ (fun i hi hi2 => ?_) ?_ ?_
        · show up2 (up2 B (b + 52) 12 _) (b + 61) 4 1 (b + 52) 11 = _
          rw [up2_ne _ _ _ (by omega), up2_at (Or.inr (by decide)), hB52, pk_us]
        · show up2 (up2 B (b + 52) 12 _) (b + 61) 4 1 (b + 52) 12 = _
          rw [up2_ne _ _ _ (by omega), up2_same]
        · show up2 (up2 B (b + 52) 12 _) (b + 61) 4 1 (b + 52) k = I (b + 52) k
          rw [up2_ne _ _ _ (by omega), up2_at (Or.inr hk2), hB52, pk_un hk]
        · show up2 (up2 B (b + 52) 12 _) (b + 61) 4 1 (b + 52 + k) = I (b + 52 + k)
          rw [up2_ne _ _ _ (by omega), up2_ne _ _ _ (by omega), hB _ (by omega) (by omega)]
        · rw [up2_at (Or.inr (by decide)), hM, pk_us]
        · exact up2_same _ _ _ _
        · rw [up2_at (Or.inr hi2), hM, pk_un hi]
        · rw [up2_at (Or.inr (by decide)), up2_ne _ _ _ (by omega), hB _ (by omega) (by omega)]
        · exact up2_same _ _ _ _
theorem tw_person {x : Int32} (hN : 1000 ≤ N) (h : Rd b mb n w p p I I') (he : I (b + 2) 3 = nI (ltr w n p)) (hT : TwS b mb I I' P C T) (h0 : I' (mb + 6) 0 ≠ 0) (hP : P < 7) : TOut b mb n w I I' J J' (yb_b3 (f3_passWord N b S Rf I J) fun _ I2 J2 => f10_readsPerson N b S Rf I2 J2) (f12_isPersonHere N mb x I' J') := by
  obtain ⟨a1, a2, hr⟩ := q_passW (S := S) (Rf := Rf) (J := J) (J' := J') hN h he
  have f0 : FT b mb I (up2 I (b + 2) 2 (nI (skp w n (ltr w n p)))) I' (up2 I' mb 8 (nI (ltr w n p))) := (FT.rf I I').nn ⟨fun a k q => up2_at (by omega), fun a k q => up2_at (by omega)⟩
  have eP : I' (mb + 6) 2 = nI P := hT.1.1
  have cP : I (b + 52) 13 = nI P := hT.1.2.2
  have ex : (10 : Int32) + 5 * nI P = nI (10 + 5 * P) := by
    show nI 10 + nI 5 * nI P = _
    rw [pk_mul, nI_add]
  have ex1 : nI (10 + 5 * P) + 1 = nI (11 + 5 * P) := by rw [nI_1]; congr 1; omega
  have ex2 : nI (10 + 5 * P) + 2 = nI (12 + 5 * P) := by show _ + nI 2 = _; rw [nI_add]; congr 1; omega
  have ex3 : nI (10 + 5 * P) + 3 = nI (13 + 5 * P) := by show _ + nI 3 = _; rw [nI_add]; congr 1; omega
  have ex4 : nI (10 + 5 * P) + 4 = nI (14 + 5 * P) := by show _ + nI 4 = _; rw [nI_add]; congr 1; omega
  unfold f12_isPersonHere f10_readsPerson
  rw [eP, if_neg (show ¬ nI P = (7 : Int32) from nI_nl 7 rfl (by omega) (by omega) (by omega)), a1, a2, b3s, b3s, up2_ne _ _ _ (show mb + 6 ≠ mb by omega), eP, ex, lts, ex1, ex2, ex3, ex4]
  rcases q_cell (S := S) (Rf := Rf) (J := J) (J' := J') (k := 10 + 5 * P) hN hr 0 9999 (by omega) with ⟨A, A', e1, e2, e3, e4⟩ | ⟨v, q, q', A, A', e1, e2, e3, e4, e5, e6⟩
  · rw [e1, e2, b3s, b3s, if_neg (show ¬ (0 : Int32) ≤ -1 by decide), if_pos rfl]
    exact Or.inl ⟨_, _, rfl, rfl, e4, f0.nn e3⟩
  · obtain ⟨Ag, _, hAg, rfl⟩ := num_rng (m := 9999) 0 rfl rfl (by omega) e3 e4
    have f1 := (f0.nn e6).m6 (10 + 5 * P) (nI Ag)
    rw [e1, e2, b3s, b3s, if_pos (nI_pos' (by omega)), if_neg i10]
    rcases q_cell (S := S) (Rf := Rf) (J := J) (J' := J') (k := 11 + 5 * P) hN e5 0 9 (by omega) with ⟨B, B', g1, g2, g3, g4⟩ | ⟨v2, q2, q2', B, B', g1, g2, g3, g4, g5, g6⟩
    · rw [g1, g2, b3s, b3s, if_neg (show ¬ (0 : Int32) ≤ -1 by decide), if_pos rfl]
      exact Or.inl ⟨_, _, rfl, rfl, g4, f1.nn g3⟩
    · obtain ⟨W, _, hW, rfl⟩ := num_rng (m := 9) 0 rfl rfl (by omega) g3 g4
      have f2 := (f1.nn g6).m6 (11 + 5 * P) (nI W)
      rw [g1, g2, b3s, b3s, if_pos (nI_pos' (by omega)), if_neg i10]
      rcases q_cell (S := S) (Rf := Rf) (J := J) (J' := J') (k := 12 + 5 * P) hN g5 0 9 (by omega) with ⟨E, E', i1, i2, i3, i4⟩ | ⟨v3, q3, q3', E, E', i1, i2, i3, i4, i5, i6⟩
      · rw [i1, i2, b3s, b3s, if_neg (show ¬ (0 : Int32) ≤ -1 by decide), if_pos rfl]
        exact Or.inl ⟨_, _, rfl, rfl, i4, f2.nn i3⟩
      · obtain ⟨Z, _, hZ, rfl⟩ := num_rng (m := 9) 0 rfl rfl (by omega) i3 i4
        have f3 := (f2.nn i6).m6 (12 + 5 * P) (nI Z)
        have hE : ∀ a, a ≠ b + 2 → E a = I a := fun a ha => (i6.a ha).trans ((g6.a ha).trans ((e6.a ha).trans (up2_ne _ _ _ ha)))
        have hM : E' (mb + 6) = upd (upd (I' (mb + 6)) (10 + 5 * P) (nI Ag)) (11 + 5 * P) (nI W) := by rw [i6.m (by omega), up2_self, g6.m (by omega), up2_self, e6.m (by omega), up2_ne _ _ _ (by omega)]
        have z1 : E (b + 52) 13 = nI P := by rw [hE _ (by omega)]; exact cP
        have z2 : up2 E (b + 53) P (nI Ag) (b + 52) 13 = nI P := (up2_at (Or.inl (by omega))).trans z1
        have z3 : up2 (up2 E (b + 53) P (nI Ag)) (b + 54) P (nI W) (b + 52) 13 = nI P := (up2_at (Or.inl (by omega))).trans z2
        have z4 : up2 (up2 (up2 E (b + 53) P (nI Ag)) (b + 54) P (nI W)) (b + 55) P (nI Z) (b + 52) 13 = nI P := (up2_at (Or.inl (by omega))).trans z3
        have y1 : up2 (up2 (up2 E' (mb + 6) (12 + 5 * P) (nI Z)) (mb + 6) (13 + 5 * P) 0) (mb + 6) (14 + 5 * P) 0 (mb + 6) 2 = nI P := by rw [up2_at (Or.inr (by omega)), up2_at (Or.inr (by omega)), up2_at (Or.inr (by omega)), hM, pk_un (by omega), pk_un (by omega)]; exact eP
        rw [i1, i2, b3s, b3s, if_pos (nI_pos' (by omega)), if_neg i10, z1, yb_ck_t (inb_nI hP (by decide)), nI_clamp (by omega), lts, z2, yb_ck_t (inb_nI hP (by decide)), nI_clamp (by omega), lts, z3, yb_ck_t (inb_nI hP (by decide)), nI_clamp (by omega), lts, z4, lts, nI_1, yb_ck_t (inb_nI (show 13 + 5 * P < 111 by omega) (by decide)), nI_clamp (by omega), lts, yb_ck_t (inb_nI (show 14 + 5 * P < 111 by omega) (by decide)), nI_clamp (by omega), lts, y1, lts, nI_1]
        refine Or.inr ⟨q3, q3', P + 1, C, T, _, _, rfl, rfl, ?_, ?_, ((((((f3.m6 _ _).m6 _ _).m6 _ _).cc _ (by omega)).cc _ (by omega)).cc _ (by omega)).cc _ (by omega)⟩
        · exact i5.keep (by rw [up2_ne _ _ _ (by omega), up2_ne _ _ _ (by omega), up2_ne _ _ _ (by omega), up2_ne _ _ _ (by omega)]) (by rw [up2_ne _ _ _ (by omega), up2_ne _ _ _ (by omega), up2_ne _ _ _ (by omega), up2_ne _ _ _ (by omega)]) (by rw [up2_ne _ _ _ (by omega), up2_ne _ _ _ (by omega), up2_ne _ _ _ (by omega), up2_ne _ _ _ (by omega)]) (by rw [up2_ne _ _ _ (by omega), up2_ne _ _ _ (by omega), up2_ne _ _ _ (by omega)]) (by rw [up2_ne _ _ _ (by omega), up2_ne _ _ _ (by omega), up2_ne _ _ _ (by omega)]) (by rw [up2_ne _ _ _ (by omega), up2_ne _ _ _ (by omega), up2_ne _ _ _ (by omega)]) (by rw [up2_ne _ _ _ (by omega), up2_ne _ _ _ (by omega), up2_ne _ _ _ (by omega)])
        · have fin : ∀ a, a ≠ b + 2 → a ≠ b + 52 → a ≠ b + 53 → a ≠ b + 54 → a ≠ b + 55 → up2 (up2 (up2 (up2 E (b + 53) P (nI Ag)) (b + 54) P (nI W)) (b + 55) P (nI Z)) (b + 52) 13 (nI (P + 1)) a = I a := fun a h1 h2 h3 h4 h5 => by rw [up2_ne _ _ _ h2, up2_ne _ _ _ h5, up2_ne _ _ _ h4, up2_ne _ _ _ h3, hE a h1]
          refine hT.personY (A := Ag) (W := W) (Z := Z) h0 hP hAg hW hZ ?_ (fun k hk => ?_) (fun k h1 h2 => ?_) (fun k i h1 h2 h3 => ?_) ?_ ?_ ?_ ?_ ?_ ?_ ?_ ?_ ?_ (fun i hi hi2 => ?_) ?_ ?_
          · exact up2_same _ _ _ _
          · show up2 _ (b + 52) 13 _ (b + 52) k = I (b + 52) k
            rw [up2_at (Or.inr hk), up2_ne _ _ _ (by omega), up2_ne _ _ _ (by omega), up2_ne _ _ _ (by omega), hE _ (by omega)]
          · exact fin _ (by omega) (by omega) (by omega) (by omega) (by omega)
          · show up2 _ (b + 52) 13 _ (b + 52 + k) i = I (b + 52 + k) i
            rw [up2_ne _ _ _ (by omega), up2_at (Or.inr h3), up2_at (Or.inr h3), up2_at (Or.inr h3), hE _ (by omega)]
          · show up2 _ (b + 52) 13 _ (b + 53) P = _
            rw [up2_ne _ _ _ (by omega), up2_ne _ _ _ (by omega), up2_ne _ _ _ (by omega), up2_same]
          · show up2 _ (b + 52) 13 _ (b + 54) P = _
            rw [up2_ne _ _ _ (by omega), up2_ne _ _ _ (by omega), up2_same]
          · show up2 _ (b + 52) 13 _ (b + 55) P = _
            rw [up2_ne _ _ _ (by omega), up2_same]
          · exact up2_same _ _ _ _
          · rw [up2_at (Or.inr (by omega)), up2_at (Or.inr (by omega)), up2_at (Or.inr (by omega)), up2_at (Or.inr (by omega)), hM, pk_un (by omega), pk_us]
          · rw [up2_at (Or.inr (by omega)), up2_at (Or.inr (by omega)), up2_at (Or.inr (by omega)), up2_at (Or.inr (by omega)), hM, pk_us]
          · rw [up2_at (Or.inr (by omega)), up2_at (Or.inr (by omega)), up2_at (Or.inr (by omega)), up2_same]
          · rw [up2_at (Or.inr (by omega)), up2_at (Or.inr (by omega)), up2_same]
          · rw [up2_at (Or.inr (by omega)), up2_same]
          · rw [up2_at (Or.inr (by omega)), up2_at (Or.inr (by omega)), up2_at (Or.inr (by omega)), up2_at (Or.inr (by omega)), hM, pk_un (by omega), pk_un (by omega)]
          · rw [fin _ (by omega) (by omega) (by omega) (by omega) (by omega)]
          · rw [fin _ (by omega) (by omega) (by omega) (by omega) (by omega)]
end TWC
