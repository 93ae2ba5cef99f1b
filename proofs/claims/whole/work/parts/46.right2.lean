theorem i64_32 (x : Int32) : x.toInt64.toInt32 = x := by simp
/-- the words that hang on the charge alone -/
def ChR (J : JT) (b a : Nat) (g n ti : Int32) : Prop := J (b + 31) 4 = (nI a).toInt64 ∧ J (b + 31) 5 = g.toInt64 ∧ J (b + 31) 6 = n.toInt64 ∧ J (b + 31) 10 = ti.toInt64
theorem clamp_ref {I : IT} {J : JT} (x : Int64) : (if 0 ≤ lg_cmp x 0 then (if lg_cmp x 100 ≤ 0 then some (x.toInt32, I, J) else some ((100 : Int32), I, J)) else some ((0 : Int32), I, J)) = some (clampV x, I, J) := by
  unfold clampV
  by_cases c0 : 0 ≤ lg_cmp x 0
  · rw [if_pos c0, if_pos c0]
    by_cases c1 : lg_cmp x 100 ≤ 0
    · rw [if_pos c1, if_pos c1]
    · rw [if_neg c1, if_neg c1]
  · rw [if_neg c0, if_neg c0]
section RIGHT
variable {N b mb P C D K : Nat} {I I' : IT} {J J' : JT} {S : ST} {Rf : RT} {Rl : Nat → List (List Tk × Option (List Tk))}
theorem co_wzr (h : CoreR b mb I I' P C D) {j : Nat} (hj : j < P) : ∃ W Z : Nat, I' (mb + 10) (11 + 5 * j) = nI W ∧ I' (mb + 10) (12 + 5 * j) = nI Z ∧ W ≤ 9 ∧ Z ≤ 9 := by
  obtain ⟨A, W, Z, a1, a2, a3, a4, a5, a6⟩ := h.1.2.2.2.2.1 j hj
  exact ⟨W, Z, a2, a3, a5, a6⟩
theorem k1_name (h : CoreR b mb I I' P C D) {j a : Nat} {g n d ru ti : Int32} (hj : j < P) (ha : a < P) (hc : ChR J b a g n ti) : ∃ J1, f1_nameJudge b S Rf (nI j) d ru I J = some ((), I, J1) ∧ (∀ i, i < 12 → J1 (b + 31) i = wordV (I' (mb + 10)) j a g n d ru ti i) ∧ ∀ q, q ≠ b + 31 → J1 q = J q := by
  have h7 := co_P7 h
  obtain ⟨A, Y, F, La, eA, eY, eF, eL, bA, bY1, bY, bF, bL⟩ := co_nums h hj
  have hy0 : ¬ I' (mb + 10) 1 ≤ 0 := by rw [eY]; exact nI_nle (by omega) (by omega)
  have hy1 : ¬ I' (mb + 10) 1 = 0 := by rw [eY]; exact nI_ne0 (by omega) (by omega)
  obtain ⟨c4, c5, c6, c10⟩ := hc
  have hp : ∀ J2, f9_hasPerson b S Rf (b + 5) (nI a) I J2 = some (1, I, J2) := by
    intro J2
    unfold f9_hasPerson
    rw [if_neg (nI_pos (by omega)), co_P h, if_neg (nI_ge ha (by omega))]
  unfold f1_nameJudge
  rw [yb_ck_t (inb_nI (by omega) (by decide)), nI_clamp (by omega), co_age h hj, co_wit h hj, co_sweets h hj, lts, c4, i64_32, lts, lts, lts, lts, lts, hp, b3s, if_neg (by decide), yb_ck_t (inb_nI (by omega) (by decide)), nI_clamp (by omega), co_age h ha, co_age h hj, lts, lts, lts]
  unfold f9_tillBirthday
  rw [co_year h, if_neg hy0, if_neg hy1, b3s, lts]
  refine ⟨_, rfl, ?_, ?_⟩
  · intro i hi
    obtain rfl | rfl | rfl | rfl | rfl | rfl | rfl | rfl | rfl | rfl | rfl | rfl : i = 0 ∨ i = 1 ∨ i = 2 ∨ i = 3 ∨ i = 4 ∨ i = 5 ∨ i = 6 ∨ i = 7 ∨ i = 8 ∨ i = 9 ∨ i = 10 ∨ i = 11 := by omega
    all_goals simp [up2J, vp_updL, wordV, c4, c5, c6, c10, tilS]
  · intro q hq
    simp [up2J, hq]
theorem q5_sum (hN : 1000 ≤ N) (hR : RulesR b mb K S Rf I I' Rl) {k q : Nat} (hk : k < K) (hq : Rf (b + 3) k = some q) {W : Nat → Int64} (hW : ∀ i, i < 12 → J (b + 31) i = W i) : ∃ J1, f5_sum N b S Rf q I J = some (sumV W (Rl k), I, J1) ∧ ∀ a, a ≠ b + 32 → J1 a = J a := by
  obtain ⟨q', e1, e2, e3, e4, e5, _⟩ := hR.2 k hk
  obtain rfl : q' = q := by rw [e1] at hq; exact Option.some.inj hq
  unfold f5_sum
  obtain ⟨r, J1, g1, g2, g3⟩ := k5_sumL (N := N) (b := b) (q := q') (S := S) (Rf := Rf) (I := I) (W := W) (Rl k) 0 N J e5 (by rw [e2]; omega) (by omega) (by omega) e4 hW
  rw [show nI 0 = 0 from rfl] at g1
  rw [g1, b3s]
  rcases g2 with rfl | ⟨rfl, z⟩
  · exact ⟨J1, rfl, g3⟩
  · rw [z]; exact ⟨J1, rfl, g3⟩
theorem q1_rightOf (hN : 1000 ≤ N) (h : CoreR b mb I I' P C D) (hR : RulesR b mb K S Rf I I' Rl) {fo : Int32} (hf : I (b + 4) 6 = fo) (hF : FoR fo K) {j a g' : Nat} {n d ru ti : Int32} (hj : j < P) (ha : a < P) (hg : g' < 10) (hc : ChR J b a (nI g') n ti) :
    ∃ J1, f1_rightOf N b S Rf (nI j) d ru I J = some (rgtV (I' (mb + 10)) fo Rl j a (nI g') n d ru ti, I, J1) ∧ ChR J1 b a (nI g') n ti ∧ ∀ q, q ≠ b + 31 → q ≠ b + 32 → J1 q = J q := by
  have h7 := co_P7 h
  unfold f1_rightOf rgtV
  rw [hf, lts]
  rcases hF with rfl | ⟨k, hk, rfl⟩
  · obtain ⟨W, Z, w1, w2, w3, w4⟩ := co_wzr h hj
    rw [if_pos (by decide), if_pos (by decide), lts, yb_ck_t (inb_nI (by omega) (by decide)), nI_clamp (by omega), co_wit h hj, co_sweets h hj, lts, clampV_cls, w1, w2, hc.2.1, mul5 W (by omega), mul4 g' hg, mul3 Z (by omega)]
    exact ⟨J, rfl, hc, fun _ _ _ => rfl⟩
  · have hk6 : k < 6 := Nat.lt_of_lt_of_le hk hR.1
    obtain ⟨q, e1, _⟩ := hR.2 k hk
    rw [if_neg (nI_pos (by omega)), if_neg (nI_pos (by omega)), if_neg (show ¬ (6 : Int32) ≤ nI k from nI_ge (b := 6) hk6 (by omega)), yb_ck_t (inb_nI hk6 (by decide)), nI_clamp (by omega), e1, ops]
    obtain ⟨J1, r1, r2, r3⟩ := k1_name (J := J) (S := S) (Rf := Rf) (d := d) (ru := ru) h hj ha hc
    rw [r1, b3s]
    obtain ⟨J2, s1, s2⟩ := q5_sum (J := J1) hN hR hk e1 r2
    rw [s1, b3s, clampV_cls]
    refine ⟨J2, rfl, ?_, fun q h1 h2 => (s2 q h2).trans (r3 q h1)⟩
    unfold ChR
    rw [s2 _ (by omega)]
    exact ⟨r2 4 (by omega), r2 5 (by omega), r2 6 (by omega), r2 10 (by omega)⟩
theorem q12_summedBy (hN : 1000 ≤ N) (hR : RulesR b mb K S Rf I I' Rl) {k : Nat} (hk : k < K) {I1 : IT} (hI : ∀ a, a ≠ mb → I1 a = I' a) {W : Nat → Int64} (hW : ∀ i, i < 12 → J' (mb + 9) i = W i) : ∃ I2 J2, f12_summedBy N mb (nI k) I1 J' = some (sumV W (Rl k), I2, J2) ∧ (∀ a j, (a ≠ mb ∨ j ≠ 18) → I2 a j = I1 a j) ∧ ∀ a, a ≠ mb + 8 → J2 a = J' a := by
  obtain ⟨q', e1, e2, e3, e4, e5, e6, e7, e8⟩ := hR.2 k hk
  have hk6 : k < 6 := Nat.lt_of_lt_of_le hk hR.1
  unfold f12_summedBy
  obtain ⟨r, I2, J2, g1, g2, g3, g4⟩ := k12_sumL (N := N) (mb := mb) (k := k) (W := W) hN hk6 (Rl k) 0 N I1 J' e5 (by rw [hI _ (by omega), e6, Nat.zero_add]) (by omega) (by omega) (e8.congr (hI _ (by omega)) (hI _ (by omega))) hW
  rw [show nI 0 = 0 from rfl] at g1
  rw [g1, b3s]
  rcases g2 with rfl | ⟨rfl, z⟩
  · exact ⟨I2, J2, rfl, g3, g4⟩
  · rw [z]; exact ⟨I2, J2, rfl, g3, g4⟩
theorem q12_rightIn (hN : 1000 ≤ N) (h : CoreR b mb I I' P C D) (hR : RulesR b mb K S Rf I I' Rl) {fo : Int32} (hf : I' mb 21 = fo) (hF : FoR fo K) {j a : Nat} {g n d ru ti : Int32} (hj : j < P) (ha : a < P) :
    ∃ I1 J1, f12_rightIn N mb (nI j) (nI a) g n d ru ti I' J' = some (rgtV (I' (mb + 10)) fo Rl j a g n d ru ti, I1, J1) ∧ (∀ q k, (q ≠ mb ∨ k ≠ 18) → I1 q k = I' q k) ∧ ∀ q, q ≠ mb + 8 → q ≠ mb + 9 → J1 q = J' q := by
  have h7 := co_P7 h
  unfold f12_rightIn rgtV
  rw [k12_p1 (by omega), b3s, k12_p2 (by omega), b3s, lts, hf]
  rcases hF with rfl | ⟨k, hk, rfl⟩
  · rw [if_pos (show (-1 : Int32) < 0 by decide), if_pos (show (-1 : Int32) < 0 by decide), clamp_ref]
    exact ⟨I', J', rfl, fun _ _ _ => rfl, fun _ _ _ => rfl⟩
  · have hk6 : k < 6 := Nat.lt_of_lt_of_le hk hR.1
    obtain ⟨A, Y, F, La, eA, eY, eF, eL, bA, bY1, bY, bF, bL⟩ := co_nums h hj
    have hy1 : ¬ I' (mb + 10) 1 = 0 := by rw [eY]; exact nI_ne0 (by omega) (by omega)
    rw [if_neg (nI_pos (by omega)), if_neg (nI_pos (by omega)), nI_clamp (by omega), lts, k12_p1 (by omega), b3s, lts, q12_ageOn (by omega), b3s, lts, k12_p2 (by omega), b3s, lts, lts, lts, lts, k12_p0 (by omega), b3s, k12_p0 (by omega), b3s, lts, lts, lts, lts, q12_birthdayIn (by omega) hy1, b3s, lts, hf]
    have hw : ∀ i, i < 12 → (up2J (up2J (up2J (up2J (up2J (up2J (up2J (up2J (up2J (up2J (up2J (up2J J' (mb + 9) 0 (nI j).toInt64) (mb + 9) 1 (I' (mb + 10) (11 + 5 * j)).toInt64) (mb + 9) 2 (I' (mb + 10) (10 + 5 * j) + d).toInt64) (mb + 9) 3 (I' (mb + 10) (12 + 5 * j)).toInt64) (mb + 9) 4 (nI a).toInt64) (mb + 9) 5 g.toInt64) (mb + 9) 6 n.toInt64) (mb + 9) 7 (I' (mb + 10) (10 + 5 * a) - I' (mb + 10) (10 + 5 * j)).toInt64) (mb + 9) 8 d.toInt64) (mb + 9) 9 ru.toInt64) (mb + 9) 10 ti.toInt64) (mb + 9) 11 (tilS (I' (mb + 10)) (I' (mb + 10) (10 + 5 * j) + d)).toInt64) (mb + 9) i = wordV (I' (mb + 10)) j a g n d ru ti i := by
      intro i hi
      obtain rfl | rfl | rfl | rfl | rfl | rfl | rfl | rfl | rfl | rfl | rfl | rfl : i = 0 ∨ i = 1 ∨ i = 2 ∨ i = 3 ∨ i = 4 ∨ i = 5 ∨ i = 6 ∨ i = 7 ∨ i = 8 ∨ i = 9 ∨ i = 10 ∨ i = 11 := by omega
      all_goals simp [up2J, vp_updL, wordV]
    obtain ⟨I2, J2, r1, r2, r3⟩ := q12_summedBy (N := N) hN hR hk (I1 := I') (fun _ _ => rfl) hw
    rw [r1, b3s, clamp_ref]
    refine ⟨I2, J2, rfl, r2, fun q h1 h2 => ?_⟩
    rw [r3 q h1]
    simp [up2J, h2]
/-- the charge of a case -/
theorem q1_chargeOf (h : CoreR b mb I I' P C D) {c : Nat} {ti : Int32} (hc : c < C) : ∃ a g n J1, f1_chargeOf b S Rf (nI c) ti I J = some ((), I, J1) ∧ a < P ∧ g < 10 ∧ 1 ≤ n ∧ n ≤ 9 ∧ I' (mb + 10) (45 + 11 * c) = nI a ∧ I' (mb + 10) (46 + 11 * c) = nI g ∧ I' (mb + 10) (47 + 11 * c) = nI n ∧ ChR J1 b a (nI g) (nI n) ti ∧ ∀ q, q ≠ b + 31 → J1 q = J q := by
  have h6 := co_C6 h
  obtain ⟨a, g, n, f, ea, eg, en, ef, ha, hg1, hg2, hn1, hn2, hf⟩ := h.1.2.2.2.2.2.1 c hc
  unfold f1_chargeOf
  rw [yb_ck_t (inb_nI (by omega) (by decide)), nI_clamp (by omega), co_acc h hc, co_grav h hc, co_len h hc]
  unfold f1_charge
  rw [lts, lts, lts, lts, b3s]
  refine ⟨a, g, n, _, rfl, ha, by omega, hn1, hn2, ea, eg, en, ?_, fun q hq => by simp [up2J, hq]⟩
  rw [ea, eg, en]
  unfold ChR
  simp [up2J, vp_updL]
/-- how rightly j rules c on the day d, ru and ti told -/
def rgtC (v : Nat → Int32) (fo : Int32) (Rl : Nat → List (List Tk × Option (List Tk))) (c j : Nat) (d ru ti : Int32) : Int32 := rgtV v fo Rl j (v (45 + 11 * c)).toNatClampNeg (v (46 + 11 * c)) (v (47 + 11 * c)) d ru ti
theorem q1_rightNow (hN : 1000 ≤ N) (h : CoreR b mb I I' P C D) (hR : RulesR b mb K S Rf I I' Rl) {fo : Int32} (hf : I (b + 4) 6 = fo) (hF : FoR fo K) {c j : Nat} (hc : c < C) (hj : j < P) :
    ∃ J1, f1_rightNow N b S Rf (nI c) (nI j) I J = some (rgtC (I' (mb + 10)) fo Rl c j (I' (mb + 10) 4) (I' (mb + 10) (14 + 5 * j)) (I' (mb + 10) (54 + 11 * c)), I, J1) := by
  have h6 := co_C6 h
  have h7 := co_P7 h
  unfold f1_rightNow rgtC
  rw [yb_ck_t (inb_nI (by omega) (by decide)), nI_clamp (by omega), co_times h hc]
  obtain ⟨a, g, n, J1, r1, ha, hg, _, _, ea, eg, en, hC, _⟩ := q1_chargeOf (J := J) (S := S) (Rf := Rf) (ti := I' (mb + 10) (54 + 11 * c)) h hc
  rw [r1, b3s, yb_ck_t (inb_nI (by omega) (by decide)), nI_clamp (by omega), co_ruled h hj, co_D h]
  obtain ⟨J2, s1, _, _⟩ := q1_rightOf (J := J1) hN h hR hf hF (d := nI D) (ru := I' (mb + 10) (14 + 5 * j)) hj ha hg hC
  rw [s1, b3s, ea, eg, en, nI_clamp (by omega), cv_D h]
  exact ⟨J2, rfl⟩
theorem q12_rightOf (hN : 1000 ≤ N) (h : CoreR b mb I I' P C D) (hR : RulesR b mb K S Rf I I' Rl) {fo : Int32} (hf : I' mb 21 = fo) (hF : FoR fo K) {c j : Nat} {d : Int32} (hc : c < C) (hj : j < P) :
    ∃ I1 J1, f12_rightOf N mb (nI c) (nI j) d I' J' = some (rgtC (I' (mb + 10)) fo Rl c j d (I' (mb + 10) (14 + 5 * j)) (I' (mb + 10) (54 + 11 * c)), I1, J1) ∧ (∀ q k, (q ≠ mb ∨ k ≠ 18) → I1 q k = I' q k) ∧ ∀ q, q ≠ mb + 8 → q ≠ mb + 9 → J1 q = J' q := by
  have h6 := co_C6 h
  have h7 := co_P7 h
  obtain ⟨a, g, n, f, ea, eg, en, ef, ha, _⟩ := h.1.2.2.2.2.2.1 c hc
  unfold f12_rightOf rgtC
  rw [k12_c0 (by omega), b3s, k12_c1 (by omega), b3s, k12_c2 (by omega), b3s, k12_p4 (by omega), b3s, k12_c9 (by omega), b3s, ea, nI_clamp (by omega)]
  obtain ⟨I1, J1, r1, r2, r3⟩ := q12_rightIn (J' := J') hN h hR hf hF (g := I' (mb + 10) (46 + 11 * c)) (n := I' (mb + 10) (47 + 11 * c)) (d := d) (ru := I' (mb + 10) (14 + 5 * j)) (ti := I' (mb + 10) (54 + 11 * c)) hj ha
  rw [r1, b3s]
  exact ⟨I1, J1, rfl, r2, r3⟩
end RIGHT
