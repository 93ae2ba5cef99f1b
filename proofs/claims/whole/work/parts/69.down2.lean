section DOWNW
variable {N b mb P C D c : Nat} {S : ST} {Rf : RT} {I I' : IT} {J J' : JT} {rk T : Nat → Nat}
theorem dn_next {q : Nat} {a : Int32} (hN : 1000 ≤ N) (h : CoreR b mb I I' P C D) (hc : c < C) (hq : q < P) (ha : AtP P a) : f12_isNext N mb (nI c) (nI q) a I' J' = some (if canH (I' (mb + 10)) c q (nI D) = 0 then 0 else blwI (I' (mb + 10)) q a, I', J') := by
  have h7 := co_P7 h
  have h12 := co_D12 h
  unfold f12_isNext
  rw [cv_D h, q12_canHear (by omega) h hc hq (by omega), b3s]
  rcases canH01 (I' (mb + 10)) c q (nI D) with z | z
  · rw [z, if_pos rfl, if_pos rfl]
  · rw [z, if_neg i10, if_neg i10]
    rcases ha with g | ⟨t, ht, rfl⟩
    · unfold blwI; rw [if_pos g, if_pos g]
    · rw [if_neg (nI_pos (by omega)), q12_isYounger (by omega) (by omega), b3s, blwI_n (by omega)]
      rcases yngS01 (I' (mb + 10)) q t with y | y
      · rw [y, if_pos rfl]
      · rw [y, if_neg i10]
theorem dn_mx {a x2 : Int32} (hN : 1000 ≤ N) (h : CoreR b mb I I' P C D) (hc : c < C) (hch : ∀ j, j < P → I' (mb + 21) j = nI (T j)) (h77 : ∀ j, j < P → T j ≤ 7) (ha : AtP P a) : ∀ r k n, k + r = P → r < n → f12_down_L41 N mb (nI c) x2 a n (nI (supN (fun q => if (if canH (I' (mb + 10)) c q (nI D) = 0 then 0 else blwI (I' (mb + 10)) q a) = 0 then 0 else T q) k)) (nI k) I' J' = some (nI (supN (fun q => if (if canH (I' (mb + 10)) c q (nI D) = 0 then 0 else blwI (I' (mb + 10)) q a) = 0 then 0 else T q) P), I', J') := by
  have h7 := co_P7 h
  intro r
  induction r with
  | zero =>
    intro k n hk hn
    obtain ⟨n, rfl⟩ : ∃ q, n = q + 1 := ⟨n - 1, by omega⟩
    rw [f12_down_L41, cv_P h, if_pos (nI_le (by omega) (by omega)), show k = P by omega]
  | succ r ih =>
    intro k n hk hn
    obtain ⟨n, rfl⟩ : ∃ q, n = q + 1 := ⟨n - 1, by omega⟩
    have hi := ih (k + 1) n (by omega) (by omega)
    have hs7 : supN (fun q => if (if canH (I' (mb + 10)) c q (nI D) = 0 then 0 else blwI (I' (mb + 10)) q a) = 0 then 0 else T q) k ≤ 7 := supN_le fun q hq => by
      show (if (if canH (I' (mb + 10)) c q (nI D) = 0 then 0 else blwI (I' (mb + 10)) q a) = 0 then 0 else T q) ≤ 7
      by_cases z : (if canH (I' (mb + 10)) c q (nI D) = 0 then 0 else blwI (I' (mb + 10)) q a) = 0
      · rw [if_pos z]; omega
      · rw [if_neg z]; exact h77 q (by omega)
    have hk7 := h77 k (by omega)
    rw [f12_down_L41, cv_P h, if_neg (nI_ge (by omega) (by omega)), dn_next hN h hc (by omega) ha, b3s]
    rw [supN] at hi
    by_cases z : (if canH (I' (mb + 10)) c k (nI D) = 0 then 0 else blwI (I' (mb + 10)) k a) = 0
    · rw [if_pos z, lts, nI_1]
      rw [if_pos z, Nat.max_eq_left (Nat.zero_le _)] at hi
      exact hi
    · rw [if_neg z, yb_ck_t (inb_nI (by omega) (by decide)), nI_clamp (by omega), hch k (by omega)]
      rw [if_neg z] at hi
      by_cases cc : T k ≤ supN (fun q => if (if canH (I' (mb + 10)) c q (nI D) = 0 then 0 else blwI (I' (mb + 10)) q a) = 0 then 0 else T q) k
      · rw [if_pos (nI_le cc (by omega)), lts, nI_1]
        rw [Nat.max_eq_left cc] at hi
        exact hi
      · rw [if_neg (nI_ge (by omega) (by omega)), lts, lts, nI_1]
        rw [Nat.max_eq_right (by omega)] at hi
        exact hi
def IsB (v : Nat → Int32) (P : Nat) (T : Nat → Nat) (a : Int32) (t q : Nat) : Prop := q < P ∧ blwI v q a ≠ 0 ∧ T q = t
theorem dn_fc {a : Int32} {t q0 : Nat} (h : CoreR b mb I I' P C D) (hch : ∀ j, j < P → I (b + 74) j = nI (T j)) (h77 : ∀ j, j < P → T j ≤ 7) (ht : t ≤ 7) (ha : AtP P a) (hq : IsB (I' (mb + 10)) P T a t q0) (hm : ∀ j, j < q0 → ¬ IsB (I' (mb + 10)) P T a t j) : ∀ r k n, k + r = q0 → r < n → f11_firstBelow_L2 N b S Rf a (nI t) n (nI k) I J = some (Sum.inl (nI q0), I, J) := by
  have h7 := co_P7 h
  obtain ⟨q1, q2, q3⟩ := hq
  intro r
  induction r with
  | zero =>
    intro k n hk hn
    obtain ⟨n, rfl⟩ : ∃ q, n = q + 1 := ⟨n - 1, by omega⟩
    obtain rfl : k = q0 := by omega
    rw [f11_firstBelow_L2, co_P h, if_neg (nI_ge (by omega) (by omega)), yb_ck_t (inb_nI (by omega) (by decide)), nI_clamp (by omega), hch k q1, q3, if_pos rfl, dn_below h q1 ha, b3s, if_neg q2]
  | succ r ih =>
    intro k n hk hn
    obtain ⟨n, rfl⟩ : ∃ q, n = q + 1 := ⟨n - 1, by omega⟩
    have hkP : k < P := by omega
    have hk7 := h77 k hkP
    have hi := ih (k + 1) n (by omega) (by omega)
    rw [f11_firstBelow_L2, co_P h, if_neg (nI_ge (by omega) (by omega)), yb_ck_t (inb_nI (by omega) (by decide)), nI_clamp (by omega), hch k hkP]
    by_cases c1 : T k = t
    · have hz : blwI (I' (mb + 10)) k a = 0 := Classical.byContradiction fun z => hm k (by omega) ⟨hkP, z, c1⟩
      rw [c1, if_pos rfl, dn_below h hkP ha, b3s, if_pos hz, lts, nI_1]
      exact hi
    · rw [if_neg (fun e => c1 ((nI_eq (by omega) (by omega)).mp e)), lts, nI_1]
      exact hi
theorem dn_fr {a x2 x4 x5 : Int32} {t q0 : Nat} (hN : 1000 ≤ N) (h : CoreR b mb I I' P C D) (hc : c < C) (hch : ∀ j, j < P → I' (mb + 21) j = nI (T j)) (h77 : ∀ j, j < P → T j ≤ 7) (ht : t ≤ 7) (ht1 : 1 ≤ t) (hT : Tow P (fun j => canH (I' (mb + 10)) c j (nI D)) (yngS (I' (mb + 10))) rk T) (ha : AtP P a) (hx : x4 - x5 = nI t) (hq : IsB (I' (mb + 10)) P T a t q0) (hm : ∀ j, j < q0 → ¬ IsB (I' (mb + 10)) P T a t j) : ∀ r k n, k + r = q0 → r < n → f12_down_L118 N mb (nI c) x2 a x4 x5 n (nI k) I' J' = some (nI q0, I', J') := by
  have h7 := co_P7 h
  obtain ⟨q1, q2, q3⟩ := hq
  intro r
  induction r with
  | zero =>
    intro k n hk hn
    obtain ⟨n, rfl⟩ : ∃ q, n = q + 1 := ⟨n - 1, by omega⟩
    obtain rfl : k = q0 := by omega
    have hcn : ¬ canH (I' (mb + 10)) c k (nI D) = 0 := fun z => by
      have := hT.2.2.2 k q1
      rw [if_pos z] at this
      omega
    rw [f12_down_L118, dn_next hN h hc q1 ha, b3s, if_neg hcn, if_neg q2, yb_ck_t (inb_nI (by omega) (by decide)), nI_clamp (by omega), hch k q1, q3, hx, if_pos rfl]
  | succ r ih =>
    intro k n hk hn
    obtain ⟨n, rfl⟩ : ∃ q, n = q + 1 := ⟨n - 1, by omega⟩
    have hkP : k < P := by omega
    have hk7 := h77 k hkP
    have hi := ih (k + 1) n (by omega) (by omega)
    rw [f12_down_L118, dn_next hN h hc hkP ha, b3s]
    by_cases z : (if canH (I' (mb + 10)) c k (nI D) = 0 then 0 else blwI (I' (mb + 10)) k a) = 0
    · rw [if_pos z, lts, nI_1]
      exact hi
    · have hb : blwI (I' (mb + 10)) k a ≠ 0 := fun e => z (by rw [e]; split <;> rfl)
      have c1 : ¬ T k = t := fun e => hm k (by omega) ⟨hkP, hb, e⟩
      rw [if_neg z, yb_ck_t (inb_nI (by omega) (by decide)), nI_clamp (by omega), hch k hkP, hx, if_neg (fun e => c1 ((nI_eq (by omega) (by omega)).mp e)), lts, nI_1]
      exact hi
theorem dn_walk {w lg : Nat} (hN : 1000 ≤ N) (h : CoreR b mb I I' P C D) (hc : c < C) (hC : ∀ j, j < P → I (b + 74) j = nI (T j)) (hch : ∀ j, j < P → I' (mb + 21) j = nI (T j)) (hT : Tow P (fun j => canH (I' (mb + 10)) c j (nI D)) (yngS (I' (mb + 10))) rk T) (hw : w ≤ lg) (hlg : lg ≤ 7) : ∀ r k n n' a, k + r = w → r < n → r < n' → AtP P a → (k < w → ∃ q, IsB (I' (mb + 10)) P T a (lg - k) q) → ∃ z, f11_down_L73 N b S Rf (nI w) (nI lg) n a (nI (k + 1)) I J = some (z, I, J) ∧ f12_down_L109 N mb (nI c) (nI w) (nI lg) n' a (nI k) I' J' = some (z, I', J') := by
  have h7 := co_P7 h
  have h77 := hT.le7 h7
  intro r
  induction r with
  | zero =>
    intro k n n' a hk hn hn' ha hx
    obtain ⟨n, rfl⟩ : ∃ q, n = q + 1 := ⟨n - 1, by omega⟩
    obtain ⟨n', rfl⟩ : ∃ q, n' = q + 1 := ⟨n' - 1, by omega⟩
    rw [f11_down_L73, f12_down_L109, if_pos (nI_lt (by omega) (by omega)), if_pos (nI_le (by omega) (by omega))]
    exact ⟨_, rfl, rfl⟩
  | succ r ih =>
    intro k n n' a hk hn hn' ha hx
    obtain ⟨n, rfl⟩ : ∃ q, n = q + 1 := ⟨n - 1, by omega⟩
    obtain ⟨n', rfl⟩ : ∃ q, n' = q + 1 := ⟨n' - 1, by omega⟩
    obtain ⟨q0, hq, hm⟩ := pk_least (IsB (I' (mb + 10)) P T a (lg - k)) (hx (by omega))
    have hq1 := hq.1
    have e1 : nI lg - nI (k + 1) + 1 = nI (lg - k) := by rw [pk_sub (by omega), nI_1]; congr 1; omega
    have e2 : nI lg - nI k = nI (lg - k) := pk_sub (by omega)
    have f1 := dn_fc (N := N) (S := S) (Rf := Rf) (J := J) h hC h77 (show lg - k ≤ 7 by omega) ha hq hm q0 0 N (by omega) (by omega)
    have f2 := dn_fr (N := N) (J' := J') (x2 := nI w) (x4 := nI lg) (x5 := nI k) hN h hc hch h77 (show lg - k ≤ 7 by omega) (by omega) hT ha e2 hq hm q0 0 N (by omega) (by omega)
    rw [show nI 0 = (0 : Int32) from rfl] at f1 f2
    rw [f11_down_L73, f12_down_L109, if_neg (nI_nlt (by omega) (by omega)), if_neg (nI_ge (by omega) (by omega)), e1]
    unfold f11_firstBelow
    rw [f1, b3s, sml, b3s, f2, b3s, lts, lts, nI_1, nI_1]
    refine ih (k + 1) n n' (nI q0) (by omega) (by omega) (by omega) (Or.inr ⟨q0, hq1, rfl⟩) (fun hkw => ?_)
    have hTq := hT.2.2.2 q0 hq1
    by_cases z : canH (I' (mb + 10)) c q0 (nI D) = 0
    · rw [if_pos z] at hTq
      have := hq.2.2
      omega
    · rw [if_neg z] at hTq
      have hq3 := hq.2.2
      obtain ⟨j, hj, ej⟩ := supN_at (f := fun q => if yngS (I' (mb + 10)) q q0 = 0 then 0 else T q) (k := P) (by omega)
      by_cases y : yngS (I' (mb + 10)) j q0 = 0
      · simp only [y, if_true] at ej
        omega
      · simp only [if_neg y] at ej
        refine ⟨j, hj, by rw [blwI_n (by omega)]; exact y, ?_⟩
        omega
end DOWNW
theorem G_down {N : Nat} (hN : 1000 ≤ N) : Gd_down N RelY := by
  intro b mb L S Rf I J I' J' x1 x2 hR
  obtain ⟨P, C, D, M, K, Rl, h⟩ := hR
  have hc := h.core
  have h7 := co_P7 hc
  have h6 := co_C6 hc
  have hh : ∀ r, ∃ (r_1 : Int32) (I1 : IT) (J1 : JT) (I1' : IT) (J1' : JT), some (r, I, J) = some (r_1, I1, J1) ∧ some (r, I', J') = some (r_1, I1', J1') ∧ RelY b mb L S Rf I1 J1 I1' J1' := fun r => ⟨r, I, J, I', J', rfl, rfl, P, C, D, M, K, Rl, h⟩
  unfold f11_down f12_down
  rcases co_isCase (J := J) (J' := J') (S := S) (Rf := Rf) hc x1 with ⟨a1, a2⟩ | ⟨c, hcC, rfl, a1, a2⟩
  · rw [a1, a2, b3s, b3s, if_pos rfl, if_pos rfl]; exact hh _
  · rw [a1, a2, b3s, b3s, if_neg i10, if_neg i10, l_inc (a := 0) (c := 7) 0 7 rfl rfl, b3s]
    by_cases hk : ∃ k, k ≤ 7 ∧ x2 = nI k
    · obtain ⟨w, hk, rfl⟩ := hk
      obtain ⟨rk, T, hT⟩ := tow_ex hc (fun j => canH (I' (mb + 10)) c j (nI D))
      obtain ⟨A, u1, u2, u3⟩ := dn_cls (N := N) (S := S) (Rf := Rf) (J := J) hN hc hcC hT
      obtain ⟨A', w1, w2, w3⟩ := dn_ref (N := N) (J' := J') hN hc hcC hT
      have hs : Same b I A := fun q hq => u2 q (by omega)
      have hm : SameM mb I' A' := ⟨⟨by rw [w2 _ (by omega)], by rw [w2 _ (by omega)], by rw [w2 _ (by omega)], by rw [w2 _ (by omega)], by rw [w2 _ (by omega)]⟩, fun k hk => w2 _ (by omega)⟩
      have h2 := h.keep hs hm
      have h2c := h2.core
      have ev : A' (mb + 10) = I' (mb + 10) := hm.v
      have h77 := hT.le7 h7
      have ha : AtP P (A' (mb + 10) (51 + 11 * c)) := by
        rcases (h2c.1.2.2.2.2.2.2.1 c hcC).2 with ⟨q, _⟩ | ⟨j, t, q, hj, _⟩
        · exact Or.inl (by rw [q]; decide)
        · exact Or.inr ⟨j, hj, q⟩
      rw [rngY (hi := 7) 7 rfl (by omega) hk, if_neg i10, if_neg (nI_pos (by omega)), if_pos (show nI w ≤ (7 : Int32) from nI_le (b := 7) hk (by omega)), u1, w1, b3s, b3s, yb_ck_t (inb_nI (by omega) (by decide)), nI_clamp (show c < 2 ^ 31 by omega), co_ruler h2c hcC, lts, k12_c6 (by omega), b3s]
      rw [← ev] at hT
      have g1 := dn_longest (N := N) (S := S) (Rf := Rf) (J := J) hN h2c u3 h77 ha
      have g2 := dn_mx (N := N) (J' := J') (x2 := nI w) hN h2c hcC w3 h77 ha P 0 N (by omega) (by omega)
      rw [show nI 0 = (0 : Int32) from rfl, show nI (supN (fun q => if (if canH (A' (mb + 10)) c q (nI D) = 0 then 0 else blwI (A' (mb + 10)) q (A' (mb + 10) (51 + 11 * c))) = 0 then 0 else T q) 0) = (0 : Int32) from rfl] at g2
      have eL : supN (fun q => if (if canH (A' (mb + 10)) c q (nI D) = 0 then 0 else blwI (A' (mb + 10)) q (A' (mb + 10) (51 + 11 * c))) = 0 then 0 else T q) P = supN (fun q => if blwI (A' (mb + 10)) q (A' (mb + 10) (51 + 11 * c)) = 0 then 0 else T q) P := supN_congr fun q hq => by
        by_cases z : canH (A' (mb + 10)) c q (nI D) = 0
        · have := hT.2.2.2 q hq
          rw [if_pos z] at this
          rw [if_pos z, if_pos rfl, this]
          split <;> rfl
        · rw [if_neg z]
      rw [eL] at g2
      rw [g1, g2, b3s, b3s]
      have hlg : supN (fun q => if blwI (A' (mb + 10)) q (A' (mb + 10) (51 + 11 * c)) = 0 then 0 else T q) P ≤ 7 := supN_le fun q hq => by
        show (if blwI (A' (mb + 10)) q (A' (mb + 10) (51 + 11 * c)) = 0 then 0 else T q) ≤ 7
        split
        · omega
        · exact h77 q hq
      by_cases c0 : w = 0
      · subst c0
        rw [if_pos (show nI 0 = 0 from rfl), if_pos (show nI 0 = 0 from rfl)]
        exact ⟨_, _, _, _, _, rfl, rfl, P, C, D, M, K, Rl, h2⟩
      · rw [if_neg (nI_ne0 (by omega) (by omega)), if_neg (nI_ne0 (by omega) (by omega))]
        by_cases c1 : w ≤ supN (fun q => if blwI (A' (mb + 10)) q (A' (mb + 10) (51 + 11 * c)) = 0 then 0 else T q) P
        · obtain ⟨z, z1, z2⟩ := dn_walk (N := N) (S := S) (Rf := Rf) (J := J) (J' := J') hN h2c hcC u3 w3 hT c1 hlg w 0 N N (A' (mb + 10) (51 + 11 * c)) (by omega) (by omega) (by omega) ha (fun _ => by
            obtain ⟨j, hj, ej⟩ := supN_at (f := fun q => if blwI (A' (mb + 10)) q (A' (mb + 10) (51 + 11 * c)) = 0 then 0 else T q) (k := P) (by omega)
            by_cases y : blwI (A' (mb + 10)) j (A' (mb + 10) (51 + 11 * c)) = 0
            · simp only [y, if_true] at ej
              omega
            · simp only [if_neg y] at ej
              exact ⟨j, hj, y, by rw [ej, Nat.sub_zero]⟩)
          rw [show nI (0 + 1) = (1 : Int32) from rfl] at z1
          rw [show nI 0 = (0 : Int32) from rfl] at z2
          rw [if_pos (nI_le c1 (by omega)), if_pos (nI_le c1 (by omega)), z1, z2, b3s, b3s]
          exact ⟨_, _, _, _, _, rfl, rfl, P, C, D, M, K, Rl, h2⟩
        · rw [if_neg (nI_ge (by omega) (by omega)), if_neg (nI_ge (by omega) (by omega))]
          exact ⟨_, _, _, _, _, rfl, rfl, P, C, D, M, K, Rl, h2⟩
    · have hn : ∀ d, d ≤ 7 → x2 ≠ nI d := fun d hd e => hk ⟨d, hd, e⟩
      rw [rngN (hi := 7) 7 rfl hn, if_pos rfl]
      by_cases c0 : x2 < 0
      · rw [if_pos c0]; exact hh _
      · rw [if_neg c0, if_neg (fun q => by obtain ⟨d, hd, e⟩ := nI_of2 (M := 7) (n := 7) rfl c0 q; exact hn d hd e)]; exact hh _
