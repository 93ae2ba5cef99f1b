/-! CLEMENT, COMMIT, ABOVE -/
theorem SameM.v {mb : Nat} {I I1 : IT} (h : SameM mb I I1) : I1 (mb + 10) = I (mb + 10) := h.2 10 (by decide)
theorem SameM.fo {mb : Nat} {I I1 : IT} (h : SameM mb I I1) : I1 mb 21 = I mb 21 := h.1.2.2.1
def rgtN (v : Nat → Int32) (fo : Int32) (Rl : Nat → List (List Tk × Option (List Tk))) (c j : Nat) : Int32 := rgtC v fo Rl c j (v 4) (v (14 + 5 * j)) (v (54 + 11 * c))
def Bst (P : Nat) (R : Nat → Int32) (fl lo hi x4 x5 : Int32) : Prop := (lo = -2 ∧ hi = -2 ∧ x4 = -2 ∧ x5 = -2) ∨ ∃ l g : Nat, l < P ∧ g < P ∧ lo = nI l ∧ hi = nI g ∧ ((fl = 1 ∧ x4 = nI l ∧ x5 = R l) ∨ (fl = 0 ∧ x4 = nI g ∧ x5 = R g))
theorem rel12_of {N b mb P C D M K c j : Nat} {L : List Nat} {S : ST} {Rf : RT} {I I' : IT} {J' : JT} {Rl : Nat → List (List Tk × Option (List Tk))} (hN : 1000 ≤ N) (h : RelB b mb L S Rf I I' P C D M K Rl) (hc : c < C) (hj : j < P) : ∃ I1' J1', f12_rightOf N mb (nI c) (nI j) (I' (mb + 10) 4) I' J' = some (rgtN (I' (mb + 10)) (I' mb 21) Rl c j, I1', J1') ∧ SameM mb I' I1' ∧ RelB b mb L S Rf I I1' P C D M K Rl := by
  obtain ⟨I1', J1', s1, s2, s3⟩ := q12_rightOf (J' := J') hN h.core h.rules rfl h.fo (d := I' (mb + 10) 4) hc hj
  exact ⟨I1', J1', s1, SameM.top s2, h.keep (Same.rf _ _) (SameM.top s2)⟩
theorem clem_L {N b mb P C D M K c : Nat} {L : List Nat} {S : ST} {Rf : RT} {I : IT} {Rl : Nat → List (List Tk × Option (List Tk))} {v : Nat → Int32} {fo fl y : Int32} (hN : 1000 ≤ N) (hc : c < C) (hfl : fl = 0 ∨ fl = 1) : ∀ r k n n' lo hi x4 x5 (I' : IT) (J J' : JT), RelB b mb L S Rf I I' P C D M K Rl → I' (mb + 10) = v → I' mb 21 = fo → k + r = P → r < n → r < n' → Bst P (rgtN v fo Rl c) fl lo hi x4 x5 →
    ∃ lo' hi' x4' x5' J1 I2' J2', f11_clement_L47 N b S Rf (nI c) y fl n x4 x5 (nI k) I J = some ((x4', x5'), I, J1) ∧ f12_clement_L32 N mb (nI c) y n' lo hi (nI k) I' J' = some ((lo', hi'), I2', J2') ∧ Bst P (rgtN v fo Rl c) fl lo' hi' x4' x5' ∧ SameM mb I' I2' := by
  intro r
  induction r with
  | zero =>
    intro k n n' lo hi x4 x5 I' J J' h ev ef hk hn hn' hB
    have h7 := co_P7 h.core
    obtain ⟨n, rfl⟩ : ∃ q, n = q + 1 := ⟨n - 1, by omega⟩
    obtain ⟨n', rfl⟩ : ∃ q, n' = q + 1 := ⟨n' - 1, by omega⟩
    rw [f11_clement_L47, f12_clement_L32, co_P h.core, cv_P h.core, if_pos (nI_le (by omega) (by omega)), if_pos (nI_le (by omega) (by omega))]
    exact ⟨_, _, _, _, _, _, _, rfl, rfl, hB, SameM.rf _ _⟩
  | succ r ih =>
    intro k n n' lo hi x4 x5 I' J J' h ev ef hk hn hn' hB
    have h7 := co_P7 h.core
    have h12 := co_D12 h.core
    have hkP : k < P := by omega
    obtain ⟨n, rfl⟩ : ∃ q, n = q + 1 := ⟨n - 1, by omega⟩
    obtain ⟨n', rfl⟩ : ∃ q, n' = q + 1 := ⟨n' - 1, by omega⟩
    rw [f11_clement_L47, f12_clement_L32, co_P h.core, cv_P h.core, if_neg (nI_ge (by omega) (by omega)), if_neg (nI_ge (by omega) (by omega)), co_D h.core, cv_D h.core, q1_canHear h.core hc hkP, q12_canHear (by omega) h.core hc hkP (by omega), b3s, b3s]
    rcases canH01 (I' (mb + 10)) c k (nI D) with q | q
    · rw [q, if_pos rfl, if_pos rfl, lts, lts, nI_1]
      exact ih (k + 1) n n' lo hi x4 x5 I' J J' h ev ef (by omega) (by omega) (by omega) hB
    · obtain ⟨J1, r1⟩ := q1_rightNow (J := J) hN h.core h.rules h.f6 h.fo hc hkP
      obtain ⟨I2', J2', s1, s2, h2⟩ := rel12_of (J' := J') hN h hc hkP
      rw [q, if_neg i10, if_neg i10, r1, s1, b3s, b3s]
      have eR : rgtC (I' (mb + 10)) (I' mb 21) Rl c k (I' (mb + 10) 4) (I' (mb + 10) (14 + 5 * k)) (I' (mb + 10) (54 + 11 * c)) = rgtN v fo Rl c k := by rw [ev, ef]; rfl
      have eR2 : rgtN (I' (mb + 10)) (I' mb 21) Rl c k = rgtN v fo Rl c k := by rw [ev, ef]
      rw [eR, eR2]
      have ev2 : I2' (mb + 10) = v := s2.v.trans ev
      have ef2 : I2' mb 21 = fo := s2.fo.trans ef
      have eD2 : I2' (mb + 10) 4 = nI D := cv_D h2.core
      have go : ∀ lo hi x4 x5 (I3' : IT) (J3' : JT), RelB b mb L S Rf I I3' P C D M K Rl → SameM mb I' I3' → Bst P (rgtN v fo Rl c) fl lo hi x4 x5 → ∃ lo' hi' x4' x5' J1' I2' J2', f11_clement_L47 N b S Rf (nI c) y fl n x4 x5 (nI k + 1) I J1 = some ((x4', x5'), I, J1') ∧ f12_clement_L32 N mb (nI c) y n' lo hi (nI k + 1) I3' J3' = some ((lo', hi'), I2', J2') ∧ Bst P (rgtN v fo Rl c) fl lo' hi' x4' x5' ∧ SameM mb I' I2' := by
        intro lo hi x4 x5 I3' J3' h3 m3 hB3
        rw [nI_1]
        obtain ⟨a1, a2, a3, a4, a5, a6, a7, b1, b2, b3, b4⟩ := ih (k + 1) n n' lo hi x4 x5 I3' J1 J3' h3 (m3.v.trans ev) (m3.fo.trans ef) (by omega) (by omega) (by omega) hB3
        exact ⟨a1, a2, a3, a4, a5, a6, a7, b1, b2, b3, m3.tr b4⟩
      rcases hB with ⟨rfl, rfl, rfl, rfl⟩ | ⟨l, g, hl, hg, rfl, rfl, hx⟩
      · rw [if_pos (show (-2 : Int32) < 0 by decide), if_pos (show (-2 : Int32) < 0 by decide), if_pos (show (-2 : Int32) < 0 by decide), lts, lts]
        refine go _ _ _ _ _ _ h2 s2 (Or.inr ⟨k, k, hkP, hkP, rfl, rfl, ?_⟩)
        rcases hfl with e | e
        · exact Or.inr ⟨e, rfl, rfl⟩
        · exact Or.inl ⟨e, rfl, rfl⟩
      · obtain ⟨I3', J3', t1, t2, h3⟩ := rel12_of (J' := J2') hN h2 hc hl
        obtain ⟨I4', J4', u1, u2, h4⟩ := rel12_of (J' := J3') hN h3 hc hg
        have eD3 : I3' (mb + 10) 4 = nI D := cv_D h3.core
        have e3 : rgtN (I2' (mb + 10)) (I2' mb 21) Rl c l = rgtN v fo Rl c l := by rw [ev2, ef2]
        have e4 : rgtN (I3' (mb + 10)) (I3' mb 21) Rl c g = rgtN v fo Rl c g := by rw [t2.v, t2.fo, ev2, ef2]
        have m4 : SameM mb I' I4' := (s2.tr t2).tr u2
        rw [if_neg (nI_pos (n := l) (by omega)), t1, b3s, e3]
        rcases hx with ⟨rfl, rfl, rfl⟩ | ⟨rfl, rfl, rfl⟩
        · rw [if_neg (nI_pos (n := l) (by omega)), if_neg i10]
          by_cases c1 : rgtN v fo Rl c l ≤ rgtN v fo Rl c k
          · rw [if_pos c1, if_pos c1, if_neg (nI_pos (n := g) (by omega)), u1, b3s, e4, lts]
            by_cases c2 : rgtN v fo Rl c k ≤ rgtN v fo Rl c g
            · rw [if_pos c2, lts]
              exact go _ _ _ _ _ _ h4 m4 (Or.inr ⟨l, g, hl, hg, rfl, rfl, Or.inl ⟨rfl, rfl, rfl⟩⟩)
            · rw [if_neg c2, lts]
              exact go _ _ _ _ _ _ h4 m4 (Or.inr ⟨l, k, hl, hkP, rfl, rfl, Or.inl ⟨rfl, rfl, rfl⟩⟩)
          · rw [if_neg c1, if_neg c1, if_neg (nI_pos (n := g) (by omega)), u1, b3s, e4, lts]
            by_cases c2 : rgtN v fo Rl c k ≤ rgtN v fo Rl c g
            · rw [if_pos c2, lts]
              exact go _ _ _ _ _ _ h4 m4 (Or.inr ⟨k, g, hkP, hg, rfl, rfl, Or.inl ⟨rfl, rfl, rfl⟩⟩)
            · rw [if_neg c2, lts]
              exact go _ _ _ _ _ _ h4 m4 (Or.inr ⟨k, k, hkP, hkP, rfl, rfl, Or.inl ⟨rfl, rfl, rfl⟩⟩)
        · rw [if_neg (nI_pos (n := g) (by omega)), if_pos rfl]
          by_cases c1 : rgtN v fo Rl c l ≤ rgtN v fo Rl c k
          · rw [if_pos c1, if_neg (nI_pos (n := g) (by omega)), u1, b3s, e4]
            by_cases c2 : rgtN v fo Rl c k ≤ rgtN v fo Rl c g
            · rw [if_pos c2, if_pos c2, lts, lts]
              exact go _ _ _ _ _ _ h4 m4 (Or.inr ⟨l, g, hl, hg, rfl, rfl, Or.inr ⟨rfl, rfl, rfl⟩⟩)
            · rw [if_neg c2, if_neg c2, lts, lts]
              exact go _ _ _ _ _ _ h4 m4 (Or.inr ⟨l, k, hl, hkP, rfl, rfl, Or.inr ⟨rfl, rfl, rfl⟩⟩)
          · rw [if_neg c1, if_neg (nI_pos (n := g) (by omega)), u1, b3s, e4]
            by_cases c2 : rgtN v fo Rl c k ≤ rgtN v fo Rl c g
            · rw [if_pos c2, if_pos c2, lts, lts]
              exact go _ _ _ _ _ _ h4 m4 (Or.inr ⟨k, g, hkP, hg, rfl, rfl, Or.inr ⟨rfl, rfl, rfl⟩⟩)
            · rw [if_neg c2, if_neg c2, lts, lts]
              exact go _ _ _ _ _ _ h4 m4 (Or.inr ⟨k, k, hkP, hkP, rfl, rfl, Or.inr ⟨rfl, rfl, rfl⟩⟩)
theorem G_clement {N : Nat} (hN : 1000 ≤ N) : Gd_clement N RelY := by
  intro b mb L S Rf I J I' J' x1 x2 hR
  obtain ⟨P, C, D, M, K, Rl, h⟩ := hR
  have hc := h.core
  have hh : ∀ r, ∃ (r_1 : Int32) (I1 : IT) (J1 : JT) (I1' : IT) (J1' : JT), some (r, I, J) = some (r_1, I1, J1) ∧ some (r, I', J') = some (r_1, I1', J1') ∧ RelY b mb L S Rf I1 J1 I1' J1' := fun r => ⟨r, I, J, I', J', rfl, rfl, P, C, D, M, K, Rl, h⟩
  unfold f11_clement f12_clement
  rcases co_isCase (J := J) (J' := J') (S := S) (Rf := Rf) hc x1 with ⟨a1, a2⟩ | ⟨c, hcC, rfl, a1, a2⟩
  · rw [a1, a2, b3s, b3s, if_pos rfl, if_pos rfl]; exact hh _
  · have h7 := co_P7 hc
    rw [a1, a2, b3s, b3s, if_neg i10, if_neg i10, l_inc (a := 0) (c := 3) 0 3 rfl rfl, b3s]
    by_cases hk : ∃ k, k ≤ 3 ∧ x2 = nI k
    · obtain ⟨k, hk, rfl⟩ := hk
      rw [rngY (hi := 3) 3 rfl (by omega) hk, if_neg i10, if_neg (nI_pos (by omega)), if_pos (show nI k ≤ (3 : Int32) from nI_le (b := 3) hk (by omega))]
      have run : ∀ fl : Int32, (fl = 0 ∨ fl = 1) → ∃ lo' hi' x4' x5' J1 I2' J2', f11_clement_L47 N b S Rf (nI c) (nI k) fl N (-2) (-2) 0 I J = some ((x4', x5'), I, J1) ∧ f12_clement_L32 N mb (nI c) (nI k) N (-2) (-2) 0 I' J' = some ((lo', hi'), I2', J2') ∧ Bst P (rgtN (I' (mb + 10)) (I' mb 21) Rl c) fl lo' hi' x4' x5' ∧ SameM mb I' I2' :=
        fun fl hfl => clem_L (y := nI k) hN hcC hfl P 0 N N (-2) (-2) (-2) (-2) I' J J' h rfl rfl (by omega) (by omega) (by omega) (Or.inl ⟨rfl, rfl, rfl, rfl⟩)
      by_cases k2 : 2 ≤ k
      · obtain ⟨lo, hi, x4, x5, J1, I2', J2', r1, r2, r3, r4⟩ := run 0 (Or.inl rfl)
        have h2 := h.keep (Same.rf b I) r4
        rw [if_pos (show (2 : Int32) ≤ nI k from nI_le (a := 2) k2 (by omega)), r1, r2, b3s, b3s]
        rcases r3 with ⟨rfl, rfl, rfl, rfl⟩ | ⟨l, g, hl, hg, rfl, rfl, ⟨e, _⟩ | ⟨_, rfl, rfl⟩⟩
        · rw [if_pos (show (-2 : Int32) < 0 by decide)]
          by_cases z : nI k &&& 1 = 0
          · rw [if_pos z]; exact ⟨_, _, _, _, _, rfl, rfl, P, C, D, M, K, Rl, h2⟩
          · rw [if_neg z]; exact ⟨_, _, _, _, _, rfl, rfl, P, C, D, M, K, Rl, h2⟩
        · cases e
        · rw [if_neg (nI_pos (n := l) (by omega)), if_neg (show ¬ nI k = 0 from nI_ne0 (by omega) (by omega)), if_neg (show ¬ nI k = (1 : Int32) from nI_nl 1 rfl (by omega) (by omega) (by omega))]
          obtain rfl | rfl : k = 2 ∨ k = 3 := by omega
          · rw [if_pos (show nI 2 &&& 1 = 0 by decide), if_pos (show nI 2 = 2 from rfl)]
            exact ⟨_, _, _, _, _, rfl, rfl, P, C, D, M, K, Rl, h2⟩
          · obtain ⟨I3', J3', t1, t2, h3⟩ := rel12_of (J' := J2') hN h2 hcC hg
            rw [if_neg (show ¬ nI 3 &&& 1 = 0 by decide), if_neg (show ¬ nI 3 = 2 by decide), t1, b3s, r4.v, r4.fo]
            exact ⟨_, _, _, _, _, rfl, rfl, P, C, D, M, K, Rl, h3⟩
      · obtain ⟨lo, hi, x4, x5, J1, I2', J2', r1, r2, r3, r4⟩ := run 1 (Or.inr rfl)
        have h2 := h.keep (Same.rf b I) r4
        rw [if_neg (show ¬ (2 : Int32) ≤ nI k from nI_ge (b := 2) (by omega) (by omega)), r1, r2, b3s, b3s]
        rcases r3 with ⟨rfl, rfl, rfl, rfl⟩ | ⟨l, g, hl, hg, rfl, rfl, ⟨_, rfl, rfl⟩ | ⟨e, _⟩⟩
        · rw [if_pos (show (-2 : Int32) < 0 by decide)]
          by_cases z : nI k &&& 1 = 0
          · rw [if_pos z]; exact ⟨_, _, _, _, _, rfl, rfl, P, C, D, M, K, Rl, h2⟩
          · rw [if_neg z]; exact ⟨_, _, _, _, _, rfl, rfl, P, C, D, M, K, Rl, h2⟩
        · rw [if_neg (nI_pos (n := l) (by omega))]
          obtain rfl | rfl : k = 0 ∨ k = 1 := by omega
          · rw [if_pos (show nI 0 &&& 1 = 0 by decide), if_pos (show nI 0 = 0 from rfl)]
            exact ⟨_, _, _, _, _, rfl, rfl, P, C, D, M, K, Rl, h2⟩
          · obtain ⟨I3', J3', t1, t2, h3⟩ := rel12_of (J' := J2') hN h2 hcC hl
            rw [if_neg (show ¬ nI 1 &&& 1 = 0 by decide), if_neg (show ¬ nI 1 = 0 by decide), if_pos (show nI 1 = 1 from rfl), t1, b3s, r4.v, r4.fo]
            exact ⟨_, _, _, _, _, rfl, rfl, P, C, D, M, K, Rl, h3⟩
        · cases e
    · have hn : ∀ d, d ≤ 3 → x2 ≠ nI d := fun d hd e => hk ⟨d, hd, e⟩
      rw [rngN (hi := 3) 3 rfl hn, if_pos rfl]
      by_cases c0 : x2 < 0
      · rw [if_pos c0]; exact hh _
      · rw [if_neg c0, if_neg (fun q => by obtain ⟨d, hd, e⟩ := nI_of2 (M := 3) (n := 3) rfl c0 q; exact hn d hd e)]; exact hh _
