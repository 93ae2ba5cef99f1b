theorem fc_clsW {N b mb P C D M K : Nat} {L : List Nat} {S : ST} {Rf : RT} {I I' : IT} {J : JT} {Rl : Nat → List (List Tk × Option (List Tk))} (hN : 1000 ≤ N) (h : RelB b mb L S Rf I I' P C D M K Rl) {c a y d r : Int32} : f8_factsAllow N b S Rf (b + 4) c a y d r I J = some (fcS (I' (mb + 10)) c a y d r M 0, I, J) := by
  have hM : M ≤ 10 := h.2.2.2.2.1.2.1.2.1
  obtain ⟨q, e1, e2⟩ := fc_cls (N := N) (J := J) h (c := c) (a := a) (y := y) (d := d) (r := r) M 0 N (by omega) (by omega)
  unfold f8_factsAllow
  rw [show (0 : Int32) = nI 0 from rfl, e1, b3s, ← e2]
  cases q <;> rfl
theorem fc_refW {N b mb P C D M K c j : Nat} {L : List Nat} {S : ST} {Rf : RT} {I I' : IT} {J' : JT} {Rl : Nat → List (List Tk × Option (List Tk))} {d : Int32} (hN : 1000 ≤ N) (h : RelB b mb L S Rf I I' P C D M K Rl) (hc : c < C) (hj : j < P) : ∃ I1' J1', f12_areFactsSo N mb (nI c) (nI j) d I' J' = some (fcS (I' (mb + 10)) (nI c) (I' (mb + 10) (10 + 5 * j) + d) (I' (mb + 10) (11 + 5 * j)) d (rgtC (I' (mb + 10)) (I' mb 21) Rl c j d 0 0) M 0, I1', J1') ∧ ∀ q k, (q ≠ mb ∨ k ≠ 18) → I1' q k = I' q k := by
  have hM : M ≤ 10 := h.2.2.2.2.1.2.1.2.1
  obtain ⟨q, A, B, e1, e2, e3⟩ := fc_ref (N := N) hN hc hj (d := d) h rfl rfl M 0 N I' J' (fun _ _ _ => rfl) (by omega) (by omega)
  unfold f12_areFactsSo
  rw [show (0 : Int32) = nI 0 from rfl, e1, b3s]
  rw [show nI 0 = (0 : Int32) from rfl, ← e2]
  cases q <;> exact ⟨_, _, rfl, e3⟩
theorem sv_weigh {N b mb P C D M K c j d a g n0 : Nat} {L : List Nat} {S : ST} {Rf : RT} {I I' : IT} {J : JT} {Rl : Nat → List (List Tk × Option (List Tk))} (hN : 1000 ≤ N) (h : RelB b mb L S Rf I I' P C D M K Rl) (hj : j < P) (hd : d < 61) (ea : I' (mb + 10) (45 + 11 * c) = nI a) (eg : I' (mb + 10) (46 + 11 * c) = nI g) (en : I' (mb + 10) (47 + 11 * c) = nI n0) (ha : a < P) (hg : g < 10) (hC : ChR J b a (nI g) (nI n0) 0) {l : List Hit} (hv : SvC b l I) (hl : l.length < 427) :
    ∃ r I1 J1, r < 101 ∧ rgtC (I' (mb + 10)) (I' mb 21) Rl c j (nI d) 0 0 = nI r ∧ f7_weigh N b S Rf (nI c) (nI j) (nI d) I J = some ((), I1, J1) ∧ ChR J1 b a (nI g) (nI n0) 0 ∧ (∀ q, (q < b + 48 ∨ b + 51 < q) → I1 q = I q) ∧ (fcS (I' (mb + 10)) (nI c) (I' (mb + 10) (10 + 5 * j) + nI d) (I' (mb + 10) (11 + 5 * j)) (nI d) (nI r) M 0 = 0 → I1 = I) ∧ (fcS (I' (mb + 10)) (nI c) (I' (mb + 10) (10 + 5 * j) + nI d) (I' (mb + 10) (11 + 5 * j)) (nI d) (nI r) M 0 = 1 → SvC b (l ++ [(j, d, r)]) I1) := by
  have h7 := co_P7 h.core
  obtain ⟨J1, r1, r2, r3⟩ := q1_rightOf (J := J) hN h.core h.rules h.f6 h.fo (d := nI d) (ru := 0) hj ha hg hC
  obtain ⟨r, hr, ew⟩ := rgtV_100 (I' (mb + 10)) (I' mb 21) Rl j a (nI g) (nI n0) (nI d) 0 0
  have er : rgtC (I' (mb + 10)) (I' mb 21) Rl c j (nI d) 0 0 = nI r := by
    unfold rgtC
    rw [ea, eg, en, nI_clamp (by omega), ew]
  rw [ew] at r1
  have hq := fc_clsW (N := N) (J := J1) hN h (c := nI c) (a := I' (mb + 10) (10 + 5 * j) + nI d) (y := I' (mb + 10) (11 + 5 * j)) (d := nI d) (r := nI r)
  unfold f7_weigh
  rw [r1, b3s, yb_ck_t (inb_nI (by omega) (by decide)), nI_clamp (show j < 2 ^ 31 by omega), co_age h.core hj, co_wit h.core hj, hq, b3s]
  rcases fcS01 (I' (mb + 10)) (nI c) (I' (mb + 10) (10 + 5 * j) + nI d) (I' (mb + 10) (11 + 5 * j)) (nI d) (nI r) M 0 with e | e
  · rw [e, if_pos rfl]
    exact ⟨r, I, J1, by omega, er, rfl, r2, fun _ _ => rfl, fun _ => rfl, fun q => absurd (e.symm.trans q) (by decide)⟩
  · rw [e, if_neg i10, nI_clamp (show d < 2 ^ 31 by omega), nI_clamp (show r < 2 ^ 31 by omega)]
    by_cases c0 : l = []
    · subst c0
      rw [hv.1, if_pos (show nI ([] : List Hit).length = 0 from rfl), lts, lts, lts, lts, lts, yb_ck_t (inb_nI hd (by decide)), lts, yb_ck_t (inb_nI (show r < 101 by omega) (by decide)), lts]
      refine ⟨r, _, J1, by omega, er, rfl, r2, fun q hq => ?_, fun q => absurd (q.symm.trans e) (by decide), fun _ => hv.add ?_ ?_ (fun _ => ⟨?_, ?_⟩) (fun q => absurd rfl q) ?_ ?_ ?_⟩
      · rw [up2_ne _ _ _ (by omega), up2_ne _ _ _ (by omega), up2_ne _ _ _ (by omega), up2_ne _ _ _ (by omega), up2_ne _ _ _ (by omega), up2_ne _ _ _ (by omega), up2_ne _ _ _ (by omega)]
      all_goals simp [up2, upd]
    · have hl0 : 0 < l.length := List.length_pos_iff.mpr c0
      rw [hv.1, if_neg (nI_ne0 hl0 (by omega)), lts, lts, lts, yb_ck_t (inb_nI hd (by decide)), lts, yb_ck_t (inb_nI (show r < 101 by omega) (by decide)), lts]
      refine ⟨r, _, J1, by omega, er, rfl, r2, fun q hq => ?_, fun q => absurd (q.symm.trans e) (by decide), fun _ => hv.add ?_ ?_ (fun q => absurd q c0) (fun _ => ⟨?_, ?_⟩) ?_ ?_ ?_⟩
      · rw [up2_ne _ _ _ (by omega), up2_ne _ _ _ (by omega), up2_ne _ _ _ (by omega), up2_ne _ _ _ (by omega), up2_ne _ _ _ (by omega)]
      all_goals simp [up2, upd, hv.1]
theorem SameM.who {mb : Nat} {A : IT} {x w y z : Int32} {k : Nat} : SameM mb A (up2 (up2 (up2 A (mb + 22) k y) (mb + 23) k z) mb 38 w) :=
  ⟨⟨by simp [up2, upd], by simp [up2, upd], by simp [up2, upd], by simp [up2, upd], by simp [up2, upd]⟩, fun i hi => by rw [up2_ne _ _ _ (by omega), up2_ne _ _ _ (by omega), up2_ne _ _ _ (by omega)]⟩
/-- both sides while the hits are gathered -/
def SvS (b mb P c a g n0 : Nat) (Rl : Nat → List (List Tk × Option (List Tk))) (I0 I0' : IT) (l : List Hit) (I I' : IT) (J : JT) : Prop :=
  Same b I0 I ∧ SameM mb I0' I' ∧ ChR J b a (nI g) (nI n0) 0 ∧ SvL P (fun j d => rgtC (I0' (mb + 10)) (I0' mb 21) Rl c j (nI d) 0 0) l ∧ SvM mb l I' ∧ SvC b l I
theorem sv_in {N b mb P C D M K c j a g n0 : Nat} {L : List Nat} {S : ST} {Rf : RT} {I0 I0' : IT} {Rl : Nat → List (List Tk × Option (List Tk))} (hN : 1000 ≤ N) (h0 : RelB b mb L S Rf I0 I0' P C D M K Rl) (hc : c < C) (hj : j < P) (ea : I0' (mb + 10) (45 + 11 * c) = nI a) (eg : I0' (mb + 10) (46 + 11 * c) = nI g) (en : I0' (mb + 10) (47 + 11 * c) = nI n0) (ha : a < P) (hg : g < 10) :
    ∀ r k n n' l (I I' : IT) (J J' : JT), SvS b mb P c a g n0 Rl I0 I0' l I I' J → l.length ≤ 61 * j + k → k + r = 61 → r < n → r < n' → ∃ l1 I1 J1 I1' J1', f7_sift_L76 N b S Rf (nI c) (nI j) n (nI k) I J = some ((), I1, J1) ∧ f12_gathersWho_L19 N mb (nI c) (nI j) n' (nI k) I' J' = some ((), I1', J1') ∧ SvS b mb P c a g n0 Rl I0 I0' l1 I1 I1' J1 ∧ l1.length ≤ 61 * j + 61 := by
  have h7 := co_P7 h0.core
  intro r
  induction r with
  | zero =>
    intro k n n' l I I' J J' hs hl hk hn hn'
    obtain ⟨n, rfl⟩ : ∃ q, n = q + 1 := ⟨n - 1, by omega⟩
    obtain ⟨n', rfl⟩ : ∃ q, n' = q + 1 := ⟨n' - 1, by omega⟩
    rw [f7_sift_L76, f12_gathersWho_L19, if_pos (show (61 : Int32) ≤ nI k from nI_le (a := 61) (by omega) (by omega)), if_pos (show (60 : Int32) < nI k from nI_lt (a := 60) (by omega) (by omega))]
    exact ⟨l, _, _, _, _, rfl, rfl, hs, by omega⟩
  | succ r ih =>
    intro k n n' l I I' J J' hs hl hk hn hn'
    obtain ⟨n, rfl⟩ : ∃ q, n = q + 1 := ⟨n - 1, by omega⟩
    obtain ⟨n', rfl⟩ : ∃ q, n' = q + 1 := ⟨n' - 1, by omega⟩
    obtain ⟨s1, s2, s3, s4, s5, s6⟩ := id hs
    have h := h0.keep s1 s2
    have ev := s2.v
    have ef := s2.fo
    rw [f7_sift_L76, f12_gathersWho_L19, if_neg (show ¬ (61 : Int32) ≤ nI k from nI_ge (b := 61) (by omega) (by omega)), if_neg (show ¬ (60 : Int32) < nI k from nI_nlt (a := 60) (by omega) (by omega)), q1_canHear h.core hc hj, q12_canHear (by omega) h.core hc hj (by omega), b3s, b3s]
    rcases canH01 (I' (mb + 10)) c j (nI k) with q | q
    · rw [q, if_pos rfl, if_pos rfl, lts, lts, nI_1]
      exact ih (k + 1) n n' l I I' J J' hs (by omega) (by omega) (by omega) (by omega)
    · obtain ⟨w, I1, J1, hw, ew, w1, w2, w3, w4, w5⟩ := sv_weigh (J := J) hN h hj (show k < 61 by omega) (by rw [ev]; exact ea) (by rw [ev]; exact eg) (by rw [ev]; exact en) ha hg s3 s6 (by omega)
      obtain ⟨A, B, f1, f2⟩ := fc_refW (J' := J') hN h hc hj (d := nI k)
      rw [ew] at f1
      have hA : SameM mb I0' A := s2.tr (SameM.top f2)
      have hI1 : Same b I0 I1 := s1.tr (fun q hq => w3 q (by omega))
      rw [q, if_neg i10, if_neg i10, w1, f1, b3s, b3s]
      rcases fcS01 (I' (mb + 10)) (nI c) (I' (mb + 10) (10 + 5 * j) + nI k) (I' (mb + 10) (11 + 5 * j)) (nI k) (nI w) M 0 with e | e
      · rw [e, if_pos rfl, lts, lts, nI_1]
        have := w4 e
        subst this
        exact ih (k + 1) n n' l _ A J1 B ⟨s1, hA, w2, s4, s5.congr f2, s6⟩ (by omega) (by omega) (by omega) (by omega)
      · have t1 : A mb 38 = nI l.length := (s5.congr f2).1
        have t2 : up2 A (mb + 22) l.length (nI j) mb 38 = nI l.length := (up2_at (Or.inl (by omega))).trans t1
        have t3 : up2 (up2 A (mb + 22) l.length (nI j)) (mb + 23) l.length (nI k) mb 38 = nI l.length := (up2_at (Or.inl (by omega))).trans t2
        rw [e, if_neg i10, t1, yb_ck_t (inb_nI (by omega) (by decide)), nI_clamp (by omega), lts, lts, t2, yb_ck_t (inb_nI (by omega) (by decide)), nI_clamp (by omega), lts, t3, lts, lts, nI_1, nI_1]
        have hm := (s5.congr f2).add (j := j) (d := k) (r := w) (I1 := up2 (up2 (up2 A (mb + 22) l.length (nI j)) (mb + 23) l.length (nI k)) mb 38 (nI (l.length + 1))) (up2_same _ _ _ _) (by simp [up2]) (by simp [up2])
        refine ih (k + 1) n n' (l ++ [(j, k, w)]) I1 _ J1 B ⟨hI1, hA.tr (SameM.who (x := 0)), w2, s4.add hj (by omega) hw ?_, hm, w5 e⟩ (by simp; omega) (by omega) (by omega) (by omega)
        show rgtC (I0' (mb + 10)) (I0' mb 21) Rl c j (nI k) 0 0 = nI w
        rw [← ev, ← ef]; exact ew
theorem sv_out {N b mb P C D M K c a g n0 : Nat} {L : List Nat} {S : ST} {Rf : RT} {I0 I0' : IT} {Rl : Nat → List (List Tk × Option (List Tk))} (hN : 1000 ≤ N) (h0 : RelB b mb L S Rf I0 I0' P C D M K Rl) (hc : c < C) (ea : I0' (mb + 10) (45 + 11 * c) = nI a) (eg : I0' (mb + 10) (46 + 11 * c) = nI g) (en : I0' (mb + 10) (47 + 11 * c) = nI n0) (ha : a < P) (hg : g < 10) :
    ∀ r k n n' l (I I' : IT) (J J' : JT), SvS b mb P c a g n0 Rl I0 I0' l I I' J → l.length ≤ 61 * k → k + r = P → r < n → r < n' → ∃ l1 I1 J1 I1' J1', f7_sift_L57 N b S Rf (nI c) n (nI k) I J = some ((), I1, J1) ∧ f12_gathersWho_L7 N mb (nI c) n' (nI k) I' J' = some ((), I1', J1') ∧ SvS b mb P c a g n0 Rl I0 I0' l1 I1 I1' J1 ∧ l1.length ≤ 427 := by
  have h7 := co_P7 h0.core
  intro r
  induction r with
  | zero =>
    intro k n n' l I I' J J' hs hl hk hn hn'
    obtain ⟨n, rfl⟩ : ∃ q, n = q + 1 := ⟨n - 1, by omega⟩
    obtain ⟨n', rfl⟩ : ∃ q, n' = q + 1 := ⟨n' - 1, by omega⟩
    have h := h0.keep hs.1 hs.2.1
    rw [f7_sift_L57, f12_gathersWho_L7, co_P h.core, cv_P h.core, if_pos (nI_le (by omega) (by omega)), if_pos (nI_le (by omega) (by omega))]
    exact ⟨l, _, _, _, _, rfl, rfl, hs, by omega⟩
  | succ r ih =>
    intro k n n' l I I' J J' hs hl hk hn hn'
    obtain ⟨n, rfl⟩ : ∃ q, n = q + 1 := ⟨n - 1, by omega⟩
    obtain ⟨n', rfl⟩ : ∃ q, n' = q + 1 := ⟨n' - 1, by omega⟩
    have h := h0.keep hs.1 hs.2.1
    obtain ⟨l1, I1, J1, I1', J1', e1, e2, e3, e4⟩ := sv_in (J' := J') hN h0 hc (show k < P by omega) ea eg en ha hg 61 0 N N l I I' J hs (by omega) (by omega) (by omega) (by omega)
    rw [show nI 0 = (0 : Int32) from rfl] at e1 e2
    rw [f7_sift_L57, f12_gathersWho_L7, co_P h.core, cv_P h.core, if_neg (nI_ge (by omega) (by omega)), if_neg (nI_ge (by omega) (by omega)), e1, e2, b3s, b3s, lts, lts, nI_1]
    exact ih (k + 1) n n' l1 I1 I1' J1 J1' e3 (by omega) (by omega) (by omega) (by omega)
theorem sv_all {N b mb P C D M K c : Nat} {L : List Nat} {S : ST} {Rf : RT} {I I' : IT} {J J' : JT} {Rl : Nat → List (List Tk × Option (List Tk))} (hN : 1000 ≤ N) (h : RelB b mb L S Rf I I' P C D M K Rl) (hc : c < C) : ∃ l I1 J1 I1' J1', f7_sift N b S Rf (nI c) I J = some ((), I1, J1) ∧ f12_gathersWho N mb (nI c) I' J' = some ((), I1', J1') ∧ Same b I I1 ∧ SameM mb I' I1' ∧ SvL P (fun j d => rgtC (I' (mb + 10)) (I' mb 21) Rl c j (nI d) 0 0) l ∧ SvM mb l I1' ∧ SvC b l I1 ∧ l.length ≤ 427 := by
  have h7 := co_P7 h.core
  unfold f7_sift f12_gathersWho
  rw [lts, lts, lts, lts, lts]
  obtain ⟨A1, a1, a2, a3⟩ := q_fill (N := N) (t := b + 49) (n0 := 7) (x := 0) (I := up2 (up2 (up2 (up2 I (b + 48) 4 0) (b + 48) 5 (-2)) (b + 48) 6 (-2)) (b + 48) 7 0) (J := J) (by omega) (by omega)
  obtain ⟨A2, b1, b2, b3⟩ := q_fill (N := N) (t := b + 50) (n0 := 61) (x := 0) (I := A1) (J := J) (by omega) (by omega)
  obtain ⟨A3, c1, c2, c3⟩ := q_fill (N := N) (t := b + 51) (n0 := 101) (x := 0) (I := A2) (J := J) (by omega) (by omega)
  rw [a1, b3s, b1, b3s, c1, b3s]
  have s0 : Same b I A3 := fun q hq => by
    rw [c2 q (by omega), b2 q (by omega), a2 q (by omega), up2_ne _ _ _ (by omega), up2_ne _ _ _ (by omega), up2_ne _ _ _ (by omega), up2_ne _ _ _ (by omega)]
  have m0 : SameM mb I' (up2 I' mb 38 0) := ⟨⟨by simp [up2, upd], by simp [up2, upd], by simp [up2, upd], by simp [up2, upd], by simp [up2, upd]⟩, fun i hi => up2_ne _ _ _ (by omega)⟩
  have e48 : A3 (b + 48) = up2 (up2 (up2 (up2 I (b + 48) 4 0) (b + 48) 5 (-2)) (b + 48) 6 (-2)) (b + 48) 7 0 (b + 48) := by rw [c2 _ (by omega), b2 _ (by omega), a2 _ (by omega)]
  have hC0 : SvC b [] A3 := by
    refine ⟨?_, fun _ => ⟨?_, ?_⟩, fun x t q => (by cases q), ?_, fun i hi => ?_, fun i hi => ?_, fun i hi => ?_⟩
    · rw [e48]; simp [up2, upd] <;> rfl
    · rw [e48]; simp [up2, upd]
    · rw [e48]; simp [up2, upd]
    · rw [e48]; simp [up2, upd] <;> rfl
    · rw [c2 _ (by omega), b2 _ (by omega), a3 i hi]; rfl
    · rw [c2 _ (by omega), b3 i hi]; rfl
    · rw [c3 i hi]; rfl
  obtain ⟨a, g, n, J1, r1, ha, hg, _, _, ea, eg, en, hC, _⟩ := q1_chargeOf (J := J) (S := S) (Rf := Rf) (ti := 0) (h.keep s0 (SameM.rf mb I')).core hc
  obtain ⟨l, B, JB, B', JB', e1, e2, ⟨g1, g2, g3, g4, g5, g6⟩, g7⟩ := sv_out (N := N) hN h hc ea eg en ha hg P 0 N N [] A3 (up2 I' mb 38 0) J1 J' ⟨s0, m0, hC, fun x hx => (by cases hx), ⟨up2_same _ _ _ _, fun k x hk => by simp at hk⟩, hC0⟩ (by simp) (by omega) (by omega) (by omega)
  rw [show nI 0 = (0 : Int32) from rfl] at e1 e2
  rw [r1, b3s, e1, e2, b3s, b3s]
  exact ⟨l, B, JB, B', JB', rfl, rfl, g1, g2, g4, g5, g6, g7⟩
theorem who_L {N mb : Nat} {x2 : Int32} {I' : IT} {J' : JT} {l : List Hit} (hm : SvM mb l I') (hl : l.length ≤ 427) : ∀ l2 l1 acc n, l = l1 ++ l2 → l2.length < n → f12_who_L32 N mb x2 n acc (nI l1.length) I' J' = some (hitB l2 acc, I', J') := by
  intro l2
  induction l2 with
  | nil =>
    intro l1 acc n e hn
    obtain ⟨n, rfl⟩ : ∃ q, n = q + 1 := ⟨n - 1, by simp at hn; omega⟩
    rw [List.append_nil] at e
    subst e
    rw [f12_who_L32, hm.1, if_pos (nI_le (Nat.le_refl _) (by omega))]
    rfl
  | cons x l2 ih =>
    intro l1 acc n e hn
    obtain ⟨n, rfl⟩ : ∃ q, n = q + 1 := ⟨n - 1, by simp at hn; omega⟩
    have hlen : l.length = l1.length + (l2.length + 1) := by rw [e]; simp
    have hx : l[l1.length]? = some x := by rw [e]; simp
    rw [f12_who_L32, hm.1, if_neg (nI_ge (by omega) (by omega)), yb_ck_t (inb_nI (by omega) (by decide)), nI_clamp (by omega), (hm.2 _ _ hx).1, lts, lts, nI_1]
    have := ih (l1 ++ [x]) (acc ||| ((1 : Int32) <<< (nI x.1 &&& 31))) n (by rw [e]; simp) (by simp at hn; omega)
    rw [List.length_append] at this
    rw [show l1.length + 1 = l1.length + [x].length from rfl, this]
    rfl
theorem G_who {N : Nat} (hN : 1000 ≤ N) : Gd_who N RelY := by
  intro b mb L S Rf I J I' J' x1 x2 hR
  obtain ⟨P, C, D, M, K, Rl, h⟩ := hR
  have hc := h.core
  have hh : ∀ r, ∃ (r_1 : Int32) (I1 : IT) (J1 : JT) (I1' : IT) (J1' : JT), some (r, I, J) = some (r_1, I1, J1) ∧ some (r, I', J') = some (r_1, I1', J1') ∧ RelY b mb L S Rf I1 J1 I1' J1' := fun r => ⟨r, I, J, I', J', rfl, rfl, P, C, D, M, K, Rl, h⟩
  unfold f11_who f12_who
  rcases co_isCase (J := J) (J' := J') (S := S) (Rf := Rf) hc x1 with ⟨a1, a2⟩ | ⟨c, hcC, rfl, a1, a2⟩
  · rw [a1, a2, b3s, b3s, if_pos rfl, if_pos rfl]; exact hh _
  · rw [a1, a2, b3s, b3s, if_neg i10, if_neg i10, l_inc (a := 0) (c := 3) 0 3 rfl rfl, b3s]
    by_cases hk : ∃ k, k ≤ 3 ∧ x2 = nI k
    · obtain ⟨k, hk, rfl⟩ := hk
      obtain ⟨l, A, JA, A', JA', e1, e2, e3, e4, e5, e6, e7, e8⟩ := sv_all (N := N) (J := J) (J' := J') hN h hcC
      have hw := who_L (N := N) (x2 := nI k) (J' := JA') e6 e8 l [] 0 N (by simp) (by omega)
      rw [show nI ([] : List Hit).length = (0 : Int32) from rfl] at hw
      have h2 := h.keep e3 e4
      rw [rngY (hi := 3) 3 rfl (by omega) hk, if_neg i10, if_neg (nI_pos (by omega)), if_pos (show nI k ≤ (3 : Int32) from nI_le (b := 3) hk (by omega)), e1, e2, b3s, b3s, hw, b3s]
      obtain ⟨g4, g5, g6, g7, _⟩ := e7
      obtain rfl | rfl | rfl | rfl : k = 0 ∨ k = 1 ∨ k = 2 ∨ k = 3 := by omega
      · rw [if_pos (show nI 0 = 0 from rfl), if_pos (show nI 0 = 0 from rfl), g4, e6.1]
        exact ⟨_, _, _, _, _, rfl, rfl, P, C, D, M, K, Rl, h2⟩
      · rw [if_neg (show ¬ nI 1 = 0 by decide), if_neg (show ¬ nI 1 = 0 by decide), if_neg (show ¬ nI 1 = 3 by decide), if_pos (show nI 1 = 1 from rfl), if_pos (show nI 1 = 1 from rfl), e6.1]
        cases l with
        | nil =>
          rw [if_pos (show nI ([] : List Hit).length = 0 from rfl), (g5 rfl).1]
          exact ⟨_, _, _, _, _, rfl, rfl, P, C, D, M, K, Rl, h2⟩
        | cons x t =>
          rw [if_neg (nI_ne0 (by simp) (by omega)), (g6 x t rfl).1, (e6.2 0 x rfl).1]
          exact ⟨_, _, _, _, _, rfl, rfl, P, C, D, M, K, Rl, h2⟩
      · rw [if_neg (show ¬ nI 2 = 0 by decide), if_neg (show ¬ nI 2 = 0 by decide), if_neg (show ¬ nI 2 = 3 by decide), if_neg (show ¬ nI 2 = 1 by decide), if_neg (show ¬ nI 2 = 1 by decide), if_pos (show nI 2 = 2 from rfl), e6.1]
        cases l with
        | nil =>
          rw [if_pos (show nI ([] : List Hit).length = 0 from rfl), (g5 rfl).2]
          exact ⟨_, _, _, _, _, rfl, rfl, P, C, D, M, K, Rl, h2⟩
        | cons x t =>
          rw [if_neg (nI_ne0 (by simp) (by omega)), (g6 x t rfl).2, (e6.2 0 x rfl).2]
          exact ⟨_, _, _, _, _, rfl, rfl, P, C, D, M, K, Rl, h2⟩
      · rw [if_neg (show ¬ nI 3 = 0 by decide), if_neg (show ¬ nI 3 = 0 by decide), if_pos (show nI 3 = 3 from rfl), if_neg (show ¬ nI 3 = 1 by decide), if_neg (show ¬ nI 3 = 2 by decide), g7]
        exact ⟨_, _, _, _, _, rfl, rfl, P, C, D, M, K, Rl, h2⟩
    · have hn : ∀ d, d ≤ 3 → x2 ≠ nI d := fun d hd e => hk ⟨d, hd, e⟩
      rw [rngN (hi := 3) 3 rfl hn, if_pos rfl]
      by_cases c0 : x2 < 0
      · rw [if_pos c0]; exact hh _
      · rw [if_neg c0, if_neg (fun q => by obtain ⟨d, hd, e⟩ := nI_of2 (M := 3) (n := 3) rfl c0 q; exact hn d hd e)]; exact hh _
