/-! BENCHES, the reference: spots, days -/
theorem narB {x : Int32} (h : x = 0 ∨ x = 1) : vp_nar .boolean x = x := by
  rcases h with rfl | rfl <;> rfl
def spN (k j d : Nat) : Nat := (k * 7 + j) * 100 + d
theorem sp_nI (k j d : Nat) : ((nI k * 7 + nI j) * 100) + nI d = nI (spN k j d) := by
  show ((nI k * nI 7 + nI j) * nI 100) + nI d = _
  rw [pk_mul, nI_add, pk_mul, nI_add]; rfl
theorem sp_lt {k j d : Nat} (hk : k < 4) (hj : j < 7) (hd : d < 100) : spN k j d < 2800 := by unfold spN; omega
theorem sp_inj {k j d k' j' d' : Nat} (hj : j < 7) (hj' : j' < 7) (hd : d < 100) (hd' : d' < 100) (h : spN k j d = spN k' j' d') : k = k' ∧ j = j' ∧ d = d' := by unfold spN at h; omega
def FrP (mb : Nat) (I0' I' : IT) : Prop := ∀ a k, a ≠ mb + 13 → a ≠ mb + 14 → (a ≠ mb ∨ k ≠ 18) → I' a k = I0' a k
/-- the open cases as the reference holds them -/
def OpM (mb : Nat) (u : List Nat) (I' : IT) : Prop := I' mb 25 = nI u.length ∧ u.length ≤ 4 ∧ ∀ i, i < u.length → I' (mb + 12) i = nI (u.getD i 0)
/-- what the spots hold -/
def SpR (mb : Nat) (v : Nat → Int32) (fo : Int32) (Rl : Nat → List (List Tk × Option (List Tk))) (u : List Nat) (D : Nat) (I' : IT) (k j d : Nat) : Prop := I' (mb + 13) (spN k j d) = cnV v u D k j d ∧ (cnV v u D k j d ≠ 0 → I' (mb + 14) (spN k j d) = rgtC v fo Rl (u.getD k 0) j (nI (D + d)) (v (14 + 5 * j)) 0)
section SPOT
variable {N b mb P C D M K : Nat} {L : List Nat} {u : List Nat} {I I' I0' : IT} {J J' : JT} {S : ST} {Rf : RT} {Rl : Nat → List (List Tk × Option (List Tk))}
theorem FrP.sm (h : FrP mb I0' I') : SameM mb I0' I' :=
  ⟨⟨h _ _ (by omega) (by omega) (Or.inr (by decide)), h _ _ (by omega) (by omega) (Or.inr (by decide)), h _ _ (by omega) (by omega) (Or.inr (by decide)), h _ _ (by omega) (by omega) (Or.inr (by decide)), h _ _ (by omega) (by omega) (Or.inr (by decide))⟩, fun k hk => funext fun j => h _ j (by omega) (by omega) (Or.inl (by omega))⟩
theorem spot_d {k j : Nat} (hN : 1000 ≤ N) (h0 : RelB b mb L S Rf I I0' P C D M K Rl) (hO : OpM mb u I0') (hu : ∀ i, i < u.length → u.getD i 0 < C ∧ I0' (mb + 10) (54 + 11 * u.getD i 0) = 0) (hk : k < u.length) (hj : j < P) : ∀ r d n (I' : IT) (J' : JT), d + r = 100 → r < n → FrP mb I0' I' → (∀ d', d' < d → SpR mb (I0' (mb + 10)) (I0' mb 21) Rl u D I' k j d') →
    ∃ I1' J1', f12_fillsSpots_L24 N mb (nI k) (nI j) n (nI d) I' J' = some ((), I1', J1') ∧ FrP mb I0' I1' ∧ (∀ d', d' < 100 → SpR mb (I0' (mb + 10)) (I0' mb 21) Rl u D I1' k j d') ∧ ∀ i, (∀ d', d' < 100 → i ≠ spN k j d') → I1' (mb + 13) i = I' (mb + 13) i ∧ I1' (mb + 14) i = I' (mb + 14) i := by
  have h7 := co_P7 h0.core
  have h12 := co_D12 h0.core
  have hC6 := co_C6 h0.core
  obtain ⟨hm, m4, ho⟩ := id hO
  obtain ⟨uC, u54⟩ := hu k hk
  intro r
  induction r with
  | zero =>
    intro d n I' J' hr hn hF hd
    obtain ⟨n, rfl⟩ : ∃ q, n = q + 1 := ⟨n - 1, by omega⟩
    rw [f12_fillsSpots_L24, if_pos (show (100 : Int32) ≤ nI d from nI_le (a := 100) (by omega) (by omega))]
    exact ⟨I', J', rfl, hF, fun d' h => hd d' (by omega), fun _ _ => ⟨rfl, rfl⟩⟩
  | succ r ih =>
    intro d n I' J' hr hn hF hd
    obtain ⟨n, rfl⟩ : ∃ q, n = q + 1 := ⟨n - 1, by omega⟩
    have h := h0.keep (Same.rf b I) hF.sm
    have ev : I' (mb + 10) = I0' (mb + 10) := hF.sm.v
    have ef : I' mb 21 = I0' mb 21 := hF.sm.fo
    have e12 : I' (mb + 12) k = nI (u.getD k 0) := by rw [hF _ _ (by omega) (by omega) (Or.inl (by omega))]; exact ho k hk
    have hsp := sp_lt (show k < 4 by omega) (show j < 7 by omega) (show d < 100 by omega)
    have ecn : cnV (I0' (mb + 10)) u D k j d = canH (I0' (mb + 10)) (u.getD k 0) j (nI (D + d)) := rfl
    rw [f12_fillsSpots_L24, if_neg (show ¬ (100 : Int32) ≤ nI d from nI_ge (b := 100) (by omega) (by omega)), yb_ck_t (inb_nI (show k < 6 by omega) (by decide)), nI_clamp (show k < 2 ^ 31 by omega), e12, cv_D h.core, nI_add, q12_canHear (by omega) h.core uC hj (by omega), b3s]
    unfold f12_spot
    rw [sp_nI, b3s, yb_ck_t (inb_nI hsp (by decide)), nI_clamp (show spN k j d < 2 ^ 31 by omega), ev, narB (canH01 _ _ _ _), lts, b3s]
    have hF2 : FrP mb I0' (up2 I' (mb + 13) (spN k j d) (canH (I0' (mb + 10)) (u.getD k 0) j (nI (D + d)))) := fun a i h1 h2 h3 => by rw [up2_ne _ _ _ h1]; exact hF a i h1 h2 h3
    rcases canH01 (I0' (mb + 10)) (u.getD k 0) j (nI (D + d)) with z | z
    · rw [z] at hF2 ⊢
      rw [if_pos rfl, yb_ck_t (inb_nI hsp (by decide)), nI_clamp (show spN k j d < 2 ^ 31 by omega), lts, lts, nI_1]
      obtain ⟨I1', J1', e1, e2, e3, e4⟩ := ih (d + 1) n (up2 (up2 I' (mb + 13) (spN k j d) 0) (mb + 14) (spN k j d) 0) J' (by omega) (by omega) (fun a i h1 h2 h3 => by rw [up2_ne _ _ _ h2]; exact hF2 a i h1 h2 h3) (fun d' hd' => by
        by_cases e : d' = d
        · subst e
          refine ⟨?_, fun q => absurd (ecn.trans z) q⟩
          rw [up2_ne _ _ _ (by omega), up2_same, ecn, z]
        · have hne : spN k j d' ≠ spN k j d := fun q => e (sp_inj (by omega) (by omega) (by omega) (by omega) q).2.2
          obtain ⟨q1, q2⟩ := hd d' (by omega)
          exact ⟨by rw [up2_ne _ _ _ (by omega), up2_at (Or.inr hne)]; exact q1, fun q => by rw [up2_at (Or.inr hne), up2_ne _ _ _ (by omega)]; exact q2 q⟩)
      refine ⟨I1', J1', e1, e2, e3, fun i hi => ?_⟩
      obtain ⟨q1, q2⟩ := e4 i hi
      have hne : i ≠ spN k j d := hi d (by omega)
      exact ⟨by rw [q1, up2_ne _ _ _ (by omega), up2_at (Or.inr hne)], by rw [q2, up2_at (Or.inr hne), up2_ne _ _ _ (by omega)]⟩
    · rw [z] at hF2 ⊢
      have e12' : up2 I' (mb + 13) (spN k j d) 1 (mb + 12) k = nI (u.getD k 0) := by rw [up2_ne _ _ _ (by omega)]; exact e12
      have e10' : up2 I' (mb + 13) (spN k j d) 1 (mb + 10) = I0' (mb + 10) := by rw [up2_ne _ _ _ (by omega)]; exact ev
      have h2 := h0.keep (Same.rf b I) hF2.sm
      obtain ⟨A, B, r1, r2, r3⟩ := q12_rightOf (J' := J') hN h2.core h2.rules rfl h2.fo (d := nI (D + d)) uC hj
      rw [hF2.sm.v, hF2.sm.fo, u54] at r1
      rw [if_neg i10, e12', e10', cv_D h0.core, nI_add, r1, b3s, yb_ck_t (inb_nI hsp (by decide)), nI_clamp (show spN k j d < 2 ^ 31 by omega), lts, lts, nI_1]
      have hA : ∀ a i, (a ≠ mb ∨ i ≠ 18) → A a i = up2 I' (mb + 13) (spN k j d) 1 a i := r2
      obtain ⟨I1', J1', e1, e2, e3, e4⟩ := ih (d + 1) n (up2 A (mb + 14) (spN k j d) (rgtC (I0' (mb + 10)) (I0' mb 21) Rl (u.getD k 0) j (nI (D + d)) (I0' (mb + 10) (14 + 5 * j)) 0)) B (by omega) (by omega) (fun a i h1 h2 h3 => by rw [up2_ne _ _ _ h2, hA a i h3]; exact hF2 a i h1 h2 h3) (fun d' hd' => by
        by_cases e : d' = d
        · subst e
          refine ⟨?_, fun q => ?_⟩
          · rw [up2_ne _ _ _ (by omega), hA _ _ (Or.inl (by omega)), up2_same, ecn, z]
          · rw [up2_same]
        · have hne : spN k j d' ≠ spN k j d := fun q => e (sp_inj (by omega) (by omega) (by omega) (by omega) q).2.2
          obtain ⟨q1, q2⟩ := hd d' (by omega)
          exact ⟨by rw [up2_ne _ _ _ (by omega), hA _ _ (Or.inl (by omega)), up2_at (Or.inr hne)]; exact q1, fun q => by rw [up2_at (Or.inr hne), hA _ _ (Or.inl (by omega)), up2_ne _ _ _ (by omega)]; exact q2 q⟩)
      refine ⟨I1', J1', e1, e2, e3, fun i hi => ?_⟩
      obtain ⟨q1, q2⟩ := e4 i hi
      have hne : i ≠ spN k j d := hi d (by omega)
      exact ⟨by rw [q1, up2_ne _ _ _ (by omega), hA _ _ (Or.inl (by omega)), up2_at (Or.inr hne)], by rw [q2, up2_at (Or.inr hne), hA _ _ (Or.inl (by omega)), up2_ne _ _ _ (by omega)]⟩
theorem SpR.cg {v : Nat → Int32} {fo : Int32} {I1' : IT} {k j d : Nat} (h : SpR mb v fo Rl u D I' k j d) (e1 : I1' (mb + 13) (spN k j d) = I' (mb + 13) (spN k j d)) (e2 : I1' (mb + 14) (spN k j d) = I' (mb + 14) (spN k j d)) : SpR mb v fo Rl u D I1' k j d := ⟨e1.trans h.1, fun q => e2.trans (h.2 q)⟩
theorem spot_j {k : Nat} (hN : 1000 ≤ N) (h0 : RelB b mb L S Rf I I0' P C D M K Rl) (hO : OpM mb u I0') (hu : ∀ i, i < u.length → u.getD i 0 < C ∧ I0' (mb + 10) (54 + 11 * u.getD i 0) = 0) (hk : k < u.length) : ∀ r j n (I' : IT) (J' : JT), j + r = P → r < n → FrP mb I0' I' → (∀ j' d', j' < j → d' < 100 → SpR mb (I0' (mb + 10)) (I0' mb 21) Rl u D I' k j' d') →
    ∃ I1' J1', f12_fillsSpots_L12 N mb (nI k) n (nI j) I' J' = some ((), I1', J1') ∧ FrP mb I0' I1' ∧ (∀ j' d', j' < P → d' < 100 → SpR mb (I0' (mb + 10)) (I0' mb 21) Rl u D I1' k j' d') ∧ ∀ i, (∀ j' d', j' < P → d' < 100 → i ≠ spN k j' d') → I1' (mb + 13) i = I' (mb + 13) i ∧ I1' (mb + 14) i = I' (mb + 14) i := by
  have h7 := co_P7 h0.core
  intro r
  induction r with
  | zero =>
    intro j n I' J' hr hn hF hd
    obtain ⟨n, rfl⟩ : ∃ q, n = q + 1 := ⟨n - 1, by omega⟩
    rw [f12_fillsSpots_L12, hF.sm.v, cv_P h0.core, if_pos (nI_le (by omega) (by omega))]
    exact ⟨I', J', rfl, hF, fun j' d' h1 h2 => hd j' d' (by omega) h2, fun _ _ => ⟨rfl, rfl⟩⟩
  | succ r ih =>
    intro j n I' J' hr hn hF hd
    obtain ⟨n, rfl⟩ : ∃ q, n = q + 1 := ⟨n - 1, by omega⟩
    obtain ⟨A, B, e1, e2, e3, e4⟩ := spot_d (N := N) hN h0 hO hu hk (show j < P by omega) 100 0 N I' J' (by omega) (by omega) hF (fun d' h => by omega)
    rw [show nI 0 = (0 : Int32) from rfl] at e1
    rw [f12_fillsSpots_L12, hF.sm.v, cv_P h0.core, if_neg (nI_ge (by omega) (by omega)), e1, b3s, lts, nI_1]
    obtain ⟨I1', J1', f1, f2, f3, f4⟩ := ih (j + 1) n A B (by omega) (by omega) e2 (fun j' d' h1 h2 => by
      by_cases e : j' = j
      · subst e; exact e3 d' h2
      · obtain ⟨q1, q2⟩ := e4 (spN k j' d') (fun d'' h3 q => e (sp_inj (by omega) (by omega) h2 h3 q).2.1)
        exact (hd j' d' (by omega) h2).cg q1 q2)
    refine ⟨I1', J1', f1, f2, f3, fun i hi => ?_⟩
    obtain ⟨q1, q2⟩ := f4 i hi
    obtain ⟨q3, q4⟩ := e4 i (fun d' h => hi j d' (by omega) h)
    exact ⟨q1.trans q3, q2.trans q4⟩
theorem spot_k (hN : 1000 ≤ N) (h0 : RelB b mb L S Rf I I0' P C D M K Rl) (hO : OpM mb u I0') (hu : ∀ i, i < u.length → u.getD i 0 < C ∧ I0' (mb + 10) (54 + 11 * u.getD i 0) = 0) : ∀ r k n (I' : IT) (J' : JT), k + r = u.length → r < n → FrP mb I0' I' → (∀ k' j' d', k' < k → j' < P → d' < 100 → SpR mb (I0' (mb + 10)) (I0' mb 21) Rl u D I' k' j' d') →
    ∃ I1' J1', f12_fillsSpots_L2 N mb n (nI k) I' J' = some ((), I1', J1') ∧ FrP mb I0' I1' ∧ ∀ k' j' d', k' < u.length → j' < P → d' < 100 → SpR mb (I0' (mb + 10)) (I0' mb 21) Rl u D I1' k' j' d' := by
  have h7 := co_P7 h0.core
  obtain ⟨hm, m4, ho⟩ := id hO
  intro r
  induction r with
  | zero =>
    intro k n I' J' hr hn hF hd
    obtain ⟨n, rfl⟩ : ∃ q, n = q + 1 := ⟨n - 1, by omega⟩
    rw [f12_fillsSpots_L2, hF _ _ (by omega) (by omega) (Or.inr (by decide)), hm, if_pos (nI_le (by omega) (by omega))]
    exact ⟨I', J', rfl, hF, fun k' j' d' h1 h2 h3 => hd k' j' d' (by omega) h2 h3⟩
  | succ r ih =>
    intro k n I' J' hr hn hF hd
    obtain ⟨n, rfl⟩ : ∃ q, n = q + 1 := ⟨n - 1, by omega⟩
    obtain ⟨A, B, e1, e2, e3, e4⟩ := spot_j (N := N) hN h0 hO hu (show k < u.length by omega) P 0 N I' J' (by omega) (by omega) hF (fun j' d' h => by omega)
    rw [show nI 0 = (0 : Int32) from rfl] at e1
    rw [f12_fillsSpots_L2, hF _ _ (by omega) (by omega) (Or.inr (by decide)), hm, if_neg (nI_ge (by omega) (by omega)), e1, b3s, lts, nI_1]
    exact ih (k + 1) n A B (by omega) (by omega) e2 (fun k' j' d' h1 h2 h3 => by
      by_cases e : k' = k
      · subst e; exact e3 j' d' h2 h3
      · obtain ⟨q1, q2⟩ := e4 (spN k' j' d') (fun j'' d'' h4 h5 q => e (sp_inj (by omega) (by omega) h3 h5 q).1)
        exact (hd k' j' d' (by omega) h2 h3).cg q1 q2)
theorem spots_m (hN : 1000 ≤ N) (h0 : RelB b mb L S Rf I I0' P C D M K Rl) (hO : OpM mb u I0') (hu : ∀ i, i < u.length → u.getD i 0 < C ∧ I0' (mb + 10) (54 + 11 * u.getD i 0) = 0) : ∃ I1' J1', f12_fillsSpots N mb I0' J' = some ((), I1', J1') ∧ FrP mb I0' I1' ∧ ∀ k j d, k < u.length → j < P → d < 100 → SpR mb (I0' (mb + 10)) (I0' mb 21) Rl u D I1' k j d := by
  obtain ⟨I1', J1', e1, e2, e3⟩ := spot_k (N := N) hN h0 hO hu u.length 0 N I0' J' (by omega) (by have := hO.2.1; omega) (fun _ _ _ _ _ => rfl) (fun k' j' d' h => by omega)
  rw [show nI 0 = (0 : Int32) from rfl] at e1
  unfold f12_fillsSpots
  rw [e1, b3s]
  exact ⟨I1', J1', rfl, e2, e3⟩
end SPOT
/-- the days of the row so far, judge by judge -/
def HistR (v : Nat → Int32) (u : List Nat) (C D : Nat) (pr : Rw) : Prop := ∀ j : Nat, ordW lgN o00 pr j < 65 ∧ (∀ i, i ∈ sqN (ordW lgN o00 pr j) → i ∈ pr.map Prod.fst) ∧ ∃ h, HV v u C D j (ordW lgN o00 pr j) = some h ∧ ∀ c d : Nat, (c, d) ∈ h ↔ ∃ p : Nat, pr[p]? = some (c, j) ∧ (dyW lgN (BV v u C D) o00 pr)[p]? = some d
theorem hist_nil {v : Nat → Int32} {u : List Nat} {C D : Nat} : HistR v u C D [] := fun j =>
  ⟨by show (0 : Nat) < 65; omega, fun i hi => (by rw [show ordW lgN o00 [] j = 0 from rfl, sq0] at hi; cases hi), [], Hh_0, fun c d => ⟨fun q => (by cases q), fun ⟨p, q, _⟩ => by simp at q⟩⟩
theorem hist_snoc {v : Nat → Int32} {u : List Nat} {C D c j d : Nat} {pr : Rw} (hH : HistR v u C D pr) (hc : c < 4) (hb : BV v u C D j (lgN (ordW lgN o00 pr j) c) = some d) (hg : 0 < lgN (ordW lgN o00 pr j) c) : HistR v u C D (pr ++ [(c, j)]) := by
  have eo : ordW lgN o00 (pr ++ [(c, j)]) = updN (ordW lgN o00 pr) j (lgN (ordW lgN o00 pr j) c) := by rw [ordW_app]; rfl
  have edy : dyW lgN (BV v u C D) o00 (pr ++ [(c, j)]) = dyW lgN (BV v u C D) o00 pr ++ [d] := by
    rw [dyW_app]
    show _ ++ [(BV v u C D j (lgN (ordW lgN o00 pr j) c)).getD 0] = _
    rw [hb]; rfl
  have hdl := dyW_len (lg := lgN) (Bg := BV v u C D) pr o00
  have iff1 : ∀ c' d' i : Nat, (∃ p : Nat, (pr ++ [(c, j)])[p]? = some (c', i) ∧ (dyW lgN (BV v u C D) o00 pr ++ [d])[p]? = some d') ↔ (c' = c ∧ i = j ∧ d' = d) ∨ ∃ p : Nat, pr[p]? = some (c', i) ∧ (dyW lgN (BV v u C D) o00 pr)[p]? = some d' := by
    intro c' d' i
    constructor
    · rintro ⟨p, h1, h2⟩
      rcases Nat.lt_or_ge p pr.length with q | q
      · rw [List.getElem?_append_left q] at h1
        rw [List.getElem?_append_left (by omega)] at h2
        exact Or.inr ⟨p, h1, h2⟩
      · rw [List.getElem?_append_right q] at h1
        rw [List.getElem?_append_right (by omega), hdl] at h2
        have p0 : p - pr.length = 0 := by
          rcases Nat.eq_zero_or_pos (p - pr.length) with z | z
          · exact z
          · obtain ⟨y, hy⟩ : ∃ y, p - pr.length = y + 1 := ⟨p - pr.length - 1, by omega⟩
            rw [hy] at h1; simp at h1
        rw [p0] at h1 h2
        simp at h1 h2
        exact Or.inl ⟨h1.1.symm, h1.2.symm, h2.symm⟩
    · rintro (⟨rfl, rfl, rfl⟩ | ⟨p, h1, h2⟩)
      · refine ⟨pr.length, by simp, ?_⟩
        rw [← hdl]; simp
      · exact ⟨p, by rw [List.getElem?_append_left (List.getElem?_eq_some_iff.mp h1).1]; exact h1, by rw [List.getElem?_append_left (List.getElem?_eq_some_iff.mp h2).1]; exact h2⟩
  intro i
  rw [eo, edy]
  by_cases ei : i = j
  · subst ei
    obtain ⟨o65, hs, h, h1, h2⟩ := hH i
    rw [updN_s]
    rcases tb2 _ o65 c hc with ⟨_, _, t3, t4, t5⟩ | ⟨_, t2, _⟩
    · obtain ⟨t, e1, e2, _, _⟩ := Hh_some hg t3 hb
      have e1' : HV v u C D i (ordW lgN o00 pr i) = some t := by rw [t4] at e1; exact e1
      rw [h1] at e1'
      have et : h = t := Option.some.inj e1'
      subst et
      refine ⟨t3, fun k hk => ?_, (c, d) :: h, by rw [t5] at e2; exact e2, fun c' d' => ?_⟩
      · rw [(tb1 _ t3).2.2.2.2.2.2.2 hg, t4, t5] at hk
        rw [List.map_append]
        rcases List.mem_cons.mp hk with rfl | q
        · simp
        · exact List.mem_append_left _ (hs k q)
      · rw [iff1, ← h2, List.mem_cons, Prod.mk.injEq]
        constructor
        · rintro (q | q)
          · exact Or.inl ⟨q.1, rfl, q.2⟩
          · exact Or.inr q
        · rintro (q | q)
          · exact Or.inl ⟨q.1, q.2.2⟩
          · exact Or.inr q
    · omega
  · obtain ⟨o65, hs, h, h1, h2⟩ := hH i
    rw [updN_n _ _ ei]
    refine ⟨o65, fun k hk => by rw [List.map_append]; exact List.mem_append_left _ (hs k hk), h, h1, fun c' d' => ?_⟩
    rw [iff1, ← h2]
    exact ⟨Or.inr, fun q => q.elim (fun z => absurd z.2.1 ei) id⟩
