/-! BENCHES: both sides put together -/
/-- days and rights of the judges before j, in the class -/
def PlC (b C D : Nat) (v : Nat → Int32) (fo : Int32) (Rl : Nat → List (List Tk × Option (List Tk))) (u : List Nat) (Q : Nat → Prop) (I : IT) : Prop := ∀ j o, Q j → 0 < o → o < 65 → I (b + 37) (j * 65 + o) = bI D (BV v u C D j o) ∧ ∀ d, BV v u C D j o = some d → I (b + 38) (j * 65 + o) = nI (RtV v fo Rl u C D j o)
def FrB (mb : Nat) (I0' I' : IT) : Prop := (∀ a, (a < mb ∨ (mb < a ∧ a < mb + 12) ∨ mb + 20 < a) → I' a = I0' a) ∧ ∀ k, k ≠ 18 → k ≠ 25 → k ≠ 35 → k ≠ 36 → I' mb k = I0' mb k
def FrC (b : Nat) (I0 I : IT) : Prop := (∀ a, (a < b + 33 ∨ (b + 33 < a ∧ a < b + 37) ∨ b + 46 < a) → I a = I0 a)
theorem FrB.sm {mb : Nat} {I0' I' : IT} (h : FrB mb I0' I') : SameM mb I0' I' := ⟨⟨h.2 _ (by decide) (by decide) (by decide) (by decide), h.2 _ (by decide) (by decide) (by decide) (by decide), h.2 _ (by decide) (by decide) (by decide) (by decide), h.2 _ (by decide) (by decide) (by decide) (by decide), h.2 _ (by decide) (by decide) (by decide) (by decide)⟩, fun k hk => h.1 _ (by omega)⟩
theorem FrC.rf (b : Nat) (I : IT) : FrC b I I := fun _ _ => rfl
theorem FrC.tr {b : Nat} {I I1 I2 : IT} (h : FrC b I I1) (g : FrC b I1 I2) : FrC b I I2 := fun a q => (g a q).trans (h a q)
theorem FrC.sm {b : Nat} {I0 I : IT} (h : FrC b I0 I) (hb : ∀ a, b + 47 ≤ a → I a = I0 a) : Same b I0 I := fun a ha => h a (by omega)
section BWRAP
variable {N b mb P C D M K j : Nat} {L : List Nat} {u : List Nat} {I I0 I' I0' : IT} {J J' : JT} {S : ST} {Rf : RT} {Rl : Nat → List (List Tk × Option (List Tk))}
theorem gd_get {u : List Nat} {i : Nat} (h : i < u.length) : u[i]? = some (u.getD i 0) := by
  rw [List.getD_eq_getElem?_getD, List.getElem?_eq_getElem h]; rfl
theorem gather_c (hN : 1000 ≤ N) (h : CoreR b mb I I' P C D) (ht : TblR b I) : ∃ I1, f4_gatherOpen N b S Rf I J = some ((), I1, J) ∧ (∀ a, a ≠ b + 33 → a ≠ b + 39 → I1 a = I a) ∧ I1 (b + 33) 14 = nI (opL (I' (mb + 10)) C 0).length ∧ ((opL (I' (mb + 10)) C 0).length ≤ 4 → OpC b mb P C D (opL (I' (mb + 10)) C 0) I1 I') := by
  have h6 := co_C6 h
  obtain ⟨I1, e1, e2, e3, e4, e5⟩ := go_cls (N := N) (J := J) (S := S) (Rf := Rf) (h.keep (I1 := up2 I (b + 33) 14 0) (fun a h1 h2 => up2_ne _ _ _ (by omega)) rfl) C 0 N [] (up2 I (b + 33) 14 0) (by omega) (by omega) (Nat.le_refl _) (fun _ _ _ => rfl) (fun _ _ => rfl) (up2_same _ _ _ _) (fun i x hx => by simp at hx)
  rw [List.nil_append] at e4 e5
  rw [show nI 0 = (0 : Int32) from rfl] at e1
  unfold f4_gatherOpen
  rw [lts, e1, b3s]
  have e2' : ∀ a, a ≠ b + 33 → a ≠ b + 39 → I1 a = I a := fun a h1 h2 => (e2 a h1 h2).trans (up2_ne _ _ _ h1)
  refine ⟨I1, rfl, e2', e4, fun h4 => ⟨h.keep (fun a h1 h2 => e2' a (by omega) (by omega)) rfl, ht.cg (fun a h1 h2 => e2' a (by omega) (by omega)), e4, h4, fun i hi => ?_⟩⟩
  have hg := gd_get hi
  have hm := opL_mem C 0 _ (List.mem_of_getElem? hg)
  exact ⟨by omega, e5 i _ hg (by omega)⟩
theorem weigh_c (hN : 1000 ≤ N) (hj : j < P) (h : RelB b mb L S Rf I I' P C D M K Rl) (hO : OpC b mb P C D u I I') (hB : ∀ o, 0 < o → o < 65 → I (b + 37) (j * 65 + o) = bI D (BV (I' (mb + 10)) u C D j o)) : ∃ I1 J1, f4_weigh N b S Rf (nI j) I J = some ((), I1, J1) ∧ (∀ a, a ≠ b + 38 → I1 a = I a) ∧ (∀ i, (i ≤ j * 65 ∨ j * 65 + 65 ≤ i) → I1 (b + 38) i = I (b + 38) i) ∧ PlC b C D (I' (mb + 10)) (I' mb 21) Rl u (fun x => x = j) I1 := by
  have h7 := co_P7 hO.1
  obtain ⟨I1, J1, e1, e2, e3, e4⟩ := c_weighL (N := N) hN hj h hO hB 64 1 N I J (by omega) (by omega) (by omega) (fun _ _ => rfl) (fun _ _ => rfl) (fun o' d g1 g2 => by omega)
  unfold f4_weigh
  rw [show nI 1 = (1 : Int32) from rfl] at e1
  rw [yb_ck_t (inb_nI (show j < 7 by omega) (by decide)), nI_clamp (show j < 2 ^ 31 by omega), co_ruled hO.1 hj, lts, e1, b3s]
  refine ⟨I1, J1, rfl, e2, e3, ?_⟩
  rintro j' o rfl h1 h2
  refine ⟨by rw [e2 _ (by omega)]; exact hB o h1 h2, fun d hd => ?_⟩
  rw [e4 o d h1 h2 hd, RtV_n hd]
theorem place_c (hN : 1000 ≤ N) (h0 : RelB b mb L S Rf I0 I' P C D M K Rl) (hO0 : OpC b mb P C D u I0 I') : ∀ r j n (I : IT) (J : JT), j + r = P → r < n → (∀ a, a ≠ b + 37 → a ≠ b + 38 → I a = I0 a) → PlC b C D (I' (mb + 10)) (I' mb 21) Rl u (fun x => x < j) I →
    ∃ I1 J1, f4_placeAll_L2 N b S Rf n (nI j) I J = some ((), I1, J1) ∧ (∀ a, a ≠ b + 37 → a ≠ b + 38 → I1 a = I0 a) ∧ PlC b C D (I' (mb + 10)) (I' mb 21) Rl u (fun x => x < P) I1 := by
  have h7 := co_P7 hO0.1
  intro r
  induction r with
  | zero =>
    intro j n I J hr hn f1 f2
    obtain ⟨n, rfl⟩ : ∃ q, n = q + 1 := ⟨n - 1, by omega⟩
    have e : j = P := by omega
    subst e
    rw [f4_placeAll_L2, f1 _ (by omega) (by omega), co_P hO0.1, if_pos (nI_le (Nat.le_refl _) (by omega))]
    exact ⟨I, J, rfl, f1, f2⟩
  | succ r ih =>
    intro j n I J hr hn f1 f2
    obtain ⟨n, rfl⟩ : ∃ q, n = q + 1 := ⟨n - 1, by omega⟩
    have hjP : j < P := by omega
    have hO : OpC b mb P C D u I I' := hO0.keep (fun a g1 g2 => f1 a (by omega) (by omega)) (by rw [f1 _ (by omega) (by omega)])
    obtain ⟨I1, e1, e2, e3, e4⟩ := c_placeL (N := N) (J := J) (S := S) (Rf := Rf) hN hjP hO 64 1 N I (by omega) (by omega) (by omega) (fun _ _ => rfl) (fun _ _ => rfl) (fun o' g1 g2 => by omega)
    rw [show nI 1 = (1 : Int32) from rfl] at e1
    have f1' : ∀ a, a ≠ b + 37 → a ≠ b + 38 → I1 a = I0 a := fun a g1 g2 => (e2 a g1).trans (f1 a g1 g2)
    have hO1 : OpC b mb P C D u I1 I' := hO0.keep (fun a g1 g2 => f1' a (by omega) (by omega)) (by rw [f1' _ (by omega) (by omega)])
    have h1 : RelB b mb L S Rf I1 I' P C D M K Rl := h0.keep (fun a ha => f1' a (by omega) (by omega)) (SameM.rf mb I')
    obtain ⟨I2, J2, g1, g2, g3, g4⟩ := weigh_c (N := N) (J := J) hN hjP h1 hO1 e4
    rw [f4_placeAll_L2, f1 _ (by omega) (by omega), co_P hO0.1, if_neg (nI_ge (by omega) (by omega)), e1, b3s, g1, b3s, lts, nI_1]
    refine ih (j + 1) n I2 J2 (by omega) (by omega) (fun a z1 z2 => (g2 a z2).trans (f1' a z1 z2)) (fun j' o z1 z2 z3 => ?_)
    by_cases ce : j' = j
    · exact g4 j' o ce z2 z3
    · obtain ⟨y1, y2⟩ := f2 j' o (by omega) z2 z3
      refine ⟨?_, fun d hd => ?_⟩
      · rw [g2 _ (by omega), e3 _ (by omega)]; exact y1
      · rw [g3 _ (by omega), e2 _ (by omega)]; exact y2 d hd
theorem placeAll_c (hN : 1000 ≤ N) (h0 : RelB b mb L S Rf I I' P C D M K Rl) (hO0 : OpC b mb P C D u I I') : ∃ I1 J1, f4_placeAll N b S Rf I J = some ((), I1, J1) ∧ (∀ a, a ≠ b + 37 → a ≠ b + 38 → I1 a = I a) ∧ PlC b C D (I' (mb + 10)) (I' mb 21) Rl u (fun x => x < P) I1 := by
  have h7 := co_P7 hO0.1
  obtain ⟨I1, J1, e1, e2⟩ := place_c (N := N) hN h0 hO0 P 0 N I J (by omega) (by omega) (fun _ _ _ => rfl) (fun j o hj => by omega)
  rw [show nI 0 = (0 : Int32) from rfl] at e1
  unfold f4_placeAll
  rw [e1, b3s]
  exact ⟨I1, J1, rfl, e2⟩
theorem searchAll_c {fo : Int32} (hN : 1000 ≤ N) (hO : OpC b mb P C D u I I') (hP : PlC b C D (I' (mb + 10)) fo Rl u (fun x => x < P) I) : ∃ I1, f4_search N b S Rf I J = some ((), I1, J) ∧ FrS b I I1 ∧ ((u.length = 0 ∧ I1 (b + 33) 15 = 0 ∧ I1 (b + 33) 16 = -1) ∨ (1 ≤ u.length ∧ ∃ best, BsC b D u I1 best ∧ IsBest (PrV lgN (BV (I' (mb + 10)) u C D) (RtV (I' (mb + 10)) fo Rl u C D) (lnV (I' (mb + 10)) u) P u.length) best)) := by
  have h7 := co_P7 hO.1
  have hC6 := co_C6 hO.1
  rcases Nat.eq_zero_or_pos u.length with e | e
  · obtain ⟨A, a1, a2, a3⟩ := q_fill (N := N) (t := b + 43) (n0 := 7) (x := 0) (I := up2 (up2 I (b + 33) 15 (-1)) (b + 33) 16 (-1)) (J := J) (by omega) (by omega)
    have hF : FrS b I A := by
      have f1 : FrS b I (up2 (up2 I (b + 33) 15 (-1)) (b + 33) 16 (-1)) := ((FrS.rf b I).up _ (by omega)).up _ (by omega)
      exact ⟨fun a ha => (a2 a (by omega)).trans (f1.1 a ha), fun k h1 h2 => by rw [a2 _ (by omega)]; exact f1.2 k h1 h2⟩
    have e14 : A (b + 33) 14 = 0 := by
      rw [hF.2 14 (by decide) (by decide), hO.2.2.1, e]; rfl
    unfold f4_search
    rw [lts, lts, a1, b3s, if_pos e14, lts]
    exact ⟨_, rfl, hF.up _ (by omega), Or.inl ⟨e, up2_same _ _ _ _, by rw [up2_at (Or.inr (by decide)), a2 _ (by omega), up2_same]⟩⟩
  · have hS : SeC b P u.length D (BV (I' (mb + 10)) u C D) (RtV (I' (mb + 10)) fo Rl u C D) (lnV (I' (mb + 10)) u) u I := by
      refine ⟨⟨hO.2.2.1, e, hO.2.2.2.1⟩, ⟨co_P hO.1, h7⟩, co_D12 hO.1, hO.2.1.1, fun j o h1 h2 h3 => ?_, fun c hc => ?_⟩
      · obtain ⟨y1, y2⟩ := hP j o h1 h2 h3
        exact ⟨y1, fun d hd => ⟨(by obtain ⟨_, _, _, _, z⟩ := Hh_some h2 h3 hd; exact z), y2 d hd⟩, RtV_100 _ _ _ _ _ _ _ _⟩
      · obtain ⟨z1, z2⟩ := hO.2.2.2.2 c hc
        obtain ⟨l1, l2, l3⟩ := hO.ln hc
        exact ⟨by omega, z2, by rw [co_len hO.1 z1]; exact l1, l2, l3⟩
    obtain ⟨I1, best, e1, e2, e3, e4⟩ := search_c (N := N) (S := S) (Rf := Rf) (J := J) hN hS
    exact ⟨I1, e1, e2, Or.inr ⟨e, best, e3, e4⟩⟩
/-- the reference's benches -/
def BnM (mb P C D : Nat) (v : Nat → Int32) (fo : Int32) (Rl : Nat → List (List Tk × Option (List Tk))) (r : Int32) (I1' : IT) : Prop :=
  (4 < (opL v C 0).length ∧ r = -3) ∨ ((opL v C 0).length = 0 ∧ r = 0 ∧ I1' mb 35 = 0 ∧ I1' mb 36 = -1 ∧ I1' mb 25 = 0) ∨
  (1 ≤ (opL v C 0).length ∧ (opL v C 0).length ≤ 4 ∧ ∃ best, IsBest (FuV lgN (BV v (opL v C 0) C D) (RtV v fo Rl (opL v C 0) C D) (lnV v (opL v C 0)) P (opL v C 0).length) best ∧ BsM mb (opL v C 0).length I1' best ∧ ((best = none ∧ r = -2) ∨ (best ≠ none ∧ r = 0 ∧ OpM mb (opL v C 0) I1')))
theorem now_m (hN : 6000000 ≤ N) (h : RelB b mb L S Rf I I' P C D M K Rl) : ∃ r I1' J1', f12_benchesNow N mb I' J' = some (r, I1', J1') ∧ FrB mb I' I1' ∧ BnM mb P C D (I' (mb + 10)) (I' mb 21) Rl r I1' := by
  have hc := h.core
  have h6 := co_C6 hc
  obtain ⟨I1, e1, e2, e3, e4, e5⟩ := go_ref (N := N) (J' := J') (hc.keep (I1' := up2 I' mb 25 0) (fun _ _ _ => rfl) (up2_ne _ _ _ (by omega))) C 0 N [] (up2 I' mb 25 0) (by omega) (by omega) (Nat.le_refl _) (fun _ _ _ => rfl) (fun _ _ => rfl) (up2_same _ _ _ _) (fun i x hx => by simp at hx)
  rw [up2_ne _ _ _ (show mb + 10 ≠ mb by omega), List.nil_append] at e4 e5
  rw [show nI 0 = (0 : Int32) from rfl] at e1
  have e2' : ∀ a, a ≠ mb → a ≠ mb + 12 → I1 a = I' a := fun a h1 h2 => (e2 a h1 h2).trans (up2_ne _ _ _ h1)
  have e3' : ∀ i, i ≠ 25 → I1 mb i = I' mb i := fun i hi => (e3 i hi).trans (up2_at (Or.inr hi))
  have hl := opL_len (v := I' (mb + 10)) C 0
  have hFB1 : FrB mb I' I1 := ⟨fun a ha => e2' a (by omega) (by omega), fun k _ h2 _ _ => e3' k h2⟩
  have ho : f12_fillsOpen N mb I' J' = some ((), I1, J') := by unfold f12_fillsOpen; rw [lts, e1, b3s]
  unfold f12_benchesNow
  rw [ho, b3s, e4]
  by_cases c4 : (opL (I' (mb + 10)) C 0).length ≤ 4
  · have k1 : ∀ x : Int32, up2 (up2 I1 mb 35 0) mb 36 x mb 25 = nI (opL (I' (mb + 10)) C 0).length := fun x => by rw [up2_at (Or.inr (by decide)), up2_at (Or.inr (by decide))]; exact e4
    rw [if_pos (show nI (opL (I' (mb + 10)) C 0).length ≤ (4 : Int32) from nI_le (b := 4) c4 (by omega)), lts, lts, k1]
    have hFB2 : FrB mb I' (up2 (up2 I1 mb 35 0) mb 36 (-1)) := ⟨fun a ha => by rw [up2_ne _ _ _ (by omega), up2_ne _ _ _ (by omega)]; exact hFB1.1 a ha, fun k h1 h2 h3 h4 => by rw [up2_at (Or.inr h4), up2_at (Or.inr h3)]; exact hFB1.2 k h1 h2 h3 h4⟩
    rcases Nat.eq_zero_or_pos (opL (I' (mb + 10)) C 0).length with e0 | e0
    · rw [if_pos (by rw [e0]; rfl)]
      refine ⟨0, _, J', rfl, hFB2, Or.inr (Or.inl ⟨e0, rfl, ?_, up2_same _ _ _ _, by rw [k1, e0]; rfl⟩)⟩
      rw [up2_at (Or.inr (by decide)), up2_same]
    · rw [if_neg (nI_ne0 (by omega) (by omega))]
      have ev : up2 (up2 I1 mb 35 0) mb 36 (-1) (mb + 10) = I' (mb + 10) := hFB2.1 _ (by omega)
      have ef : up2 (up2 I1 mb 35 0) mb 36 (-1) mb 21 = I' mb 21 := hFB2.2 21 (by decide) (by decide) (by decide) (by decide)
      have hR2 : RelB b mb L S Rf I (up2 (up2 I1 mb 35 0) mb 36 (-1)) P C D M K Rl := h.keep (Same.rf b I) hFB2.sm
      have hO2 : OpM mb (opL (I' (mb + 10)) C 0) (up2 (up2 I1 mb 35 0) mb 36 (-1)) := ⟨k1 _, c4, fun i hi => by
        rw [up2_ne _ _ _ (by omega), up2_ne _ _ _ (by omega)]
        exact e5 i _ (gd_get hi)⟩
      have hu : ∀ i, i < (opL (I' (mb + 10)) C 0).length → (opL (I' (mb + 10)) C 0).getD i 0 < C ∧ I' (mb + 10) (54 + 11 * (opL (I' (mb + 10)) C 0).getD i 0) = 0 := fun i hi => by
        have hm := opL_mem C 0 _ (List.mem_of_getElem? (gd_get hi))
        exact ⟨by omega, hm.2.2.2⟩
      obtain ⟨I3, J3, s1, s2, s3⟩ := spots_m (N := N) (J' := J') (by omega) hR2 hO2 (by rw [ev]; exact hu)
      rw [ev, ef] at s3
      have hFP : ∀ a, a ≠ mb → a ≠ mb + 13 → a ≠ mb + 14 → I3 a = up2 (up2 I1 mb 35 0) mb 36 (-1) a := fun a h1 h2 h3 => funext fun k => s2 a k h2 h3 (Or.inl h1)
      have ev3 : I3 (mb + 10) = I' (mb + 10) := (hFP _ (by omega) (by omega) (by omega)).trans ev
      have hP1 : 1 ≤ P := by
        obtain ⟨a, g, n, f, _, _, _, _, ha, _⟩ := hc.1.2.2.2.2.2.1 _ (hu 0 e0).1
        omega
      have hBa : BaM b mb P C D (opL (I' (mb + 10)) C 0) (I' mb 21) Rl I I3 := by
        refine ⟨hc.keep (fun _ _ _ => rfl) ev3, ⟨?_, c4, fun i hi => ?_⟩, ⟨e0, hP1⟩, fun i hi => (hu i hi).1, fun k j d h1 h2 h3 => by rw [ev3]; exact s3 k j d h1 h2 h3⟩
        · rw [s2 _ _ (by omega) (by omega) (Or.inr (by decide))]; exact hO2.1
        · rw [hFP _ (by omega) (by omega) (by omega)]; exact hO2.2.2 i hi
      obtain ⟨I4, best, f1, f2, f3, f4⟩ := finds_m (N := N) (J' := J3) hN hBa
      rw [ev3] at f4
      have hFB4 : FrB mb I' I4 := ⟨fun a ha => by
          rw [f2.1 a (by omega), hFP a (by omega) (by omega) (by omega)]; exact hFB2.1 a ha, fun k h1 h2 h3 h4 => by
          rw [f2.2 k h3 h4, s2 _ _ (by omega) (by omega) (Or.inr h1)]; exact hFB2.2 k h1 h2 h3 h4⟩
      rw [s1, b3s, f1, b3s]
      cases best with
      | none =>
        rw [f3.1, if_neg (show ¬ (0 : Int32) ≤ -1 by decide)]
        exact ⟨-2, I4, J3, rfl, hFB4, Or.inr (Or.inr ⟨e0, c4, none, f4, f3, Or.inl ⟨rfl, rfl⟩⟩)⟩
      | some x =>
        have hx1 := f3.2.2.1.1
        rw [f3.1, if_pos (show (0 : Int32) ≤ nI x.1 from nI_pos' (by omega))]
        refine ⟨0, I4, J3, rfl, hFB4, Or.inr (Or.inr ⟨e0, c4, some x, f4, f3, Or.inr ⟨fun z => (by cases z), rfl, ?_, c4, fun i hi => ?_⟩⟩)⟩
        · rw [f2.2 25 (by decide) (by decide)]; exact hBa.2.1.1
        · rw [f2.1 _ (by omega)]; exact hBa.2.1.2.2 i hi
  · rw [if_neg (show ¬ nI (opL (I' (mb + 10)) C 0).length ≤ (4 : Int32) from nI_ge (b := (opL (I' (mb + 10)) C 0).length) (a := 4) (by omega) (by omega))]
    exact ⟨-3, I1, J', rfl, hFB1, Or.inl ⟨by omega, rfl⟩⟩
end BWRAP
