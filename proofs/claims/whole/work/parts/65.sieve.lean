/-! WHO, LOOK: both sides gather one list of hits (judge, day, right) -/
theorem q_fillL {N t n0 : Nat} {x : Int32} {J : JT} (hn : n0 < 2 ^ 31) : ∀ r k n (I : IT), k + r = n0 → r < n → ∃ I1, fJ_fill_53178_L5 N t n0 x (nI n0) n (nI k) I J = some ((), I1, J) ∧ (∀ a, a ≠ t → I1 a = I a) ∧ (∀ i, i < k → I1 t i = I t i) ∧ ∀ i, k ≤ i → i < n0 → I1 t i = x := by
  intro r
  induction r with
  | zero =>
    intro k n I hk hn'
    obtain ⟨n, rfl⟩ : ∃ q, n = q + 1 := ⟨n - 1, by omega⟩
    rw [fJ_fill_53178_L5, if_pos (nI_le (by omega) (by omega))]
    exact ⟨I, rfl, fun _ _ => rfl, fun _ _ => rfl, fun i h1 h2 => by omega⟩
  | succ r ih =>
    intro k n I hk hn'
    obtain ⟨n, rfl⟩ : ∃ q, n = q + 1 := ⟨n - 1, by omega⟩
    rw [fJ_fill_53178_L5, if_neg (nI_ge (by omega) (by omega)), yb_ck_t (inb_nI (by omega) hn), nI_clamp (by omega), lts, lts, nI_1]
    obtain ⟨I1, e1, e2, e3, e4⟩ := ih (k + 1) n (up2 I t k x) (by omega) (by omega)
    refine ⟨I1, e1, fun a ha => (e2 a ha).trans (up2_ne _ _ _ ha), fun i hi => (e3 i (by omega)).trans (up2_at (Or.inr (by omega))), fun i h1 h2 => ?_⟩
    rcases Nat.eq_or_lt_of_le h1 with rfl | h3
    · rw [e3 k (by omega)]; exact up2_same _ _ _ _
    · exact e4 i (by omega) h2
theorem q_fill {N t n0 : Nat} {x : Int32} {I : IT} {J : JT} (hn : n0 < 2 ^ 31) (hN : n0 < N) : ∃ I1, fJ_fill_53178 N t n0 x I J = some ((), I1, J) ∧ (∀ a, a ≠ t → I1 a = I a) ∧ ∀ i, i < n0 → I1 t i = x := by
  obtain ⟨I1, e1, e2, _, e4⟩ := q_fillL (N := N) (t := t) (x := x) (J := J) hn n0 0 N I (by omega) hN
  unfold fJ_fill_53178
  rw [show nI 0 = (0 : Int32) from rfl] at e1
  rw [lts, e1, b3s]
  exact ⟨I1, rfl, e2, fun i hi => e4 i (by omega) hi⟩
def sumQ (q : Int32 ⊕ Unit) : Int32 := match q with
  | .inl x => x
  | .inr _ => 1
def fcV (w : Nat) (a y d r : Int32) : Int32 := if w / 2 = 0 then a else if w / 2 = 1 then y else if w / 2 = 2 then d else r
/-- do the FACTS k .. k + s - 1 allow it -/
def fcS (v : Nat → Int32) (c a y d r : Int32) : Nat → Nat → Int32
  | 0, _ => 1
  | s + 1, k => if v (111 + 3 * k) = c then (if (v (112 + 3 * k)).toNatClampNeg % 2 = 0 then (if v (113 + 3 * k) ≤ fcV (v (112 + 3 * k)).toNatClampNeg a y d r then fcS v c a y d r s (k + 1) else 0) else (if fcV (v (112 + 3 * k)).toNatClampNeg a y d r ≤ v (113 + 3 * k) then fcS v c a y d r s (k + 1) else 0)) else fcS v c a y d r s (k + 1)
theorem fcS01 (v : Nat → Int32) (c a y d r : Int32) : ∀ s k, fcS v c a y d r s k = 0 ∨ fcS v c a y d r s k = 1 := by
  intro s
  induction s with
  | zero => intro k; exact Or.inr rfl
  | succ s ih =>
    intro k
    rw [fcS]
    have := ih (k + 1)
    split
    · split
      · split
        · exact this
        · exact Or.inl rfl
      · split
        · exact this
        · exact Or.inl rfl
    · exact this
theorem w_tab : ∀ w, w < 8 → nI w >>> ((1 : Int32) &&& 31) = nI (w / 2) ∧ nI w &&& 1 = nI (w % 2) ∧ nI w - nI w / 2 * 2 = nI (w % 2) := by decide +kernel
theorem n00 : (nI 0 = (0 : Int32)) = True := eq_true rfl
theorem n10 : (nI 1 = (0 : Int32)) = False := eq_false (by decide)
theorem n20 : (nI 2 = (0 : Int32)) = False := eq_false (by decide)
theorem n30 : (nI 3 = (0 : Int32)) = False := eq_false (by decide)
theorem n11 : (nI 1 = (1 : Int32)) = True := eq_true rfl
theorem n21 : (nI 2 = (1 : Int32)) = False := eq_false (by decide)
theorem n31 : (nI 3 = (1 : Int32)) = False := eq_false (by decide)
theorem n22 : (nI 2 = (2 : Int32)) = True := eq_true rfl
theorem n32 : (nI 3 = (2 : Int32)) = False := eq_false (by decide)
theorem m10 : ((1 : Nat) = 0) = False := eq_false (by decide)
theorem m20 : ((2 : Nat) = 0) = False := eq_false (by decide)
theorem m30 : ((3 : Nat) = 0) = False := eq_false (by decide)
theorem m21 : ((2 : Nat) = 1) = False := eq_false (by decide)
theorem m31 : ((3 : Nat) = 1) = False := eq_false (by decide)
theorem m32 : ((3 : Nat) = 2) = False := eq_false (by decide)
theorem fc_cls {N b mb P C D M K : Nat} {L : List Nat} {S : ST} {Rf : RT} {I I' : IT} {J : JT} {Rl : Nat → List (List Tk × Option (List Tk))} (h : RelB b mb L S Rf I I' P C D M K Rl) {c a y d r : Int32} : ∀ s k n, k + s = M → s < n → ∃ q, f8_factsAllow_L3 N b S Rf (b + 4) c a y d r n (nI k) I J = some (q, I, J) ∧ sumQ q = fcS (I' (mb + 10)) c a y d r s k := by
  have hS := h.2.2.2.2.1
  obtain ⟨q1, ⟨qm1, qm2, qm3⟩, q3, q4, q5, q6, q7, q8⟩ := id hS
  have e5 : I (b + 4) 5 = nI M := q7.trans qm1
  intro s
  induction s with
  | zero =>
    intro k n hk hn
    obtain ⟨n, rfl⟩ : ∃ q, n = q + 1 := ⟨n - 1, by omega⟩
    rw [f8_factsAllow_L3, e5, if_pos (nI_le (by omega) (by omega))]
    exact ⟨_, rfl, rfl⟩
  | succ s ih =>
    intro k n hk hn
    obtain ⟨n, rfl⟩ : ∃ q, n = q + 1 := ⟨n - 1, by omega⟩
    obtain ⟨z1, z2, z3⟩ := q8 k (by omega)
    obtain ⟨w, ew, hw⟩ := qm3 k (by omega)
    obtain ⟨t1, t2, t3⟩ := w_tab w (by omega)
    have z1' : I (b + 4 + 20) k = I' (mb + 10) (111 + 3 * k) := z1
    have z2' : I (b + 4 + 21) k = nI w := z2.trans ew
    have z3' : I (b + 4 + 22) k = I' (mb + 10) (113 + 3 * k) := z3
    have go := ih (k + 1) n (by omega) (by omega)
    have no : ∃ q : Int32 ⊕ Unit, some (Sum.inl (0 : Int32), I, J) = some (q, I, J) ∧ sumQ q = 0 := ⟨_, rfl, rfl⟩
    rw [f8_factsAllow_L3, e5, if_neg (nI_ge (by omega) (by omega)), yb_ck_t (inb_nI (by omega) (by decide)), nI_clamp (by omega), z1', z2', z3', fcS, ew, nI_clamp (by omega)]
    by_cases c1 : I' (mb + 10) (111 + 3 * k) = c
    · rw [if_pos c1, if_pos c1, lts, t1, t2]
      unfold fcV
      rcases (show w / 2 = 0 ∨ w / 2 = 1 ∨ w / 2 = 2 ∨ w / 2 = 3 by omega) with e | e | e | e <;> rcases (show w % 2 = 0 ∨ w % 2 = 1 by omega) with f | f <;> rw [e, f] <;> simp only [n00, n10, n20, n30, n11, n21, n31, n22, n32, m10, m20, m30, m21, m31, m32, if_true, if_false]
      all_goals (split; (· rw [lts, nI_1]; exact go); (· exact no))
    · rw [if_neg c1, if_neg c1, lts, nI_1]
      exact go
section SIEVE
variable {N b mb P C D M K : Nat} {L : List Nat} {S : ST} {Rf : RT} {I I' I0 I0' : IT} {J J' : JT} {Rl : Nat → List (List Tk × Option (List Tk))} {c j d : Nat}
theorem q12_rightThen (hN : 1000 ≤ N) (h : RelB b mb L S Rf I I' P C D M K Rl) (hc : c < C) (hj : j < P) {d : Int32} : ∃ I1' J1', f12_rightThen N mb (nI c) (nI j) d I' J' = some (rgtC (I' (mb + 10)) (I' mb 21) Rl c j d 0 0, I1', J1') ∧ ∀ q k, (q ≠ mb ∨ k ≠ 18) → I1' q k = I' q k := by
  have h6 := co_C6 h.core
  have h7 := co_P7 h.core
  obtain ⟨a, g, n, f, ea, eg, en, ef, ha, _⟩ := h.core.1.2.2.2.2.2.1 c hc
  unfold f12_rightThen rgtC
  rw [k12_c0 (by omega), b3s, k12_c1 (by omega), b3s, k12_c2 (by omega), b3s, ea, nI_clamp (by omega)]
  obtain ⟨I1, J1, r1, r2, r3⟩ := q12_rightIn (J' := J') hN h.core h.rules rfl h.fo (g := I' (mb + 10) (46 + 11 * c)) (n := I' (mb + 10) (47 + 11 * c)) (d := d) (ru := 0) (ti := 0) hj ha
  rw [r1, b3s]
  exact ⟨I1, J1, rfl, r2⟩
theorem fc_val (hN : 1000 ≤ N) (h : RelB b mb L S Rf I I' P C D M K Rl) (hc : c < C) (hj : j < P) {w : Nat} (hw : w ≤ 7) {d : Int32} : ∃ I1' J1', f12_factValue N mb (nI w) (nI c) (nI j) d I' J' = some (fcV w (I' (mb + 10) (10 + 5 * j) + d) (I' (mb + 10) (11 + 5 * j)) d (rgtC (I' (mb + 10)) (I' mb 21) Rl c j d 0 0), I1', J1') ∧ ∀ q k, (q ≠ mb ∨ k ≠ 18) → I1' q k = I' q k := by
  have h7 := co_P7 h.core
  unfold f12_factValue fcV
  by_cases c2 : 2 ≤ w
  · rw [if_pos (show (2 : Int32) ≤ nI w from nI_le (a := 2) c2 (by omega)), if_neg (show ¬ w / 2 = 0 by omega)]
    by_cases c4 : 4 ≤ w
    · rw [if_pos (show (4 : Int32) ≤ nI w from nI_le (a := 4) c4 (by omega)), if_neg (show ¬ w / 2 = 1 by omega)]
      by_cases c6 : 6 ≤ w
      · rw [if_pos (show (6 : Int32) ≤ nI w from nI_le (a := 6) c6 (by omega)), if_neg (show ¬ w / 2 = 2 by omega)]
        obtain ⟨I1, J1, r1, r2⟩ := q12_rightThen (J' := J') hN h hc hj (d := d)
        rw [r1, b3s]
        exact ⟨_, _, rfl, r2⟩
      · rw [if_neg (show ¬ (6 : Int32) ≤ nI w from nI_ge (b := 6) (by omega) (by omega)), if_pos (show w / 2 = 2 by omega)]
        exact ⟨_, _, rfl, fun _ _ _ => rfl⟩
    · rw [if_neg (show ¬ (4 : Int32) ≤ nI w from nI_ge (b := 4) (by omega) (by omega)), if_pos (show w / 2 = 1 by omega), k12_p1 (by omega), b3s]
      exact ⟨_, _, rfl, fun _ _ _ => rfl⟩
  · rw [if_neg (show ¬ (2 : Int32) ≤ nI w from nI_ge (b := 2) (by omega) (by omega)), if_pos (show w / 2 = 0 by omega), q12_ageOn (by omega), b3s]
    exact ⟨_, _, rfl, fun _ _ _ => rfl⟩
theorem fc_ref (hN : 1000 ≤ N) (hc : c < C) (hj : j < P) {d v fo} (h0 : RelB b mb L S Rf I I0' P C D M K Rl) (ev : I0' (mb + 10) = v) (ef : I0' mb 21 = fo) : ∀ s k n (I' : IT) (J' : JT), (∀ q k, (q ≠ mb ∨ k ≠ 18) → I' q k = I0' q k) → k + s = M → s < n → ∃ q I1' J1', f12_areFactsSo_L3 N mb (nI c) (nI j) d n (nI k) I' J' = some (q, I1', J1') ∧ sumQ q = fcS v (nI c) (v (10 + 5 * j) + d) (v (11 + 5 * j)) d (rgtC v fo Rl c j d 0 0) s k ∧ ∀ q k, (q ≠ mb ∨ k ≠ 18) → I1' q k = I0' q k := by
  intro s
  induction s with
  | zero =>
    intro k n I' J' hs hk hn
    obtain ⟨n, rfl⟩ : ∃ q, n = q + 1 := ⟨n - 1, by omega⟩
    have hS := h0.2.2.2.2.1
    obtain ⟨q1, ⟨qm1, qm2, qm3⟩, _⟩ := id hS
    rw [f12_areFactsSo_L3, hs (mb + 10) 141 (Or.inl (by omega)), qm1, if_pos (nI_le (by omega) (by omega))]
    exact ⟨_, _, _, rfl, rfl, hs⟩
  | succ s ih =>
    intro k n I' J' hs hk hn
    obtain ⟨n, rfl⟩ : ∃ q, n = q + 1 := ⟨n - 1, by omega⟩
    have h := h0.keep (Same.rf b I) (SameM.top hs)
    have hS := h0.2.2.2.2.1
    obtain ⟨q1, ⟨qm1, qm2, qm3⟩, _⟩ := id hS
    obtain ⟨w, ew, hw⟩ := qm3 k (by omega)
    obtain ⟨t1, t2, t3⟩ := w_tab w (by omega)
    have e10 : I' (mb + 10) = v := (funext fun i => hs _ i (Or.inl (by omega))).trans ev
    have e21 : I' mb 21 = fo := (hs _ _ (Or.inr (by decide))).trans ef
    rw [ev] at ew qm1
    have ex : (111 : Int32) + 3 * nI k = nI (111 + 3 * k) := by
      show nI 111 + nI 3 * nI k = _
      rw [pk_mul, nI_add]
    have ex1 : nI (111 + 3 * k) + 1 = nI (112 + 3 * k) := by rw [nI_1]; congr 1; omega
    have ex2 : nI (111 + 3 * k) + 2 = nI (113 + 3 * k) := by
      show nI (111 + 3 * k) + nI 2 = _
      rw [nI_add]; congr 1; omega
    rw [f12_areFactsSo_L3, e10, qm1, if_neg (nI_ge (by omega) (by omega)), ex, lts, yb_ck_t (inb_nI (by omega) (by decide)), ex1, ex2, nI_clamp (by omega), nI_clamp (by omega), nI_clamp (by omega), fcS, ew, nI_clamp (by omega)]
    by_cases c1 : v (111 + 3 * k) = nI c
    · obtain ⟨A, B, a1, a2⟩ := fc_val (J' := J') hN h hc hj hw (d := d)
      rw [e10, e21] at a1
      have a3 : ∀ q k, (q ≠ mb ∨ k ≠ 18) → A q k = I0' q k := fun q k hq => (a2 q k hq).trans (hs q k hq)
      have a10 : A (mb + 10) = v := (funext fun i => a3 _ i (Or.inl (by omega))).trans ev
      have go := ih (k + 1) n A B a3 (by omega) (by omega)
      have no : ∃ (q : Int32 ⊕ Unit) (I1' : IT) (J1' : JT), some (Sum.inl (0 : Int32), A, B) = some (q, I1', J1') ∧ sumQ q = 0 ∧ ∀ q k, (q ≠ mb ∨ k ≠ 18) → I1' q k = I0' q k := ⟨_, _, _, rfl, rfl, a3⟩
      rw [if_pos c1, if_pos c1, yb_ck_t (inb_nI (by omega) (by decide)), a1, b3s, a10, ew, t3, yb_ck_t (inb_nI (by omega) (by decide))]
      rcases (show w % 2 = 0 ∨ w % 2 = 1 by omega) with f | f <;> rw [f] <;> simp only [n00, n10, m10, if_true, if_false]
      all_goals (try rw [yb_ck_t (inb_nI (by omega) (by decide))])
      all_goals (split; (· rw [lts, nI_1]; exact go); (· exact no))
    · rw [if_neg c1, if_neg c1, lts, nI_1]
      exact ih (k + 1) n I' J' hs (by omega) (by omega)
end SIEVE
/-! the hits -/
abbrev Hit : Type := Nat × Nat × Nat
def hitB (l : List Hit) (a : Int32) : Int32 := l.foldl (fun a x => a ||| ((1 : Int32) <<< (nI x.1 &&& 31))) a
def SvL (P : Nat) (R : Nat → Nat → Int32) (l : List Hit) : Prop := ∀ x ∈ l, x.1 < P ∧ x.2.1 < 61 ∧ x.2.2 < 101 ∧ R x.1 x.2.1 = nI x.2.2
def SvM (mb : Nat) (l : List Hit) (I' : IT) : Prop := I' mb 38 = nI l.length ∧ ∀ k x, l[k]? = some x → I' (mb + 22) k = nI x.1 ∧ I' (mb + 23) k = nI x.2.1
def SvC (b : Nat) (l : List Hit) (I : IT) : Prop := I (b + 48) 4 = nI l.length ∧ (l = [] → I (b + 48) 5 = -2 ∧ I (b + 48) 6 = -2) ∧ (∀ x t, l = x :: t → I (b + 48) 5 = nI x.1 ∧ I (b + 48) 6 = nI x.2.1) ∧ I (b + 48) 7 = hitB l 0 ∧ (∀ i, i < 7 → I (b + 49) i = nI (l.countP (fun x => x.1 == i))) ∧ (∀ i, i < 61 → I (b + 50) i = nI (l.countP (fun x => x.2.1 == i))) ∧ ∀ i, i < 101 → I (b + 51) i = nI (l.countP (fun x => x.2.2 == i))
theorem hit_cnt {f g : Nat → Int32} {n j : Nat} {l : List Hit} {x : Hit} {p : Hit → Nat} (hj : p x = j) (h : ∀ i, i < n → f i = nI (l.countP (fun x => p x == i))) (e : g = upd f j (f j + 1)) : ∀ i, i < n → g i = nI ((l ++ [x]).countP (fun x => p x == i)) := by
  intro i hi
  rw [e, List.countP_append]
  by_cases c : i = j
  · subst c
    rw [pk_us, h _ hi, nI_1]
    simp [hj]
  · rw [pk_un c, h _ hi]
    have : ¬ p x = i := fun q => c (q.symm.trans hj)
    simp [this]
theorem SvC.add {b j d r : Nat} {l : List Hit} {I I1 : IT} (h : SvC b l I) (h4 : I1 (b + 48) 4 = I (b + 48) 4 + 1) (h7 : I1 (b + 48) 7 = I (b + 48) 7 ||| ((1 : Int32) <<< (nI j &&& 31))) (h5 : l = [] → I1 (b + 48) 5 = nI j ∧ I1 (b + 48) 6 = nI d) (h6 : l ≠ [] → I1 (b + 48) 5 = I (b + 48) 5 ∧ I1 (b + 48) 6 = I (b + 48) 6) (h49 : I1 (b + 49) = upd (I (b + 49)) j (I (b + 49) j + 1)) (h50 : I1 (b + 50) = upd (I (b + 50)) d (I (b + 50) d + 1)) (h51 : I1 (b + 51) = upd (I (b + 51)) r (I (b + 51) r + 1)) : SvC b (l ++ [(j, d, r)]) I1 := by
  obtain ⟨g4, g5, g6, g7, g49, g50, g51⟩ := h
  refine ⟨?_, fun q => by simp at q, fun x t q => ?_, ?_, hit_cnt (x := (j, d, r)) (p := fun x => x.1) rfl g49 h49, hit_cnt (x := (j, d, r)) (p := fun x => x.2.1) rfl g50 h50, hit_cnt (x := (j, d, r)) (p := fun x => x.2.2) rfl g51 h51⟩
  · rw [h4, g4, nI_1]; simp
  · cases l with
    | nil =>
      simp at q
      obtain ⟨rfl, _⟩ := q
      exact h5 rfl
    | cons y u =>
      simp at q
      obtain ⟨rfl, _⟩ := q
      obtain ⟨w1, w2⟩ := h6 (by simp)
      rw [w1, w2]
      exact g6 _ _ rfl
  · rw [h7, g7]
    unfold hitB
    rw [List.foldl_append]
    rfl
theorem SvM.add {mb j d : Nat} {l : List Hit} {r : Nat} {I I1 : IT} (h : SvM mb l I) (e38 : I1 mb 38 = nI (l.length + 1)) (e22 : I1 (mb + 22) = upd (I (mb + 22)) l.length (nI j)) (e23 : I1 (mb + 23) = upd (I (mb + 23)) l.length (nI d)) : SvM mb (l ++ [(j, d, r)]) I1 := by
  refine ⟨by rw [e38]; simp, fun k x hk => ?_⟩
  rw [e22, e23]
  by_cases c : k = l.length
  · subst c
    rw [pk_us, pk_us]
    simp at hk
    subst hk
    exact ⟨rfl, rfl⟩
  · rw [pk_un c, pk_un c]
    rcases Nat.lt_or_ge k l.length with q | q
    · rw [List.getElem?_append_left q] at hk
      exact h.2 k x hk
    · rw [List.getElem?_append_right q] at hk
      have : k - l.length ≠ 0 := by omega
      obtain ⟨m, hm⟩ : ∃ m, k - l.length = m + 1 := ⟨k - l.length - 1, by omega⟩
      rw [hm] at hk
      simp at hk
theorem SvM.congr {mb : Nat} {l : List Hit} {I I1 : IT} (h : SvM mb l I) (hs : ∀ q k, (q ≠ mb ∨ k ≠ 18) → I1 q k = I q k) : SvM mb l I1 := by
  refine ⟨by rw [hs _ _ (Or.inr (by decide))]; exact h.1, fun k x hk => ?_⟩
  rw [hs _ _ (Or.inl (by omega)), hs _ _ (Or.inl (by omega))]
  exact h.2 k x hk
theorem SvL.add {P j d r : Nat} {R : Nat → Nat → Int32} {l : List Hit} (h : SvL P R l) (h1 : j < P) (h2 : d < 61) (h3 : r < 101) (h4 : R j d = nI r) : SvL P R (l ++ [(j, d, r)]) := by
  intro x hx
  rcases List.mem_append.mp hx with q | q
  · exact h x q
  · simp at q
    subst q
    exact ⟨h1, h2, h3, h4⟩
