/-! BENCHES, the reference: the next that can stand at a place -/
def FrQ (mb : Nat) (I0' I' : IT) : Prop := (∀ a, (a < mb ∨ (mb < a ∧ a < mb + 15) ∨ mb + 20 < a) → I' a = I0' a) ∧ ∀ k, k ≠ 35 → k ≠ 36 → I' mb k = I0' mb k
theorem FrQ.rf (mb : Nat) (I : IT) : FrQ mb I I := ⟨fun _ _ => rfl, fun _ _ _ => rfl⟩
theorem FrQ.tr {mb : Nat} {I I1 I2 : IT} (h : FrQ mb I I1) (g : FrQ mb I1 I2) : FrQ mb I I2 := ⟨fun a q => (g.1 a q).trans (h.1 a q), fun k h1 h2 => (g.2 k h1 h2).trans (h.2 k h1 h2)⟩
theorem FrQ.up {mb : Nat} {I I1 : IT} (h : FrQ mb I I1) {a k : Nat} (x : Int32) (ha : (mb + 15 ≤ a ∧ a ≤ mb + 20) ∨ (a = mb ∧ (k = 35 ∨ k = 36))) : FrQ mb I (up2 I1 a k x) :=
  ⟨fun q hq => (up2_ne _ _ _ (by omega)).trans (h.1 q hq), fun i h1 h2 => (up2_at (by omega)).trans (h.2 i h1 h2)⟩
/-- what the search rests on -/
def BaM (b mb P C D : Nat) (u : List Nat) (fo : Int32) (Rl : Nat → List (List Tk × Option (List Tk))) (I I' : IT) : Prop := CoreR b mb I I' P C D ∧ OpM mb u I' ∧ (1 ≤ u.length ∧ 1 ≤ P) ∧ (∀ i, i < u.length → u.getD i 0 < C) ∧ ∀ k j d, k < u.length → j < P → d < 100 → SpR mb (I' (mb + 10)) fo Rl u D I' k j d
def PrM (mb : Nat) (Bg : Nat → Nat → Option Nat) (pr : Rw) (I' : IT) : Prop := (∀ p c j, pr[p]? = some (c, j) → I' (mb + 15) p = nI c ∧ I' (mb + 16) p = nI j) ∧ ∀ p d, (dyW lgN Bg o00 pr)[p]? = some d → I' (mb + 17) p = nI d
def sumB (q : Int32 ⊕ Unit) : Int32 := match q with
  | .inl x => x
  | .inr _ => 0
section GOES
variable {N b mb P C D : Nat} {u : List Nat} {I I0' I' : IT} {J' : JT} {fo : Int32} {Rl : Nat → List (List Tk × Option (List Tk))} {pr : Rw}
theorem BaM.fr (h : BaM b mb P C D u fo Rl I I0') (hf : FrQ mb I0' I') : BaM b mb P C D u fo Rl I I' := by
  obtain ⟨h1, ⟨h2, h3, h4⟩, h5, h6, h7⟩ := h
  have ev : I' (mb + 10) = I0' (mb + 10) := hf.1 _ (by omega)
  refine ⟨h1.keep (fun _ _ _ => rfl) ev, ⟨(hf.2 25 (by decide) (by decide)).trans h2, h3, fun i hi => by rw [hf.1 _ (by omega)]; exact h4 i hi⟩, h5, h6, fun k j d g1 g2 g3 => ?_⟩
  rw [ev]
  exact (h7 k j d g1 g2 g3).cg (by rw [hf.1 _ (by omega)]) (by rw [hf.1 _ (by omega)])
theorem len_m (h : BaM b mb P C D u fo Rl I I') {c : Nat} (hc : c < u.length) : f12_lengthOf mb (nI c) I' J' = some (nI (lnV (I' (mb + 10)) u c), I', J') ∧ 1 ≤ lnV (I' (mb + 10)) u c ∧ lnV (I' (mb + 10)) u c ≤ 9 := by
  obtain ⟨h1, ⟨h2, h3, h4⟩, h5, h6, h7⟩ := h
  have hC6 := co_C6 h1
  have huC := h6 c hc
  obtain ⟨a, g, n, f, ea, eg, en, ef, ha, _, _, hn1, hn2, _⟩ := h1.1.2.2.2.2.2.1 _ huC
  unfold f12_lengthOf lnV
  rw [yb_ck_t (inb_nI (show c < 6 by omega) (by decide)), nI_clamp (show c < 2 ^ 31 by omega), h4 c hc, k12_c2 (by omega), b3s, en, nI_clamp (by omega)]
  exact ⟨rfl, hn1, hn2⟩
theorem dy100 {v : Nat → Int32} : ∀ (r : Rw) (o : Nat → Nat), (∀ j, o j < 65) → (∀ c, c ∈ r.map Prod.fst → c < 4) → okW lgN (BV v u C D) P o r → ∀ d, d ∈ dyW lgN (BV v u C D) o r → d < 100 := by
  intro r
  induction r with
  | nil => intro o _ _ _ d hd; cases hd
  | cons x r ih =>
    intro o ho hc hok d hd
    obtain ⟨c, j⟩ := x
    obtain ⟨g1, g2, g3, g4⟩ := hok
    have hl := lg65 (ho j) (hc c (by simp))
    rcases List.mem_cons.mp hd with q | q
    · cases hb : BV v u C D j (lgN (o j) c) with
      | none => exact absurd hb g3
      | some d0 =>
        obtain ⟨_, _, _, _, e4⟩ := Hh_some g2 hl hb
        rw [hb] at q
        have : d = d0 := q
        omega
    · exact ih _ (fun i => by
        by_cases e : i = j
        · subst e; rw [updN_s]; exact hl
        · rw [updN_n _ _ e]; exact ho i) (fun c' hc' => hc c' (by simp at hc' ⊢; exact Or.inr hc')) g4 d q
theorem bz_L {j d l : Nat} (h : BaM b mb P C D u fo Rl I I') (hP : PrM mb (BV (I' (mb + 10)) u C D) pr I') (hcm : ∀ c, c ∈ pr.map Prod.fst → c < u.length) (hjs : ∀ x, x ∈ pr → x.2 < P) (hds : ∀ d, d ∈ dyW lgN (BV (I' (mb + 10)) u C D) o00 pr → d < 100) (hk4 : pr.length ≤ 4) (hj : j < P) (hd : d < 100) (hl : l ≤ 9) : ∀ r i n, i + r = pr.length → r < n →
    ∃ q, f12_isBusy_L28 N mb (nI pr.length) (nI j) (nI d) (nI l) n (nI i) I' J' = some (q, I', J') ∧ (sumB q = 0 ∨ sumB q = 1) ∧ (sumB q = 0 ↔ ∀ p c' d' : Nat, i ≤ p → pr[p]? = some (c', j) → (dyW lgN (BV (I' (mb + 10)) u C D) o00 pr)[p]? = some d' → d' + lnV (I' (mb + 10)) u c' ≤ d ∨ d + l ≤ d') := by
  have h7 := co_P7 h.1
  have hdl := dyW_len (lg := lgN) (Bg := BV (I' (mb + 10)) u C D) pr o00
  intro r
  induction r with
  | zero =>
    intro i n hi hn
    obtain ⟨n, rfl⟩ : ∃ q, n = q + 1 := ⟨n - 1, by omega⟩
    rw [f12_isBusy_L28, if_pos (nI_le (by omega) (by omega))]
    exact ⟨_, rfl, Or.inl rfl, ⟨fun _ p c' d' h1 h2 => by have := (List.getElem?_eq_some_iff.mp h2).1; omega, fun _ => rfl⟩⟩
  | succ r ih =>
    intro i n hi hn
    obtain ⟨n, rfl⟩ : ∃ q, n = q + 1 := ⟨n - 1, by omega⟩
    have hip : i < pr.length := by omega
    obtain ⟨c', j', hcj⟩ : ∃ c j, pr[i]? = some (c, j) := ⟨(pr[i]).1, (pr[i]).2, by rw [List.getElem?_eq_getElem hip]⟩
    obtain ⟨d', hd'⟩ : ∃ d, (dyW lgN (BV (I' (mb + 10)) u C D) o00 pr)[i]? = some d := ⟨(dyW lgN (BV (I' (mb + 10)) u C D) o00 pr)[i]'(by omega), by rw [List.getElem?_eq_getElem]⟩
    have hc'm : c' < u.length := hcm c' (List.mem_map.mpr ⟨_, List.mem_of_getElem? hcj, rfl⟩)
    have hj'P : j' < P := hjs _ (List.mem_of_getElem? hcj)
    have hd'1 : d' < 100 := hds d' (List.mem_of_getElem? hd')
    obtain ⟨p1, p2⟩ := hP.1 i c' j' hcj
    have p3 := hP.2 i d' hd'
    obtain ⟨q, e1, e2, e3⟩ := ih (i + 1) n (by omega) (by omega)
    obtain ⟨l1, l2, l3⟩ := len_m (J' := J') h hc'm
    have lift : (∀ c'' d'' : Nat, pr[i]? = some (c'', j) → (dyW lgN (BV (I' (mb + 10)) u C D) o00 pr)[i]? = some d'' → d'' + lnV (I' (mb + 10)) u c'' ≤ d ∨ d + l ≤ d'') → ((∀ p c' d' : Nat, i + 1 ≤ p → pr[p]? = some (c', j) → (dyW lgN (BV (I' (mb + 10)) u C D) o00 pr)[p]? = some d' → d' + lnV (I' (mb + 10)) u c' ≤ d ∨ d + l ≤ d') ↔ ∀ p c' d' : Nat, i ≤ p → pr[p]? = some (c', j) → (dyW lgN (BV (I' (mb + 10)) u C D) o00 pr)[p]? = some d' → d' + lnV (I' (mb + 10)) u c' ≤ d ∨ d + l ≤ d') := by
      intro g
      constructor
      · intro z p c'' d'' h1 h2 h3
        rcases Nat.eq_or_lt_of_le h1 with rfl | h4
        · exact g c'' d'' h2 h3
        · exact z p c'' d'' (by omega) h2 h3
      · intro z p c'' d'' h1 h2 h3
        exact z p c'' d'' (by omega) h2 h3
    rw [f12_isBusy_L28, if_neg (nI_ge (by omega) (by omega)), yb_ck_t (inb_nI (show i < 4 by omega) (by decide)), nI_clamp (show i < 2 ^ 31 by omega), p2]
    by_cases cj : j' = j
    · subst cj
      rw [if_pos rfl, p1, l1, b3s, p3, nI_add, nI_add]
      have gg : (d' + lnV (I' (mb + 10)) u c' ≤ d ∨ d + l ≤ d') → ∀ c'' d'' : Nat, pr[i]? = some (c'', j') → (dyW lgN (BV (I' (mb + 10)) u C D) o00 pr)[i]? = some d'' → d'' + lnV (I' (mb + 10)) u c'' ≤ d ∨ d + l ≤ d'' := by
        intro z c'' d'' h1 h2
        rw [hcj] at h1; rw [hd'] at h2
        cases h1; cases h2
        exact z
      by_cases c1 : d' + lnV (I' (mb + 10)) u c' ≤ d
      · rw [if_pos (nI_le c1 (by omega)), lts, nI_1]
        exact ⟨q, e1, e2, e3.trans (lift (gg (Or.inl c1)))⟩
      · rw [if_neg (nI_ge (by omega) (by omega))]
        by_cases c2 : d + l ≤ d'
        · rw [if_pos (nI_le c2 (by omega)), lts, nI_1]
          exact ⟨q, e1, e2, e3.trans (lift (gg (Or.inr c2)))⟩
        · rw [if_neg (nI_ge (by omega) (by omega))]
          refine ⟨_, rfl, Or.inr rfl, ⟨fun z => absurd (show (1 : Int32) = 0 from z) (by decide), fun z => ?_⟩⟩
          rcases z i c' d' (Nat.le_refl _) hcj hd' with y | y
          · exact absurd y c1
          · exact absurd y c2
    · rw [if_neg (fun z => cj ((nI_eq (by omega) (by omega)).mp z)), lts, nI_1]
      refine ⟨q, e1, e2, e3.trans (lift (fun c'' d'' h1 h2 => ?_))⟩
      rw [hcj] at h1
      cases h1
      exact absurd rfl cj
theorem busy_m {j d l : Nat} {h : List (Nat × Nat)} (hN : 1000 ≤ N) (hB : BaM b mb P C D u fo Rl I I') (hP : PrM mb (BV (I' (mb + 10)) u C D) pr I') (hcm : ∀ c, c ∈ pr.map Prod.fst → c < u.length) (hjs : ∀ x, x ∈ pr → x.2 < P) (hds : ∀ d, d ∈ dyW lgN (BV (I' (mb + 10)) u C D) o00 pr → d < 100) (hk4 : pr.length ≤ 4) (hj : j < P) (hd : d < 100) (hl : l ≤ 9) (hh : ∀ c d : Nat, (c, d) ∈ h ↔ ∃ p : Nat, pr[p]? = some (c, j) ∧ (dyW lgN (BV (I' (mb + 10)) u C D) o00 pr)[p]? = some d) :
    ∃ x, f12_isBusy N mb (nI pr.length) (nI j) (nI d) (nI l) I' J' = some (x, I', J') ∧ (x = 0 ∨ x = 1) ∧ (x = 0 ↔ frV (I' (mb + 10)) C j ≤ d ∧ freeB (lnV (I' (mb + 10)) u) h d l = true) := by
  have h7 := co_P7 hB.1
  have hC6 := co_C6 hB.1
  obtain ⟨q, e1, e2, e3⟩ := bz_L (N := N) (J' := J') hB hP hcm hjs hds hk4 hj hd hl pr.length 0 N (by omega) (by omega)
  rw [show nI 0 = (0 : Int32) from rfl] at e1
  have e4 : sumB q = 0 ↔ freeB (lnV (I' (mb + 10)) u) h d l = true := by
    rw [e3]
    unfold freeB
    rw [List.all_eq_true]
    constructor
    · intro z x hx
      obtain ⟨p, p1, p2⟩ := (hh x.1 x.2).mp hx
      have := z p x.1 x.2 (Nat.zero_le _) p1 p2
      simpa using this
    · intro z p c' d' _ p1 p2
      have := z (c', d') ((hh c' d').mpr ⟨p, p1, p2⟩)
      simpa using this
  have fin : (yb_sm q (fun v_22 => some (v_22, I', J')) fun x_23 => some ((0 : Int32), I', J')) = some (sumB q, I', J') := by cases q <;> rfl
  obtain ⟨fr9, frc⟩ := fr_cases hB.1 hj
  unfold f12_isBusy
  rw [q12_hearsNow (by omega) hB.1, b3s]
  rcases frc with ⟨z1, z2⟩ | ⟨c, z1, z2, z3⟩
  · rw [z1, if_pos (show (-1 : Int32) < 0 by decide), e1, b3s, fin]
    exact ⟨_, rfl, e2, by rw [z2]; exact e4.trans ⟨fun y => ⟨Nat.zero_le _, y⟩, fun y => y.2⟩⟩
  · rw [z2, if_neg (nI_pos (by omega)), k12_c5 (by omega), b3s, z3]
    by_cases cf : frV (I' (mb + 10)) C j ≤ d
    · rw [if_pos (nI_le cf (by omega)), e1, b3s, fin]
      exact ⟨_, rfl, e2, e4.trans ⟨fun y => ⟨cf, y⟩, fun y => y.2⟩⟩
    · rw [if_neg (nI_ge (by omega) (by omega))]
      exact ⟨1, rfl, Or.inr rfl, ⟨fun y => absurd y (by decide), fun y => absurd y.1 cf⟩⟩
theorem fd_m {j c : Nat} (hN : 1000 ≤ N) (hB : BaM b mb P C D u fo Rl I I') (hP : PrM mb (BV (I' (mb + 10)) u C D) pr I') (hcm : ∀ c, c ∈ pr.map Prod.fst → c < u.length) (hok : okW lgN (BV (I' (mb + 10)) u C D) P o00 pr) (hk4 : pr.length ≤ 4) (hH : HistR (I' (mb + 10)) u C D pr) (hj : j < P) (hc : c < u.length) (hg : 0 < lgN (ordW lgN o00 pr j) c) : f12_firstDay N mb (nI pr.length) (nI c) (nI j) I' J' = some (bI 0 (BV (I' (mb + 10)) u C D j (lgN (ordW lgN o00 pr j) c)), I', J') := by
  have h7 := co_P7 hB.1
  have hu4 := hB.2.1.2.1
  have hjs : ∀ x, x ∈ pr → x.2 < P := okW_lt pr o00 hok
  have hds := dy100 (u := u) (C := C) (D := D) (P := P) pr o00 (fun _ => by show (0 : Nat) < 65; omega) (fun c hc => by have := hcm c hc; omega) hok
  obtain ⟨o65, _, h, h1, h2⟩ := hH j
  obtain ⟨_, l2, l3⟩ := len_m (J' := J') hB hc
  have eB : BV (I' (mb + 10)) u C D j (lgN (ordW lgN o00 pr j) c) = fdF (fdP (cnV (I' (mb + 10)) u D) (frV (I' (mb + 10)) C) (lnV (I' (mb + 10)) u) j h c) 100 0 := by
    rcases tb2 _ o65 c (by omega) with ⟨_, _, t3, t4, t5⟩ | ⟨_, t2, _⟩
    · have := Bd_eq (cn := cnV (I' (mb + 10)) u D) (fr := frV (I' (mb + 10)) C) (ln := lnV (I' (mb + 10)) u) (m := u.length) (j := j) hg t3
      rw [t5, t4, if_neg (show ¬ u.length ≤ c by omega)] at this
      have h1' : Hh (cnV (I' (mb + 10)) u D) (frV (I' (mb + 10)) C) (lnV (I' (mb + 10)) u) u.length j (ordW lgN o00 pr j) = some h := h1
      rw [h1'] at this
      exact this
    · omega
  have loop : ∀ r d n, d + r = 100 → r < n → ∃ q, f12_firstDay_L3 N mb (nI pr.length) (nI c) (nI j) n (nI d) I' J' = some (q, I', J') ∧ sumM q = bI 0 (fdF (fdP (cnV (I' (mb + 10)) u D) (frV (I' (mb + 10)) C) (lnV (I' (mb + 10)) u) j h c) r d) := by
    intro r
    induction r with
    | zero =>
      intro d n hd hn
      obtain ⟨n, rfl⟩ : ∃ q, n = q + 1 := ⟨n - 1, by omega⟩
      rw [f12_firstDay_L3, if_pos (show (100 : Int32) ≤ nI d from nI_le (a := 100) (by omega) (by omega))]
      exact ⟨_, rfl, rfl⟩
    | succ r ih =>
      intro d n hd hn
      obtain ⟨n, rfl⟩ : ∃ q, n = q + 1 := ⟨n - 1, by omega⟩
      have hsp := sp_lt (show c < 4 by omega) (show j < 7 by omega) (show d < 100 by omega)
      have hi := ih (d + 1) n (by omega) (by omega)
      rw [f12_firstDay_L3, if_neg (show ¬ (100 : Int32) ≤ nI d from nI_ge (b := 100) (by omega) (by omega))]
      unfold f12_spot
      rw [sp_nI, b3s, yb_ck_t (inb_nI hsp (by decide)), nI_clamp (show spN c j d < 2 ^ 31 by omega), (hB.2.2.2.2 c j d hc hj (by omega)).1, fdF]
      by_cases z : cnV (I' (mb + 10)) u D c j d = 0
      · have : ¬ fdP (cnV (I' (mb + 10)) u D) (frV (I' (mb + 10)) C) (lnV (I' (mb + 10)) u) j h c d = true := by
          unfold fdP
          rw [decide_eq_false (fun q => q z), Bool.false_and]; decide
        rw [if_pos z, lts, nI_1, if_neg this]
        exact hi
      · obtain ⟨x, b1, b2, b3⟩ := busy_m (N := N) (J' := J') (d := d) (l := lnV (I' (mb + 10)) u c) (h := h) hN hB hP hcm hjs hds hk4 hj (by omega) l3 h2
        rw [if_neg z, (len_m (J' := J') hB hc).1, b3s, b1, b3s]
        rcases b2 with rfl | rfl
        · obtain ⟨y1, y2⟩ := b3.mp rfl
          have : fdP (cnV (I' (mb + 10)) u D) (frV (I' (mb + 10)) C) (lnV (I' (mb + 10)) u) j h c d = true := by
            unfold fdP
            rw [decide_eq_true z, decide_eq_true y1, y2]; rfl
          rw [if_pos rfl, if_pos this]
          exact ⟨_, rfl, by show nI d = nI (0 + d); rw [Nat.zero_add]⟩
        · have : ¬ fdP (cnV (I' (mb + 10)) u D) (frV (I' (mb + 10)) C) (lnV (I' (mb + 10)) u) j h c d = true := by
            intro q
            unfold fdP at q
            simp only [Bool.and_eq_true, decide_eq_true_eq] at q
            exact absurd (b3.mpr ⟨q.2.1, q.2.2⟩) (by decide)
          rw [if_neg i10, lts, nI_1, if_neg this]
          exact hi
  obtain ⟨q, e1, e2⟩ := loop 100 0 N (by omega) (by omega)
  rw [show nI 0 = (0 : Int32) from rfl] at e1
  unfold f12_firstDay
  rw [e1, b3s, eB, ← e2]
  cases q <;> rfl
theorem used_m {c : Nat} (hP : PrM mb (BV (I' (mb + 10)) u C D) pr I') (hcm : ∀ c, c ∈ pr.map Prod.fst → c < 4) (hk4 : pr.length < 4) (hc : c < 4) (ec : I' (mb + 15) pr.length = nI c) : ∀ r i n x, i + r = pr.length → r < n → (x = 0 ∨ x = 1) → (x = 0 ↔ ∀ p, p < i → ∀ c' j, pr[p]? = some (c', j) → c' ≠ c) → ∃ y, f12_goesOnAt_L70 N mb (nI pr.length) n x (nI i) I' J' = some (y, I', J') ∧ (y = 0 ∨ y = 1) ∧ (y = 0 ↔ c ∉ pr.map Prod.fst) := by
  intro r
  induction r with
  | zero =>
    intro i n x hi hn hx hiff
    obtain ⟨n, rfl⟩ : ∃ q, n = q + 1 := ⟨n - 1, by omega⟩
    rw [f12_goesOnAt_L70, if_pos (nI_le (by omega) (by omega))]
    refine ⟨x, rfl, hx, hiff.trans ⟨fun z hc' => ?_, fun z p hp c' j hcj e => z ?_⟩⟩
    · obtain ⟨y, hy, rfl⟩ := List.mem_map.mp hc'
      obtain ⟨p, hp⟩ := List.mem_iff_getElem?.mp hy
      exact z p (by have := (List.getElem?_eq_some_iff.mp hp).1; omega) y.1 y.2 hp rfl
    · exact List.mem_map.mpr ⟨_, List.mem_of_getElem? hcj, e⟩
  | succ r ih =>
    intro i n x hi hn hx hiff
    obtain ⟨n, rfl⟩ : ∃ q, n = q + 1 := ⟨n - 1, by omega⟩
    have hip : i < pr.length := by omega
    obtain ⟨c', j', hcj⟩ : ∃ c j, pr[i]? = some (c, j) := ⟨(pr[i]).1, (pr[i]).2, by rw [List.getElem?_eq_getElem hip]⟩
    have hc'4 := hcm c' (List.mem_map.mpr ⟨_, List.mem_of_getElem? hcj, rfl⟩)
    rw [f12_goesOnAt_L70, if_neg (nI_ge (by omega) (by omega))]
    rcases hx with rfl | rfl
    · rw [if_pos rfl, yb_ck_t (inb_nI (show i < 4 by omega) (by decide)), yb_ck_t (inb_nI hk4 (by decide)), nI_clamp (show i < 2 ^ 31 by omega), nI_clamp (show pr.length < 2 ^ 31 by omega), (hP.1 i c' j' hcj).1, ec]
      by_cases cc : c' = c
      · rw [if_pos (by rw [cc]), lts, nI_1]
        refine ih (i + 1) n 1 (by omega) (by omega) (Or.inr rfl) ⟨fun z => absurd z (by decide), fun z => absurd cc (z i (by omega) c' j' hcj)⟩
      · rw [if_neg (fun z => cc ((nI_eq (by omega) (by omega)).mp z)), lts, nI_1]
        refine ih (i + 1) n 0 (by omega) (by omega) (Or.inl rfl) ⟨fun _ p hp c'' j'' h => ?_, fun _ => rfl⟩
        rcases Nat.eq_or_lt_of_le (Nat.le_of_lt_succ hp) with rfl | q
        · rw [hcj] at h; cases h; exact cc
        · exact hiff.mp rfl p q c'' j'' h
    · rw [if_neg i10, lts, nI_1]
      refine ih (i + 1) n 1 (by omega) (by omega) (Or.inr rfl) ⟨fun z => absurd z (by decide), fun z => absurd (hiff.mpr (fun p hp => z p (by omega))) (by decide)⟩
end GOES
