/-! BENCHES, the reference: a row is counted -/
def RtV (v : Nat → Int32) (fo : Int32) (Rl : Nat → List (List Tk × Option (List Tk))) (u : List Nat) (C D : Nat) (j o : Nat) : Nat := (rgtC v fo Rl (u.getD (laN o) 0) j (nI (D + (BV v u C D j o).getD 0)) (v (14 + 5 * j)) 0).toNatClampNeg
theorem RtV_n {v : Nat → Int32} {fo : Int32} {Rl : Nat → List (List Tk × Option (List Tk))} {u : List Nat} {C D j o d : Nat} (hb : BV v u C D j o = some d) : rgtC v fo Rl (u.getD (laN o) 0) j (nI (D + d)) (v (14 + 5 * j)) 0 = nI (RtV v fo Rl u C D j o) := by
  unfold RtV
  rw [hb]
  show _ = nI (rgtC v fo Rl (u.getD (laN o) 0) j (nI (D + d)) (v (14 + 5 * j)) 0).toNatClampNeg
  unfold rgtC
  obtain ⟨w, hw, ew⟩ := rgtV_100 v fo Rl j (v (45 + 11 * u.getD (laN o) 0)).toNatClampNeg (v (46 + 11 * u.getD (laN o) 0)) (v (47 + 11 * u.getD (laN o) 0)) (nI (D + d)) (v (14 + 5 * j)) 0
  rw [ew, nI_clamp (by omega)]
theorem RtV_100 (v : Nat → Int32) (fo : Int32) (Rl : Nat → List (List Tk × Option (List Tk))) (u : List Nat) (C D j o : Nat) : RtV v fo Rl u C D j o ≤ 100 := by
  unfold RtV rgtC
  obtain ⟨w, hw, ew⟩ := rgtV_100 v fo Rl j (v (45 + 11 * u.getD (laN o) 0)).toNatClampNeg (v (46 + 11 * u.getD (laN o) 0)) (v (47 + 11 * u.getD (laN o) 0)) (nI (D + (BV v u C D j o).getD 0)) (v (14 + 5 * j)) 0
  rw [ew, nI_clamp (by omega)]
  exact hw
theorem m1_le {a c : Nat} (ha : a < 1000) (hc : c < 1000) : nI a - 1 ≤ nI c - 1 ↔ a ≤ c := by
  show nI a - nI 1 ≤ nI c - nI 1 ↔ _
  rw [Int32.le_iff_toInt_le, pk_sub_toInt (by omega) (by omega), pk_sub_toInt (by omega) (by omega)]
  omega
theorem m1_eq {a c : Nat} (ha : a < 1000) (hc : c < 1000) : nI a - 1 = nI c - 1 ↔ a = c := by
  constructor
  · intro h
    have h1 := (m1_le ha hc).mp (by rw [h]; exact Int32.le_refl _)
    have h2 := (m1_le hc ha).mp (by rw [h]; exact Int32.le_refl _)
    omega
  · intro h; rw [h]
/-- the best row as the reference holds it -/
def BsM (mb m : Nat) (I' : IT) : Option Cd → Prop
  | none => I' mb 35 = -1 ∧ I' mb 36 = -1
  | some x => I' mb 35 = nI x.1 ∧ I' mb 36 = nI x.2.1 - 1 ∧ (x.1 ≤ 400 ∧ x.2.1 ≤ 108 ∧ x.2.2.1.length = m ∧ (∀ y, y ∈ x.2.2.1 → y.1 < 4 ∧ y.2 < 7)) ∧ (∀ p c j, x.2.2.1[p]? = some (c, j) → I' (mb + 18) p = nI c ∧ I' (mb + 19) p = nI j) ∧ ∀ p d, x.2.2.2[p]? = some d → I' (mb + 20) p = nI d
theorem BsM.cg {mb m : Nat} {I' I1' : IT} {best : Option Cd} (h : BsM mb m I' best) (h0 : I1' mb = I' mb) (h18 : I1' (mb + 18) = I' (mb + 18)) (h19 : I1' (mb + 19) = I' (mb + 19)) (h20 : I1' (mb + 20) = I' (mb + 20)) : BsM mb m I1' best := by
  cases best with
  | none => unfold BsM; rw [h0]; exact h
  | some x => unfold BsM; rw [h0, h18, h19, h20]; exact h
section COUNT
variable {N b mb P C D : Nat} {u : List Nat} {I I0' I' : IT} {J' : JT} {fo : Int32} {Rl : Nat → List (List Tk × Option (List Tk))} {pr : Rw}
/-- sums and ends are small -/
theorem row_bndM (hB : BaM b mb P C D u fo Rl I I') : ∀ (r : Rw) (o : Nat → Nat), (∀ j, o j < 65) → (∀ c, c ∈ r.map Prod.fst → c < u.length) → okW lgN (BV (I' (mb + 10)) u C D) P o r → rsW lgN (RtV (I' (mb + 10)) fo Rl u C D) o r ≤ 100 * r.length ∧ enW lgN (BV (I' (mb + 10)) u C D) (lnV (I' (mb + 10)) u) o r ≤ 108 := by
  have hu4 := hB.2.1.2.1
  intro r
  induction r with
  | nil => intro o _ _ _; exact ⟨Nat.le_refl _, Nat.zero_le _⟩
  | cons x r ih =>
    intro o ho hc hok
    obtain ⟨c, j⟩ := x
    obtain ⟨g1, g2, g3, g4⟩ := hok
    have hcm : c < u.length := hc c (by simp)
    have hl := lg65 (ho j) (show c < 4 by omega)
    obtain ⟨i1, i2⟩ := ih _ (fun i => by
        by_cases e : i = j
        · subst e; rw [updN_s]; exact hl
        · rw [updN_n _ _ e]; exact ho i) (fun c' hc' => hc c' (by simp at hc' ⊢; exact Or.inr hc')) g4
    have := RtV_100 (I' (mb + 10)) fo Rl u C D j (lgN (o j) c)
    obtain ⟨_, l2, l3⟩ := len_m (J' := fun _ _ => 0) hB hcm
    cases hb : BV (I' (mb + 10)) u C D j (lgN (o j) c) with
    | none => exact absurd hb g3
    | some d =>
      obtain ⟨_, _, _, _, e4⟩ := Hh_some g2 hl hb
      refine ⟨?_, ?_⟩
      · show RtV (I' (mb + 10)) fo Rl u C D j (lgN (o j) c) + _ ≤ 100 * (r.length + 1)
        omega
      · show max ((BV (I' (mb + 10)) u C D j (lgN (o j) c)).getD 0 + lnV (I' (mb + 10)) u c) _ ≤ 108
        rw [hb]
        exact Nat.max_le.mpr ⟨by show d + lnV (I' (mb + 10)) u c ≤ 108; omega, i2⟩
theorem cr_L6 (hB : BaM b mb P C D u fo Rl I I') (hP : PrM mb (BV (I' (mb + 10)) u C D) pr I') (hcm : ∀ c, c ∈ pr.map Prod.fst → c < u.length) (hok : okW lgN (BV (I' (mb + 10)) u C D) P o00 pr) (hlen : pr.length = u.length) : ∀ (t a : Rw) n, pr = a ++ t → t.length < n → f12_countsRow_L6 N mb n (nI (rsW lgN (RtV (I' (mb + 10)) fo Rl u C D) o00 a)) (nI (enW lgN (BV (I' (mb + 10)) u C D) (lnV (I' (mb + 10)) u) o00 a) - 1) (nI a.length) I' J' = some ((nI (rsW lgN (RtV (I' (mb + 10)) fo Rl u C D) o00 pr), nI (enW lgN (BV (I' (mb + 10)) u C D) (lnV (I' (mb + 10)) u) o00 pr) - 1), I', J') := by
  have h7 := co_P7 hB.1
  have hu4 := hB.2.1.2.1
  intro t
  induction t with
  | nil =>
    intro a n e hn
    obtain ⟨n, rfl⟩ : ∃ q, n = q + 1 := ⟨n - 1, by simp at hn; omega⟩
    rw [List.append_nil] at e
    subst e
    rw [f12_countsRow_L6, hB.2.1.1, if_pos (nI_le (by omega) (by omega))]
  | cons y t ih =>
    intro a n e hn
    obtain ⟨n, rfl⟩ : ∃ q, n = q + 1 := ⟨n - 1, by simp at hn; omega⟩
    obtain ⟨c, j⟩ := y
    have hal : a.length + (t.length + 1) = u.length := by rw [← hlen, e]; simp
    have hcj : pr[a.length]? = some (c, j) := by rw [e]; simp
    have hcu : c < u.length := hcm c (by rw [e]; simp)
    have hma : ∀ c, c ∈ a.map Prod.fst → c < u.length := fun c hc => hcm c (by rw [e, List.map_append]; exact List.mem_append_left _ hc)
    rw [e] at hok
    obtain ⟨ok1, g1, g2, g3, g4⟩ := (okW_app _ _ _).mp hok
    have o65 : ∀ i, ordW lgN o00 a i < 65 := by
      have : ∀ (r : Rw) (o : Nat → Nat), (∀ i, o i < 65) → (∀ c, c ∈ r.map Prod.fst → c < 4) → ∀ i, ordW lgN o r i < 65 := by
        intro r
        induction r with
        | nil => intro o ho _; exact ho
        | cons x r ih2 =>
          intro o ho hc
          exact ih2 _ (fun i => by
            by_cases e : i = x.2
            · subst e; rw [updN_s]; exact lg65 (ho _) (hc _ (by simp))
            · rw [updN_n _ _ e]; exact ho i) (fun c' hc' => hc c' (by simp at hc' ⊢; exact Or.inr hc'))
      exact this a o00 (fun _ => by show (0 : Nat) < 65; omega) (fun c hc => by have := hma c hc; omega)
    obtain ⟨rb, eb⟩ := row_bndM hB a o00 (fun _ => by show (0 : Nat) < 65; omega) hma ok1
    cases hb : BV (I' (mb + 10)) u C D j (lgN (ordW lgN o00 a j) c) with
    | none => exact absurd hb g3
    | some d =>
      have hl := lg65 (o65 j) (show c < 4 by omega)
      obtain ⟨_, _, _, _, d100⟩ := Hh_some g2 hl hb
      have hd' : (dyW lgN (BV (I' (mb + 10)) u C D) o00 pr)[a.length]? = some d := by
        have hdl := dyW_len (lg := lgN) (Bg := BV (I' (mb + 10)) u C D) a o00
        rw [e, dyW_app, List.getElem?_append_right (by omega), hdl, Nat.sub_self]
        show some ((BV (I' (mb + 10)) u C D j (lgN (ordW lgN o00 a j) c)).getD 0) = _
        rw [hb]; rfl
      obtain ⟨p1, p2⟩ := hP.1 _ _ _ hcj
      have p3 := hP.2 _ _ hd'
      obtain ⟨l1, l2, l3⟩ := len_m (J' := J') hB hcu
      have hla : laN (lgN (ordW lgN o00 a j) c) = c := by
        rcases tb2 _ (o65 j) c (by omega) with h | h
        · exact h.2.2.2.2
        · omega
      have hsp := sp_lt (show c < 4 by omega) (show j < 7 by omega) d100
      have hsR := hB.2.2.2.2 c j d hcu g1 d100
      have hcn : cnV (I' (mb + 10)) u D c j d ≠ 0 := by
        obtain ⟨tt, q1, q2, q3, q4⟩ := Hh_some g2 hl hb
        have hbd := Bd_eq (cn := cnV (I' (mb + 10)) u D) (fr := frV (I' (mb + 10)) C) (ln := lnV (I' (mb + 10)) u) (m := u.length) (j := j) g2 hl
        have hb' : Bd (cnV (I' (mb + 10)) u D) (frV (I' (mb + 10)) C) (lnV (I' (mb + 10)) u) u.length j (lgN (ordW lgN o00 a j) c) = some d := hb
        rw [hb', q1, if_neg (by omega)] at hbd
        have hfd : fdF (fdP (cnV (I' (mb + 10)) u D) (frV (I' (mb + 10)) C) (lnV (I' (mb + 10)) u) j tt (laN (lgN (ordW lgN o00 a j) c))) 100 0 = some d := hbd.symm
        have := (fdF_lt _ _ _ hfd).2.2
        rw [hla] at this
        unfold fdP at this
        simp only [Bool.and_eq_true, decide_eq_true_eq] at this
        exact this.1
      have hrt := RtV_n (fo := fo) (Rl := Rl) hb
      rw [hla] at hrt
      have e14 := hsR.2 hcn
      rw [hrt] at e14
      have ers : rsW lgN (RtV (I' (mb + 10)) fo Rl u C D) o00 (a ++ [(c, j)]) = rsW lgN (RtV (I' (mb + 10)) fo Rl u C D) o00 a + RtV (I' (mb + 10)) fo Rl u C D j (lgN (ordW lgN o00 a j) c) := by rw [rsW_app]; rfl
      have een : enW lgN (BV (I' (mb + 10)) u C D) (lnV (I' (mb + 10)) u) o00 (a ++ [(c, j)]) = max (enW lgN (BV (I' (mb + 10)) u C D) (lnV (I' (mb + 10)) u) o00 a) (d + lnV (I' (mb + 10)) u c) := by
        rw [enW_app]
        show max _ (max ((BV (I' (mb + 10)) u C D j (lgN (ordW lgN o00 a j) c)).getD 0 + lnV (I' (mb + 10)) u c) 0) = _
        rw [hb, Nat.max_eq_left (Nat.zero_le _)]
        rfl
      have hrec := ih (a ++ [(c, j)]) n (by rw [e]; simp) (by simp at hn; omega)
      rw [show (a ++ [(c, j)]).length = a.length + 1 by simp, ers, een] at hrec
      rw [f12_countsRow_L6, hB.2.1.1, if_neg (nI_ge (by omega) (by omega)), yb_ck_t (inb_nI (show a.length < 4 by omega) (by decide)), nI_clamp (show a.length < 2 ^ 31 by omega), p1, l1, b3s, p3, nI_add, lts, p1, p2]
      unfold f12_spot
      rw [sp_nI, b3s, yb_ck_t (inb_nI hsp (by decide)), nI_clamp (show spN c j d < 2 ^ 31 by omega), e14, nI_add, lts]
      by_cases cc : d + lnV (I' (mb + 10)) u c ≤ enW lgN (BV (I' (mb + 10)) u C D) (lnV (I' (mb + 10)) u) o00 a
      · rw [if_pos ((m1_le (by omega) (by omega)).mpr cc), lts, nI_1]
        rw [Nat.max_eq_left cc] at hrec
        exact hrec
      · rw [if_neg (fun z => cc ((m1_le (by omega) (by omega)).mp z)), lts, nI_1]
        rw [Nat.max_eq_right (by omega)] at hrec
        exact hrec
/-- two rows of numbers, held one against the other -/
theorem ah_2 {m : Nat} (hm : m ≤ 4) (e25 : I' mb 25 = nI m) : ∀ (t s : List Nat) k n, t.length = s.length → k + t.length = m → t.length < n → (∀ p x, t[p]? = some x → x < 1000 ∧ I' (mb + 15) (k + p) = nI x) → (∀ p x, s[p]? = some x → x < 1000 ∧ I' (mb + 18) (k + p) = nI x) → ∃ q, f12_isAhead_L2 N mb n (nI k) I' J' = some (q, I', J') ∧ ((lexL t s ∧ q = Sum.inl 1) ∨ (t = s ∧ q = Sum.inr ()) ∨ (¬ lexL t s ∧ t ≠ s ∧ q = Sum.inl 0)) := by
  intro t
  induction t with
  | nil =>
    intro s k n hl hk hn f g
    obtain ⟨n, rfl⟩ : ∃ q, n = q + 1 := ⟨n - 1, by simp at hn; omega⟩
    have : s = [] := List.length_eq_zero_iff.mp (by simpa using hl.symm)
    subst this
    rw [f12_isAhead_L2, e25, if_pos (nI_le (by simp at hk; omega) (by simp at hk; omega))]
    exact ⟨_, rfl, Or.inr (Or.inl ⟨rfl, rfl⟩)⟩
  | cons x t ih =>
    intro s k n hl hk hn f g
    obtain ⟨n, rfl⟩ : ∃ q, n = q + 1 := ⟨n - 1, by simp at hn; omega⟩
    cases s with
    | nil => simp at hl
    | cons y s =>
      simp only [List.length_cons] at hl hk hn
      obtain ⟨x1, x2⟩ := f 0 x rfl
      obtain ⟨y1, y2⟩ := g 0 y rfl
      have x2 : I' (mb + 15) k = nI x := x2
      have y2 : I' (mb + 18) k = nI y := y2
      rw [f12_isAhead_L2, e25, if_neg (nI_ge (by omega) (by omega)), yb_ck_t (inb_nI (show k < 4 by omega) (by decide)), nI_clamp (show k < 2 ^ 31 by omega), x2, y2]
      by_cases c : x = y
      · subst c
        rw [if_pos rfl, lts, nI_1]
        obtain ⟨q, e1, e2⟩ := ih s (k + 1) n (by omega) (by omega) (by omega) (fun p z hz => by have := f (p + 1) z (by simpa using hz); rw [show k + 1 + p = k + (p + 1) by omega]; exact this) (fun p z hz => by have := g (p + 1) z (by simpa using hz); rw [show k + 1 + p = k + (p + 1) by omega]; exact this)
        refine ⟨q, e1, ?_⟩
        rcases e2 with ⟨h1, h2⟩ | ⟨rfl, h2⟩ | ⟨h1, h2, h3⟩
        · exact Or.inl ⟨Or.inr ⟨rfl, h1⟩, h2⟩
        · exact Or.inr (Or.inl ⟨rfl, h2⟩)
        · exact Or.inr (Or.inr ⟨fun z => z.elim (fun w => Nat.lt_irrefl _ w) (fun w => h1 w.2), fun z => h2 (List.cons.inj z).2, h3⟩)
      · rw [if_neg (fun z => c ((nI_eq (by omega) (by omega)).mp z))]
        by_cases c2 : y ≤ x
        · rw [if_pos (nI_le c2 (by omega))]
          exact ⟨_, rfl, Or.inr (Or.inr ⟨fun z => z.elim (fun w => by omega) (fun w => c w.1), fun z => c (List.cons.inj z).1, rfl⟩)⟩
        · rw [if_neg (nI_ge (by omega) (by omega))]
          exact ⟨_, rfl, Or.inl ⟨Or.inl (by omega), rfl⟩⟩
theorem ah_54 {m : Nat} (hm : m ≤ 4) (e25 : I' mb 25 = nI m) : ∀ (t s : List Nat) k n, t.length = s.length → k + t.length = m → t.length < n → (∀ p x, t[p]? = some x → x < 1000 ∧ I' (mb + 16) (k + p) = nI x) → (∀ p x, s[p]? = some x → x < 1000 ∧ I' (mb + 19) (k + p) = nI x) → ∃ q, f12_isAhead_L54 N mb n (nI k) I' J' = some (q, I', J') ∧ ((lexL t s ∧ q = Sum.inl 1) ∨ (t = s ∧ q = Sum.inr ()) ∨ (¬ lexL t s ∧ t ≠ s ∧ q = Sum.inl 0)) := by
  intro t
  induction t with
  | nil =>
    intro s k n hl hk hn f g
    obtain ⟨n, rfl⟩ : ∃ q, n = q + 1 := ⟨n - 1, by simp at hn; omega⟩
    have : s = [] := List.length_eq_zero_iff.mp (by simpa using hl.symm)
    subst this
    rw [f12_isAhead_L54, e25, if_pos (nI_le (by simp at hk; omega) (by simp at hk; omega))]
    exact ⟨_, rfl, Or.inr (Or.inl ⟨rfl, rfl⟩)⟩
  | cons x t ih =>
    intro s k n hl hk hn f g
    obtain ⟨n, rfl⟩ : ∃ q, n = q + 1 := ⟨n - 1, by simp at hn; omega⟩
    cases s with
    | nil => simp at hl
    | cons y s =>
      simp only [List.length_cons] at hl hk hn
      obtain ⟨x1, x2⟩ := f 0 x rfl
      obtain ⟨y1, y2⟩ := g 0 y rfl
      have x2 : I' (mb + 16) k = nI x := x2
      have y2 : I' (mb + 19) k = nI y := y2
      rw [f12_isAhead_L54, e25, if_neg (nI_ge (by omega) (by omega)), yb_ck_t (inb_nI (show k < 4 by omega) (by decide)), nI_clamp (show k < 2 ^ 31 by omega), x2, y2]
      by_cases c : x = y
      · subst c
        rw [if_pos rfl, lts, nI_1]
        obtain ⟨q, e1, e2⟩ := ih s (k + 1) n (by omega) (by omega) (by omega) (fun p z hz => by have := f (p + 1) z (by simpa using hz); rw [show k + 1 + p = k + (p + 1) by omega]; exact this) (fun p z hz => by have := g (p + 1) z (by simpa using hz); rw [show k + 1 + p = k + (p + 1) by omega]; exact this)
        refine ⟨q, e1, ?_⟩
        rcases e2 with ⟨h1, h2⟩ | ⟨rfl, h2⟩ | ⟨h1, h2, h3⟩
        · exact Or.inl ⟨Or.inr ⟨rfl, h1⟩, h2⟩
        · exact Or.inr (Or.inl ⟨rfl, h2⟩)
        · exact Or.inr (Or.inr ⟨fun z => z.elim (fun w => Nat.lt_irrefl _ w) (fun w => h1 w.2), fun z => h2 (List.cons.inj z).2, h3⟩)
      · rw [if_neg (fun z => c ((nI_eq (by omega) (by omega)).mp z))]
        by_cases c2 : y ≤ x
        · rw [if_pos (nI_le c2 (by omega))]
          exact ⟨_, rfl, Or.inr (Or.inr ⟨fun z => z.elim (fun w => by omega) (fun w => c w.1), fun z => c (List.cons.inj z).1, rfl⟩)⟩
        · rw [if_neg (nI_ge (by omega) (by omega))]
          exact ⟨_, rfl, Or.inl ⟨Or.inl (by omega), rfl⟩⟩
end COUNT
theorem lexL_app_iff : ∀ {a c s t : List Nat}, a.length = c.length → (lexL (a ++ s) (c ++ t) ↔ lexL a c ∨ (a = c ∧ lexL s t)) := by
  intro a
  induction a with
  | nil =>
    intro c s t h
    have : c = [] := List.length_eq_zero_iff.mp (by simpa using h.symm)
    subst this
    exact ⟨fun q => Or.inr ⟨rfl, q⟩, fun q => q.elim (fun z => z.elim) (fun z => z.2)⟩
  | cons x a ih =>
    intro c s t h
    cases c with
    | nil => simp at h
    | cons y c =>
      have h' : a.length = c.length := by simpa using h
      show (x < y ∨ (x = y ∧ lexL (a ++ s) (c ++ t))) ↔ (x < y ∨ (x = y ∧ lexL a c)) ∨ (x :: a = y :: c ∧ lexL s t)
      rw [ih h']
      constructor
      · rintro (q | ⟨q, q1 | ⟨q1, q2⟩⟩)
        · exact Or.inl (Or.inl q)
        · exact Or.inl (Or.inr ⟨q, q1⟩)
        · exact Or.inr ⟨by rw [q, q1], q2⟩
      · rintro ((q | ⟨q, q1⟩) | ⟨q, q1⟩)
        · exact Or.inl q
        · exact Or.inr ⟨q, Or.inl q1⟩
        · exact Or.inr ⟨(List.cons.inj q).1, Or.inr ⟨(List.cons.inj q).2, q1⟩⟩
