/-! ORDERS: the class's tables, and the days of an order before one judge -/
def lgN (o i : Nat) : Nat := (lo4.getD (o * 4 + i) 0).toNatClampNeg
def shN (o : Nat) : Nat := (sh4.getD o 0).toNatClampNeg
def laN (o : Nat) : Nat := (la4.getD o 0).toNatClampNeg
def dpF : Nat → Nat → Nat
  | 0, _ => 0
  | f + 1, o => if o = 0 then 0 else 1 + dpF f (shN o)
def dpN (o : Nat) : Nat := dpF 5 o
def sqF : Nat → Nat → List Nat
  | 0, _ => []
  | f + 1, o => if o = 0 then [] else laN o :: sqF f (shN o)
def sqN (o : Nat) : List Nat := sqF 5 o
theorem tb1 : ∀ o, o < 65 → sh4.getD o 0 = nI (shN o) ∧ la4.getD o 0 = nI (laN o) ∧ laN o < 4 ∧ shN o < 65 ∧ (0 < o → shN o < o) ∧ dpN o ≤ 4 ∧ (0 < o → dpN o = dpN (shN o) + 1) ∧ (0 < o → sqN o = laN o :: sqN (shN o)) := by decide +kernel
theorem tb2 : ∀ o, o < 65 → ∀ i, i < 4 → (lo4.getD (o * 4 + i) 0 = nI (lgN o i) ∧ 0 < lgN o i ∧ lgN o i < 65 ∧ shN (lgN o i) = o ∧ laN (lgN o i) = i) ∨ (lo4.getD (o * 4 + i) 0 = -1 ∧ lgN o i = 0 ∧ i ∈ sqN o) := by decide +kernel
theorem dp0 : dpN 0 = 0 := rfl
theorem sq0 : sqN 0 = [] := rfl
theorem lg65 {o i : Nat} (ho : o < 65) (hi : i < 4) : lgN o i < 65 := by
  rcases tb2 o ho i hi with h | h
  · exact h.2.2.1
  · omega
def fdF (p : Nat → Bool) : Nat → Nat → Option Nat
  | 0, _ => none
  | r + 1, k => if p k = true then some k else fdF p r (k + 1)
theorem fdF_lt {p : Nat → Bool} : ∀ r k d, fdF p r k = some d → d < k + r ∧ k ≤ d ∧ p d = true := by
  intro r
  induction r with
  | zero => intro k d h; cases h
  | succ r ih =>
    intro k d h
    rw [fdF] at h
    by_cases c : p k = true
    · rw [if_pos c] at h; cases h; exact ⟨by omega, by omega, c⟩
    · rw [if_neg c] at h
      obtain ⟨h1, h2, h3⟩ := ih (k + 1) d h
      exact ⟨by omega, by omega, h3⟩
theorem fdF_congr {p q : Nat → Bool} : ∀ r k, (∀ d, k ≤ d → d < k + r → p d = q d) → fdF p r k = fdF q r k := by
  intro r
  induction r with
  | zero => intro k _; rfl
  | succ r ih => intro k h; rw [fdF, fdF, h k (by omega) (by omega), ih (k + 1) (fun d h1 h2 => h d (by omega) (by omega))]
theorem fdF_skip {p : Nat → Bool} {f : Nat} : ∀ s k r, k + s = f → (∀ d, d < f → p d = false) → fdF p (s + r) k = fdF p r f := by
  intro s
  induction s with
  | zero => intro k r hk _; rw [Nat.zero_add, show k = f by omega]
  | succ s ih =>
    intro k r hk h
    rw [show s + 1 + r = (s + r) + 1 by omega, fdF, h k (by omega), if_neg (by decide)]
    exact ih (k + 1) r (by omega) h
section DAYS
variable (cn : Nat → Nat → Nat → Int32) (fr ln : Nat → Nat) (m : Nat)
def freeB (h : List (Nat × Nat)) (d l : Nat) : Bool := h.all (fun x => decide (x.2 + ln x.1 ≤ d) || decide (d + l ≤ x.2))
def fdP (j : Nat) (h : List (Nat × Nat)) (c d : Nat) : Bool := decide (cn c j d ≠ 0) && (decide (fr j ≤ d) && freeB ln h d (ln c))
def Hf : Nat → Nat → Nat → Option (List (Nat × Nat))
  | 0, _, o => if o = 0 then some [] else none
  | f + 1, j, o => if o = 0 then some [] else if m ≤ laN o then none else match Hf f j (shN o) with
    | none => none
    | some h => match fdF (fdP cn fr ln j h (laN o)) 100 0 with
      | none => none
      | some d => some ((laN o, d) :: h)
def Hh (j o : Nat) : Option (List (Nat × Nat)) := Hf cn fr ln m 4 j o
def Bd (j o : Nat) : Option Nat := match Hh cn fr ln m j o with
  | some (x :: _) => some x.2
  | _ => none
variable {cn fr ln m}
theorem Hf_st : ∀ f f' j o, o < 65 → dpN o ≤ f → dpN o ≤ f' → Hf cn fr ln m f j o = Hf cn fr ln m f' j o := by
  intro f
  induction f with
  | zero =>
    intro f' j o ho h1 h2
    by_cases c : o = 0
    · subst c
      cases f' with
      | zero => rfl
      | succ f' => rw [Hf, Hf, if_pos rfl, if_pos rfl]
    · have := (tb1 o ho).2.2.2.2.2.2.1 (by omega)
      omega
  | succ f ih =>
    intro f' j o ho h1 h2
    by_cases c : o = 0
    · subst c
      cases f' with
      | zero => rw [Hf, Hf, if_pos rfl, if_pos rfl]
      | succ f' => rw [Hf, Hf, if_pos rfl, if_pos rfl]
    · obtain ⟨t1, t2, t3, t4, t5, t6, t7, t8⟩ := tb1 o ho
      have t7' := t7 (by omega)
      cases f' with
      | zero => omega
      | succ f' =>
        rw [Hf, Hf, if_neg c, if_neg c, ih f' j (shN o) t4 (by omega) (by omega)]
theorem Hh_0 {j : Nat} : Hh cn fr ln m j 0 = some [] := by unfold Hh; rw [Hf, if_pos rfl]
theorem Hh_eq {j o : Nat} (h0 : 0 < o) (ho : o < 65) : Hh cn fr ln m j o = if m ≤ laN o then none else match Hh cn fr ln m j (shN o) with
    | none => none
    | some h => match fdF (fdP cn fr ln j h (laN o)) 100 0 with
      | none => none
      | some d => some ((laN o, d) :: h) := by
  obtain ⟨t1, t2, t3, t4, t5, t6, t7, t8⟩ := tb1 o ho
  unfold Hh
  rw [Hf_st 4 5 j o ho t6 (by omega), Hf, if_neg (by omega)]
/-- one order longer by one case -/
theorem Bd_eq {j o : Nat} (h0 : 0 < o) (ho : o < 65) : Bd cn fr ln m j o = if m ≤ laN o then none else match Hh cn fr ln m j (shN o) with
    | none => none
    | some h => fdF (fdP cn fr ln j h (laN o)) 100 0 := by
  unfold Bd
  rw [Hh_eq h0 ho]
  by_cases c : m ≤ laN o
  · rw [if_pos c, if_pos c]
  · rw [if_neg c, if_neg c]
    cases Hh cn fr ln m j (shN o) with
    | none => rfl
    | some h =>
      show (match (match fdF (fdP cn fr ln j h (laN o)) 100 0 with
        | none => none
        | some d => some ((laN o, d) :: h)) with
        | some (x :: _) => some x.2
        | _ => none) = fdF (fdP cn fr ln j h (laN o)) 100 0
      cases fdF (fdP cn fr ln j h (laN o)) 100 0 with
      | none => rfl
      | some d => rfl
theorem Hh_some {j o d : Nat} (h0 : 0 < o) (ho : o < 65) (h : Bd cn fr ln m j o = some d) : ∃ t, Hh cn fr ln m j (shN o) = some t ∧ Hh cn fr ln m j o = some ((laN o, d) :: t) ∧ laN o < m ∧ d < 100 := by
  rw [Bd_eq h0 ho] at h
  by_cases c : m ≤ laN o
  · rw [if_pos c] at h; cases h
  · rw [if_neg c] at h
    cases hh : Hh cn fr ln m j (shN o) with
    | none => rw [hh] at h; cases h
    | some t =>
      rw [hh] at h
      have hd : fdF (fdP cn fr ln j t (laN o)) 100 0 = some d := h
      refine ⟨t, rfl, ?_, by omega, by have := (fdF_lt _ _ _ hd).1; omega⟩
      rw [Hh_eq h0 ho, if_neg c, hh]
      show (match fdF (fdP cn fr ln j t (laN o)) 100 0 with
        | none => none
        | some d => some ((laN o, d) :: t)) = _
      rw [hd]
theorem Bd_none {j o : Nat} (h0 : 0 < o) (ho : o < 65) (h : Bd cn fr ln m j o = none) : Hh cn fr ln m j o = none := by
  cases hh : Hh cn fr ln m j o with
  | none => rfl
  | some t =>
    rw [Hh_eq h0 ho] at hh
    by_cases c : m ≤ laN o
    · rw [if_pos c] at hh; cases hh
    · rw [if_neg c] at hh
      cases h2 : Hh cn fr ln m j (shN o) with
      | none => rw [h2] at hh; cases hh
      | some u =>
        rw [h2] at hh
        have hh' : (match fdF (fdP cn fr ln j u (laN o)) 100 0 with
          | none => none
          | some d => some ((laN o, d) :: u)) = some t := hh
        rw [Bd_eq h0 ho, if_neg c, h2] at h
        have h' : fdF (fdP cn fr ln j u (laN o)) 100 0 = none := h
        rw [h'] at hh'
        cases hh'
end DAYS
/-! the cases that are open -/
def opL (v : Nat → Int32) : Nat → Nat → List Nat
  | 0, _ => []
  | r + 1, k => if 0 ≤ v (49 + 11 * k) then opL v r (k + 1) else if v (54 + 11 * k) = 0 then k :: opL v r (k + 1) else opL v r (k + 1)
theorem opL_mem {v : Nat → Int32} : ∀ r k x, x ∈ opL v r k → k ≤ x ∧ x < k + r ∧ ¬ 0 ≤ v (49 + 11 * x) ∧ v (54 + 11 * x) = 0 := by
  intro r
  induction r with
  | zero => intro k x h; cases h
  | succ r ih =>
    intro k x h
    rw [opL] at h
    have go : x ∈ opL v r (k + 1) → k ≤ x ∧ x < k + (r + 1) ∧ ¬ 0 ≤ v (49 + 11 * x) ∧ v (54 + 11 * x) = 0 := fun q => by
      obtain ⟨h1, h2, h3⟩ := ih (k + 1) x q
      exact ⟨by omega, by omega, h3⟩
    by_cases c1 : 0 ≤ v (49 + 11 * k)
    · rw [if_pos c1] at h; exact go h
    · rw [if_neg c1] at h
      by_cases c2 : v (54 + 11 * k) = 0
      · rw [if_pos c2] at h
        rcases List.mem_cons.mp h with rfl | q
        · exact ⟨by omega, by omega, c1, c2⟩
        · exact go q
      · rw [if_neg c2] at h; exact go h
theorem opL_len {v : Nat → Int32} : ∀ r k, (opL v r k).length ≤ r := by
  intro r
  induction r with
  | zero => intro k; exact Nat.le_refl _
  | succ r ih =>
    intro k
    have := ih (k + 1)
    rw [opL]
    split
    · omega
    · split
      · simp; exact this
      · omega
section OPENC
variable {N b mb P C D : Nat} {I I0 I' I0' : IT} {J J' : JT} {S : ST} {Rf : RT}
theorem go_cls (h0 : CoreR b mb I0 I' P C D) : ∀ r k n l (I : IT), k + r = C → r < n → l.length ≤ k → (∀ a, a ≠ b + 33 → a ≠ b + 39 → I a = I0 a) → (∀ i, i ≠ 14 → I (b + 33) i = I0 (b + 33) i) → I (b + 33) 14 = nI l.length → (∀ i x, l[i]? = some x → i < 4 → I (b + 39) i = nI x) →
    ∃ I1, f4_gatherOpen_L18 N b S Rf n (nI k) I J = some ((), I1, J) ∧ (∀ a, a ≠ b + 33 → a ≠ b + 39 → I1 a = I0 a) ∧ (∀ i, i ≠ 14 → I1 (b + 33) i = I0 (b + 33) i) ∧ I1 (b + 33) 14 = nI (l ++ opL (I' (mb + 10)) r k).length ∧ ∀ i x, (l ++ opL (I' (mb + 10)) r k)[i]? = some x → i < 4 → I1 (b + 39) i = nI x := by
  have h6 := co_C6 h0
  intro r
  induction r with
  | zero =>
    intro k n l I hk hn hl f1 f2 f3 f4
    obtain ⟨n, rfl⟩ : ∃ q, n = q + 1 := ⟨n - 1, by omega⟩
    have h : CoreR b mb I I' P C D := h0.keep (fun a h1 h2 => f1 a (by omega) (by omega)) rfl
    rw [f4_gatherOpen_L18, co_C h, if_pos (nI_le (by omega) (by omega)), opL, List.append_nil]
    exact ⟨I, rfl, f1, f2, f3, f4⟩
  | succ r ih =>
    intro k n l I hk hn hl f1 f2 f3 f4
    obtain ⟨n, rfl⟩ : ∃ q, n = q + 1 := ⟨n - 1, by omega⟩
    have h : CoreR b mb I I' P C D := h0.keep (fun a h1 h2 => f1 a (by omega) (by omega)) rfl
    have hkC : k < C := by omega
    rw [f4_gatherOpen_L18, co_C h, if_neg (nI_ge (by omega) (by omega)), yb_ck_t (inb_nI (by omega) (by decide)), nI_clamp (by omega), co_judge h hkC, co_times h hkC, opL]
    by_cases c1 : 0 ≤ I' (mb + 10) (49 + 11 * k)
    · rw [if_pos c1, if_pos c1, lts, nI_1]
      exact ih (k + 1) n l I (by omega) (by omega) (by omega) f1 f2 f3 f4
    · rw [if_neg c1, if_neg c1]
      by_cases c2 : I' (mb + 10) (54 + 11 * k) = 0
      · rw [if_pos c2, if_pos c2, f3]
        have el : l ++ k :: opL (I' (mb + 10)) r (k + 1) = (l ++ [k]) ++ opL (I' (mb + 10)) r (k + 1) := by simp
        rw [el]
        by_cases c4 : 4 ≤ l.length
        · rw [if_pos (show (4 : Int32) ≤ nI l.length from nI_le (a := 4) c4 (by omega)), lts, lts, nI_1, nI_1]
          refine ih (k + 1) n (l ++ [k]) _ (by omega) (by omega) (by simp; omega) (fun a h1 h2 => (up2_ne _ _ _ h1).trans (f1 a h1 h2)) (fun i hi => (up2_at (Or.inr hi)).trans (f2 i hi)) (by rw [up2_same]; simp) (fun i x hx hi => ?_)
          rw [up2_ne _ _ _ (by omega)]
          rw [List.getElem?_append_left (by omega)] at hx
          exact f4 i x hx hi
        · have g3 : up2 I (b + 39) l.length (nI k) (b + 33) 14 = nI l.length := by rw [up2_ne _ _ _ (by omega)]; exact f3
          rw [if_neg (show ¬ (4 : Int32) ≤ nI l.length from nI_ge (b := 4) (by omega) (by omega)), yb_ck_t (inb_nI (by omega) (by decide)), nI_clamp (by omega), lts, g3, lts, lts, nI_1, nI_1]
          refine ih (k + 1) n (l ++ [k]) _ (by omega) (by omega) (by simp; omega) (fun a h1 h2 => (up2_ne _ _ _ h1).trans ((up2_ne _ _ _ h2).trans (f1 a h1 h2))) (fun i hi => (up2_at (Or.inr hi)).trans (by rw [up2_ne _ _ _ (by omega)]; exact f2 i hi)) (by rw [up2_same]; simp) (fun i x hx hi => ?_)
          rw [up2_ne _ _ _ (by omega)]
          by_cases ci : i = l.length
          · subst ci
            simp at hx
            subst hx
            exact up2_same _ _ _ _
          · rw [up2_at (Or.inr ci)]
            have hlt : i < l.length := by
              have : i < (l ++ [k]).length := by
                rcases Nat.lt_or_ge i (l ++ [k]).length with q | q
                · exact q
                · rw [List.getElem?_eq_none q] at hx; cases hx
              simp at this; omega
            rw [List.getElem?_append_left hlt] at hx
            exact f4 i x hx hi
      · rw [if_neg c2, if_neg c2, lts, nI_1]
        exact ih (k + 1) n l I (by omega) (by omega) (by omega) f1 f2 f3 f4
theorem go_ref (h0 : CoreR b mb I I0' P C D) : ∀ r k n l (I' : IT), k + r = C → r < n → l.length ≤ k → (∀ a, a ≠ mb → a ≠ mb + 12 → I' a = I0' a) → (∀ i, i ≠ 25 → I' mb i = I0' mb i) → I' mb 25 = nI l.length → (∀ i x, l[i]? = some x → I' (mb + 12) i = nI x) →
    ∃ I1', f12_fillsOpen_L7 N mb n (nI k) I' J' = some ((), I1', J') ∧ (∀ a, a ≠ mb → a ≠ mb + 12 → I1' a = I0' a) ∧ (∀ i, i ≠ 25 → I1' mb i = I0' mb i) ∧ I1' mb 25 = nI (l ++ opL (I0' (mb + 10)) r k).length ∧ ∀ i x, (l ++ opL (I0' (mb + 10)) r k)[i]? = some x → I1' (mb + 12) i = nI x := by
  have h6 := co_C6 h0
  intro r
  induction r with
  | zero =>
    intro k n l I' hk hn hl f1 f2 f3 f4
    obtain ⟨n, rfl⟩ : ∃ q, n = q + 1 := ⟨n - 1, by omega⟩
    have ev : I' (mb + 10) = I0' (mb + 10) := f1 _ (by omega) (by omega)
    rw [f12_fillsOpen_L7, ev, cv_C h0, if_pos (nI_le (by omega) (by omega)), opL, List.append_nil]
    exact ⟨I', rfl, f1, f2, f3, f4⟩
  | succ r ih =>
    intro k n l I' hk hn hl f1 f2 f3 f4
    obtain ⟨n, rfl⟩ : ∃ q, n = q + 1 := ⟨n - 1, by omega⟩
    have ev : I' (mb + 10) = I0' (mb + 10) := f1 _ (by omega) (by omega)
    have hkC : k < C := by omega
    rw [f12_fillsOpen_L7, ev, cv_C h0, if_neg (nI_ge (by omega) (by omega)), k12_c4 (by omega), b3s, ev, opL]
    by_cases c1 : 0 ≤ I0' (mb + 10) (49 + 11 * k)
    · rw [if_pos c1, if_pos c1, lts, nI_1]
      exact ih (k + 1) n l I' (by omega) (by omega) (by omega) f1 f2 f3 f4
    · rw [if_neg c1, if_neg c1, k12_c9 (by omega), b3s, ev]
      have ht : (I0' (mb + 10) (54 + 11 * k) ≤ 0 ↔ I0' (mb + 10) (54 + 11 * k) = 0) := by
        rcases (h0.1.2.2.2.2.2.2.1 k hkC).2 with ⟨_, q⟩ | ⟨j, t, _, _, q, q1, q2⟩
        · rw [q]; exact ⟨fun _ => rfl, fun _ => by decide⟩
        · have := co_D12 h0
          rw [q]
          exact ⟨fun z => absurd z (nI_nle (by omega) (by omega)), fun z => absurd z (nI_ne0 (by omega) (by omega))⟩
      by_cases c2 : I0' (mb + 10) (54 + 11 * k) = 0
      · have g3 : up2 I' (mb + 12) l.length (nI k) mb 25 = nI l.length := by rw [up2_ne _ _ _ (by omega)]; exact f3
        rw [if_pos (ht.mpr c2), if_pos c2, f3, yb_ck_t (inb_nI (by omega) (by decide)), nI_clamp (by omega), lts, g3, lts, lts, nI_1, nI_1]
        have el : l ++ k :: opL (I0' (mb + 10)) r (k + 1) = (l ++ [k]) ++ opL (I0' (mb + 10)) r (k + 1) := by simp
        rw [el]
        refine ih (k + 1) n (l ++ [k]) _ (by omega) (by omega) (by simp; omega) (fun a h1 h2 => (up2_ne _ _ _ h1).trans ((up2_ne _ _ _ h2).trans (f1 a h1 h2))) (fun i hi => (up2_at (Or.inr hi)).trans (by rw [up2_ne _ _ _ (by omega)]; exact f2 i hi)) (by rw [up2_same]; simp) (fun i x hx => ?_)
        rw [up2_ne _ _ _ (by omega)]
        by_cases ci : i = l.length
        · subst ci
          simp at hx
          subst hx
          exact up2_same _ _ _ _
        · rw [up2_at (Or.inr ci)]
          have hlt : i < l.length := by
            have : i < (l ++ [k]).length := by
              rcases Nat.lt_or_ge i (l ++ [k]).length with q | q
              · exact q
              · rw [List.getElem?_eq_none q] at hx; cases hx
            simp at this; omega
          rw [List.getElem?_append_left hlt] at hx
          exact f4 i x hx
      · rw [if_neg (fun z => c2 (ht.mp z)), if_neg c2, lts, nI_1]
        exact ih (k + 1) n l I' (by omega) (by omega) (by omega) f1 f2 f3 f4
end OPENC
