def FsM (v : Nat → Int32) (u : List Nat) (C D : Nat) (pr : Rw) (c j : Nat) : Prop := c ∉ pr.map Prod.fst ∧ BV v u C D j (lgN (ordW lgN o00 pr j) c) ≠ none
def GoS (mb : Nat) (v : Nat → Int32) (u : List Nat) (C D P : Nat) (pr : Rw) (c j1 : Nat) (x : Int32) (I1 : IT) : Prop :=
  (x = 1 ∧ ∃ c' j' d' : Nat, (c < c' ∨ (c = c' ∧ j1 ≤ j')) ∧ c' < u.length ∧ j' < P ∧ c' ∉ pr.map Prod.fst ∧ BV v u C D j' (lgN (ordW lgN o00 pr j') c') = some d' ∧ I1 (mb + 15) pr.length = nI c' ∧ I1 (mb + 16) pr.length = nI j' ∧ I1 (mb + 17) pr.length = nI d' ∧ ∀ c'' j'' : Nat, c'' < u.length → j'' < P → (c < c'' ∨ (c = c'' ∧ j1 ≤ j'')) → (c'' < c' ∨ (c'' = c' ∧ j'' < j')) → ¬ FsM v u C D pr c'' j'') ∨
  (x = 0 ∧ ∀ c'' j'' : Nat, c'' < u.length → j'' < P → (c < c'' ∨ (c = c'' ∧ j1 ≤ j'')) → ¬ FsM v u C D pr c'' j'')
theorem up2_ne_k {I : IT} {a c k j : Nat} {x : Int32} (h : c ≠ a) : up2 I a k x c j = I c j := up2_at (Or.inl h)
section GOES2
variable {N b mb P C D : Nat} {u : List Nat} {I I0' I' : IT} {J' : JT} {fo : Int32} {Rl : Nat → List (List Tk × Option (List Tk))} {pr : Rw}
theorem lg_pos {v : Nat → Int32} {c j : Nat} (hH : HistR v u C D pr) (hc : c < 4) (hn : c ∉ pr.map Prod.fst) : 0 < lgN (ordW lgN o00 pr j) c := by
  obtain ⟨o65, hs, _⟩ := hH j
  rcases tb2 _ o65 c hc with h | h
  · exact h.2.1
  · exact absurd (hs c h.2.2) hn
theorem PrM.up {Bg : Nat → Nat → Option Nat} {a : Nat} {x : Int32} (h : PrM mb Bg pr I') (ha : a = mb + 15 ∨ a = mb + 16 ∨ a = mb + 17 ∨ mb + 17 < a) : PrM mb Bg pr (up2 I' a pr.length x) := by
  refine ⟨fun p c j hp => ?_, fun p d hp => ?_⟩
  · have hlt := (List.getElem?_eq_some_iff.mp hp).1
    rw [up2_at (Or.inr (by omega)), up2_at (Or.inr (by omega))]
    exact h.1 p c j hp
  · have hlt := (List.getElem?_eq_some_iff.mp hp).1
    rw [dyW_len] at hlt
    rw [up2_at (Or.inr (by omega))]
    exact h.2 p d hp
theorem go_m (hN : 1000 ≤ N) (hB0 : BaM b mb P C D u fo Rl I I0') (hcm : ∀ c, c ∈ pr.map Prod.fst → c < u.length) (hok : okW lgN (BV (I0' (mb + 10)) u C D) P o00 pr) (hkm : pr.length < u.length) (hH : HistR (I0' (mb + 10)) u C D pr) : ∀ q c j1 n (I' : IT), (u.length - c) * 8 + (P - j1) ≤ q → q < n → c < u.length → j1 ≤ P → FrQ mb I0' I' → PrM mb (BV (I0' (mb + 10)) u C D) pr I' → I' (mb + 15) pr.length = nI c → I' (mb + 16) pr.length = nI j1 - 1 →
    ∃ x I1', f12_goesOnAt_L0 N mb (nI pr.length) n I' J' = some (Sum.inl x, I1', J') ∧ FrQ mb I0' I1' ∧ PrM mb (BV (I0' (mb + 10)) u C D) pr I1' ∧ (∀ a, a ≠ mb + 15 → a ≠ mb + 16 → a ≠ mb + 17 → I1' a = I' a) ∧ GoS mb (I0' (mb + 10)) u C D P pr c j1 x I1' := by
  have h7 := co_P7 hB0.1
  have hu4 := hB0.2.1.2.1
  have hP1 := hB0.2.2.1.2
  have hcm4 : ∀ c, c ∈ pr.map Prod.fst → c < 4 := fun c hc => by have := hcm c hc; omega
  intro q
  induction q with
  | zero => intro c j1 n I' hq hn hc; omega
  | succ q ih =>
    intro c j1 n I' hq hn hc hj1 hF hP e15 e16
    obtain ⟨n, rfl⟩ : ∃ z, n = z + 1 := ⟨n - 1, by omega⟩
    -- a candidate, looked at
    have cand : ∀ (c' j' : Nat) (Ic : IT), c' < u.length → j' < P → (u.length - c') * 8 + (P - (j' + 1)) ≤ q → FrQ mb I0' Ic → PrM mb (BV (I0' (mb + 10)) u C D) pr Ic → Ic (mb + 15) pr.length = nI c' → Ic (mb + 16) pr.length = nI j' →
        ∃ x I1', (yb_b3 (f12_goesOnAt_L70 N mb (nI pr.length) N (0 : Int32) (0 : Int32) Ic J') fun q_29 I_30 J_31 =>
          if q_29 = 0 then
            yb_b3 (f12_firstDay N mb (nI pr.length) (I_30 (mb + 15) pr.length) (I_30 (mb + 16) pr.length) I_30 J_31) fun r_34 I_35 J_36 =>
            yb_let (up2 I_35 (mb + 17) pr.length r_34) fun I_38 =>
            if (I_38 (mb + 17) pr.length) < 0 then
              f12_goesOnAt_L0 N mb (nI pr.length) n  I_38 J_36
            else
              some (Sum.inl (1 : Int32), I_38, J_36)
          else
            f12_goesOnAt_L0 N mb (nI pr.length) n  I_30 J_31) = some (Sum.inl x, I1', J') ∧ FrQ mb I0' I1' ∧ PrM mb (BV (I0' (mb + 10)) u C D) pr I1' ∧ (∀ a, a ≠ mb + 15 → a ≠ mb + 16 → a ≠ mb + 17 → I1' a = Ic a) ∧ GoS mb (I0' (mb + 10)) u C D P pr c' j' x I1' := by
      intro c' j' Ic hc' hj' hq' hFc hPc d15 d16
      have evc : Ic (mb + 10) = I0' (mb + 10) := hFc.1 _ (by omega)
      have hBc := hB0.fr hFc
      obtain ⟨y, u1, u2, u3⟩ := used_m (N := N) (u := u) (C := C) (D := D) (J' := J') (pr := pr) (I' := Ic) (c := c') (by rw [evc]; exact hPc) hcm4 (by omega) (by omega) d15 pr.length 0 N 0 (by omega) (by omega) (Or.inl rfl) ⟨fun _ p hp => by omega, fun _ => rfl⟩
      rw [show nI 0 = (0 : Int32) from rfl] at u1
      -- go on behind it
      have next : ∀ Iz : IT, FrQ mb I0' Iz → PrM mb (BV (I0' (mb + 10)) u C D) pr Iz → Iz (mb + 15) pr.length = nI c' → Iz (mb + 16) pr.length = nI j' → (∀ a, a ≠ mb + 15 → a ≠ mb + 16 → a ≠ mb + 17 → Iz a = Ic a) → ¬ FsM (I0' (mb + 10)) u C D pr c' j' → ∃ x I1', f12_goesOnAt_L0 N mb (nI pr.length) n Iz J' = some (Sum.inl x, I1', J') ∧ FrQ mb I0' I1' ∧ PrM mb (BV (I0' (mb + 10)) u C D) pr I1' ∧ (∀ a, a ≠ mb + 15 → a ≠ mb + 16 → a ≠ mb + 17 → I1' a = Ic a) ∧ GoS mb (I0' (mb + 10)) u C D P pr c' j' x I1' := by
        intro Iz z1 z2 z3 z4 z5 z6
        obtain ⟨x, I1', e1, e2, e3, e4, e5⟩ := ih c' (j' + 1) n Iz hq' (by omega) hc' (by omega) z1 z2 z3 (by
          rw [z4]
          show nI j' = nI (j' + 1) - nI 1
          rw [pk_sub (by omega)]; rfl)
        refine ⟨x, I1', e1, e2, e3, fun a h1 h2 h3 => (e4 a h1 h2 h3).trans (z5 a h1 h2 h3), ?_⟩
        have lift : ∀ c'' j'' : Nat, (c' < c'' ∨ (c' = c'' ∧ j' ≤ j'')) → (c' < c'' ∨ (c' = c'' ∧ j' + 1 ≤ j'')) ∨ (c'' = c' ∧ j'' = j') := fun c'' j'' h => by omega
        rcases e5 with ⟨rfl, c2, j2, d2, w1, w2, w3, w4, w5, w6, w7, w8, w9⟩ | ⟨rfl, w⟩
        · refine Or.inl ⟨rfl, c2, j2, d2, by omega, w2, w3, w4, w5, w6, w7, w8, fun c'' j'' h1 h2 h3 h4 => ?_⟩
          rcases lift c'' j'' h3 with y | ⟨rfl, rfl⟩
          · exact w9 c'' j'' h1 h2 y h4
          · exact z6
        · refine Or.inr ⟨rfl, fun c'' j'' h1 h2 h3 => ?_⟩
          rcases lift c'' j'' h3 with y | ⟨rfl, rfl⟩
          · exact w c'' j'' h1 h2 y
          · exact z6
      rw [u1, b3s]
      rcases u2 with rfl | rfl
      · have hnu := u3.mp rfl
        have hg := lg_pos (c := c') (j := j') hH (by omega) hnu
        have hfd := fd_m (N := N) (J' := J') (fo := fo) (Rl := Rl) (I := I) (pr := pr) (I' := Ic) (j := j') (c := c') hN hBc (by rw [evc]; exact hPc) hcm (by rw [evc]; exact hok) (by omega) (by rw [evc]; exact hH) hj' hc' hg
        rw [evc] at hfd
        rw [if_pos rfl, d15, d16, hfd, b3s, lts, up2_same]
        cases hb : BV (I0' (mb + 10)) u C D j' (lgN (ordW lgN o00 pr j') c') with
        | none =>
          rw [if_pos (show bI 0 none < 0 from (by decide : (-1 : Int32) < 0))]
          exact next _ (hFc.up _ (by omega)) (hPc.up (by omega)) ((up2_ne_k (by omega)).trans d15) ((up2_ne_k (by omega)).trans d16) (fun a h1 h2 h3 => up2_ne _ _ _ h3) (fun z => z.2 hb)
        | some d' =>
          obtain ⟨_, _, _, _, d100⟩ := Hh_some hg (lg65 (hH j').1 (by omega)) hb
          have ed : bI 0 (some d') = nI d' := by show nI (0 + d') = _; rw [Nat.zero_add]
          rw [ed, if_neg (nI_pos (by omega))]
          exact ⟨1, _, rfl, hFc.up _ (by omega), hPc.up (by omega), fun a h1 h2 h3 => up2_ne _ _ _ h3, Or.inl ⟨rfl, c', j', d', Or.inr ⟨rfl, Nat.le_refl _⟩, hc', hj', hnu, hb, (up2_ne_k (by omega)).trans d15, (up2_ne_k (by omega)).trans d16, up2_same _ _ _ _, fun c'' j'' h1 h2 h3 h4 => by omega⟩⟩
      · rw [if_neg i10]
        exact next Ic hFc hPc d15 d16 (fun _ _ _ _ => rfl) (fun z => absurd (u3.mpr z.1) (by decide))
    have e25 : ∀ Iz : IT, FrQ mb I0' Iz → Iz mb 25 = nI u.length := fun Iz hz => (hz.2 25 (by decide) (by decide)).trans hB0.2.1.1
    have eP : ∀ Iz : IT, FrQ mb I0' Iz → Iz (mb + 10) 2 = nI P := fun Iz hz => by rw [hz.1 _ (by omega)]; exact cv_P hB0.1
    have ej : nI j1 - 1 + 1 = nI j1 := by
      rw [Int32.sub_add_cancel]
    have hF2 : FrQ mb I0' (up2 I' (mb + 16) pr.length (nI j1)) := hF.up _ (by omega)
    have hP2 : PrM mb (BV (I0' (mb + 10)) u C D) pr (up2 I' (mb + 16) pr.length (nI j1)) := hP.up (by omega)
    rw [f12_goesOnAt_L0, yb_ck_t (inb_nI (show pr.length < 4 by omega) (by decide)), nI_clamp (show pr.length < 2 ^ 31 by omega), e16, ej, lts, up2_same, eP _ hF2]
    by_cases cj : j1 = P
    · subst cj
      have hF3 : FrQ mb I0' (up2 (up2 I' (mb + 16) pr.length (nI j1)) (mb + 16) pr.length 0) := hF2.up _ (by omega)
      have e15' : up2 (up2 I' (mb + 16) pr.length (nI j1)) (mb + 16) pr.length 0 (mb + 15) pr.length = nI c := by rw [up2_ne _ _ _ (by omega), up2_ne _ _ _ (by omega)]; exact e15
      have hF4 : FrQ mb I0' (up2 (up2 (up2 I' (mb + 16) pr.length (nI j1)) (mb + 16) pr.length 0) (mb + 15) pr.length (nI (c + 1))) := hF3.up _ (by omega)
      have hP4 : PrM mb (BV (I0' (mb + 10)) u C D) pr (up2 (up2 (up2 I' (mb + 16) pr.length (nI j1)) (mb + 16) pr.length 0) (mb + 15) pr.length (nI (c + 1))) := (hP2.up (by omega)).up (by omega)
      rw [if_pos rfl, lts, e15', nI_1, lts, up2_same, e25 _ hF4]
      by_cases cm : c + 1 = u.length
      · rw [if_pos (by rw [cm])]
        refine ⟨0, _, rfl, hF4, hP4, fun a h1 h2 h3 => by rw [up2_ne _ _ _ h1, up2_ne _ _ _ h2, up2_ne _ _ _ h2], Or.inr ⟨rfl, fun c'' j'' h1 h2 h3 => by omega⟩⟩
      · rw [if_neg (fun z => cm ((nI_eq (by omega) (by omega)).mp z)), eP _ hF4, if_neg (nI_ne0 (by omega) (by omega))]
        obtain ⟨x, I1', e1, e2, e3, e4, e5⟩ := cand (c + 1) 0 _ (by omega) (by omega) (by omega) hF4 hP4 (up2_same _ _ _ _) (by rw [up2_ne _ _ _ (by omega), up2_same]; rfl)
        refine ⟨x, I1', e1, e2, e3, fun a h1 h2 h3 => by rw [e4 a h1 h2 h3, up2_ne _ _ _ h1, up2_ne _ _ _ h2, up2_ne _ _ _ h2], ?_⟩
        rcases e5 with ⟨rfl, c2, j2, d2, w1, w2, w3, w4, w5, w6, w7, w8, w9⟩ | ⟨rfl, w⟩
        · exact Or.inl ⟨rfl, c2, j2, d2, by omega, w2, w3, w4, w5, w6, w7, w8, fun c'' j'' h1 h2 h3 h4 => w9 c'' j'' h1 h2 (by omega) h4⟩
        · exact Or.inr ⟨rfl, fun c'' j'' h1 h2 h3 => w c'' j'' h1 h2 (by omega)⟩
    · have e15' : up2 I' (mb + 16) pr.length (nI j1) (mb + 15) pr.length = nI c := by rw [up2_ne _ _ _ (by omega)]; exact e15
      rw [if_neg (fun z => cj ((nI_eq (by omega) (by omega)).mp z)), e15', e25 _ hF2, if_neg (fun z => by have := (nI_eq (by omega) (by omega)).mp z; omega), if_neg (nI_ne0 (by omega) (by omega))]
      obtain ⟨x, I1', e1, e2, e3, e4, e5⟩ := cand c j1 _ hc (by omega) (by omega) hF2 hP2 e15' (up2_same _ _ _ _)
      exact ⟨x, I1', e1, e2, e3, fun a h1 h2 h3 => by rw [e4 a h1 h2 h3, up2_ne _ _ _ h2], e5⟩
end GOES2
