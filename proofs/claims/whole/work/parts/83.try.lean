/-! BENCHES, the class: the search -/
def SeC (b P m D : Nat) (Bg : Nat → Nat → Option Nat) (Rt : Nat → Nat → Nat) (ln : Nat → Nat) (u : List Nat) (I : IT) : Prop :=
  (I (b + 33) 14 = nI m ∧ 1 ≤ m ∧ m ≤ 4) ∧ (I (b + 5) 13 = nI P ∧ P ≤ 7) ∧ D ≤ 1200 ∧ (I (b + 34) = fun k => lo4.getD k 0) ∧
  (∀ j o, j < P → 0 < o → o < 65 → I (b + 37) (j * 65 + o) = bI D (Bg j o) ∧ (∀ d, Bg j o = some d → d < 100 ∧ I (b + 38) (j * 65 + o) = nI (Rt j o)) ∧ Rt j o ≤ 100) ∧
  ∀ c, c < m → u.getD c 0 < 6 ∧ I (b + 39) c = nI (u.getD c 0) ∧ I (b + 12) (u.getD c 0) = nI (ln c) ∧ 1 ≤ ln c ∧ ln c ≤ 9
/-- the search changes but its own -/
def FrS (b : Nat) (I0 I : IT) : Prop := (∀ a, (a < b + 33 ∨ (b + 33 < a ∧ a < b + 40) ∨ b + 46 < a) → I a = I0 a) ∧ ∀ k, k ≠ 15 → k ≠ 16 → I (b + 33) k = I0 (b + 33) k
/-- the best row as the class holds it -/
def BsC (b D : Nat) (u : List Nat) (I : IT) : Option Cd → Prop
  | none => I (b + 33) 15 = -1 ∧ I (b + 33) 16 = -1
  | some x => I (b + 33) 15 = nI x.1 ∧ I (b + 33) 16 = nI (D + x.2.1 - 1) ∧ (x.1 ≤ 400 ∧ 1 ≤ x.2.1 ∧ x.2.1 ≤ 108) ∧ (∀ p c j, x.2.2.1[p]? = some (c, j) → I (b + 44) p = nI (u.getD c 0) ∧ I (b + 45) p = nI j) ∧ ∀ p d, x.2.2.2[p]? = some d → I (b + 46) p = nI (D + d)
theorem FrS.rf (b : Nat) (I : IT) : FrS b I I := ⟨fun _ _ => rfl, fun _ _ _ => rfl⟩
theorem FrS.tr {b : Nat} {I I1 I2 : IT} (h : FrS b I I1) (g : FrS b I1 I2) : FrS b I I2 := ⟨fun a q => (g.1 a q).trans (h.1 a q), fun k h1 h2 => (g.2 k h1 h2).trans (h.2 k h1 h2)⟩
theorem FrS.up {b : Nat} {I I1 : IT} (h : FrS b I I1) {a k : Nat} (x : Int32) (ha : (b + 40 ≤ a ∧ a ≤ b + 46) ∨ (a = b + 33 ∧ (k = 15 ∨ k = 16))) : FrS b I (up2 I1 a k x) :=
  ⟨fun q hq => (up2_ne _ _ _ (by omega)).trans (h.1 q hq), fun i h1 h2 => (up2_at (by omega)).trans (h.2 i h1 h2)⟩
section TRY
variable {N b P m D : Nat} {Bg : Nat → Nat → Option Nat} {Rt : Nat → Nat → Nat} {ln : Nat → Nat} {u : List Nat} {I I0 I1 : IT} {J : JT} {S : ST} {Rf : RT}
theorem SeC.fr (h : SeC b P m D Bg Rt ln u I) (hf : FrS b I I1) : SeC b P m D Bg Rt ln u I1 := by
  obtain ⟨⟨h1, h2, h3⟩, ⟨h4, h5⟩, h6, h7, h8, h9⟩ := h
  refine ⟨⟨(hf.2 14 (by decide) (by decide)).trans h1, h2, h3⟩, ⟨by rw [hf.1 _ (by omega)]; exact h4, h5⟩, h6, by rw [hf.1 _ (by omega)]; exact h7, fun j o g1 g2 g3 => ?_, fun c hc => ?_⟩
  · rw [hf.1 (b + 37) (by omega), hf.1 (b + 38) (by omega)]; exact h8 j o g1 g2 g3
  · rw [hf.1 (b + 39) (by omega), hf.1 (b + 12) (by omega)]; exact h9 c hc
theorem row_bnd (h : SeC b P m D Bg Rt ln u I) : ∀ (r : Rw) (o : Nat → Nat), (∀ j, o j < 65) → (∀ c, c ∈ r.map Prod.fst → c < m) → okW lgN Bg P o r → (∀ j, ordW lgN o r j < 65) ∧ rsW lgN Rt o r ≤ 100 * r.length ∧ enW lgN Bg ln o r ≤ 108 ∧ (r ≠ [] → 1 ≤ enW lgN Bg ln o r) := by
  obtain ⟨⟨h1, h2, h3⟩, ⟨h4, h5⟩, h6, h7, h8, h9⟩ := h
  intro r
  induction r with
  | nil => intro o ho _ _; exact ⟨ho, Nat.le_refl _, Nat.zero_le _, fun q => absurd rfl q⟩
  | cons x r ih =>
    intro o ho hc hok
    obtain ⟨c, j⟩ := x
    obtain ⟨g1, g2, g3, g4⟩ := hok
    have hcm : c < m := hc c (by simp)
    have hl := lg65 (ho j) (show c < 4 by omega)
    have ho' : ∀ i, updN o j (lgN (o j) c) i < 65 := fun i => by
      by_cases e : i = j
      · subst e; rw [updN_s]; exact hl
      · rw [updN_n _ _ e]; exact ho i
    obtain ⟨i1, i2, i3, i4⟩ := ih _ ho' (fun c' hc' => hc c' (by simp at hc' ⊢; exact Or.inr hc')) g4
    obtain ⟨b1, b2, b3⟩ := h8 j _ g1 g2 hl
    obtain ⟨_, _, _, l1, l2⟩ := h9 c hcm
    cases hb : Bg j (lgN (o j) c) with
    | none => exact absurd hb g3
    | some d =>
      have := (b2 d hb).1
      refine ⟨i1, ?_, ?_, fun _ => ?_⟩
      · show Rt j (lgN (o j) c) + _ ≤ 100 * (r.length + 1)
        omega
      · show max ((Bg j (lgN (o j) c)).getD 0 + ln c) _ ≤ 108
        rw [hb]
        exact Nat.max_le.mpr ⟨by show d + ln c ≤ 108; omega, i3⟩
      · show 1 ≤ max ((Bg j (lgN (o j) c)).getD 0 + ln c) _
        exact Nat.le_trans (show 1 ≤ _ + ln c by omega) (Nat.le_max_left _ _)
/-- rows that go on from pr, their cases rest, behind q -/
def ExT (Bg : Nat → Nat → Option Nat) (Rt : Nat → Nat → Nat) (ln : Nat → Nat) (P : Nat) (pr : Rw) (q : Option (Nat × Nat)) (rest : List Nat) (x : Cd) : Prop := ∃ t : Rw, t.map Prod.fst = rest ∧ okW lgN Bg P (ordW lgN o00 pr) t ∧ prW q t ∧ x = rcW lgN Bg Rt ln (pr ++ t)
theorem ExT_cons {pr : Rw} {q : Option (Nat × Nat)} {c : Nat} {rest : List Nat} {x : Cd} : ExT Bg Rt ln P pr q (c :: rest) x ↔ ∃ j, j < P ∧ (∀ z, q = some z → c < z.1 → j = z.2) ∧ (0 < lgN (ordW lgN o00 pr j) c ∧ Bg j (lgN (ordW lgN o00 pr j) c) ≠ none) ∧ ExT Bg Rt ln P (pr ++ [(c, j)]) (some (c, j)) rest x := by
  have eo : ∀ j, ordW lgN o00 (pr ++ [(c, j)]) = updN (ordW lgN o00 pr) j (lgN (ordW lgN o00 pr j) c) := fun j => by rw [ordW_app]; rfl
  constructor
  · rintro ⟨t, h1, h2, h3, h4⟩
    cases t with
    | nil => cases h1
    | cons y t =>
      obtain ⟨c', j⟩ := y
      simp only [List.map_cons, List.cons.injEq] at h1
      obtain ⟨rfl, h1⟩ := h1
      obtain ⟨g1, g2, g3, g4⟩ := h2
      refine ⟨j, g1, ?_, ⟨g2, g3⟩, t, h1, by rw [eo]; exact g4, ?_, by rw [h4]; simp⟩
      · intro z hz hlt
        subst hz
        exact h3.1 hlt
      · cases q with
        | none => exact h3
        | some z => exact h3.2
  · rintro ⟨j, g1, g2, ⟨g3, g4⟩, t, h1, h2, h3, h4⟩
    rw [eo] at h2
    refine ⟨(c, j) :: t, by simp [h1], ⟨g1, g3, g4, h2⟩, ?_, by rw [h4]; simp⟩
    cases q with
    | none => exact h3
    | some z => exact ⟨fun hlt => g2 z rfl hlt, h3⟩
theorem lsI_n {D e : Nat} (he : 1 ≤ e) : nI (D + e) - 1 = nI (D + e - 1) := by
  show nI (D + e) - nI 1 = _
  rw [pk_sub (by omega)]
/-- the class's cells for the row so far -/
def PrC (b m D : Nat) (Bg : Nat → Nat → Option Nat) (cs : List Nat) (pr : Rw) (I : IT) : Prop :=
  (∀ p c, cs[p]? = some c → I (b + 40) p = nI c) ∧ (∀ j, j < 7 → I (b + 43) j = nI (ordW lgN o00 pr j)) ∧ (∀ p c j, pr[p]? = some (c, j) → I (b + 41) p = nI j) ∧ ∀ p d, (dyW lgN Bg o00 pr)[p]? = some d → I (b + 42) p = nI (D + d)
theorem keep_copy {cs : List Nat} {pr : Rw} (hS : SeC b P m D Bg Rt ln u I0) (hcs : cs = pr.map Prod.fst) (hlen : pr.length = m) (hcm : ∀ c, c ∈ cs → c < m) : ∀ r k n (I : IT), k + r = m → r < n → FrS b I0 I → PrC b m D Bg cs pr I → (∀ p c j, p < k → pr[p]? = some (c, j) → I (b + 44) p = nI (u.getD c 0) ∧ I (b + 45) p = nI j) → (∀ p d, p < k → (dyW lgN Bg o00 pr)[p]? = some d → I (b + 46) p = nI (D + d)) →
    ∃ I1, f4_keepIfBetter_L37 N b S Rf n (nI k) I J = some ((), I1, J) ∧ (∀ a, a ≠ b + 44 → a ≠ b + 45 → a ≠ b + 46 → I1 a = I a) ∧ (∀ p c j, pr[p]? = some (c, j) → I1 (b + 44) p = nI (u.getD c 0) ∧ I1 (b + 45) p = nI j) ∧ ∀ p d, (dyW lgN Bg o00 pr)[p]? = some d → I1 (b + 46) p = nI (D + d) := by
  intro r
  induction r with
  | zero =>
    intro k n I hk hn hF hP f1 f2
    obtain ⟨n, rfl⟩ : ∃ q, n = q + 1 := ⟨n - 1, by omega⟩
    have hS' := hS.fr hF
    rw [f4_keepIfBetter_L37, hS'.1.1, if_pos (nI_le (by omega) (by have := hS.1; omega))]
    refine ⟨I, rfl, fun _ _ _ _ => rfl, fun p c j hp => f1 p c j ?_ hp, fun p d hp => f2 p d ?_ hp⟩
    · have := (List.getElem?_eq_some_iff.mp hp).1; omega
    · have := (List.getElem?_eq_some_iff.mp hp).1; rw [dyW_len] at this; omega
  | succ r ih =>
    intro k n I hk hn hF hP f1 f2
    obtain ⟨n, rfl⟩ : ∃ q, n = q + 1 := ⟨n - 1, by omega⟩
    have hS' := hS.fr hF
    obtain ⟨⟨_, m1, m4⟩, _⟩ := id hS
    have hkp : k < pr.length := by omega
    obtain ⟨c, j, hcj⟩ : ∃ c j, pr[k]? = some (c, j) := ⟨(pr[k]).1, (pr[k]).2, by rw [List.getElem?_eq_getElem hkp]⟩
    have hck : cs[k]? = some c := by rw [hcs, List.getElem?_map, hcj]; rfl
    have hcm' : c < m := hcm c (List.mem_of_getElem? hck)
    obtain ⟨d, hd⟩ : ∃ d, (dyW lgN Bg o00 pr)[k]? = some d := ⟨(dyW lgN Bg o00 pr)[k]'(by rw [dyW_len]; omega), by rw [List.getElem?_eq_getElem]⟩
    obtain ⟨u1, u2, _⟩ := hS'.2.2.2.2.2 c hcm'
    obtain ⟨p1, p2, p3, p4⟩ := id hP
    rw [f4_keepIfBetter_L37, hS'.1.1, if_neg (nI_ge (by omega) (by omega)), if_neg (show ¬ (4 : Int32) ≤ nI k from nI_ge (b := 4) (by omega) (by omega)), yb_ck_t (inb_nI (show k < 4 by omega) (by decide)), nI_clamp (show k < 2 ^ 31 by omega), p1 k c hck, yb_ck_t (inb_nI (show c < 4 by omega) (by decide)), nI_clamp (show c < 2 ^ 31 by omega), u2, lts, up2_ne _ _ _ (show b + 41 ≠ b + 44 by omega), p3 k c j hcj, lts, up2_ne _ _ _ (show b + 42 ≠ b + 45 by omega), up2_ne _ _ _ (show b + 42 ≠ b + 44 by omega), p4 k d hd, lts, lts, nI_1]
    obtain ⟨I1, e1, e2, e3, e4⟩ := ih (k + 1) n (up2 (up2 (up2 I (b + 44) k (nI (u.getD c 0))) (b + 45) k (nI j)) (b + 46) k (nI (D + d))) (by omega) (by omega) (((hF.up _ (by omega)).up _ (by omega)).up _ (by omega)) ⟨fun p c h => by
        rw [up2_ne _ _ _ (by omega), up2_ne _ _ _ (by omega), up2_ne _ _ _ (by omega)]; exact p1 p c h, fun j hj => by
        rw [up2_ne _ _ _ (by omega), up2_ne _ _ _ (by omega), up2_ne _ _ _ (by omega)]; exact p2 j hj, fun p c j h => by
        rw [up2_ne _ _ _ (by omega), up2_ne _ _ _ (by omega), up2_ne _ _ _ (by omega)]; exact p3 p c j h, fun p d h => by
        rw [up2_ne _ _ _ (by omega), up2_ne _ _ _ (by omega), up2_ne _ _ _ (by omega)]; exact p4 p d h⟩ (fun p c' j' hp hx => by
        by_cases ep : p = k
        · subst ep
          rw [hcj] at hx; cases hx
          refine ⟨?_, ?_⟩
          · rw [up2_ne _ _ _ (by omega), up2_ne _ _ _ (by omega), up2_same]
          · rw [up2_ne _ _ _ (by omega), up2_same]
        · obtain ⟨q1, q2⟩ := f1 p c' j' (by omega) hx
          refine ⟨?_, ?_⟩
          · rw [up2_ne _ _ _ (by omega), up2_ne _ _ _ (by omega), up2_at (Or.inr ep)]; exact q1
          · rw [up2_ne _ _ _ (by omega), up2_at (Or.inr ep), up2_ne _ _ _ (by omega)]; exact q2) (fun p d' hp hx => by
        by_cases ep : p = k
        · subst ep
          rw [hd] at hx; cases hx
          exact up2_same _ _ _ _
        · rw [up2_at (Or.inr ep), up2_ne _ _ _ (by omega), up2_ne _ _ _ (by omega)]; exact f2 p d' (by omega) hx)
    exact ⟨I1, e1, fun a h1 h2 h3 => by rw [e2 a h1 h2 h3, up2_ne _ _ _ h3, up2_ne _ _ _ h2, up2_ne _ _ _ h1], e3, e4⟩
theorem keep_c {cs : List Nat} {pr : Rw} {V : Cd → Prop} {best : Option Cd} (hN : 1000 ≤ N) (hS : SeC b P m D Bg Rt ln u I0) (hcs : cs = pr.map Prod.fst) (hlen : pr.length = m) (hcm : ∀ c, c ∈ cs → c < m) (hok : okW lgN Bg P o00 pr) (hF : FrS b I0 I) (hP : PrC b m D Bg cs pr I) (hB : BsC b D u I best) (hV : IsBest V best) (hlt : ∀ y, V y → lexL (keyL y) (keyL (rcW lgN Bg Rt ln pr))) :
    ∃ I1 best1, f4_keepIfBetter N b S Rf (nI (rsW lgN Rt o00 pr)) (nI (D + enW lgN Bg ln o00 pr - 1)) I J = some ((), I1, J) ∧ FrS b I0 I1 ∧ BsC b D u I1 best1 ∧ IsBest (fun x => V x ∨ x = rcW lgN Bg Rt ln pr) best1 ∧ ∀ a, a ≠ b + 33 → a ≠ b + 44 → a ≠ b + 45 → a ≠ b + 46 → I1 a = I a := by
  obtain ⟨⟨_, m1, m4⟩, _, hD, _⟩ := id hS
  obtain ⟨_, r2, r3, r4⟩ := row_bnd hS pr o00 (fun _ => by show (0 : Nat) < 65; omega) (by rw [← hcs]; exact hcm) hok
  have r4' := r4 (fun q => by rw [q] at hlen; simp at hlen; omega)
  have hR4 : rsW lgN Rt o00 pr ≤ 400 := by rw [hlen] at r2; omega
  have iv : ∀ z, (V z ∨ z = rcW lgN Bg Rt ln pr) ↔ (V z ∨ z = rcW lgN Bg Rt ln pr) := fun _ => Iff.rfl
  have new : ∃ I1, (yb_let (up2 I (b + 33) 15 (nI (rsW lgN Rt o00 pr))) fun I_3 => yb_let (up2 I_3 (b + 33) 16 (nI (D + enW lgN Bg ln o00 pr - 1))) fun I_4 => yb_b3 (f4_keepIfBetter_L37 N b S Rf N (0 : Int32) I_4 J) fun q_13 I_14 J_15 => some ((), I_14, J_15)) = some ((), I1, J) ∧ FrS b I0 I1 ∧ BsC b D u I1 (some (rcW lgN Bg Rt ln pr)) ∧ ∀ a, a ≠ b + 33 → a ≠ b + 44 → a ≠ b + 45 → a ≠ b + 46 → I1 a = I a := by
    have hF2 : FrS b I0 (up2 (up2 I (b + 33) 15 (nI (rsW lgN Rt o00 pr))) (b + 33) 16 (nI (D + enW lgN Bg ln o00 pr - 1))) := (hF.up _ (by omega)).up _ (by omega)
    obtain ⟨p1, p2, p3, p4⟩ := id hP
    obtain ⟨I1, e1, e2, e3, e4⟩ := keep_copy (N := N) (S := S) (Rf := Rf) (J := J) hS hcs hlen hcm m 0 N _ (by omega) (by omega) hF2 ⟨fun p c h => by
        rw [up2_ne _ _ _ (by omega), up2_ne _ _ _ (by omega)]; exact p1 p c h, fun j hj => by
        rw [up2_ne _ _ _ (by omega), up2_ne _ _ _ (by omega)]; exact p2 j hj, fun p c j h => by
        rw [up2_ne _ _ _ (by omega), up2_ne _ _ _ (by omega)]; exact p3 p c j h, fun p d h => by
        rw [up2_ne _ _ _ (by omega), up2_ne _ _ _ (by omega)]; exact p4 p d h⟩ (fun p c j hp => by omega) (fun p d hp => by omega)
    rw [show nI 0 = (0 : Int32) from rfl] at e1
    rw [lts, lts, e1, b3s]
    refine ⟨I1, rfl, ⟨fun a ha => (e2 a (by omega) (by omega) (by omega)).trans (hF2.1 a ha), fun k h1 h2 => by rw [e2 _ (by omega) (by omega) (by omega)]; exact hF2.2 k h1 h2⟩, ⟨?_, ?_, ⟨hR4, r4', r3⟩, e3, e4⟩, fun a h1 h2 h3 h4 => by rw [e2 a h2 h3 h4, up2_ne _ _ _ h1, up2_ne _ _ _ h1]⟩
    · rw [e2 _ (by omega) (by omega) (by omega), up2_at (Or.inr (by decide)), up2_same]; rfl
    · rw [e2 _ (by omega) (by omega) (by omega), up2_same]; rfl
  obtain ⟨I1, n1, n2, n3, n4⟩ := new
  unfold f4_keepIfBetter
  cases best with
  | none =>
    obtain ⟨b1, b2⟩ := hB
    rw [b1, if_neg (show ¬ nI (rsW lgN Rt o00 pr) < -1 from fun q => nI_pos (n := rsW lgN Rt o00 pr) (by omega) (Int32.lt_trans q (by decide))), if_neg (show ¬ nI (rsW lgN Rt o00 pr) = -1 from fun q => nI_pos (n := rsW lgN Rt o00 pr) (by omega) (by rw [q]; decide)), n1]
    exact ⟨I1, _, rfl, n2, n3, hV.new iv, n4⟩
  | some y =>
    obtain ⟨b1, b2, ⟨b3, b4, b5⟩, b6, b7⟩ := id hB
    have hVy : V y := by
      rcases hV with ⟨q, _⟩ | ⟨z, q, q2, _⟩
      · cases q
      · cases q; exact q2
    have hly := hlt y hVy
    have nl : ¬ lexL (keyL (rcW lgN Bg Rt ln pr)) (keyL y) := fun q => lexL_irr _ (lexL_trans q hly)
    have eR : (rcW lgN Bg Rt ln pr).1 = rsW lgN Rt o00 pr := rfl
    have eE : (rcW lgN Bg Rt ln pr).2.1 = enW lgN Bg ln o00 pr := rfl
    rw [b1, b2]
    by_cases c1 : rsW lgN Rt o00 pr < y.1
    · rw [if_pos (nI_lt c1 (by omega))]
      exact ⟨I, some y, rfl, hF, hB, hV.stay (fun q => by
        rcases q with q | ⟨q, _⟩
        · rw [eR] at q; omega
        · rw [eR] at q; omega) iv, fun _ _ _ _ _ => rfl⟩
    · rw [if_neg (nI_nlt (by omega) (by omega))]
      by_cases c2 : rsW lgN Rt o00 pr = y.1
      · rw [if_pos (by rw [c2])]
        by_cases c3 : enW lgN Bg ln o00 pr < y.2.1
        · rw [if_pos (nI_lt (by omega) (by omega)), n1]
          exact ⟨I1, _, rfl, n2, n3, hV.up (Or.inr ⟨c2, Or.inl c3⟩) iv, n4⟩
        · rw [if_neg (nI_nlt (by omega) (by omega))]
          exact ⟨I, some y, rfl, hF, hB, hV.stay (fun q => by
            rcases q with q | ⟨_, q | ⟨_, q⟩⟩
            · rw [eR] at q; omega
            · rw [eE] at q; omega
            · exact nl q) iv, fun _ _ _ _ _ => rfl⟩
      · rw [if_neg (fun q => c2 ((nI_eq (by omega) (by omega)).mp q)), n1]
        exact ⟨I1, _, rfl, n2, n3, hV.up (Or.inl (by rw [eR]; omega)) iv, n4⟩
end TRY
