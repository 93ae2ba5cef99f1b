/-! HOW RIGHTLY: the reference's rows of clauses and the class's steps, then the judge's number -/
theorem ClR.congr {I I1 : IT} {mb k i : Nat} {x : List Tk × Option (List Tk)} (h4 : I1 (mb + 4) = I (mb + 4)) (h2 : I1 (mb + 2) = I (mb + 2)) (h : ClR I mb k i x) : ClR I1 mb k i x := by
  unfold ClR at h ⊢
  rw [h4, h2]
  exact h
theorem ClsR.congr {I I1 : IT} {mb k : Nat} (h4 : I1 (mb + 4) = I (mb + 4)) (h2 : I1 (mb + 2) = I (mb + 2)) : ∀ {i : Nat} {cl : List (List Tk × Option (List Tk))}, ClsR I mb k i cl → ClsR I1 mb k i cl
  | _, [], _ => trivial
  | _, _ :: _, h => ⟨h.1.congr h4 h2, ClsR.congr h4 h2 h.2⟩
section SUM
variable {N mb : Nat}
theorem k12_sumL {k : Nat} {W : Nat → Int64} (hN : 1000 ≤ N) (hk : k < 6) : ∀ (cl : List (List Tk × Option (List Tk))) (i n : Nat) (I : IT) (J : JT), (∀ x ∈ cl, ClOK x) → I (mb + 5) k = nI (i + cl.length) → i + cl.length ≤ 12 → cl.length < n → ClsR I mb k i cl → (∀ i, i < 12 → J (mb + 9) i = W i) →
    ∃ r I1 J1, f12_summedBy_L2 N mb (nI k) n (nI i) I J = some (r, I1, J1) ∧ (r = Sum.inl (sumV W cl) ∨ (r = Sum.inr () ∧ sumV W cl = 0)) ∧ (∀ a j, (a ≠ mb ∨ j ≠ 18) → I1 a j = I a j) ∧ (∀ a, a ≠ mb + 8 → J1 a = J a)
  | [], i, n, I, J, ho, h5, hi, hn, hC, hW => by
    obtain ⟨n, rfl⟩ : ∃ q, n = q + 1 := ⟨n - 1, by omega⟩
    simp only [List.length_nil, Nat.add_zero] at h5 hi
    refine ⟨_, I, J, ?_, Or.inr ⟨rfl, rfl⟩, fun _ _ _ => rfl, fun _ _ => rfl⟩
    rw [f12_summedBy_L2, yb_ck_t (inb_nI hk (by decide)), nI_clamp (by omega), h5, if_pos (nI_le (Nat.le_refl _) (by omega))]
  | (x, o) :: cl, i, n, I, J, ho, h5, hi, hn, hC, hW => by
    obtain ⟨n, rfl⟩ : ∃ q, n = q + 1 := ⟨n - 1, by omega⟩
    obtain ⟨hA, hT, hc, hB⟩ := ho (x, o) (List.mem_cons_self ..)
    have hc : cntT x ≤ 60 := hc
    simp only [List.length_cons] at h5 hi hn
    obtain ⟨⟨s, c0, c1, c2, c3, c4⟩, hC2⟩ := hC
    have ex : ((48 : Int32) * nI k) + ((4 : Int32) * nI i) = nI (48 * k + 4 * i) := by
      show nI 48 * nI k + nI 4 * nI i = _
      rw [pk_mul, pk_mul, nI_add]
    have ex1 : nI (48 * k + 4 * i) + 1 = nI (48 * k + 4 * i + 1) := nI_1 _
    have ex2 : nI (48 * k + 4 * i) + 2 = nI (48 * k + 4 * i + 2) := nI_add _ 2
    have ex3 : nI (48 * k + 4 * i) + 3 = nI (48 * k + 4 * i + 3) := nI_add _ 3
    rw [f12_summedBy_L2, yb_ck_t (inb_nI hk (by decide)), nI_clamp (by omega), h5, if_neg (nI_ge (by omega) (by omega)), ex, lts, ex1, ex2, ex3, yb_ck_t (inb_nI (by omega) (by decide)), nI_clamp (show 48 * k + 4 * i + 2 < 2 ^ 31 by omega)]
    rcases c4 with ⟨o1, c5⟩ | ⟨u, s1, o1, c5, c6, c7, c8⟩
    · have o1 : o = none := o1
      subst o1
      obtain ⟨I1, J1, r1, r2, r3⟩ := k12_reckons (N := N) (mb := mb) (I := I) (J := J) (W := W) hN hk c2 hT c3 hA (by omega) hW
      rw [c5, if_pos (by decide), yb_ck_t (inb_nI (by omega) (by decide)), yb_ck_t (inb_nI (by omega) (by decide)), nI_clamp (show 48 * k + 4 * i < 2 ^ 31 by omega), nI_clamp (show 48 * k + 4 * i + 1 < 2 ^ 31 by omega), c0, c1, r1, b3s]
      exact ⟨_, I1, J1, rfl, Or.inl rfl, r2, r3⟩
    · have o1 : o = some u := o1
      subst o1
      obtain ⟨hB1, hB2, hB3⟩ := hB u rfl
      obtain ⟨I1, J1, r1, r2, r3⟩ := k12_reckons (N := N) (mb := mb) (I := I) (J := J) (W := W) hN hk c7 hB2 c8 hB1.a (by omega) hW
      have hI : ∀ a, a ≠ mb → I1 a = I a := fun a h => funext fun j => r2 a j (Or.inl h)
      rw [c5, if_neg (nI_pos (by omega)), yb_ck_t (inb_nI (by omega) (by decide)), nI_clamp (show 48 * k + 4 * i + 3 < 2 ^ 31 by omega), c6, r1, b3s]
      have hz : lg_cmp (valT W u) 1 = 0 ↔ ¬ valT W u = 0 := by
        rcases hB1.val W with v | v
        · rw [v]; decide
        · rw [v]; decide
      by_cases cz : valT W u = 0
      · have es : sumV W ((x, some u) :: cl) = sumV W cl := if_pos cz
        rw [if_neg (fun h => hz.mp h cz), lts, nI_1, es]
        obtain ⟨r, I2, J2, g1, g2, g3, g4⟩ := k12_sumL (W := W) hN hk cl (i + 1) n I1 J1 (fun y h => ho y (List.mem_cons_of_mem _ h)) (by rw [hI _ (by omega), h5]; congr 1; omega) (by omega) (by omega) (hC2.congr (hI _ (by omega)) (hI _ (by omega))) (fun i hi => by rw [r3 _ (by omega)]; exact hW i hi)
        exact ⟨r, I2, J2, g1, g2, fun a j h => (g3 a j h).trans (r2 a j h), fun a h => (g4 a h).trans (r3 a h)⟩
      · have es : sumV W ((x, some u) :: cl) = valT W x := if_neg cz
        obtain ⟨I2, J2, g1, g2, g3⟩ := k12_reckons (N := N) (mb := mb) (I := I1) (J := J1) (W := W) hN hk c2 hT (by rw [hI _ (by omega)]; exact c3) hA (by omega) (fun i hi => by rw [r3 _ (by omega)]; exact hW i hi)
        rw [if_pos (hz.mpr cz), yb_ck_t (inb_nI (by omega) (by decide)), yb_ck_t (inb_nI (by omega) (by decide)), nI_clamp (show 48 * k + 4 * i < 2 ^ 31 by omega), nI_clamp (show 48 * k + 4 * i + 1 < 2 ^ 31 by omega), hI _ (show mb + 4 ≠ mb by omega), c0, c1, g1, b3s, es]
        exact ⟨_, I2, J2, rfl, Or.inl rfl, fun a j h => (g2 a j h).trans (r2 a j h), fun a h => (g3 a h).trans (r3 a h)⟩
end SUM
/-- the rules told, on both sides -/
def RulesR (b mb K : Nat) (S : ST) (Rf : RT) (I I' : IT) (Rl : Nat → List (List Tk × Option (List Tk))) : Prop :=
  K ≤ 6 ∧ ∀ k, k < K → ∃ q, Rf (b + 3) k = some q ∧ (S (q + 1)).2 = (encR (Rl k)).length ∧ (encR (Rl k)).length ≤ 400 ∧ TokAt (I (q + 1)) 0 (encR (Rl k)) ∧ (∀ x ∈ Rl k, ClOK x) ∧ I' (mb + 5) k = nI (Rl k).length ∧ (Rl k).length ≤ 12 ∧ ClsR I' mb k 0 (Rl k)
def FoR (fo : Int32) (K : Nat) : Prop := fo = -1 ∨ ∃ k, k < K ∧ fo = nI k
def wordV (v : Nat → Int32) (j a : Nat) (g n d ru ti : Int32) (i : Nat) : Int64 :=
  [(nI j).toInt64, (v (11 + 5 * j)).toInt64, (v (10 + 5 * j) + d).toInt64, (v (12 + 5 * j)).toInt64, (nI a).toInt64, g.toInt64, n.toInt64, (v (10 + 5 * a) - v (10 + 5 * j)).toInt64, d.toInt64, ru.toInt64, ti.toInt64, (tilS v (v (10 + 5 * j) + d)).toInt64].getD i 0
def clampV (x : Int64) : Int32 := if 0 ≤ lg_cmp x 0 then (if lg_cmp x 100 ≤ 0 then x.toInt32 else 100) else 0
def rgtV (v : Nat → Int32) (fo : Int32) (Rl : Nat → List (List Tk × Option (List Tk))) (j a : Nat) (g n d ru ti : Int32) : Int32 :=
  if fo < 0 then clampV (50 + (5 * v (11 + 5 * j)).toInt64 - (4 * g).toInt64 - (3 * v (12 + 5 * j)).toInt64) else clampV (sumV (wordV v j a g n d ru ti) (Rl fo.toNatClampNeg))
theorem clampV_cls (x : Int64) : (if (if x < 100 then x else 100) < 0 then (0 : Int64) else (if x < 100 then x else 100)).toInt32 = clampV x := by
  have h0 : 0 ≤ lg_cmp x 0 ↔ ¬ x < 0 := by
    rw [← lg_cmp_lt, Int32.not_lt]
  have h1 : lg_cmp x 100 ≤ 0 ↔ ¬ 100 < x := by
    rw [← lg_cmp_gt, Int32.not_lt]
  unfold clampV
  simp only [h0, h1]
  simp only [Int64.lt_iff_toInt_lt]
  have e0 : (0 : Int64).toInt = 0 := rfl
  have e1 : (100 : Int64).toInt = 100 := rfl
  by_cases c0 : x.toInt < (0 : Int64).toInt
  · rw [if_pos (show x.toInt < (100 : Int64).toInt by omega), if_pos c0, if_neg (not_not_intro c0)]
    rfl
  · rw [if_pos c0]
    by_cases c1 : x.toInt < (100 : Int64).toInt
    · rw [if_pos c1, if_neg c0, if_pos (by omega)]
    · rw [if_neg c1, if_neg (by decide)]
      by_cases c2 : (100 : Int64).toInt < x.toInt
      · rw [if_neg (not_not_intro c2)]; rfl
      · rw [if_pos c2]
        congr 1
        apply Int64.toInt_inj.mp
        omega
theorem clampV_100 (x : Int64) : ∃ r : Nat, r ≤ 100 ∧ clampV x = nI r := by
  unfold clampV
  by_cases c0 : 0 ≤ lg_cmp x 0
  · rw [if_pos c0]
    by_cases c1 : lg_cmp x 100 ≤ 0
    · rw [if_pos c1]
      have h0 : ¬ x < 0 := by rw [← lg_cmp_lt, Int32.not_lt]; exact c0
      have h1 : ¬ 100 < x := by rw [← lg_cmp_gt, Int32.not_lt]; exact c1
      obtain ⟨r, hr, rfl⟩ := pk_lOf h0
      refine ⟨r, ?_, lN_i r⟩
      rw [show (100 : Int64) = lN 100 from rfl, pk_lLT (by omega) hr] at h1
      omega
    · rw [if_neg c1]; exact ⟨100, by omega, rfl⟩
  · rw [if_neg c0]; exact ⟨0, by omega, rfl⟩
theorem rgtV_100 (v : Nat → Int32) (fo : Int32) (Rl : Nat → List (List Tk × Option (List Tk))) (j a : Nat) (g n d ru ti : Int32) : ∃ r : Nat, r ≤ 100 ∧ rgtV v fo Rl j a g n d ru ti = nI r := by
  unfold rgtV
  split <;> exact clampV_100 _
theorem mul5 : ∀ w, w < 10 → ((5 : Int32) * nI w).toInt64 = (5 : Int64) * (nI w).toInt64 := by decide
theorem mul4 : ∀ w, w < 10 → ((4 : Int32) * nI w).toInt64 = (4 : Int64) * (nI w).toInt64 := by decide
theorem mul3 : ∀ w, w < 10 → ((3 : Int32) * nI w).toInt64 = (3 : Int64) * (nI w).toInt64 := by decide
