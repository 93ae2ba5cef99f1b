/-! RULE: tokens put on both sides -/
theorem TokAt.snoc {f : Nat → Int32} {p : Nat} {a : List Int32} {x : Int32} (h : TokAt f p a) {g : Nat → Int32} (hg : ∀ i, p ≤ i → i < p + a.length → g i = f i) (hx : g (p + a.length) = x) : TokAt g p (a ++ [x]) :=
  (TokAt.app (f := g) (p := p) (a := a) (c := [x])).mpr ⟨h.congr hg, hx, trivial⟩
/-- where both stand while a rule is read -/
def PS (b mb n : Nat) (w : Nat → Nat) (K p p' : Nat) (tc tr : List Int32) (V : Nat) (I I' : IT) : Prop :=
  Rd b mb n w p p' I I' ∧ (I (b + 62) 2 = nI tc.length ∧ TokAt (I (b + 63)) 0 tc ∧ I (b + 62) 3 = nI V) ∧ V ≤ 60 ∧ K < 6 ∧ (I' mb 11 = nI K ∧ I' (mb + 3) K = nI tr.length ∧ TokAt (I' (mb + 2)) (400 * K) tr ∧ I' mb 12 = nI V) ∧ tr.length ≤ tc.length
/-- what reading a rule leaves -/
def FR (b mb K : Nat) (I I1 I' I1' : IT) : Prop :=
  (∀ a, a ≠ b + 2 → a ≠ b + 62 → a ≠ b + 63 → I1 a = I a) ∧ (I1 (b + 2) 1 = I (b + 2) 1) ∧ (∀ a, a ≠ mb → a ≠ mb + 2 → a ≠ mb + 3 → a ≠ mb + 7 → I1' a = I' a) ∧ (∀ k, k ≠ 8 → k ≠ 9 → k ≠ 10 → k ≠ 12 → k ≠ 13 → k ≠ 16 → I1' mb k = I' mb k) ∧ (∀ i, i < 400 * K → I1' (mb + 2) i = I' (mb + 2) i) ∧ ∀ i, i < K → I1' (mb + 3) i = I' (mb + 3) i
/-- both stopped at the same fault -/
def FL (b mb K : Nat) (I I1 I' I1' : IT) : Prop := FR b mb K I I1 I' I1' ∧ I1 (b + 2) 4 = I1' mb 9 ∧ I1' mb 9 ≠ 0
section PSS
variable {N b mb n p p' K V : Nat} {w : Nat → Nat} {tc tr : List Int32} {S : ST} {Rf : RT} {I I1 I2 I' I1' I2' : IT} {J J' : JT}
theorem FR.rf (b mb K : Nat) (I I' : IT) : FR b mb K I I I' I' := ⟨fun _ _ _ _ => rfl, rfl, fun _ _ _ _ _ => rfl, fun _ _ _ _ _ _ _ => rfl, fun _ _ => rfl, fun _ _ => rfl⟩
theorem FR.t2 (h : FR b mb K I I1 I' I1') (g : FR b mb K I1 I2 I1' I2') : FR b mb K I I2 I' I2' :=
  ⟨fun a h1 h2 h3 => (g.1 a h1 h2 h3).trans (h.1 a h1 h2 h3), g.2.1.trans h.2.1, fun a h1 h2 h3 h4 => (g.2.2.1 a h1 h2 h3 h4).trans (h.2.2.1 a h1 h2 h3 h4), fun k h1 h2 h3 h4 h5 h6 => (g.2.2.2.1 k h1 h2 h3 h4 h5 h6).trans (h.2.2.2.1 k h1 h2 h3 h4 h5 h6), fun i hi => (g.2.2.2.2.1 i hi).trans (h.2.2.2.2.1 i hi), fun i hi => (g.2.2.2.2.2 i hi).trans (h.2.2.2.2.2 i hi)⟩
theorem FL.of (h : FR b mb K I I1 I' I1') (g : FL b mb K I1 I2 I1' I2') : FL b mb K I I2 I' I2' := ⟨h.t2 g.1, g.2⟩
theorem FrN.fr (h : FrN b mb I I1 I' I1') : FR b mb K I I1 I' I1' :=
  ⟨fun a h1 _ _ => h.a h1, h.1 _ _ (Or.inr (by decide)), fun a h1 _ _ _ => h.m h1, fun k h1 h2 h3 _ _ _ => h.2 _ _ (Or.inr ⟨h1, h2, h3⟩), fun i _ => h.2 _ _ (Or.inl (by omega)), fun i _ => h.2 _ _ (Or.inl (by omega))⟩
theorem NF.fl (h : NF b mb I I1 I' I1') : FL b mb K I I1 I' I1' := ⟨h.1.fr, h.2⟩
/-- reading moved on, no token was put -/
theorem PS.mv {q q' : Nat} (h : PS b mb n w K p p' tc tr V I I') (hr : Rd b mb n w q q' I1 I1') (hf : FrN b mb I I1 I' I1') : PS b mb n w K q q' tc tr V I1 I1' := by
  obtain ⟨_, ⟨h1, h2, h3⟩, h4, h5, ⟨h6, h7, h8, h9⟩, h10⟩ := h
  refine ⟨hr, ⟨?_, ?_, ?_⟩, h4, h5, ⟨?_, ?_, ?_, ?_⟩, h10⟩
  · rw [hf.a (by omega)]; exact h1
  · rw [hf.a (by omega)]; exact h2
  · rw [hf.a (by omega)]; exact h3
  · rw [hf.2 _ _ (Or.inr (by decide))]; exact h6
  · rw [hf.m (by omega)]; exact h7
  · rw [hf.m (by omega)]; exact h8
  · rw [hf.2 _ _ (Or.inr (by decide))]; exact h9
/-- the class puts a step -/
theorem put_c {x : Int32} (h2 : I (b + 62) 2 = nI tc.length) (ht : TokAt (I (b + 63)) 0 tc) (hl : tc.length < 400) : ∃ I1, f6_put b S Rf x I J = some ((), I1, J) ∧ I1 (b + 62) 2 = nI (tc ++ [x]).length ∧ TokAt (I1 (b + 63)) 0 (tc ++ [x]) ∧ (∀ a, a ≠ b + 62 → a ≠ b + 63 → I1 a = I a) ∧ ∀ k, k ≠ 2 → I1 (b + 62) k = I (b + 62) k := by
  unfold f6_put
  rw [h2, if_neg (show ¬ (400 : Int32) ≤ nI tc.length from nI_ge (b := 400) (by omega) (by omega)), yb_ck_t (inb_nI hl (by decide)), nI_clamp (by omega), lts, up2_ne _ _ _ (show b + 62 ≠ b + 63 by omega), h2, nI_1, lts]
  refine ⟨_, rfl, ?_, ?_, fun a h1 h3 => ?_, fun k hk => ?_⟩
  · rw [up2_same]; simp
  · rw [up2_ne _ _ _ (by omega)]
    exact ht.snoc (fun i _ h => up2_at (Or.inr (by omega))) (by rw [Nat.zero_add]; exact up2_same _ _ _ _)
  · rw [up2_ne _ _ _ h1, up2_ne _ _ _ h3]
  · rw [up2_at (Or.inr hk), up2_ne _ _ _ (by omega)]
/-- the reference puts a sign -/
theorem puts_m {s v : Int32} (hK : K < 6) (h11 : I' mb 11 = nI K) (h3 : I' (mb + 3) K = nI tr.length) (ht : TokAt (I' (mb + 2)) (400 * K) tr) (hl : tr.length < 400) : ∃ I1', f12_puts mb s v I' J' = some ((), I1', J') ∧ I1' (mb + 3) K = nI (tr ++ [s + 16 * v]).length ∧ TokAt (I1' (mb + 2)) (400 * K) (tr ++ [s + 16 * v]) ∧ (∀ a, a ≠ mb + 2 → a ≠ mb + 3 → I1' a = I' a) ∧ (∀ i, i < 400 * K → I1' (mb + 2) i = I' (mb + 2) i) ∧ ∀ i, i ≠ K → I1' (mb + 3) i = I' (mb + 3) i := by
  have ex : (400 : Int32) * nI K + nI tr.length = nI (400 * K + tr.length) := by
    show nI 400 * nI K + _ = _
    rw [pk_mul, nI_add]
  unfold f12_puts
  rw [h11, yb_ck_t (inb_nI (show K < 7 by omega) (by decide)), nI_clamp (show K < 2 ^ 31 by omega), h3, ex, yb_ck_t (inb_nI (show 400 * K + tr.length < 2400 by omega) (by decide)), nI_clamp (show 400 * K + tr.length < 2 ^ 31 by omega), lts, up2_ne _ _ _ (show mb ≠ mb + 2 by omega), h11, yb_ck_t (inb_nI (show K < 7 by omega) (by decide)), nI_clamp (show K < 2 ^ 31 by omega), up2_ne _ _ _ (show mb + 3 ≠ mb + 2 by omega), h3, nI_1, lts]
  refine ⟨_, rfl, ?_, ?_, fun a h1 h4 => ?_, fun i hi => ?_, fun i hi => ?_⟩
  · rw [up2_same]; simp
  · rw [up2_ne _ _ _ (by omega)]
    exact ht.snoc (fun i _ h => up2_at (Or.inr (by omega))) (up2_same _ _ _ _)
  · rw [up2_ne _ _ _ h4, up2_ne _ _ _ h1]
  · rw [up2_ne _ _ _ (by omega), up2_at (Or.inr (by omega))]
  · rw [up2_at (Or.inr hi), up2_ne _ _ _ (by omega)]
/-- a token on both sides -/
theorem q_emit {x s v : Int32} (h : PS b mb n w K p p' tc tr V I I') (hl : tc.length < 400) : ∃ I1 I1', f6_put b S Rf x I J = some ((), I1, J) ∧ f12_puts mb s v I' J' = some ((), I1', J') ∧ PS b mb n w K p p' (tc ++ [x]) (tr ++ [s + 16 * v]) V I1 I1' ∧ FR b mb K I I1 I' I1' ∧ (∀ a, a ≠ b + 62 → a ≠ b + 63 → I1 a = I a) ∧ I1' mb = I' mb ∧ I1' (mb + 7) = I' (mb + 7) := by
  obtain ⟨hr, ⟨h1, h2, h3⟩, h4, h5, ⟨h6, h7, h8, h9⟩, h10⟩ := h
  obtain ⟨I1, c1, c2, c3, c4, c5⟩ := put_c (b := b) (S := S) (Rf := Rf) (J := J) (x := x) h1 h2 hl
  obtain ⟨I1', m1, m2, m3, m4, m5, m6⟩ := puts_m (s := s) (v := v) (J' := J') h5 h6 h7 h8 (by omega)
  have em : I1' mb = I' mb := m4 _ (by omega) (by omega)
  refine ⟨I1, I1', c1, m1, ⟨hr.keep (by rw [c4 _ (by omega) (by omega)]) (by rw [c4 _ (by omega) (by omega)]) (c4 _ (by omega) (by omega)) (by rw [em]) (by rw [em]) (by rw [em]) (m4 _ (by omega) (by omega)), ⟨c2, c3, (c5 3 (by decide)).trans h3⟩, h4, h5, ⟨by rw [em]; exact h6, m2, m3, by rw [em]; exact h9⟩, by simp; exact h10⟩, ⟨fun a _ g1 g2 => c4 a g1 g2, by rw [c4 _ (by omega) (by omega)], fun a _ g1 g2 _ => m4 a g1 g2, fun k _ _ _ _ _ _ => by rw [em], m5, fun i hi => m6 i (by omega)⟩, c4, em, m4 _ (by omega) (by omega)⟩
end PSS
