/-! BENCHES, the reference: the walk over all rows -/
def FuE (v : Nat → Int32) (fo : Int32) (Rl : Nat → List (List Tk × Option (List Tk))) (u : List Nat) (C D P : Nat) (pr : Rw) (x : Cd) : Prop := ∃ t : Rw, (pr ++ t).length = u.length ∧ ((pr ++ t).map Prod.fst).Nodup ∧ (∀ c, c ∈ (pr ++ t).map Prod.fst → c < u.length) ∧ okW lgN (BV v u C D) P o00 (pr ++ t) ∧ x = rcV v fo Rl u C D (pr ++ t)
def Kf : Nat → Nat
  | 0 => 0
  | h + 1 => 40 * Kf h + 2
theorem lx_tr {a b c d e f : Nat} (h : a < c ∨ (a = c ∧ b ≤ d)) (g : c < e ∨ (c = e ∧ d + 1 ≤ f)) : a < e ∨ (a = e ∧ b ≤ f) := by omega
section WALK
variable {N b mb P C D : Nat} {u : List Nat} {I I0' I' : IT} {J' : JT} {fo : Int32} {Rl : Nat → List (List Tk × Option (List Tk))} {pr : Rw} {v : Nat → Int32}
theorem FuE_step {x : Cd} (hl : pr.length < u.length) : FuE v fo Rl u C D P pr x ↔ ∃ c j, c < u.length ∧ j < P ∧ FsM v u C D pr c j ∧ FuE v fo Rl u C D P (pr ++ [(c, j)]) x := by
  constructor
  · rintro ⟨t, h1, h2, h3, h4, h5⟩
    cases t with
    | nil => simp at h1; omega
    | cons i t =>
      obtain ⟨c, j⟩ := i
      have e : pr ++ (c, j) :: t = (pr ++ [(c, j)]) ++ t := by simp
      have h4' := ((okW_app pr o00 ((c, j) :: t)).mp h4).2
      refine ⟨c, j, h3 c (by simp), h4'.1, ⟨fun hi => ?_, h4'.2.2.1⟩, t, by rw [← e]; exact h1, by rw [← e]; exact h2, by rw [← e]; exact h3, by rw [← e]; exact h4, by rw [← e]; exact h5⟩
      rw [List.map_append, List.nodup_append] at h2
      exact h2.2.2 c hi c (by simp) rfl
  · rintro ⟨c, j, _, _, _, t, h1, h2, h3, h4, h5⟩
    have e : (pr ++ [(c, j)]) ++ t = pr ++ (c, j) :: t := by simp
    rw [e] at h1 h2 h3 h4 h5
    exact ⟨(c, j) :: t, h1, h2, h3, h4, h5⟩
theorem FuE_end {x : Cd} (hl : pr.length = u.length) (h2 : (pr.map Prod.fst).Nodup) (h3 : ∀ c, c ∈ pr.map Prod.fst → c < u.length) (h4 : okW lgN (BV v u C D) P o00 pr) : FuE v fo Rl u C D P pr x ↔ x = rcV v fo Rl u C D pr := by
  constructor
  · rintro ⟨t, g1, g2, g3, g4, g5⟩
    cases t with
    | nil => rw [List.append_nil] at g5; exact g5
    | cons i t => simp at g1; omega
  · intro h
    exact ⟨[], by rw [List.append_nil]; exact hl, by rw [List.append_nil]; exact h2, by rw [List.append_nil]; exact h3, by rw [List.append_nil]; exact h4, by rw [List.append_nil]; exact h⟩
theorem PrM.snoc {c j d : Nat} (h : PrM mb (BV v u C D) pr I') (hb : BV v u C D j (lgN (ordW lgN o00 pr j) c) = some d) (e1 : I' (mb + 15) pr.length = nI c) (e2 : I' (mb + 16) pr.length = nI j) (e3 : I' (mb + 17) pr.length = nI d) : PrM mb (BV v u C D) (pr ++ [(c, j)]) I' := by
  have edy : dyW lgN (BV v u C D) o00 (pr ++ [(c, j)]) = dyW lgN (BV v u C D) o00 pr ++ [d] := by
    rw [dyW_app]
    show _ ++ [(BV v u C D j (lgN (ordW lgN o00 pr j) c)).getD 0] = _
    rw [hb]; rfl
  have hdl := dyW_len (lg := lgN) (Bg := BV v u C D) pr o00
  refine ⟨fun p c' j' hp => ?_, fun p d' hp => ?_⟩
  · by_cases ep : p = pr.length
    · subst ep
      simp at hp
      obtain ⟨rfl, rfl⟩ := hp
      exact ⟨e1, e2⟩
    · have : p < pr.length := by
        have := (List.getElem?_eq_some_iff.mp hp).1
        simp at this; omega
      rw [List.getElem?_append_left this] at hp
      exact h.1 p c' j' hp
  · rw [edy] at hp
    by_cases ep : p = pr.length
    · subst ep
      rw [← hdl] at hp
      simp at hp
      rw [← hp]
      exact e3
    · have : p < (dyW lgN (BV v u C D) o00 pr).length := by
        have := (List.getElem?_eq_some_iff.mp hp).1
        simp at this; omega
      rw [List.getElem?_append_left this] at hp
      exact h.2 p d' hp
theorem PrM.init {c j : Nat} (h : PrM mb (BV v u C D) (pr ++ [(c, j)]) I') : PrM mb (BV v u C D) pr I' := by
  refine ⟨fun p c' j' hp => h.1 p c' j' ?_, fun p d' hp => h.2 p d' ?_⟩
  · rw [List.getElem?_append_left (List.getElem?_eq_some_iff.mp hp).1]; exact hp
  · rw [dyW_app, List.getElem?_append_left (List.getElem?_eq_some_iff.mp hp).1]; exact hp
theorem rb_m (hN : 1000 ≤ N) (hB0 : BaM b mb P C D u fo Rl I I0') : ∀ h (pr : Rw), pr.length + (h + 1) = u.length → (pr.map Prod.fst).Nodup → (∀ c, c ∈ pr.map Prod.fst → c < u.length) → okW lgN (BV (I0' (mb + 10)) u C D) P o00 pr → HistR (I0' (mb + 10)) u C D pr → ∀ q c j1 (I' : IT) best V, (u.length - c) * 8 + (P - j1) ≤ q → c < u.length → j1 ≤ P → FrQ mb I0' I' → PrM mb (BV (I0' (mb + 10)) u C D) pr I' → I' (mb + 15) pr.length = nI c → I' (mb + 16) pr.length = nI j1 - 1 → BsM mb u.length I' best → IsBest V best →
    ∃ T I1' best1, T ≤ q * Kf (h + 1) + 1 ∧ (∀ n, f12_findsBenches_L43 N mb (n + T) (nI pr.length) I' J' = f12_findsBenches_L43 N mb n (nI pr.length + (-1)) I1' J') ∧ FrQ mb I0' I1' ∧ PrM mb (BV (I0' (mb + 10)) u C D) pr I1' ∧ BsM mb u.length I1' best1 ∧ IsBest (fun x => V x ∨ ∃ c' j', c' < u.length ∧ j' < P ∧ (c < c' ∨ (c = c' ∧ j1 ≤ j')) ∧ FsM (I0' (mb + 10)) u C D pr c' j' ∧ FuE (I0' (mb + 10)) fo Rl u C D P (pr ++ [(c', j')]) x) best1 := by
  have h7 := co_P7 hB0.1
  have hu4 := hB0.2.1.2.1
  intro h
  induction h with
  | zero =>
    intro pr hpl hnd hcm hok hH q
    have hkm : pr.length < u.length := by omega
    induction q with
    | zero => intro c j1 I' best V hq hc; omega
    | succ q ih =>
      intro c j1 I' best V hq hc hj hF hP e15 e16 hBs hV
      obtain ⟨x, I2, g1, g2, g3, g4, g5⟩ := go_m (N := N) (J' := J') hN hB0 hcm hok hkm hH ((u.length - c) * 8 + (P - j1)) c j1 N I' (Nat.le_refl _) (by omega) hc hj hF hP e15 e16
      have hg : f12_goesOnAt N mb (nI pr.length) I' J' = some (x, I2, J') := by unfold f12_goesOnAt; rw [g1, b3s, sml]
      have hBs2 : BsM mb u.length I2 best := hBs.cg (g4 _ (by omega) (by omega) (by omega)) (g4 _ (by omega) (by omega) (by omega)) (g4 _ (by omega) (by omega) (by omega)) (g4 _ (by omega) (by omega) (by omega))
      rcases g5 with ⟨rfl, c2, j2, d2, w1, w2, w3, w4, w5, w6, w7, w8, w9⟩ | ⟨rfl, w⟩
      · have hg0 := lg_pos (c := c2) (j := j2) hH (by omega) w4
        have hP2 : PrM mb (BV (I0' (mb + 10)) u C D) (pr ++ [(c2, j2)]) I2 := g3.snoc w5 w6 w7 w8
        have hl2 : (pr ++ [(c2, j2)]).length = u.length := by simp; omega
        have hcm2 : ∀ c, c ∈ (pr ++ [(c2, j2)]).map Prod.fst → c < u.length := by
          intro c hc
          rw [List.map_append] at hc
          rcases List.mem_append.mp hc with z | z
          · exact hcm c z
          · simp at z; omega
        have hok2 : okW lgN (BV (I0' (mb + 10)) u C D) P o00 (pr ++ [(c2, j2)]) := (okW_app pr o00 [(c2, j2)]).mpr ⟨hok, w3, hg0, (by rw [w5]; exact fun z => (by cases z)), trivial⟩
        have hnd2 : ((pr ++ [(c2, j2)]).map Prod.fst).Nodup := by
          rw [List.map_append, List.nodup_append]
          exact ⟨hnd, by simp, fun x hx y hy => by simp at hy; subst hy; exact fun e => w4 (e ▸ hx)⟩
        obtain ⟨I3, best3, k1, k2, k3, k4, k5⟩ := cnt_m (N := N) (J' := J') hN hB0 hcm2 hok2 hl2 g2 hP2 hBs2 hV
        have hP3 : PrM mb (BV (I0' (mb + 10)) u C D) pr I3 := by
          unfold PrM
          rw [k3 _ (by omega) (by omega) (by omega) (by omega), k3 _ (by omega) (by omega) (by omega) (by omega), k3 _ (by omega) (by omega) (by omega) (by omega)]
          exact g3
        obtain ⟨T, I4, best4, m1, m2, m3, m4, m5, m6⟩ := ih c2 (j2 + 1) I3 best3 _ (by omega) w2 (by omega) k2 hP3 (by rw [k3 _ (by omega) (by omega) (by omega) (by omega)]; exact w6) (by
          rw [k3 _ (by omega) (by omega) (by omega) (by omega), w7]
          show nI j2 = nI (j2 + 1) - nI 1
          rw [pk_sub (by omega)]; rfl) k4 k5
        refine ⟨T + 1, I4, best4, ?_, fun n => ?_, m3, m4, m5, m6.cg fun z => ?_⟩
        · have : Kf 1 = 2 := rfl
          rw [Nat.zero_add] at m1 ⊢
          rw [this] at m1 ⊢
          omega
        · rw [← m2 n, ← Nat.add_assoc, f12_findsBenches_L43, if_neg (nI_pos (by omega)), hg, b3s, if_neg i10, (hB0.fr g2).2.1.1, if_pos (show nI pr.length = nI u.length - 1 from (by show nI pr.length = nI u.length - nI 1; rw [pk_sub (by omega)]; congr 1; omega)), k1, b3s]
        · constructor
          · rintro (z1 | ⟨c', j', z1, z2, z3, z4, z5⟩)
            · exact Or.inl (Or.inl z1)
            · by_cases e : c' = c2 ∧ j' = j2
              · obtain ⟨rfl, rfl⟩ := e
                exact Or.inl (Or.inr ((FuE_end hl2 hnd2 hcm2 hok2).mp z5))
              · refine Or.inr ⟨c', j', z1, z2, ?_, z4, z5⟩
                rcases Nat.lt_trichotomy c' c2 with y | y | y
                · exact absurd z4 (w9 c' j' z1 z2 z3 (Or.inl y))
                · rcases Nat.lt_trichotomy j' j2 with y' | y' | y'
                  · exact absurd z4 (w9 c' j' z1 z2 z3 (Or.inr ⟨y, y'⟩))
                  · exact absurd ⟨y, y'⟩ e
                  · exact Or.inr ⟨y.symm, y'⟩
                · exact Or.inl y
          · rintro ((z1 | z1) | ⟨c', j', z1, z2, z3, z4, z5⟩)
            · exact Or.inl z1
            · exact Or.inr ⟨c2, j2, w2, w3, w1, ⟨w4, by rw [w5]; exact fun z => (by cases z)⟩, (FuE_end hl2 hnd2 hcm2 hok2).mpr z1⟩
            · exact Or.inr ⟨c', j', z1, z2, lx_tr w1 z3, z4, z5⟩
      · refine ⟨1, I2, best, by omega, fun n => ?_, g2, g3, hBs2, hV.cg fun z => ?_⟩
        · rw [f12_findsBenches_L43, if_neg (nI_pos (by omega)), hg, b3s, if_pos rfl, lts]
        · constructor
          · rintro (z1 | ⟨c', j', z1, z2, z3, z4, z5⟩)
            · exact z1
            · exact absurd z4 (w c' j' z1 z2 z3)
          · exact Or.inl
  | succ h ihh =>
    intro pr hpl hnd hcm hok hH q
    have hkm : pr.length < u.length := by omega
    induction q with
    | zero => intro c j1 I' best V hq hc; omega
    | succ q ih =>
      intro c j1 I' best V hq hc hj hF hP e15 e16 hBs hV
      obtain ⟨x, I2, g1, g2, g3, g4, g5⟩ := go_m (N := N) (J' := J') hN hB0 hcm hok hkm hH ((u.length - c) * 8 + (P - j1)) c j1 N I' (Nat.le_refl _) (by omega) hc hj hF hP e15 e16
      have hg : f12_goesOnAt N mb (nI pr.length) I' J' = some (x, I2, J') := by unfold f12_goesOnAt; rw [g1, b3s, sml]
      have hBs2 : BsM mb u.length I2 best := hBs.cg (g4 _ (by omega) (by omega) (by omega)) (g4 _ (by omega) (by omega) (by omega)) (g4 _ (by omega) (by omega) (by omega)) (g4 _ (by omega) (by omega) (by omega))
      rcases g5 with ⟨rfl, c2, j2, d2, w1, w2, w3, w4, w5, w6, w7, w8, w9⟩ | ⟨rfl, w⟩
      · have hg0 := lg_pos (c := c2) (j := j2) hH (by omega) w4
        have hP2 : PrM mb (BV (I0' (mb + 10)) u C D) (pr ++ [(c2, j2)]) I2 := g3.snoc w5 w6 w7 w8
        have hl2 : (pr ++ [(c2, j2)]).length = pr.length + 1 := by simp
        have hcm2 : ∀ c, c ∈ (pr ++ [(c2, j2)]).map Prod.fst → c < u.length := by
          intro c hc
          rw [List.map_append] at hc
          rcases List.mem_append.mp hc with z | z
          · exact hcm c z
          · simp at z; omega
        have hok2 : okW lgN (BV (I0' (mb + 10)) u C D) P o00 (pr ++ [(c2, j2)]) := (okW_app pr o00 [(c2, j2)]).mpr ⟨hok, w3, hg0, (by rw [w5]; exact fun z => (by cases z)), trivial⟩
        have hnd2 : ((pr ++ [(c2, j2)]).map Prod.fst).Nodup := by
          rw [List.map_append, List.nodup_append]
          exact ⟨hnd, by simp, fun x hx y hy => by simp at hy; subst hy; exact fun e => w4 (e ▸ hx)⟩
        have hI2 : ∀ a k, a ≠ mb + 15 → a ≠ mb + 16 → up2 (up2 I2 (mb + 15) (pr.length + 1) 0) (mb + 16) (pr.length + 1) (-1) a k = I2 a k := fun a k h1 h2 => by rw [up2_ne _ _ _ h2, up2_ne _ _ _ h1]
        have hP2' : PrM mb (BV (I0' (mb + 10)) u C D) (pr ++ [(c2, j2)]) (up2 (up2 I2 (mb + 15) (pr.length + 1) 0) (mb + 16) (pr.length + 1) (-1)) := by
          rw [← hl2]
          exact (hP2.up (by omega)).up (by omega)
        obtain ⟨T1, I3, best3, k1, k2, k3, k4, k5, k6⟩ := ihh (pr ++ [(c2, j2)]) (by omega) hnd2 hcm2 hok2 (hist_snoc hH (by omega) w5 hg0) 39 0 0 (up2 (up2 I2 (mb + 15) (pr.length + 1) 0) (mb + 16) (pr.length + 1) (-1)) best V (by omega) (by omega) (by omega) ((g2.up _ (by omega)).up _ (by omega)) hP2' (by rw [hl2, up2_ne _ _ _ (by omega), up2_same]; rfl) (by rw [hl2, up2_same]; decide) (hBs2.cg (funext fun k => hI2 _ k (by omega) (by omega)) (funext fun k => hI2 _ k (by omega) (by omega)) (funext fun k => hI2 _ k (by omega) (by omega)) (funext fun k => hI2 _ k (by omega) (by omega))) hV
        have hP3 : PrM mb (BV (I0' (mb + 10)) u C D) pr I3 := k4.init
        obtain ⟨y1, y2⟩ := k4.1 pr.length c2 j2 (by simp)
        obtain ⟨T, I4, best4, m1, m2, m3, m4, m5, m6⟩ := ih c2 (j2 + 1) I3 best3 _ (by omega) w2 (by omega) k3 hP3 y1 (by
          rw [y2]
          show nI j2 = nI (j2 + 1) - nI 1
          rw [pk_sub (by omega)]; rfl) k5 k6
        refine ⟨T + T1 + 1, I4, best4, ?_, fun n => ?_, m3, m4, m5, m6.cg fun z => ?_⟩
        · have e0 : Kf (h + 1 + 1) = 40 * Kf (h + 1) + 2 := rfl
          rw [Nat.succ_mul]
          omega
        · have e1 := k2 (n + T)
          rw [hl2, pk_m1, m2 n] at e1
          have e2 : f12_beginsPlace mb (nI (pr.length + 1)) I2 J' = some ((), up2 (up2 I2 (mb + 15) (pr.length + 1) 0) (mb + 16) (pr.length + 1) (-1), J') := by
            unfold f12_beginsPlace
            rw [yb_ck_t (inb_nI (show pr.length + 1 < 4 by omega) (by decide)), nI_clamp (show pr.length + 1 < 2 ^ 31 by omega), lts, lts]
          rw [← e1, show n + (T + T1 + 1) = n + T + T1 + 1 by omega, f12_findsBenches_L43, if_neg (nI_pos (by omega)), hg, b3s, if_neg i10, (hB0.fr g2).2.1.1, if_neg (show ¬ nI pr.length = nI u.length - 1 by
            show ¬ nI pr.length = nI u.length - nI 1
            rw [pk_sub (by omega)]
            exact fun z => by have := (nI_eq (by omega) (by omega)).mp z; omega), nI_1, lts, e2, b3s]
        · have fs := FuE_step (v := I0' (mb + 10)) (fo := fo) (Rl := Rl) (C := C) (D := D) (P := P) (pr := pr ++ [(c2, j2)]) (x := z) (show (pr ++ [(c2, j2)]).length < u.length by omega)
          constructor
          · rintro (z1 | ⟨c', j', z1, z2, z3, z4, z5⟩)
            · exact Or.inl (Or.inl z1)
            · by_cases e : c' = c2 ∧ j' = j2
              · obtain ⟨rfl, rfl⟩ := e
                obtain ⟨c3, j3, p1, p2, p3, p4⟩ := fs.mp z5
                exact Or.inl (Or.inr ⟨c3, j3, p1, p2, by omega, p3, p4⟩)
              · refine Or.inr ⟨c', j', z1, z2, ?_, z4, z5⟩
                rcases Nat.lt_trichotomy c' c2 with y | y | y
                · exact absurd z4 (w9 c' j' z1 z2 z3 (Or.inl y))
                · rcases Nat.lt_trichotomy j' j2 with y' | y' | y'
                  · exact absurd z4 (w9 c' j' z1 z2 z3 (Or.inr ⟨y, y'⟩))
                  · exact absurd ⟨y, y'⟩ e
                  · exact Or.inr ⟨y.symm, y'⟩
                · exact Or.inl y
          · rintro ((z1 | ⟨c3, j3, p1, p2, _, p3, p4⟩) | ⟨c', j', z1, z2, z3, z4, z5⟩)
            · exact Or.inl z1
            · exact Or.inr ⟨c2, j2, w2, w3, w1, ⟨w4, by rw [w5]; exact fun z => (by cases z)⟩, fs.mpr ⟨c3, j3, p1, p2, p3, p4⟩⟩
            · exact Or.inr ⟨c', j', z1, z2, lx_tr w1 z3, z4, z5⟩
      · refine ⟨1, I2, best, by omega, fun n => ?_, g2, g3, hBs2, hV.cg fun z => ?_⟩
        · rw [f12_findsBenches_L43, if_neg (nI_pos (by omega)), hg, b3s, if_pos rfl, lts]
        · constructor
          · rintro (z1 | ⟨c', j', z1, z2, z3, z4, z5⟩)
            · exact z1
            · exact absurd z4 (w c' j' z1 z2 z3)
          · exact Or.inl
theorem fb_12 {m : Nat} (hm : m ≤ 4) : ∀ r k n (I' : IT), k + r = m → r < n → I' mb 25 = nI m → ∃ I1', f12_findsBenches_L12 N mb n (nI k) I' J' = some ((), I1', J') ∧ ∀ a, a ≠ mb + 18 → I1' a = I' a := by
  intro r
  induction r with
  | zero =>
    intro k n I' hk hn e25
    obtain ⟨n, rfl⟩ : ∃ q, n = q + 1 := ⟨n - 1, by omega⟩
    rw [f12_findsBenches_L12, e25, if_pos (nI_le (by omega) (by omega))]
    exact ⟨I', rfl, fun _ _ => rfl⟩
  | succ r ih =>
    intro k n I' hk hn e25
    obtain ⟨n, rfl⟩ : ∃ q, n = q + 1 := ⟨n - 1, by omega⟩
    rw [f12_findsBenches_L12, e25, if_neg (nI_ge (by omega) (by omega)), yb_ck_t (inb_nI (show k < 4 by omega) (by decide)), nI_clamp (show k < 2 ^ 31 by omega), lts, nI_1, lts]
    obtain ⟨I1', e1, e2⟩ := ih (k + 1) n (up2 I' (mb + 18) k (nI m)) (by omega) (by omega) (by rw [up2_ne _ _ _ (by omega)]; exact e25)
    exact ⟨I1', e1, fun a ha => by rw [e2 a ha, up2_ne _ _ _ ha]⟩
theorem finds_m (hN : 6000000 ≤ N) (hB0 : BaM b mb P C D u fo Rl I I0') : ∃ I1' best, f12_findsBenches N mb I0' J' = some ((), I1', J') ∧ FrQ mb I0' I1' ∧ BsM mb u.length I1' best ∧ IsBest (FuV lgN (BV (I0' (mb + 10)) u C D) (RtV (I0' (mb + 10)) fo Rl u C D) (lnV (I0' (mb + 10)) u) P u.length) best := by
  have h7 := co_P7 hB0.1
  have hu4 := hB0.2.1.2.1
  have hu1 := hB0.2.2.1.1
  obtain ⟨I1, e1, e2⟩ := fb_12 (N := N) (mb := mb) (J' := J') hu4 u.length 0 N (up2 (up2 I0' mb 35 (-1)) mb 36 (-1)) (by omega) (by omega) (by rw [up2_at (Or.inr (by decide)), up2_at (Or.inr (by decide))]; exact hB0.2.1.1)
  rw [show nI 0 = (0 : Int32) from rfl] at e1
  have hF : FrQ mb I0' I1 := by
    have : FrQ mb I0' (up2 (up2 I0' mb 35 (-1)) mb 36 (-1)) := ((FrQ.rf mb I0').up _ (by omega)).up _ (by omega)
    exact ⟨fun a ha => (e2 a (by omega)).trans (this.1 a ha), fun k h1 h2 => by rw [e2 _ (by omega)]; exact this.2 k h1 h2⟩
  have eb : f12_beginsPlace mb 0 I1 J' = some ((), up2 (up2 I1 (mb + 15) 0 0) (mb + 16) 0 (-1), J') := by
    unfold f12_beginsPlace
    rw [show (0 : Int32) = nI 0 from rfl, yb_ck_t (inb_nI (show 0 < 4 by omega) (by decide)), nI_clamp (show 0 < 2 ^ 31 by omega), lts, lts]
  obtain ⟨T, I2, best, m1, m2, m3, m4, m5, m6⟩ := rb_m (N := N) (J' := J') (by omega) hB0 (u.length - 1) [] (by show 0 + _ = _; omega) List.nodup_nil (fun c hc => by cases hc) trivial hist_nil 39 0 0 (up2 (up2 I1 (mb + 15) 0 0) (mb + 16) 0 (-1)) none (fun _ => False) (by omega) (by omega) (by omega) ((hF.up _ (by omega)).up _ (by omega)) ⟨fun p c j hp => by simp at hp, fun p d hp => (by
      rw [show dyW lgN (BV (I0' (mb + 10)) u C D) o00 [] = [] from rfl] at hp; simp at hp)⟩ (by show up2 (up2 I1 (mb + 15) 0 0) (mb + 16) 0 (-1) (mb + 15) 0 = _; rw [up2_ne _ _ _ (by omega), up2_same]; rfl) (by show up2 (up2 I1 (mb + 15) 0 0) (mb + 16) 0 (-1) (mb + 16) 0 = _; rw [up2_same]; decide) (by
      show _ = _ ∧ _ = _
      rw [up2_ne _ _ _ (by omega), up2_ne _ _ _ (by omega), e2 _ (by omega)]
      exact ⟨by rw [up2_at (Or.inr (by decide)), up2_same], up2_same _ _ _ _⟩) (Or.inl ⟨rfl, fun _ z => z⟩)
  have hT : T < N := by
    have k1 : Kf 1 = 2 := rfl
    have k2 : Kf 2 = 82 := rfl
    have k3 : Kf 3 = 3282 := rfl
    have k4 : Kf 4 = 131282 := rfl
    have : u.length = 1 ∨ u.length = 2 ∨ u.length = 3 ∨ u.length = 4 := by omega
    rw [show u.length - 1 + 1 = u.length by omega] at m1
    rcases this with e | e | e | e <;> rw [e] at m1 <;> omega
  obtain ⟨n, hn⟩ : ∃ n, N = n + 1 + T := ⟨N - T - 1, by omega⟩
  have run : f12_findsBenches_L43 N mb N 0 (up2 (up2 I1 (mb + 15) 0 0) (mb + 16) 0 (-1)) J' = some ((), I2, J') := by
    have := m2 (n + 1)
    rw [← hn] at this
    refine Eq.trans this ?_
    rw [f12_findsBenches_L43, if_pos (by show nI 0 + (-1) < 0; decide)]
  unfold f12_findsBenches
  rw [lts, lts, e1, b3s, eb, b3s, run, b3s]
  refine ⟨I2, best, rfl, m3, m5, m6.cg fun z => ?_⟩
  have fs := FuE_step (v := I0' (mb + 10)) (fo := fo) (Rl := Rl) (C := C) (D := D) (P := P) (pr := []) (x := z) (u := u) (by show 0 < _; omega)
  constructor
  · intro hz
    obtain ⟨c, j, p1, p2, p3, p4⟩ := fs.mp hz
    exact Or.inr ⟨c, j, p1, p2, by omega, p3, p4⟩
  · rintro (z1 | ⟨c, j, p1, p2, _, p3, p4⟩)
    · exact z1.elim
    · exact fs.mpr ⟨c, j, p1, p2, p3, p4⟩
end WALK
