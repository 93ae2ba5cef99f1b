/-! A TOWN BEING READ: the class's draft g against the reference's read v -/
def TwP (g : Nat → Nat → Int32) (x3 x4 : Int32) (v : Nat → Int32) (P C T : Nat) : Prop :=
  (v 2 = nI P ∧ P ≤ 7 ∧ g 0 13 = nI P) ∧ (v 3 = nI C ∧ C ≤ 6 ∧ g 0 14 = nI C) ∧ v 4 = 0 ∧
  ((v 0 = 0 ∧ v 1 = 0 ∧ P = 0 ∧ C = 0 ∧ g 0 8 = 0 ∧ g 0 9 = 0 ∧ g 0 10 = 0 ∧ v 5 = -1) ∨ (g 0 8 = 1 ∧ ∃ G Y : Nat, v 0 = nI G ∧ v 1 = nI Y ∧ g 0 9 = nI G ∧ g 0 10 = nI Y ∧ 1 ≤ G ∧ G ≤ 99 ∧ 5 ≤ Y ∧ Y ≤ 99)) ∧
  ((v 5 = -1 ∧ x4 = 0 ∧ g 0 11 = 0 ∧ g 0 12 = 9999) ∨ (x4 = 1 ∧ ∃ F La : Nat, v 5 = nI F ∧ v 6 = nI La ∧ g 0 11 = nI F ∧ g 0 12 = nI La ∧ F ≤ 9999 ∧ La ≤ 9999)) ∧
  (v 7 = nI T ∧ x3 = nI T ∧ T ≤ 4) ∧
  (∀ p : Nat, p < P → ∃ A W Z m : Nat, v (10 + 5 * p) = nI A ∧ v (11 + 5 * p) = nI W ∧ v (12 + 5 * p) = nI Z ∧ v (13 + 5 * p) = nI m ∧ v (14 + 5 * p) = 0 ∧ g 1 p = nI A ∧ g 2 p = nI W ∧ g 3 p = nI Z ∧ g 4 p = nI m ∧ A ≤ 9999 ∧ W ≤ 9 ∧ Z ≤ 9 ∧ m < 2 ^ P) ∧
  (∀ p : Nat, P ≤ p → p < 7 → g 4 p = 0) ∧
  (∀ c : Nat, c < C → ∃ a q n f : Nat, v (45 + 11 * c) = nI a ∧ v (46 + 11 * c) = nI q ∧ v (47 + 11 * c) = nI n ∧ v (48 + 11 * c) = nI f ∧ g 5 c = nI a ∧ g 6 c = nI q ∧ g 7 c = nI n ∧ g 8 c = nI f ∧ a < P ∧ 1 ≤ q ∧ q ≤ 9 ∧ 1 ≤ n ∧ n ≤ 9 ∧ f ≤ 99 ∧ v (49 + 11 * c) = -1 ∧ v (50 + 11 * c) = 0 ∧ v (51 + 11 * c) = -1 ∧ v (52 + 11 * c) = -1 ∧ v (53 + 11 * c) = -1 ∧ v (54 + 11 * c) = 0 ∧ v (55 + 11 * c) = 0) ∧
  (∀ j a : Nat, j < P → a < P → twM v a j = twM v j a)
section TWP
variable {g g1 : Nat → Nat → Int32} {x3 x4 y3 y4 : Int32} {v v1 : Nat → Int32} {P C T : Nat}
theorem TwP.townY (h : TwP g x3 x4 v P C T) {G Y : Nat} (h0 : v 0 = 0) (hG1 : 1 ≤ G) (hG : G ≤ 99) (hY1 : 5 ≤ Y) (hY : Y ≤ 99)
    (g8 : g1 0 8 = 1) (g9 : g1 0 9 = nI G) (g10 : g1 0 10 = nI Y) (gk : ∀ k, 11 ≤ k → g1 0 k = g 0 k) (gr : ∀ k, 1 ≤ k → k ≤ 8 → g1 k = g k) (w0 : v1 0 = nI G) (w1 : v1 1 = nI Y) (wr : ∀ i, 2 ≤ i → v1 i = v i) (e3 : y3 = x3) (e4 : y4 = x4) : TwP g1 y3 y4 v1 P C T := by
  obtain ⟨⟨a1, a2, a3⟩, ⟨b1, b2, b3⟩, c1, d, e, f, i, j, k, l⟩ := h
  rcases d with ⟨_, _, p0, c0, _⟩ | ⟨_, G', Y', q, _, _, _, z1, z2, _⟩
  · subst p0; subst c0; subst e3; subst e4
    refine ⟨⟨by rw [wr 2 (by omega)]; exact a1, a2, by rw [gk 13 (by omega)]; exact a3⟩, ⟨by rw [wr 3 (by omega)]; exact b1, b2, by rw [gk 14 (by omega)]; exact b3⟩, by rw [wr 4 (by omega)]; exact c1, Or.inr ⟨g8, G, Y, w0, w1, g9, g10, hG1, hG, hY1, hY⟩, ?_, by rw [wr 7 (by omega)]; exact f, fun p hp => by omega, fun p h1 h2 => by rw [gr 4 (by omega) (by omega)]; exact j p h1 h2, fun c hc => by omega, fun j a hj => by omega⟩
    rw [wr 5 (by omega), wr 6 (by omega), gk 11 (by omega), gk 12 (by omega)]; exact e
  · exfalso
    rw [h0] at q
    exact nI_ne0 z1 (by omega) q.symm
theorem TwP.benchY (h : TwP g x3 x4 v P C T) {F La : Nat} (h0 : v 0 ≠ 0) (hF : F ≤ 9999) (hL : La ≤ 9999)
    (g11 : g1 0 11 = nI F) (g12 : g1 0 12 = nI La) (gk : ∀ k, k ≠ 11 → k ≠ 12 → g1 0 k = g 0 k) (gr : ∀ k, 1 ≤ k → k ≤ 8 → g1 k = g k) (w5 : v1 5 = nI F) (w6 : v1 6 = nI La) (wr : ∀ i, i ≠ 5 → i ≠ 6 → v1 i = v i) (e3 : y3 = x3) (e4 : y4 = 1) : TwP g1 y3 y4 v1 P C T := by
  obtain ⟨⟨a1, a2, a3⟩, ⟨b1, b2, b3⟩, c1, d, e, f, i, j, k, l⟩ := h
  subst e3; subst e4
  have tw : ∀ a j, twM v1 a j = twM v a j := fun a j => by unfold twM; rw [wr _ (by omega) (by omega)]
  refine ⟨⟨by rw [wr 2 (by omega) (by omega)]; exact a1, a2, by rw [gk 13 (by omega) (by omega)]; exact a3⟩, ⟨by rw [wr 3 (by omega) (by omega)]; exact b1, b2, by rw [gk 14 (by omega) (by omega)]; exact b3⟩, by rw [wr 4 (by omega) (by omega)]; exact c1, ?_, Or.inr ⟨rfl, F, La, w5, w6, g11, g12, hF, hL⟩, by rw [wr 7 (by omega) (by omega)]; exact f, fun p hp => ?_, fun p h1 h2 => by rw [gr 4 (by omega) (by omega)]; exact j p h1 h2, fun c hc => ?_, fun j a hj ha => by rw [tw, tw]; exact l j a hj ha⟩
  · rcases d with q | q
    · exact absurd q.1 h0
    · rw [wr 0 (by omega) (by omega), wr 1 (by omega) (by omega), gk 8 (by omega) (by omega), gk 9 (by omega) (by omega), gk 10 (by omega) (by omega)]; exact Or.inr q
  · rw [wr _ (by omega) (by omega), wr _ (by omega) (by omega), wr _ (by omega) (by omega), wr _ (by omega) (by omega), wr _ (by omega) (by omega), gr 1 (by omega) (by omega), gr 2 (by omega) (by omega), gr 3 (by omega) (by omega), gr 4 (by omega) (by omega)]; exact i p hp
  · rw [wr _ (by omega) (by omega), wr _ (by omega) (by omega), wr _ (by omega) (by omega), wr _ (by omega) (by omega), wr _ (by omega) (by omega), wr _ (by omega) (by omega), wr _ (by omega) (by omega), wr _ (by omega) (by omega), wr _ (by omega) (by omega), wr _ (by omega) (by omega), wr _ (by omega) (by omega), gr 5 (by omega) (by omega), gr 6 (by omega) (by omega), gr 7 (by omega) (by omega), gr 8 (by omega) (by omega)]; exact k c hc
theorem bit_tab : ∀ m, m < 128 → ∀ j, j < 7 → (nI m >>> (nI j &&& 31)) &&& 1 = nI (m / 2 ^ j % 2) := by decide +kernel
theorem orb_tab : ∀ m, m < 128 → ∀ k, k < 7 → nI m ||| ((1 : Int32) <<< (nI k &&& 31)) = nI (m ||| 2 ^ k) := by decide +kernel
theorem orb_bit : ∀ m, m < 128 → ∀ k, k < 7 → ∀ j, j < 7 → (m ||| 2 ^ k) / 2 ^ j % 2 = if j = k then 1 else m / 2 ^ j % 2 := by decide +kernel
theorem pw7 {P : Nat} (h : P ≤ 7) : 2 ^ P ≤ 128 := by
  have : 2 ^ P ≤ 2 ^ 7 := Nat.pow_le_pow_right (by decide) h
  omega
theorem twM_n {w : Nat → Int32} {a m j : Nat} (h : w (13 + 5 * a) = nI m) (hm : m < 128) (hj : j < 7) : twM w a j = nI (m / 2 ^ j % 2) := by unfold twM; rw [h, bit_tab m hm j hj]
theorem TwP.personY (h : TwP g x3 x4 v P C T) {A W Z : Nat} (h0 : v 0 ≠ 0) (hP : P < 7) (hA : A ≤ 9999) (hW : W ≤ 9) (hZ : Z ≤ 9)
    (g13 : g1 0 13 = nI (P + 1)) (gk : ∀ k, k ≠ 13 → g1 0 k = g 0 k) (gr : ∀ k, 4 ≤ k → k ≤ 8 → g1 k = g k) (gp : ∀ k i, 1 ≤ k → k ≤ 3 → i ≠ P → g1 k i = g k i) (q1 : g1 1 P = nI A) (q2 : g1 2 P = nI W) (q3 : g1 3 P = nI Z)
    (w2 : v1 2 = nI (P + 1)) (wA : v1 (10 + 5 * P) = nI A) (wW : v1 (11 + 5 * P) = nI W) (wZ : v1 (12 + 5 * P) = nI Z) (wm : v1 (13 + 5 * P) = 0) (wr0 : v1 (14 + 5 * P) = 0) (wr : ∀ i, i ≠ 2 → (i < 10 + 5 * P ∨ 14 + 5 * P < i) → v1 i = v i) (e3 : y3 = x3) (e4 : y4 = x4) : TwP g1 y3 y4 v1 (P + 1) C T := by
  obtain ⟨⟨a1, a2, a3⟩, ⟨b1, b2, b3⟩, c1, d, e, f, i, j, k, l⟩ := h
  subst e3; subst e4
  have hp2 := pw7 a2
  have hp3 : 2 ^ P ≤ 2 ^ (P + 1) := Nat.pow_le_pow_right (by decide) (by omega)
  have hd : g 0 8 = 1 ∧ ∃ G Y : Nat, v 0 = nI G ∧ v 1 = nI Y ∧ g 0 9 = nI G ∧ g 0 10 = nI Y ∧ 1 ≤ G ∧ G ≤ 99 ∧ 5 ≤ Y ∧ Y ≤ 99 := d.elim (fun q => absurd q.1 h0) id
  have bnew : ∀ t, t < 7 → twM v1 P t = 0 := fun t ht => by rw [twM_n (m := 0) wm (by omega) ht, Nat.zero_div]; rfl
  have bold : ∀ a, a < P → ∀ t, t < 7 → twM v1 a t = twM v a t ∧ (P ≤ t → twM v1 a t = 0) := fun a ha t ht => by
    obtain ⟨A', W', Z', m, z1, z2, z3, z4, z5, z6, z7, z8, z9, z10, z11, z12, z13⟩ := i a ha
    have w1 : v1 (13 + 5 * a) = nI m := by rw [wr _ (by omega) (by omega)]; exact z4
    refine ⟨by rw [twM_n w1 (by omega) ht, twM_n z4 (by omega) ht], fun hPt => ?_⟩
    have : 2 ^ P ≤ 2 ^ t := Nat.pow_le_pow_right (by decide) hPt
    rw [twM_n w1 (by omega) ht, Nat.div_eq_of_lt (by omega)]; rfl
  refine ⟨⟨w2, by omega, g13⟩, ⟨by rw [wr 3 (by omega) (by omega)]; exact b1, b2, by rw [gk 14 (by omega)]; exact b3⟩, by rw [wr 4 (by omega) (by omega)]; exact c1, ?_, ?_, by rw [wr 7 (by omega) (by omega)]; exact f, fun p hp => ?_, fun p h1 h2 => by rw [gr 4 (by omega) (by omega)]; exact j p (by omega) h2, fun c hc => ?_, fun t a ht ha => ?_⟩
  · rw [wr 0 (by omega) (by omega), wr 1 (by omega) (by omega), gk 8 (by omega), gk 9 (by omega), gk 10 (by omega)]; exact Or.inr hd
  · rw [wr 5 (by omega) (by omega), wr 6 (by omega) (by omega), gk 11 (by omega), gk 12 (by omega)]; exact e
  · by_cases cp : p = P
    · subst cp
      exact ⟨A, W, Z, 0, wA, wW, wZ, wm, wr0, q1, q2, q3, by rw [gr 4 (by omega) (by omega)]; exact j p (Nat.le_refl _) hP, hA, hW, hZ, Nat.two_pow_pos _⟩
    · rw [wr _ (by omega) (by omega), wr _ (by omega) (by omega), wr _ (by omega) (by omega), wr _ (by omega) (by omega), wr _ (by omega) (by omega), gp 1 p (by omega) (by omega) cp, gp 2 p (by omega) (by omega) cp, gp 3 p (by omega) (by omega) cp, gr 4 (by omega) (by omega)]
      obtain ⟨A', W', Z', m, z1, z2, z3, z4, z5, z6, z7, z8, z9, z10, z11, z12, z13⟩ := i p (by omega)
      exact ⟨A', W', Z', m, z1, z2, z3, z4, z5, z6, z7, z8, z9, z10, z11, z12, by omega⟩
  · rw [wr _ (by omega) (by omega), wr _ (by omega) (by omega), wr _ (by omega) (by omega), wr _ (by omega) (by omega), wr _ (by omega) (by omega), wr _ (by omega) (by omega), wr _ (by omega) (by omega), wr _ (by omega) (by omega), wr _ (by omega) (by omega), wr _ (by omega) (by omega), wr _ (by omega) (by omega), gr 5 (by omega) (by omega), gr 6 (by omega) (by omega), gr 7 (by omega) (by omega), gr 8 (by omega) (by omega)]
    obtain ⟨a, q, n, f', z1, z2, z3, z4, z5, z6, z7, z8, z9, z10⟩ := k c hc
    exact ⟨a, q, n, f', z1, z2, z3, z4, z5, z6, z7, z8, by omega, z10⟩
  · by_cases ct : t = P
    · subst ct
      by_cases ca : a = t
      · subst ca; rfl
      · rw [(bold a (by omega) t (by omega)).2 (Nat.le_refl _), bnew a (by omega)]
    · by_cases ca : a = P
      · subst ca
        rw [bnew t (by omega), (bold t (by omega) a (by omega)).2 (Nat.le_refl _)]
      · rw [(bold a (by omega) t (by omega)).1, (bold t (by omega) a (by omega)).1]
        exact l t a (by omega) (by omega)
theorem TwP.twinsY (h : TwP g x3 x4 v P C T) {x y : Nat} (hx : x < P) (hy : y < P) (hxy : x ≠ y) (hT : T < 4)
    (gk : g1 0 = g 0) (gr : ∀ k, 1 ≤ k → k ≤ 8 → k ≠ 4 → g1 k = g k) (gx : g1 4 x = g 4 x ||| ((1 : Int32) <<< (nI y &&& 31))) (gy : g1 4 y = g 4 y ||| ((1 : Int32) <<< (nI x &&& 31))) (go : ∀ i, i ≠ x → i ≠ y → g1 4 i = g 4 i)
    (w7 : v1 7 = nI (T + 1)) (wx : v1 (13 + 5 * x) = v (13 + 5 * x) ||| ((1 : Int32) <<< (nI y &&& 31))) (wy : v1 (13 + 5 * y) = v (13 + 5 * y) ||| ((1 : Int32) <<< (nI x &&& 31))) (wr : ∀ i, i ≠ 7 → i ≠ 13 + 5 * x → i ≠ 13 + 5 * y → v1 i = v i) (e3 : y3 = nI (T + 1)) (e4 : y4 = x4) : TwP g1 y3 y4 v1 P C (T + 1) := by
  obtain ⟨⟨a1, a2, a3⟩, ⟨b1, b2, b3⟩, c1, d, e, f, i, j, k, l⟩ := h
  subst e4
  have hp2 := pw7 a2
  have mask : ∀ p, p < P → ∃ m m1, v (13 + 5 * p) = nI m ∧ v1 (13 + 5 * p) = nI m1 ∧ g1 4 p = nI m1 ∧ m < 2 ^ P ∧ m1 < 2 ^ P ∧ ∀ t, t < 7 → m1 / 2 ^ t % 2 = if (p = x ∧ t = y) ∨ (p = y ∧ t = x) then 1 else m / 2 ^ t % 2 := by
    intro p hp
    obtain ⟨A', W', Z', m, z1, z2, z3, z4, z5, z6, z7, z8, z9, z10, z11, z12, z13⟩ := i p hp
    have lt : ∀ k, k < P → m ||| 2 ^ k < 2 ^ P := fun k hk => Nat.or_lt_two_pow z13 (Nat.pow_lt_pow_right (by decide) hk)
    by_cases cx : p = x
    · subst cx
      refine ⟨m, m ||| 2 ^ y, z4, by rw [wx, z4, orb_tab m (by omega) y (by omega)], by rw [gx, z9, orb_tab m (by omega) y (by omega)], z13, lt y hy, fun t ht => ?_⟩
      rw [orb_bit m (by omega) y (by omega) t ht]
      by_cases ct : t = y
      · rw [if_pos ct, if_pos (Or.inl ⟨rfl, ct⟩)]
      · rw [if_neg ct, if_neg (fun q => q.elim (fun z => ct z.2) (fun z => hxy z.1))]
    · by_cases cy : p = y
      · subst cy
        refine ⟨m, m ||| 2 ^ x, z4, by rw [wy, z4, orb_tab m (by omega) x (by omega)], by rw [gy, z9, orb_tab m (by omega) x (by omega)], z13, lt x hx, fun t ht => ?_⟩
        rw [orb_bit m (by omega) x (by omega) t ht]
        by_cases ct : t = x
        · rw [if_pos ct, if_pos (Or.inr ⟨rfl, ct⟩)]
        · rw [if_neg ct, if_neg (fun q => q.elim (fun z => cx z.1) (fun z => ct z.2))]
      · refine ⟨m, m, z4, by rw [wr _ (by omega) (by omega) (by omega)]; exact z4, by rw [go p cx cy]; exact z9, z13, z13, fun t ht => ?_⟩
        rw [if_neg (fun q => q.elim (fun z => cx z.1) (fun z => cy z.1))]
  refine ⟨⟨by rw [wr 2 (by omega) (by omega) (by omega)]; exact a1, a2, by rw [gk]; exact a3⟩, ⟨by rw [wr 3 (by omega) (by omega) (by omega)]; exact b1, b2, by rw [gk]; exact b3⟩, by rw [wr 4 (by omega) (by omega) (by omega)]; exact c1, ?_, ?_, ⟨w7, e3, by omega⟩, fun p hp => ?_, fun p h1 h2 => by rw [go p (by omega) (by omega)]; exact j p h1 h2, fun c hc => ?_, fun t a ht ha => ?_⟩
  · rw [wr 0 (by omega) (by omega) (by omega), wr 1 (by omega) (by omega) (by omega), wr 5 (by omega) (by omega) (by omega), gk]; exact d
  · rw [wr 5 (by omega) (by omega) (by omega), wr 6 (by omega) (by omega) (by omega), gk]; exact e
  · obtain ⟨m, m1, z1, z2, z3, z4, z5, z6⟩ := mask p hp
    obtain ⟨A', W', Z', m', y1, y2, y3, y4, y5, y6, y7, y8, y9, y10, y11, y12, y13⟩ := i p hp
    exact ⟨A', W', Z', m1, by rw [wr _ (by omega) (by omega) (by omega)]; exact y1, by rw [wr _ (by omega) (by omega) (by omega)]; exact y2, by rw [wr _ (by omega) (by omega) (by omega)]; exact y3, z2, by rw [wr _ (by omega) (by omega) (by omega)]; exact y5, by rw [gr 1 (by omega) (by omega) (by omega)]; exact y6, by rw [gr 2 (by omega) (by omega) (by omega)]; exact y7, by rw [gr 3 (by omega) (by omega) (by omega)]; exact y8, z3, y10, y11, y12, z5⟩
  · rw [wr _ (by omega) (by omega) (by omega), wr _ (by omega) (by omega) (by omega), wr _ (by omega) (by omega) (by omega), wr _ (by omega) (by omega) (by omega), wr _ (by omega) (by omega) (by omega), wr _ (by omega) (by omega) (by omega), wr _ (by omega) (by omega) (by omega), wr _ (by omega) (by omega) (by omega), wr _ (by omega) (by omega) (by omega), wr _ (by omega) (by omega) (by omega), wr _ (by omega) (by omega) (by omega), gr 5 (by omega) (by omega) (by omega), gr 6 (by omega) (by omega) (by omega), gr 7 (by omega) (by omega) (by omega), gr 8 (by omega) (by omega) (by omega)]; exact k c hc
  · obtain ⟨m, m1, z1, z2, z3, z4, z5, z6⟩ := mask a ha
    obtain ⟨n, n1, q1, q2, q3, q4, q5, q6⟩ := mask t ht
    have hl := l t a ht ha
    rw [twM_n z1 (by omega) (by omega), twM_n q1 (by omega) (by omega)] at hl
    have hl2 : m / 2 ^ t % 2 = n / 2 ^ a % 2 := (nI_eq (by omega) (by omega)).mp hl
    rw [twM_n z2 (by omega) (by omega), twM_n q2 (by omega) (by omega), z6 t (by omega), q6 a (by omega), hl2]
    congr 1
    by_cases cc : (a = x ∧ t = y) ∨ (a = y ∧ t = x)
    · rw [if_pos cc, if_pos (by omega)]
    · rw [if_neg cc, if_neg (by omega)]
theorem TwP.caseY (h : TwP g x3 x4 v P C T) {a q n f : Nat} (hC : C < 6) (ha : a < P) (hq1 : 1 ≤ q) (hq : q ≤ 9) (hn1 : 1 ≤ n) (hn : n ≤ 9) (hf : f ≤ 99)
    (g14 : g1 0 14 = nI (C + 1)) (gk : ∀ k, k ≠ 14 → g1 0 k = g 0 k) (gr : ∀ k, 1 ≤ k → k ≤ 4 → g1 k = g k) (gp : ∀ k i, 5 ≤ k → k ≤ 8 → i ≠ C → g1 k i = g k i) (q5 : g1 5 C = nI a) (q6 : g1 6 C = nI q) (q7 : g1 7 C = nI n) (q8 : g1 8 C = nI f)
    (w3 : v1 3 = nI (C + 1)) (w45 : v1 (45 + 11 * C) = nI a) (w46 : v1 (46 + 11 * C) = nI q) (w47 : v1 (47 + 11 * C) = nI n) (w48 : v1 (48 + 11 * C) = nI f) (w49 : v1 (49 + 11 * C) = -1) (w50 : v1 (50 + 11 * C) = 0) (w51 : v1 (51 + 11 * C) = -1) (w52 : v1 (52 + 11 * C) = -1) (w53 : v1 (53 + 11 * C) = -1) (w54 : v1 (54 + 11 * C) = 0) (w55 : v1 (55 + 11 * C) = 0) (wr : ∀ i, i ≠ 3 → (i < 45 + 11 * C ∨ 55 + 11 * C < i) → v1 i = v i) (e3 : y3 = x3) (e4 : y4 = x4) : TwP g1 y3 y4 v1 P (C + 1) T := by
  obtain ⟨⟨a1, a2, a3⟩, ⟨b1, b2, b3⟩, c1, d, e, f', i, j, k, l⟩ := h
  subst e3; subst e4
  have tw : ∀ a j, a < P → twM v1 a j = twM v a j := fun a j ha => by unfold twM; rw [wr _ (by omega) (by omega)]
  refine ⟨⟨by rw [wr 2 (by omega) (by omega)]; exact a1, a2, by rw [gk 13 (by omega)]; exact a3⟩, ⟨w3, by omega, g14⟩, by rw [wr 4 (by omega) (by omega)]; exact c1, ?_, ?_, by rw [wr 7 (by omega) (by omega)]; exact f', fun p hp => ?_, fun p h1 h2 => by rw [gr 4 (by omega) (by omega)]; exact j p h1 h2, fun c hc => ?_, fun j a hj ha => by rw [tw a j ha, tw j a hj]; exact l j a hj ha⟩
  · rcases d with z | z
    · omega
    · rw [wr 0 (by omega) (by omega), wr 1 (by omega) (by omega), gk 8 (by omega), gk 9 (by omega), gk 10 (by omega)]; exact Or.inr z
  · rw [wr 5 (by omega) (by omega), wr 6 (by omega) (by omega), gk 11 (by omega), gk 12 (by omega)]; exact e
  · rw [wr _ (by omega) (by omega), wr _ (by omega) (by omega), wr _ (by omega) (by omega), wr _ (by omega) (by omega), wr _ (by omega) (by omega), gr 1 (by omega) (by omega), gr 2 (by omega) (by omega), gr 3 (by omega) (by omega), gr 4 (by omega) (by omega)]; exact i p hp
  · by_cases cc : c = C
    · subst cc
      exact ⟨a, q, n, f, w45, w46, w47, w48, q5, q6, q7, q8, ha, hq1, hq, hn1, hn, hf, w49, w50, w51, w52, w53, w54, w55⟩
    · rw [wr _ (by omega) (by omega), wr _ (by omega) (by omega), wr _ (by omega) (by omega), wr _ (by omega) (by omega), wr _ (by omega) (by omega), wr _ (by omega) (by omega), wr _ (by omega) (by omega), wr _ (by omega) (by omega), wr _ (by omega) (by omega), wr _ (by omega) (by omega), wr _ (by omega) (by omega), gp 5 c (by omega) (by omega) cc, gp 6 c (by omega) (by omega) cc, gp 7 c (by omega) (by omega) cc, gp 8 c (by omega) (by omega) cc]
      exact k c (by omega)
end TWP
