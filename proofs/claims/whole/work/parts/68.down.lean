/-! DOWN: heights of chains, on both sides a fixed point -/
def supN (f : Nat → Nat) : Nat → Nat
  | 0 => 0
  | k + 1 => max (supN f k) (f k)
theorem supN_ge {f : Nat → Nat} : ∀ {k j : Nat}, j < k → f j ≤ supN f k := by
  intro k
  induction k with
  | zero => intro j h; omega
  | succ k ih =>
    intro j h
    rw [supN]
    rcases Nat.eq_or_lt_of_le (Nat.le_of_lt_succ h) with rfl | q
    · exact Nat.le_max_right _ _
    · exact Nat.le_trans (ih q) (Nat.le_max_left _ _)
theorem supN_le {f : Nat → Nat} {B : Nat} : ∀ {k : Nat}, (∀ j, j < k → f j ≤ B) → supN f k ≤ B := by
  intro k
  induction k with
  | zero => intro _; exact Nat.zero_le _
  | succ k ih => intro h; exact Nat.max_le.mpr ⟨ih (fun j hj => h j (by omega)), h k (by omega)⟩
theorem supN_at {f : Nat → Nat} : ∀ {k : Nat}, 0 < supN f k → ∃ j, j < k ∧ f j = supN f k := by
  intro k
  induction k with
  | zero => intro h; exact absurd h (Nat.lt_irrefl _)
  | succ k ih =>
    intro h
    rw [supN] at h ⊢
    rcases Nat.le_total (f k) (supN f k) with q | q
    · rw [Nat.max_eq_left q] at h ⊢
      obtain ⟨j, hj, e⟩ := ih h
      exact ⟨j, by omega, e⟩
    · rw [Nat.max_eq_right q]
      exact ⟨k, by omega, rfl⟩
theorem supN_congr {f g : Nat → Nat} : ∀ {k : Nat}, (∀ j, j < k → f j = g j) → supN f k = supN g k := by
  intro k
  induction k with
  | zero => intro _; rfl
  | succ k ih => intro h; rw [supN, supN, ih (fun j hj => h j (by omega)), h k (by omega)]
theorem supN_mono {f g : Nat → Nat} {k : Nat} (h : ∀ j, j < k → f j ≤ g j) : supN f k ≤ supN g k := supN_le fun j hj => Nat.le_trans (h j hj) (supN_ge hj)
def cnN (p : Nat → Bool) : Nat → Nat
  | 0 => 0
  | k + 1 => cnN p k + (if p k = true then 1 else 0)
theorem cnN_le {p : Nat → Bool} : ∀ k, cnN p k ≤ k := by
  intro k
  induction k with
  | zero => exact Nat.le_refl _
  | succ k ih => rw [cnN]; split <;> omega
theorem cnN_lt {p : Nat → Bool} {j : Nat} (h : p j = false) : ∀ k, j < k → cnN p k < k := by
  intro k
  induction k with
  | zero => intro hj; omega
  | succ k ih =>
    intro hj
    rw [cnN]
    rcases Nat.eq_or_lt_of_le (Nat.le_of_lt_succ hj) with rfl | q
    · rw [h, if_neg (by decide)]; have := cnN_le (p := p) j; omega
    · have := ih q; split <;> omega
theorem cnN_mono {p q : Nat → Bool} (h : ∀ i, p i = true → q i = true) : ∀ k, cnN p k ≤ cnN q k := by
  intro k
  induction k with
  | zero => exact Nat.le_refl _
  | succ k ih =>
    rw [cnN, cnN]
    by_cases c : p k = true
    · rw [if_pos c, if_pos (h k c)]; omega
    · rw [if_neg c]; omega
theorem cnN_slt {p q : Nat → Bool} {j : Nat} (h : ∀ i, p i = true → q i = true) (h1 : p j = false) (h2 : q j = true) : ∀ k, j < k → cnN p k < cnN q k := by
  intro k
  induction k with
  | zero => intro hj; omega
  | succ k ih =>
    intro hj
    rw [cnN, cnN]
    rcases Nat.eq_or_lt_of_le (Nat.le_of_lt_succ hj) with rfl | r
    · rw [h1, h2, if_neg (by decide), if_pos rfl]; have := cnN_mono h j; omega
    · have := ih r
      by_cases c : p k = true
      · rw [if_pos c, if_pos (h k c)]; omega
      · rw [if_neg c]; omega
def hT (P : Nat) (cn : Nat → Int32) (yg : Nat → Nat → Int32) : Nat → Nat → Nat
  | 0, _ => 0
  | n + 1, j => if cn j = 0 then 0 else 1 + supN (fun q => if yg q j = 0 then 0 else hT P cn yg n q) P
/-- rk orders, T is the height of the longest chain down from one -/
def Tow (P : Nat) (cn : Nat → Int32) (yg : Nat → Nat → Int32) (rk T : Nat → Nat) : Prop := (∀ j, j < P → rk j < P) ∧ (∀ q j, q < P → j < P → yg q j ≠ 0 → rk q < rk j) ∧ (∀ j, j < P → T j ≤ rk j + 1) ∧ (∀ j, j < P → T j = if cn j = 0 then 0 else 1 + supN (fun q => if yg q j = 0 then 0 else T q) P)
theorem hT_st {P : Nat} {cn : Nat → Int32} {yg : Nat → Nat → Int32} {rk : Nat → Nat} (hr : ∀ q j, q < P → j < P → yg q j ≠ 0 → rk q < rk j) : ∀ n m j, j < P → rk j < n → rk j < m → hT P cn yg n j = hT P cn yg m j := by
  intro n
  induction n with
  | zero => intro m j _ h; omega
  | succ n ih =>
    intro m j hj h1 h2
    obtain ⟨m, rfl⟩ : ∃ q, m = q + 1 := ⟨m - 1, by omega⟩
    rw [hT, hT]
    by_cases c : cn j = 0
    · rw [if_pos c, if_pos c]
    · rw [if_neg c, if_neg c]
      congr 1
      refine supN_congr fun q hq => ?_
      by_cases c2 : yg q j = 0
      · rw [if_pos c2, if_pos c2]
      · rw [if_neg c2, if_neg c2]
        have := hr q j hq hj c2
        exact ih m q hq (by omega) (by omega)
theorem hT_le {P : Nat} {cn : Nat → Int32} {yg : Nat → Nat → Int32} {rk : Nat → Nat} (hr : ∀ q j, q < P → j < P → yg q j ≠ 0 → rk q < rk j) : ∀ n j, j < P → hT P cn yg n j ≤ rk j + 1 := by
  intro n
  induction n with
  | zero => intro j _; exact Nat.zero_le _
  | succ n ih =>
    intro j hj
    rw [hT]
    by_cases c : cn j = 0
    · rw [if_pos c]; exact Nat.zero_le _
    · rw [if_neg c]
      have : supN (fun q => if yg q j = 0 then 0 else hT P cn yg n q) P ≤ rk j := supN_le fun q hq => by
        by_cases c2 : yg q j = 0
        · rw [if_pos c2]; exact Nat.zero_le _
        · rw [if_neg c2]
          have := hr q j hq hj c2
          have := ih q hq
          omega
      omega
theorem yngS01 (v : Nat → Int32) (j a : Nat) : yngS v j a = 0 ∨ yngS v j a = 1 := by
  unfold yngS; split
  · exact Or.inl rfl
  · exact Or.inr rfl
theorem yng_lt {b mb P C D q j : Nat} {I I' : IT} (h : CoreR b mb I I' P C D) (hq : q < P) (hj : j < P) (hy : yngS (I' (mb + 10)) q j ≠ 0) : (I' (mb + 10) (10 + 5 * q)).toNatClampNeg < (I' (mb + 10) (10 + 5 * j)).toNatClampNeg := by
  obtain ⟨G, Y, F, La, e0, e1, e5, e6, g1, g2, g3, g4, g5, g6⟩ := co_town h (Or.inl (by omega))
  obtain ⟨A, W, Z, a1, a2, a3, a4, a5, a6⟩ := h.1.2.2.2.2.1 q hq
  obtain ⟨A2, W2, Z2, c1, c2, c3, c4, c5, c6⟩ := h.1.2.2.2.2.1 j hj
  unfold yngS at hy
  rw [a1, c1, e0] at hy
  rw [a1, c1, nI_clamp (by omega), nI_clamp (by omega)]
  rcases Nat.lt_or_ge A A2 with z | z
  · exact z
  · exfalso
    apply hy
    rw [if_pos]
    rw [Int32.lt_iff_toInt_lt, pk_sub_toInt (by omega) (by omega), nI_toInt (by omega)]
    omega
theorem tow_ex {b mb P C D : Nat} {I I' : IT} (h : CoreR b mb I I' P C D) (cn : Nat → Int32) : ∃ rk T, Tow P cn (yngS (I' (mb + 10))) rk T := by
  have h7 := co_P7 h
  let A : Nat → Nat := fun j => (I' (mb + 10) (10 + 5 * j)).toNatClampNeg
  let rk : Nat → Nat := fun j => cnN (fun q => decide (A q < A j)) P
  have hr : ∀ q j, q < P → j < P → yngS (I' (mb + 10)) q j ≠ 0 → rk q < rk j := by
    intro q j hq hj hy
    have hlt : A q < A j := yng_lt h hq hj hy
    refine cnN_slt (j := q) (fun i hi => ?_) (decide_eq_false (Nat.lt_irrefl _)) (decide_eq_true hlt) P hq
    have := of_decide_eq_true hi
    exact decide_eq_true (Nat.lt_trans this hlt)
  have hk : ∀ j, j < P → rk j < P := fun j hj => cnN_lt (j := j) (decide_eq_false (Nat.lt_irrefl _)) P hj
  refine ⟨rk, hT P cn (yngS (I' (mb + 10))) 8, hk, hr, hT_le hr 8, fun j hj => ?_⟩
  have := hk j hj
  rw [hT_st hr 8 9 j hj (by omega) (by omega), hT]
/-- is q below a (nobody: everybody is) -/
def blwI (v : Nat → Int32) (q : Nat) (a : Int32) : Int32 := if a < 0 then 1 else yngS v q a.toNatClampNeg
def AtP (P : Nat) (a : Int32) : Prop := a < 0 ∨ ∃ t, t < P ∧ a = nI t
theorem blwI_n {v : Nat → Int32} {q t : Nat} (ht : t < 7) : blwI v q (nI t) = yngS v q t := by
  unfold blwI; rw [if_neg (nI_pos (by omega)), nI_clamp (by omega)]
theorem blwI01 (v : Nat → Int32) (q : Nat) (a : Int32) : blwI v q a = 0 ∨ blwI v q a = 1 := by
  unfold blwI; split
  · exact Or.inr rfl
  · exact yngS01 _ _ _
theorem dn_below {b mb P C D q : Nat} {I I' : IT} {J : JT} {S : ST} {Rf : RT} {a : Int32} (h : CoreR b mb I I' P C D) (hq : q < P) (ha : AtP P a) : f11_isBelow b S Rf (nI q) a I J = some (blwI (I' (mb + 10)) q a, I, J) := by
  have h7 := co_P7 h
  unfold f11_isBelow
  rcases ha with c | ⟨t, ht, rfl⟩
  · unfold blwI; rw [if_pos c, if_pos c]
  · rw [blwI_n (by omega), if_neg (nI_pos (by omega)), q9_isYounger (by omega) (by omega), show b + 5 + 1 = b + 6 from rfl, co_age h hq, co_age h ht, co_gap h, b3s]
    have e : (if I' (mb + 10) (10 + 5 * t) - I' (mb + 10) (10 + 5 * q) < I' (mb + 10) 0 then (0 : Int32) else 1) = yngS (I' (mb + 10)) q t := rfl
    rw [e]
    rcases yngS01 (I' (mb + 10)) q t with z | z
    · rw [z, if_pos rfl]
    · rw [z, if_neg i10]
section DOWNC
variable {N b mb P C D c : Nat} {S : ST} {Rf : RT} {I0 I I' : IT} {J J' : JT} {rk T ch : Nat → Nat} {v : Nat → Int32}
theorem dn_long {a : Int32} (h : CoreR b mb I I' P C D) (hch : ∀ j, j < P → I (b + 74) j = nI (ch j)) (hb : ∀ j, j < P → ch j ≤ 7) (ha : AtP P a) : ∀ r k n, k + r = P → r < n → f11_longestBelow_L4 N b S Rf a n (nI (supN (fun q => if blwI (I' (mb + 10)) q a = 0 then 0 else ch q) k)) (nI k) I J = some (nI (supN (fun q => if blwI (I' (mb + 10)) q a = 0 then 0 else ch q) P), I, J) := by
  have h7 := co_P7 h
  intro r
  induction r with
  | zero =>
    intro k n hk hn
    obtain ⟨n, rfl⟩ : ∃ q, n = q + 1 := ⟨n - 1, by omega⟩
    rw [f11_longestBelow_L4, co_P h, if_pos (nI_le (by omega) (by omega)), show k = P by omega]
  | succ r ih =>
    intro k n hk hn
    obtain ⟨n, rfl⟩ : ∃ q, n = q + 1 := ⟨n - 1, by omega⟩
    have hi := ih (k + 1) n (by omega) (by omega)
    have hs7 : supN (fun q => if blwI (I' (mb + 10)) q a = 0 then 0 else ch q) k ≤ 7 := supN_le fun q hq => by
      show (if blwI (I' (mb + 10)) q a = 0 then 0 else ch q) ≤ 7
      split
      · omega
      · exact hb q (by omega)
    have hk7 := hb k (by omega)
    rw [f11_longestBelow_L4, co_P h, if_neg (nI_ge (by omega) (by omega)), dn_below h (by omega) ha, b3s]
    rw [supN] at hi
    rcases blwI01 (I' (mb + 10)) k a with z | z
    · rw [z, if_pos rfl, lts, nI_1]
      rw [z, if_pos rfl, Nat.max_eq_left (Nat.zero_le _)] at hi
      exact hi
    · rw [z, if_neg i10, yb_ck_t (inb_nI (by omega) (by decide)), nI_clamp (by omega), hch k (by omega), lts, lts, nI_1]
      rw [z, if_neg i10] at hi
      by_cases cc : supN (fun q => if blwI (I' (mb + 10)) q a = 0 then 0 else ch q) k < ch k
      · rw [if_pos (nI_lt cc (by omega))]
        rw [Nat.max_eq_right (by omega)] at hi
        exact hi
      · rw [if_neg (nI_nlt (by omega) (by omega))]
        rw [Nat.max_eq_left (by omega)] at hi
        exact hi
theorem dn_longest {a : Int32} (hN : 1000 ≤ N) (h : CoreR b mb I I' P C D) (hch : ∀ j, j < P → I (b + 74) j = nI (ch j)) (hb : ∀ j, j < P → ch j ≤ 7) (ha : AtP P a) : f11_longestBelow N b S Rf a I J = some (nI (supN (fun q => if blwI (I' (mb + 10)) q a = 0 then 0 else ch q) P), I, J) := by
  have h7 := co_P7 h
  unfold f11_longestBelow
  have := dn_long (N := N) (S := S) (Rf := Rf) (J := J) h hch hb ha P 0 N (by omega) (by omega)
  rw [show nI 0 = (0 : Int32) from rfl, show nI (supN (fun q => if blwI (I' (mb + 10)) q a = 0 then 0 else ch q) 0) = (0 : Int32) from rfl] at this
  rw [this, b3s]
def InvD (P : Nat) (rk T : Nat → Nat) (n k : Nat) (ch : Nat → Nat) : Prop := (∀ j, j < P → ch j ≤ T j) ∧ (∀ j, j < P → rk j < n → ch j = T j) ∧ (∀ j, j < k → j < P → rk j ≤ n → ch j = T j)
theorem InvD.next {n : Nat} (h : InvD P rk T n P ch) : InvD P rk T (n + 1) 0 ch := ⟨h.1, fun j hj hr => h.2.2 j hj hj (by omega), fun j hj => by omega⟩
theorem Tow.le7 {cn : Nat → Int32} {yg : Nat → Nat → Int32} (hT : Tow P cn yg rk T) (h7 : P ≤ 7) : ∀ j, j < P → T j ≤ 7 := fun j hj => by have := hT.1 j hj; have := hT.2.2.1 j hj; omega
theorem dn_pass {n0 : Nat} {y : Int32} (hN : 1000 ≤ N) (h0 : CoreR b mb I0 I' P C D) (hc : c < C) (hT : Tow P (fun j => canH (I' (mb + 10)) c j (nI D)) (yngS (I' (mb + 10))) rk T) : ∀ r k n (I : IT) (ch : Nat → Nat), k + r = P → r < n → (∀ a, a ≠ b + 74 → I a = I0 a) → (∀ j, j < P → I (b + 74) j = nI (ch j)) → InvD P rk T n0 k ch → ∃ I1 ch1, f11_measureChains_L41 N b S Rf (nI c) (nI P) y n (nI k) I J = some ((), I1, J) ∧ (∀ a, a ≠ b + 74 → I1 a = I0 a) ∧ (∀ j, j < P → I1 (b + 74) j = nI (ch1 j)) ∧ InvD P rk T n0 P ch1 := by
  have h7 := co_P7 h0
  have hT7 := hT.le7 h7
  intro r
  induction r with
  | zero =>
    intro k n I ch hk hn hf hch hi
    obtain ⟨n, rfl⟩ : ∃ q, n = q + 1 := ⟨n - 1, by omega⟩
    rw [f11_measureChains_L41, if_pos (nI_le (by omega) (by omega))]
    rw [show k = P by omega] at hi
    exact ⟨I, ch, rfl, hf, hch, hi⟩
  | succ r ih =>
    intro k n I ch hk hn hf hch hi
    obtain ⟨n, rfl⟩ : ∃ q, n = q + 1 := ⟨n - 1, by omega⟩
    have h : CoreR b mb I I' P C D := h0.keep (fun a h1 h2 => hf a (by omega)) rfl
    have hkP : k < P := by omega
    have hTk := hT.2.2.2 k hkP
    rw [f11_measureChains_L41, if_neg (nI_ge (by omega) (by omega)), co_D h, q1_canHear h hc hkP, b3s]
    rcases canH01 (I' (mb + 10)) c k (nI D) with z | z
    · rw [z, if_pos rfl, lts, nI_1]
      refine ih (k + 1) n I ch (by omega) (by omega) hf hch ⟨hi.1, hi.2.1, fun j hj hjP hr => ?_⟩
      rcases Nat.eq_or_lt_of_le (Nat.le_of_lt_succ hj) with rfl | q
      · have := hi.1 j hkP
        simp only [z, if_true] at hTk
        omega
      · exact hi.2.2 j q hjP hr
    · have hb : ∀ j, j < P → ch j ≤ 7 := fun j hj => Nat.le_trans (hi.1 j hj) (hT7 j hj)
      rw [z, if_neg i10, dn_longest hN h hch hb (Or.inr ⟨k, hkP, rfl⟩), b3s, yb_ck_t (inb_nI (by omega) (by decide)), nI_clamp (by omega), lts, lts, nI_1]
      have e1 : (1 : Int32) + nI (supN (fun q => if blwI (I' (mb + 10)) q (nI k) = 0 then 0 else ch q) P) = nI (1 + supN (fun q => if yngS (I' (mb + 10)) q k = 0 then 0 else ch q) P) := by
        show nI 1 + nI _ = _
        rw [nI_add]
        congr 2
        exact supN_congr fun q hq => by rw [blwI_n (by omega)]
      rw [e1]
      simp only [z, if_neg i10] at hTk
      have hle : 1 + supN (fun q => if yngS (I' (mb + 10)) q k = 0 then 0 else ch q) P ≤ T k := by
        rw [hTk]
        have := supN_mono (f := fun q => if yngS (I' (mb + 10)) q k = 0 then 0 else ch q) (g := fun q => if yngS (I' (mb + 10)) q k = 0 then 0 else T q) (k := P) (fun q hq => by
          by_cases c2 : yngS (I' (mb + 10)) q k = 0
          · simp only [c2, if_true]; exact Nat.le_refl _
          · simp only [if_neg c2]; exact hi.1 q hq)
        omega
      have heq : rk k ≤ n0 → 1 + supN (fun q => if yngS (I' (mb + 10)) q k = 0 then 0 else ch q) P = T k := by
        intro hr
        rw [hTk]
        congr 1
        refine supN_congr fun q hq => ?_
        by_cases c2 : yngS (I' (mb + 10)) q k = 0
        · rw [if_pos c2, if_pos c2]
        · rw [if_neg c2, if_neg c2]
          have := hT.2.1 q k hq hkP c2
          exact hi.2.1 q hq (by omega)
      refine ih (k + 1) n _ (fun j => if j = k then 1 + supN (fun q => if yngS (I' (mb + 10)) q k = 0 then 0 else ch q) P else ch j) (by omega) (by omega) (fun a ha => (up2_ne _ _ _ ha).trans (hf a ha)) (fun j hj => ?_) ⟨fun j hj => ?_, fun j hj hr => ?_, fun j hj hjP hr => ?_⟩
      · by_cases cj : j = k
        · subst cj; rw [up2_same, if_pos rfl]
        · rw [up2_at (Or.inr cj), if_neg cj, hch j hj]
      · dsimp only
        by_cases cj : j = k
        · subst cj; rw [if_pos rfl]; exact hle
        · rw [if_neg cj]; exact hi.1 j hj
      · dsimp only
        by_cases cj : j = k
        · subst cj; rw [if_pos rfl]; exact heq (by omega)
        · rw [if_neg cj]; exact hi.2.1 j hj hr
      · dsimp only
        by_cases cj : j = k
        · subst cj; rw [if_pos rfl]; exact heq hr
        · rw [if_neg cj]; exact hi.2.2 j (by omega) hjP hr
theorem dn_rounds (hN : 1000 ≤ N) (h0 : CoreR b mb I0 I' P C D) (hc : c < C) (hT : Tow P (fun j => canH (I' (mb + 10)) c j (nI D)) (yngS (I' (mb + 10))) rk T) : ∀ r k n (I : IT) (ch : Nat → Nat), k + r = P → r < n → (∀ a, a ≠ b + 74 → I a = I0 a) → (∀ j, j < P → I (b + 74) j = nI (ch j)) → InvD P rk T k 0 ch → ∃ I1 ch1, f11_measureChains_L33 N b S Rf (nI c) (nI P) n (nI k) I J = some ((), I1, J) ∧ (∀ a, a ≠ b + 74 → I1 a = I0 a) ∧ (∀ j, j < P → I1 (b + 74) j = nI (ch1 j)) ∧ InvD P rk T P 0 ch1 := by
  have h7 := co_P7 h0
  intro r
  induction r with
  | zero =>
    intro k n I ch hk hn hf hch hi
    obtain ⟨n, rfl⟩ : ∃ q, n = q + 1 := ⟨n - 1, by omega⟩
    rw [f11_measureChains_L33, if_pos (nI_le (by omega) (by omega))]
    rw [show k = P by omega] at hi
    exact ⟨I, ch, rfl, hf, hch, hi⟩
  | succ r ih =>
    intro k n I ch hk hn hf hch hi
    obtain ⟨n, rfl⟩ : ∃ q, n = q + 1 := ⟨n - 1, by omega⟩
    obtain ⟨I1, ch1, e1, e2, e3, e4⟩ := dn_pass (N := N) (S := S) (Rf := Rf) (J := J) (n0 := k) (y := nI k) hN h0 hc hT P 0 N I ch (by omega) (by omega) hf hch hi
    rw [show nI 0 = (0 : Int32) from rfl] at e1
    rw [f11_measureChains_L33, if_neg (nI_ge (by omega) (by omega)), e1, b3s, lts, nI_1]
    exact ih (k + 1) n I1 ch1 (by omega) (by omega) e2 e3 e4.next
theorem dn_zero : ∀ r k n (I : IT), k + r = P → P ≤ 7 → r < n → (∀ j, j < k → I (b + 74) j = 0) → ∃ I1, f11_measureChains_L13 N b S Rf (nI c) (nI P) n (nI k) I J = some ((), I1, J) ∧ (∀ a, a ≠ b + 74 → I1 a = I a) ∧ ∀ j, j < P → I1 (b + 74) j = 0 := by
  intro r
  induction r with
  | zero =>
    intro k n I hk h7 hn hz
    obtain ⟨n, rfl⟩ : ∃ q, n = q + 1 := ⟨n - 1, by omega⟩
    rw [f11_measureChains_L13, if_pos (nI_le (by omega) (by omega))]
    exact ⟨I, rfl, fun _ _ => rfl, fun j hj => hz j (by omega)⟩
  | succ r ih =>
    intro k n I hk h7 hn hz
    obtain ⟨n, rfl⟩ : ∃ q, n = q + 1 := ⟨n - 1, by omega⟩
    rw [f11_measureChains_L13, if_neg (nI_ge (by omega) (by omega)), yb_ck_t (inb_nI (by omega) (by decide)), nI_clamp (by omega), lts, lts, nI_1]
    obtain ⟨I1, e1, e2, e3⟩ := ih (k + 1) n (up2 I (b + 74) k 0) (by omega) h7 (by omega) (fun j hj => by
      by_cases cj : j = k
      · subst cj; exact up2_same _ _ _ _
      · rw [up2_at (Or.inr cj)]; exact hz j (by omega))
    exact ⟨I1, e1, fun a ha => (e2 a ha).trans (up2_ne _ _ _ ha), e3⟩
theorem dn_cls (hN : 1000 ≤ N) (h : CoreR b mb I I' P C D) (hc : c < C) (hT : Tow P (fun j => canH (I' (mb + 10)) c j (nI D)) (yngS (I' (mb + 10))) rk T) : ∃ I1, f11_measureChains N b S Rf (nI c) I J = some ((), I1, J) ∧ (∀ a, a ≠ b + 74 → I1 a = I a) ∧ (∀ j, j < P → I1 (b + 74) j = nI (T j)) := by
  have h7 := co_P7 h
  unfold f11_measureChains
  rw [co_P h, lts]
  obtain ⟨A, a1, a2, a3⟩ := dn_zero (N := N) (b := b) (S := S) (Rf := Rf) (J := J) (c := c) P 0 N I (by omega) h7 (by omega) (fun j hj => by omega)
  obtain ⟨B, ch, b1, b2, b3, b4⟩ := dn_rounds (N := N) (S := S) (Rf := Rf) (J := J) hN h hc hT P 0 N A (fun _ => 0) (by omega) (by omega) a2 (fun j hj => a3 j hj) ⟨fun j _ => Nat.zero_le _, fun j _ hr => by omega, fun j hj => by omega⟩
  rw [show nI 0 = (0 : Int32) from rfl] at a1 b1
  rw [a1, b3s, b1, b3s]
  exact ⟨B, rfl, b2, fun j hj => by rw [b3 j hj, b4.2.1 j hj (hT.1 j hj)]⟩
end DOWNC
section DOWNM
variable {N b mb P C D c : Nat} {I I0' I' : IT} {J' : JT} {rk T ch : Nat → Nat} {cn : Nat → Int32} {yg : Nat → Nat → Int32}
theorem CoreR.keepM (h : CoreR b mb I I0' P C D) (hf : ∀ a, a ≠ mb + 21 → I' a = I0' a) : CoreR b mb I I' P C D := h.keep (fun _ _ _ => rfl) (hf _ (by omega))
def InvM (P : Nat) (cn : Nat → Int32) (rk T : Nat → Nat) (n k : Nat) (ch : Nat → Nat) : Prop := (∀ j, j < P → (ch j = 0 ↔ cn j = 0)) ∧ InvD P rk T n k ch
theorem dn_in {n0 p : Nat} {x2 : Int32} (h0 : CoreR b mb I I0' P C D) (hp : p < P) (hT : Tow P cn (yngS (I0' (mb + 10))) rk T) : ∀ r k n (I' : IT) (ch : Nat → Nat), k + r = P → r < n → (∀ a, a ≠ mb + 21 → I' a = I0' a) → (∀ j, j < P → I' (mb + 21) j = nI (ch j)) → InvM P cn rk T n0 p ch → (rk p ≤ n0 → cn p ≠ 0 → ∀ q, q < k → q < P → yngS (I0' (mb + 10)) q p ≠ 0 → cn q ≠ 0 → T q + 1 ≤ ch p) → ∃ I1' ch1, f12_fillsChains_L71 N mb x2 (nI p) n (nI k) I' J' = some ((), I1', J') ∧ (∀ a, a ≠ mb + 21 → I1' a = I0' a) ∧ (∀ j, j < P → I1' (mb + 21) j = nI (ch1 j)) ∧ InvM P cn rk T n0 (p + 1) ch1 := by
  have h7 := co_P7 h0
  have hT7 := hT.le7 h7
  have hTp := hT.2.2.2 p hp
  intro r
  induction r with
  | zero =>
    intro k n I' ch hk hn hf hch hi hq
    have h := h0.keepM hf
    obtain ⟨n, rfl⟩ : ∃ q, n = q + 1 := ⟨n - 1, by omega⟩
    rw [f12_fillsChains_L71, cv_P h, if_pos (nI_le (by omega) (by omega))]
    refine ⟨I', ch, rfl, hf, hch, hi.1, hi.2.1, hi.2.2.1, fun j hj hjP hr => ?_⟩
    rcases Nat.eq_or_lt_of_le (Nat.le_of_lt_succ hj) with rfl | q
    · have hle := hi.2.1 j hp
      by_cases c0 : cn j = 0
      · rw [if_pos c0] at hTp; omega
      · rw [if_neg c0] at hTp
        have hpos : ch j ≠ 0 := fun z => c0 ((hi.1 j hp).mp z)
        have : supN (fun q => if yngS (I0' (mb + 10)) q j = 0 then 0 else T q) P ≤ ch j - 1 := supN_le fun q hqP => by
          by_cases c2 : yngS (I0' (mb + 10)) q j = 0
          · simp only [c2, if_true]; exact Nat.zero_le _
          · simp only [if_neg c2]
            by_cases c3 : cn q = 0
            · have := hT.2.2.2 q hqP
              rw [if_pos c3] at this
              omega
            · have := hq hr c0 q (by omega) hqP c2 c3
              omega
        omega
    · exact hi.2.2.2 j q hjP hr
  | succ r ih =>
    intro k n I' ch hk hn hf hch hi hq
    have h := h0.keepM hf
    obtain ⟨n, rfl⟩ : ∃ q, n = q + 1 := ⟨n - 1, by omega⟩
    have hkP : k < P := by omega
    have hb : ∀ j, j < P → ch j ≤ 7 := fun j hj => Nat.le_trans (hi.2.1 j hj) (hT7 j hj)
    have bp := hb p hp
    have bk := hb k hkP
    have ev : I' (mb + 10) = I0' (mb + 10) := hf _ (by omega)
    rw [f12_fillsChains_L71, cv_P h, if_neg (nI_ge (by omega) (by omega)), yb_ck_t (inb_nI (by omega) (by decide)), nI_clamp (by omega), hch p hp]
    by_cases c0 : ch p = 0
    · rw [c0, if_pos (show nI 0 = 0 from rfl), lts, nI_1]
      exact ih (k + 1) n I' ch (by omega) (by omega) hf hch hi (fun _ hcp => absurd ((hi.1 p hp).mp c0) hcp)
    · rw [if_neg (nI_ne0 (by omega) (by omega)), yb_ck_t (inb_nI (by omega) (by decide)), nI_clamp (by omega), hch k hkP]
      by_cases c1 : ch k = 0
      · rw [c1, if_pos (show nI 0 = 0 from rfl), lts, nI_1]
        refine ih (k + 1) n I' ch (by omega) (by omega) hf hch hi (fun h1 h2 q h3 h4 h5 h6 => ?_)
        rcases Nat.eq_or_lt_of_le (Nat.le_of_lt_succ h3) with rfl | z
        · exact absurd ((hi.1 q hkP).mp c1) h6
        · exact hq h1 h2 q z h4 h5 h6
      · rw [if_neg (nI_ne0 (by omega) (by omega)), q12_isYounger (by omega) (by omega), b3s, ev]
        rcases yngS01 (I0' (mb + 10)) k p with z | z
        · rw [z, if_pos rfl, lts, nI_1]
          refine ih (k + 1) n I' ch (by omega) (by omega) hf hch hi (fun h1 h2 q h3 h4 h5 h6 => ?_)
          rcases Nat.eq_or_lt_of_le (Nat.le_of_lt_succ h3) with rfl | y
          · exact absurd z h5
          · exact hq h1 h2 q y h4 h5 h6
        · have hz : yngS (I0' (mb + 10)) k p ≠ 0 := by rw [z]; exact i10
          have hrk := hT.2.1 k p hkP hp hz
          have hkp : k ≠ p := fun e => by rw [e] at hrk; omega
          rw [z, if_neg i10, hch k hkP, hch p hp, nI_1]
          by_cases c2 : ch k + 1 ≤ ch p
          · rw [if_pos (nI_le c2 (by omega)), lts, nI_1]
            refine ih (k + 1) n I' ch (by omega) (by omega) hf hch hi (fun h1 h2 q h3 h4 h5 h6 => ?_)
            rcases Nat.eq_or_lt_of_le (Nat.le_of_lt_succ h3) with rfl | y
            · rw [← hi.2.2.1 q hkP (by omega)]; exact c2
            · exact hq h1 h2 q y h4 h5 h6
          · rw [if_neg (nI_ge (by omega) (by omega)), lts, lts, nI_1]
            have hcp : cn p ≠ 0 := fun e => c0 ((hi.1 p hp).mpr e)
            have hTge : ch k + 1 ≤ T p := by
              rw [hTp, if_neg hcp]
              have := supN_ge (f := fun q => if yngS (I0' (mb + 10)) q p = 0 then 0 else T q) hkP
              simp only [if_neg hz] at this
              have := hi.2.1 k hkP
              omega
            refine ih (k + 1) n _ (fun j => if j = p then ch k + 1 else ch j) (by omega) (by omega) (fun a ha => (up2_ne _ _ _ ha).trans (hf a ha)) (fun j hj => ?_) ⟨fun j hj => ?_, fun j hj => ?_, fun j hj hr => ?_, fun j hj hjP hr => ?_⟩ (fun h1 h2 q h3 h4 h5 h6 => ?_)
            · by_cases cj : j = p
              · subst cj; rw [up2_same, if_pos rfl]
              · rw [up2_at (Or.inr cj), if_neg cj, hch j hj]
            · dsimp only
              by_cases cj : j = p
              · subst cj; rw [if_pos rfl]
                exact ⟨fun e => by omega, fun e => absurd e hcp⟩
              · rw [if_neg cj]; exact hi.1 j hj
            · dsimp only
              by_cases cj : j = p
              · subst cj; rw [if_pos rfl]; exact hTge
              · rw [if_neg cj]; exact hi.2.1 j hj
            · dsimp only
              by_cases cj : j = p
              · subst cj; rw [if_pos rfl]
                have := hi.2.2.1 j hj hr
                omega
              · rw [if_neg cj]; exact hi.2.2.1 j hj hr
            · dsimp only
              rw [if_neg (show ¬ j = p by omega)]; exact hi.2.2.2 j hj hjP hr
            · skip
              rw [if_pos rfl]
              rcases Nat.eq_or_lt_of_le (Nat.le_of_lt_succ h3) with rfl | y
              · rw [← hi.2.2.1 q hkP (by omega)]; exact Nat.le_refl _
              · have := hq h1 h2 q y h4 h5 h6
                omega
theorem dn_mid {n0 : Nat} {x2 : Int32} (hN : 1000 ≤ N) (h0 : CoreR b mb I I0' P C D) (hT : Tow P cn (yngS (I0' (mb + 10))) rk T) : ∀ r k n (I' : IT) (ch : Nat → Nat), k + r = P → r < n → (∀ a, a ≠ mb + 21 → I' a = I0' a) → (∀ j, j < P → I' (mb + 21) j = nI (ch j)) → InvM P cn rk T n0 k ch → ∃ I1' ch1, f12_fillsChains_L58 N mb x2 n (nI k) I' J' = some ((), I1', J') ∧ (∀ a, a ≠ mb + 21 → I1' a = I0' a) ∧ (∀ j, j < P → I1' (mb + 21) j = nI (ch1 j)) ∧ InvM P cn rk T n0 P ch1 := by
  have h7 := co_P7 h0
  intro r
  induction r with
  | zero =>
    intro k n I' ch hk hn hf hch hi
    have h := h0.keepM hf
    obtain ⟨n, rfl⟩ : ∃ q, n = q + 1 := ⟨n - 1, by omega⟩
    rw [f12_fillsChains_L58, cv_P h, if_pos (nI_le (by omega) (by omega))]
    rw [show k = P by omega] at hi
    exact ⟨I', ch, rfl, hf, hch, hi⟩
  | succ r ih =>
    intro k n I' ch hk hn hf hch hi
    have h := h0.keepM hf
    obtain ⟨n, rfl⟩ : ∃ q, n = q + 1 := ⟨n - 1, by omega⟩
    obtain ⟨A, ca, e1, e2, e3, e4⟩ := dn_in (N := N) (J' := J') (x2 := x2) h0 (show k < P by omega) hT P 0 N I' ch (by omega) (by omega) hf hch hi (fun _ _ q hq => by omega)
    rw [show nI 0 = (0 : Int32) from rfl] at e1
    rw [f12_fillsChains_L58, cv_P h, if_neg (nI_ge (by omega) (by omega)), e1, b3s, lts, nI_1]
    exact ih (k + 1) n A ca (by omega) (by omega) e2 e3 e4
theorem dn_outer (hN : 1000 ≤ N) (h0 : CoreR b mb I I0' P C D) (hT : Tow P cn (yngS (I0' (mb + 10))) rk T) : ∀ r k n (I' : IT) (ch : Nat → Nat), k + r = P → r < n → (∀ a, a ≠ mb + 21 → I' a = I0' a) → (∀ j, j < P → I' (mb + 21) j = nI (ch j)) → InvM P cn rk T k 0 ch → ∃ I1' ch1, f12_fillsChains_L46 N mb n (nI k) I' J' = some ((), I1', J') ∧ (∀ a, a ≠ mb + 21 → I1' a = I0' a) ∧ (∀ j, j < P → I1' (mb + 21) j = nI (ch1 j)) ∧ InvM P cn rk T P 0 ch1 := by
  have h7 := co_P7 h0
  intro r
  induction r with
  | zero =>
    intro k n I' ch hk hn hf hch hi
    have h := h0.keepM hf
    obtain ⟨n, rfl⟩ : ∃ q, n = q + 1 := ⟨n - 1, by omega⟩
    rw [f12_fillsChains_L46, cv_P h, if_pos (nI_le (by omega) (by omega))]
    rw [show k = P by omega] at hi
    exact ⟨I', ch, rfl, hf, hch, hi⟩
  | succ r ih =>
    intro k n I' ch hk hn hf hch hi
    have h := h0.keepM hf
    obtain ⟨n, rfl⟩ : ∃ q, n = q + 1 := ⟨n - 1, by omega⟩
    obtain ⟨A, ca, e1, e2, e3, e4⟩ := dn_mid (N := N) (J' := J') (n0 := k) (x2 := nI k) hN h0 hT P 0 N I' ch (by omega) (by omega) hf hch hi
    rw [show nI 0 = (0 : Int32) from rfl] at e1
    rw [f12_fillsChains_L46, cv_P h, if_neg (nI_ge (by omega) (by omega)), e1, b3s, lts, nI_1]
    exact ih (k + 1) n A ca (by omega) (by omega) e2 e3 ⟨e4.1, e4.2.next⟩
theorem dn_init (hN : 1000 ≤ N) (h0 : CoreR b mb I I0' P C D) (hc : c < C) : ∀ r k n (I' : IT), k + r = P → r < n → (∀ a, a ≠ mb + 21 → I' a = I0' a) → (∀ j, j < k → I' (mb + 21) j = nI (if canH (I0' (mb + 10)) c j (nI D) = 0 then 0 else 1)) → ∃ I1', f12_fillsChains_L2 N mb (nI c) n (nI k) I' J' = some ((), I1', J') ∧ (∀ a, a ≠ mb + 21 → I1' a = I0' a) ∧ ∀ j, j < P → I1' (mb + 21) j = nI (if canH (I0' (mb + 10)) c j (nI D) = 0 then 0 else 1) := by
  have h7 := co_P7 h0
  have h12 := co_D12 h0
  intro r
  induction r with
  | zero =>
    intro k n I' hk hn hf hz
    have h := h0.keepM hf
    obtain ⟨n, rfl⟩ : ∃ q, n = q + 1 := ⟨n - 1, by omega⟩
    rw [f12_fillsChains_L2, cv_P h, if_pos (nI_le (by omega) (by omega))]
    exact ⟨I', rfl, hf, fun j hj => hz j (by omega)⟩
  | succ r ih =>
    intro k n I' hk hn hf hz
    have h := h0.keepM hf
    obtain ⟨n, rfl⟩ : ∃ q, n = q + 1 := ⟨n - 1, by omega⟩
    have ev : I' (mb + 10) = I0' (mb + 10) := hf _ (by omega)
    rw [f12_fillsChains_L2, cv_P h, if_neg (nI_ge (by omega) (by omega)), cv_D h, q12_canHear (by omega) h hc (by omega) (by omega), b3s, ev]
    have go : ∀ x, x = nI (if canH (I0' (mb + 10)) c k (nI D) = 0 then 0 else 1) → ∃ I1', f12_fillsChains_L2 N mb (nI c) n (nI (k + 1)) (up2 I' (mb + 21) k x) J' = some ((), I1', J') ∧ (∀ a, a ≠ mb + 21 → I1' a = I0' a) ∧ ∀ j, j < P → I1' (mb + 21) j = nI (if canH (I0' (mb + 10)) c j (nI D) = 0 then 0 else 1) := by
      intro x hx
      refine ih (k + 1) n _ (by omega) (by omega) (fun a ha => (up2_ne _ _ _ ha).trans (hf a ha)) (fun j hj => ?_)
      by_cases cj : j = k
      · subst cj; rw [up2_same, hx]
      · rw [up2_at (Or.inr cj)]; exact hz j (by omega)
    rcases canH01 (I0' (mb + 10)) c k (nI D) with z | z
    · rw [z, if_pos rfl, yb_ck_t (inb_nI (by omega) (by decide)), nI_clamp (by omega), lts, lts, nI_1]
      exact go 0 (by rw [z]; rfl)
    · rw [z, if_neg i10, yb_ck_t (inb_nI (by omega) (by decide)), nI_clamp (by omega), lts, lts, nI_1]
      exact go 1 (by rw [z]; rfl)
theorem dn_ref (hN : 1000 ≤ N) (h : CoreR b mb I I' P C D) (hc : c < C) (hT : Tow P (fun j => canH (I' (mb + 10)) c j (nI D)) (yngS (I' (mb + 10))) rk T) : ∃ I1', f12_fillsChains N mb (nI c) I' J' = some ((), I1', J') ∧ (∀ a, a ≠ mb + 21 → I1' a = I' a) ∧ ∀ j, j < P → I1' (mb + 21) j = nI (T j) := by
  have h7 := co_P7 h
  unfold f12_fillsChains
  obtain ⟨A, a1, a2, a3⟩ := dn_init (N := N) (J' := J') hN h hc P 0 N I' (by omega) (by omega) (fun _ _ => rfl) (fun j hj => by omega)
  obtain ⟨B, ch, b1, b2, b3, b4⟩ := dn_outer (N := N) (J' := J') hN h hT P 0 N A (fun j => if canH (I' (mb + 10)) c j (nI D) = 0 then 0 else 1) (by omega) (by omega) a2 a3 ⟨fun j hj => by
      by_cases z : canH (I' (mb + 10)) c j (nI D) = 0
      · simp [z]
      · simp [z], fun j hj => by
      have := hT.2.2.2 j hj
      by_cases z : canH (I' (mb + 10)) c j (nI D) = 0
      · simp [z]
      · simp only [if_neg z] at this ⊢
        omega, fun j _ hr => by omega, fun j hj => by omega⟩
  rw [show nI 0 = (0 : Int32) from rfl] at a1 b1
  rw [a1, b3s, b1, b3s]
  exact ⟨B, rfl, b2, fun j hj => by rw [b3 j hj, b4.2.2.1 j hj (hT.1 j hj)]⟩
end DOWNM
