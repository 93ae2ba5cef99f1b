/-! READING THE TAPE: w the bytes, n how many; runs of bytes -/
def runF (c : Nat → Bool) (n : Nat) : Nat → Nat → Nat
  | 0, p => p
  | f + 1, p => if p < n ∧ c p = true then runF c n f (p + 1) else p
def runE (c : Nat → Bool) (n p : Nat) : Nat := runF c n (n - p) p
section RUN
variable {c : Nat → Bool} {n p : Nat}
theorem run_go (h : p < n) (hc : c p = true) : runE c n p = runE c n (p + 1) := by
  unfold runE
  obtain ⟨f, hf⟩ : ∃ f, n - p = f + 1 := ⟨n - p - 1, by omega⟩
  rw [hf, runF, if_pos ⟨h, hc⟩, show n - (p + 1) = f by omega]
theorem run_st (h : ¬ (p < n ∧ c p = true)) : runE c n p = p := by
  unfold runE
  cases n - p with
  | zero => rfl
  | succ f => rw [runF, if_neg h]
theorem run_all : ∀ f p, n - p = f → p ≤ n → p ≤ runE c n p ∧ runE c n p ≤ n ∧ ¬ (runE c n p < n ∧ c (runE c n p) = true) ∧ ∀ k, p ≤ k → k < runE c n p → c k = true := by
  intro f
  induction f with
  | zero =>
    intro p hf hp
    have e : runE c n p = p := run_st (fun q => by omega)
    rw [e]
    exact ⟨Nat.le_refl _, hp, fun q => by omega, fun k h1 h2 => by omega⟩
  | succ f ih =>
    intro p hf hp
    by_cases q : c p = true
    · rw [run_go (by omega) q]
      obtain ⟨h1, h2, h3, h4⟩ := ih (p + 1) (by omega) (by omega)
      refine ⟨by omega, h2, h3, fun k g1 g2 => ?_⟩
      rcases Nat.eq_or_lt_of_le g1 with rfl | g3
      · exact q
      · exact h4 k (by omega) g2
    · have e : runE c n p = p := run_st (fun r => q r.2)
      rw [e]
      exact ⟨Nat.le_refl _, hp, fun r => q r.2, fun k h1 h2 => by omega⟩
theorem run_ge (h : p ≤ n) : p ≤ runE c n p := (run_all _ p rfl h).1
theorem run_le (h : p ≤ n) : runE c n p ≤ n := (run_all _ p rfl h).2.1
theorem run_at (h : p ≤ n) : ¬ (runE c n p < n ∧ c (runE c n p) = true) := (run_all _ p rfl h).2.2.1
theorem run_in (h : p ≤ n) {k : Nat} (h1 : p ≤ k) (h2 : k < runE c n p) : c k = true := (run_all _ p rfl h).2.2.2 k h1 h2
theorem run_idem (h : p ≤ n) : runE c n (runE c n p) = runE c n p := run_st (run_at h)
end RUN
def isBl (w : Nat → Nat) (k : Nat) : Bool := decide (w k = 32)
def isLe (w : Nat → Nat) (k : Nat) : Bool := decide (97 ≤ w k ∧ w k ≤ 122)
def isDi (w : Nat → Nat) (k : Nat) : Bool := decide (48 ≤ w k ∧ w k ≤ 57)
/-- behind the blanks -/
def skp (w : Nat → Nat) (n p : Nat) : Nat := runE (isBl w) n p
/-- behind the letters -/
def ltr (w : Nat → Nat) (n p : Nat) : Nat := runE (isLe w) n p
/-- the sign at p -/
def chr (w : Nat → Nat) (n p : Nat) : Int32 := if p < n then nI (w p) else -1
def sx (c : Nat) : Int32 := if c < 128 then nI c else nI c - nI 256
theorem sx_and : ∀ c, c < 256 → sx c &&& 255 = nI c := by decide +kernel
theorem sx_bl : ∀ c, c < 256 → (sx c = 32 ↔ c = 32) := by decide +kernel
theorem sx_le : ∀ c, c < 256 → (97 ≤ c ∧ c ≤ 122 → sx c = nI c ∧ ¬ sx c < 97 ∧ ¬ 122 < sx c) ∧ (¬ (97 ≤ c ∧ c ≤ 122) → sx c < 97 ∨ 122 < sx c) := by decide +kernel
theorem sx_di : ∀ c, c < 256 → (48 ≤ c ∧ c ≤ 57 → sx c = nI c ∧ ¬ sx c < 48 ∧ ¬ 57 < sx c) ∧ (¬ (48 ≤ c ∧ c ≤ 57) → sx c < 48 ∨ 57 < sx c) := by decide +kernel
theorem sx_lo {c : Nat} (h : c < 128) : sx c = nI c := if_pos h
theorem up2_up2 (I : IT) (a k : Nat) (x y : Int32) : up2 (up2 I a k x) a k y = up2 I a k y := by
  funext q j
  by_cases h : q = a ∧ j = k
  · obtain ⟨rfl, rfl⟩ := h; rw [up2_same, up2_same]
  · have : q ≠ a ∨ j ≠ k := by
      by_cases h1 : q = a
      · exact Or.inr (fun e => h ⟨h1, e⟩)
      · exact Or.inl h1
    rw [up2_at this, up2_at this, up2_at this]
theorem up2_eta (I : IT) (a k : Nat) {x : Int32} (h : I a k = x) : up2 I a k x = I := by
  funext q j
  by_cases h1 : q = a ∧ j = k
  · obtain ⟨rfl, rfl⟩ := h1; rw [up2_same, h]
  · have : q ≠ a ∨ j ≠ k := by
      by_cases h2 : q = a
      · exact Or.inr (fun e => h1 ⟨h2, e⟩)
      · exact Or.inl h2
    rw [up2_at this]
def TC (b n : Nat) (w : Nat → Nat) (I : IT) : Prop := n ≤ 400 ∧ I (b + 2) 1 = nI n ∧ ∀ k, k < n → w k < 256 ∧ I (b + 1) k = nI (w k)
def TM (mb n : Nat) (w : Nat → Nat) (I' : IT) : Prop := n ≤ 400 ∧ I' mb 1 = nI n ∧ ∀ k, k < n → w k < 256 ∧ I' (mb + 1) k = sx (w k)
section RDC
variable {N b n p : Nat} {w : Nat → Nat} {S : ST} {Rf : RT} {I : IT} {J : JT}
theorem TC.keep {I1 : IT} (h : TC b n w I) (h1 : I1 (b + 2) 1 = I (b + 2) 1) (h2 : I1 (b + 1) = I (b + 1)) : TC b n w I1 := ⟨h.1, h1.trans h.2.1, fun k hk => by rw [h2]; exact h.2.2 k hk⟩
theorem c_moveL (h : TC b n w I) : ∀ r p m, p + r = n → r < m → f3_moveTo_L5 N b S Rf m (up2 I (b + 2) 2 (nI p)) J = some ((), up2 I (b + 2) 2 (nI (skp w n p)), J) := by
  obtain ⟨h4, h1, hw⟩ := h
  intro r
  induction r with
  | zero =>
    intro p m hp hm
    obtain ⟨m, rfl⟩ : ∃ q, m = q + 1 := ⟨m - 1, by omega⟩
    rw [f3_moveTo_L5, up2_at (Or.inr (by decide)), h1, up2_same, if_pos (nI_le (by omega) (by omega))]
    unfold skp
    rw [run_st (by omega)]
  | succ r ih =>
    intro p m hp hm
    obtain ⟨m, rfl⟩ : ∃ q, m = q + 1 := ⟨m - 1, by omega⟩
    obtain ⟨w1, w2⟩ := hw p (by omega)
    rw [f3_moveTo_L5, up2_at (Or.inr (by decide)), h1, up2_same, if_neg (nI_ge (by omega) (by omega)), yb_ck_t (inb_nI (by omega) (by decide)), nI_clamp (by omega), up2_ne _ _ _ (show b + 1 ≠ b + 2 by omega), w2]
    by_cases c : w p = 32
    · rw [c, if_pos (show nI 32 = 32 from rfl), lts, up2_up2, nI_1, ih (p + 1) m (by omega) (by omega)]
      unfold skp
      rw [run_go (p := p) (by omega) (decide_eq_true c)]
    · rw [if_neg (show ¬ nI (w p) = (32 : Int32) from nI_nl 32 rfl (by omega) (by omega) c)]
      unfold skp
      rw [run_st (fun q => c (of_decide_eq_true q.2))]
theorem c_move (hN : 1000 ≤ N) (h : TC b n w I) (hp : p ≤ n) : f3_moveTo N b S Rf (nI p) I J = some ((), up2 I (b + 2) 2 (nI (skp w n p)), J) := by
  have h4 := h.1
  unfold f3_moveTo
  rw [lts, c_moveL h (n - p) p N (by omega) (by omega), b3s]
theorem c_sign (h : TC b n w I) (hp : I (b + 2) 2 = nI p) (hpn : p ≤ n) : f3_sign b S Rf I J = some (chr w n p, I, J) := by
  have h4 := h.1
  unfold f3_sign chr
  rw [h.2.1, hp]
  by_cases c : p < n
  · rw [if_neg (nI_ge c (by omega)), if_pos c, yb_ck_t (inb_nI (by omega) (by decide)), nI_clamp (by omega), (h.2.2 p c).2]
  · rw [if_pos (nI_le (by omega) (by omega)), if_neg c]
theorem c_passSign (hN : 1000 ≤ N) (h : TC b n w I) (hp : I (b + 2) 2 = nI p) (hpn : p < n) : f3_passSign N b S Rf I J = some ((), up2 I (b + 2) 2 (nI (skp w n (p + 1))), J) := by
  unfold f3_passSign
  rw [hp, nI_1, c_move hN h (by omega), b3s]
theorem c_passWord {e : Nat} (hN : 1000 ≤ N) (h : TC b n w I) (hp : I (b + 2) 3 = nI e) (hpn : e ≤ n) : f3_passWord N b S Rf I J = some ((), up2 I (b + 2) 2 (nI (skp w n e)), J) := by
  unfold f3_passWord
  rw [hp, c_move hN h hpn, b3s]
theorem c_fail {x : Int32} (hp : I (b + 2) 2 = nI p) : f3_fail b S Rf x I J = some (0, up2 I (b + 2) 4 ((1 + 8 * nI p) + x), J) := by
  unfold f3_fail f3_failAt
  rw [hp, lts, b3s, yb_ck_t (show bz 0 = true from rfl)]
theorem c_failAt {x y : Int32} : f3_failAt b S Rf y x I J = some (0, up2 I (b + 2) 4 ((1 + 8 * y) + x), J) := by
  unfold f3_failAt
  rw [lts]
theorem c_wordL8 (h : TC b n w I) : ∀ r p m, p + r = n → r < m → f3_word_L8 N b S Rf m (up2 I (b + 2) 3 (nI p)) J = some ((), up2 I (b + 2) 3 (nI (ltr w n p)), J) := by
  obtain ⟨h4, h1, hw⟩ := h
  intro r
  induction r with
  | zero =>
    intro p m hp hm
    obtain ⟨m, rfl⟩ : ∃ q, m = q + 1 := ⟨m - 1, by omega⟩
    rw [f3_word_L8, up2_at (Or.inr (by decide)), h1, up2_same, if_pos (nI_le (by omega) (by omega))]
    unfold ltr
    rw [run_st (by omega)]
  | succ r ih =>
    intro p m hp hm
    obtain ⟨m, rfl⟩ : ∃ q, m = q + 1 := ⟨m - 1, by omega⟩
    obtain ⟨w1, w2⟩ := hw p (by omega)
    rw [f3_word_L8, up2_at (Or.inr (by decide)), h1, up2_same, if_neg (nI_ge (by omega) (by omega)), yb_ck_t (inb_nI (by omega) (by decide)), nI_clamp (by omega), up2_ne _ _ _ (show b + 1 ≠ b + 2 by omega), w2]
    by_cases c1 : w p < 97
    · rw [if_pos (show nI (w p) < (97 : Int32) from nI_lt (b := 97) c1 (by omega))]
      unfold ltr
      rw [run_st (fun q => by have := of_decide_eq_true q.2; omega)]
    · rw [if_neg (show ¬ nI (w p) < (97 : Int32) from nI_nlt (b := 97) (by omega) (by omega))]
      by_cases c2 : 122 < w p
      · rw [if_pos (show (122 : Int32) < nI (w p) from nI_lt (a := 122) c2 (by omega))]
        unfold ltr
        rw [run_st (fun q => by have := of_decide_eq_true q.2; omega)]
      · rw [if_neg (show ¬ (122 : Int32) < nI (w p) from nI_nlt (a := 122) (by omega) (by omega)), lts, up2_up2, nI_1, ih (p + 1) m (by omega) (by omega)]
        unfold ltr
        rw [run_go (p := p) (by omega) (decide_eq_true ⟨by omega, by omega⟩)]
/-- the run of letters reads cs from q on -/
def fits_ (w : Nat → Nat) (e : Nat) : Nat → List Nat → Prop
  | _, [] => True
  | q, x :: cs => q < e ∧ w q = x ∧ fits_ w e (q + 1) cs
def wAt : Nat → List Nat → Prop
  | _, [] => True
  | o, x :: cs => wch o = nI x ∧ x ≠ 32 ∧ x < 256 ∧ wAt (o + 1) cs
theorem c_wL0 {x1 x2 : Int32} : ∀ cs o m, o + cs.length ≤ 124 → wAt o cs → f3_word_L72 N b S Rf (m + cs.length) x1 x2 0 (nI o) I J = f3_word_L72 N b S Rf m x1 x2 0 (nI (o + cs.length)) I J := by
  intro cs
  induction cs with
  | nil => intro o m _ _; rfl
  | cons x cs ih =>
    intro o m ho hw
    obtain ⟨h1, h2, h3, h4⟩ := hw
    simp only [List.length_cons] at ho ⊢
    rw [show m + (cs.length + 1) = (m + cs.length) + 1 by omega, f3_word_L72, if_neg (show ¬ (125 : Int32) ≤ nI o from nI_ge (b := 125) (by omega) (by omega)), yb_ck_t (inb_nI (by omega) (by decide)), nI_clamp (by omega), lts, h1, if_neg (show ¬ nI x = (32 : Int32) from nI_nl 32 rfl (by omega) (by omega) h2), if_pos rfl, lts, nI_1, ih (o + 1) m (by omega) h4]
    rw [show o + 1 + cs.length = o + (cs.length + 1) by omega]
theorem c_wL1 {x1 : Int32} {e : Nat} (h : TC b n w I) (he : I (b + 2) 3 = nI e) (hen : e ≤ n) : ∀ cs o q m, o + cs.length ≤ 124 → q ≤ e → wAt o cs → (fits_ w e q cs ∧ q + cs.length ≤ e ∧ f3_word_L72 N b S Rf (m + cs.length) x1 (nI q) 1 (nI o) I J = f3_word_L72 N b S Rf m x1 (nI (q + cs.length)) 1 (nI (o + cs.length)) I J) ∨ (¬ fits_ w e q cs ∧ ∃ x2, f3_word_L72 N b S Rf (m + cs.length) x1 (nI q) 1 (nI o) I J = f3_word_L72 N b S Rf m x1 x2 0 (nI (o + cs.length)) I J) := by
  have h4 := h.1
  intro cs
  induction cs with
  | nil => intro o q m _ hq _; exact Or.inl ⟨trivial, hq, rfl⟩
  | cons x cs ih =>
    intro o q m ho hq hw
    obtain ⟨h1, h2, h3, h5⟩ := hw
    simp only [List.length_cons] at ho ⊢
    rw [show m + (cs.length + 1) = (m + cs.length) + 1 by omega, f3_word_L72, if_neg (show ¬ (125 : Int32) ≤ nI o from nI_ge (b := 125) (by omega) (by omega)), yb_ck_t (inb_nI (by omega) (by decide)), nI_clamp (by omega), lts, h1, if_neg (show ¬ nI x = (32 : Int32) from nI_nl 32 rfl (by omega) (by omega) h2), if_neg i10, he]
    by_cases c1 : q < e
    · obtain ⟨w1, w2⟩ := h.2.2 q (by omega)
      rw [if_neg (nI_ge c1 (by omega)), yb_ck_t (inb_nI (by omega) (by decide)), nI_clamp (by omega), w2]
      by_cases c2 : w q = x
      · rw [c2, if_pos rfl, lts, lts, nI_1, nI_1]
        rcases ih (o + 1) (q + 1) m (by omega) (by omega) h5 with ⟨g1, g2, g3⟩ | ⟨g1, x2, g2⟩
        · exact Or.inl ⟨⟨c1, c2, g1⟩, by omega, by rw [g3, show q + 1 + cs.length = q + (cs.length + 1) by omega, show o + 1 + cs.length = o + (cs.length + 1) by omega]⟩
        · exact Or.inr ⟨fun f => g1 f.2.2, x2, by rw [g2, show o + 1 + cs.length = o + (cs.length + 1) by omega]⟩
      · rw [if_neg (fun z => c2 ((nI_eq (by omega) (by omega)).mp z)), lts, nI_1, c_wL0 cs (o + 1) m (by omega) h5]
        exact Or.inr ⟨fun f => c2 f.2.1, nI q, by rw [show o + 1 + cs.length = o + (cs.length + 1) by omega]⟩
    · rw [if_pos (nI_le (by omega) (by omega)), lts, nI_1, c_wL0 cs (o + 1) m (by omega) h5]
      exact Or.inr ⟨fun f => c1 f.1, nI q, by rw [show o + 1 + cs.length = o + (cs.length + 1) by omega]⟩
/-- the words of the text from the j-th on, each with its blank -/
def wsAt : Nat → List (List Nat) → Prop
  | o, [] => o = 125
  | o, cs :: t => o + cs.length < 125 ∧ wAt o cs ∧ wch (o + cs.length) = 32 ∧ wsAt (o + cs.length + 1) t
/-- which word of the list the run of letters from p to e is -/
def wIx (w : Nat → Nat) (p e : Nat) : Nat → List (List Nat) → Int32 → Prop
  | _, [], r => r = -1
  | j, cs :: t, r => (fits_ w e p cs ∧ p + cs.length = e ∧ r = nI j) ∨ (¬ (fits_ w e p cs ∧ p + cs.length = e) ∧ wIx w p e (j + 1) t r)
def sumM (q : Int32 ⊕ Unit) : Int32 := match q with
  | .inl x => x
  | .inr _ => -1
theorem c_wL {e : Nat} (h : TC b n w I) (hp : I (b + 2) 2 = nI p) (he : I (b + 2) 3 = nI e) (hpe : p ≤ e) (hen : e ≤ n) : ∀ ws o j m, wsAt o ws → 125 < o + m → ∃ q, f3_word_L72 N b S Rf m (nI j) (nI p) 1 (nI o) I J = some (q, I, J) ∧ wIx w p e j ws (sumM q) := by
  have h4 := h.1
  intro ws
  induction ws with
  | nil =>
    intro o j m hw hm
    obtain rfl : o = 125 := hw
    obtain ⟨m, rfl⟩ : ∃ q, m = q + 1 := ⟨m - 1, by omega⟩
    rw [f3_word_L72, if_pos (show (125 : Int32) ≤ nI 125 from by decide)]
    exact ⟨_, rfl, rfl⟩
  | cons cs t ih =>
    intro o j m hw hm
    obtain ⟨h1, h2, h3, h5⟩ := hw
    obtain ⟨m, rfl⟩ : ∃ q, m = q + 1 + cs.length := ⟨m - 1 - cs.length, by omega⟩
    have sp : ∀ x2 x3, f3_word_L72 N b S Rf (m + 1) (nI j) x2 x3 (nI (o + cs.length)) I J = (if x3 = 0 then f3_word_L72 N b S Rf m (nI (j + 1)) (nI p) 1 (nI (o + cs.length + 1)) I J else if x2 = nI e then some (Sum.inl (nI j), I, J) else f3_word_L72 N b S Rf m (nI (j + 1)) (nI p) 1 (nI (o + cs.length + 1)) I J) := by
      intro x2 x3
      rw [f3_word_L72, if_neg (show ¬ (125 : Int32) ≤ nI (o + cs.length) from nI_ge (b := 125) (by omega) (by omega)), yb_ck_t (inb_nI (by omega) (by decide)), nI_clamp (by omega), lts, h3, if_pos rfl, he, hp, lts, lts, lts, nI_1, nI_1]
    rcases c_wL1 (N := N) (S := S) (Rf := Rf) (J := J) (x1 := nI j) h he hen cs o p (m + 1) (by omega) hpe h2 with ⟨g1, g2, g3⟩ | ⟨g1, x2, g2⟩
    · rw [g3, sp, if_neg i10]
      by_cases c : p + cs.length = e
      · rw [c, if_pos rfl]
        exact ⟨_, rfl, Or.inl ⟨g1, c, rfl⟩⟩
      · rw [if_neg (fun z => c ((nI_eq (by omega) (by omega)).mp z))]
        obtain ⟨q, e1, e2⟩ := ih (o + cs.length + 1) (j + 1) m h5 (by omega)
        exact ⟨q, e1, Or.inr ⟨fun z => c z.2, e2⟩⟩
    · rw [g2, sp, if_pos rfl]
      obtain ⟨q, e1, e2⟩ := ih (o + cs.length + 1) (j + 1) m h5 (by omega)
      exact ⟨q, e1, Or.inr ⟨fun z => g1 z.1, e2⟩⟩
end RDC
def wsL : List (List Nat) := [[106, 117, 100, 103, 101], [119, 105, 116], [97, 103, 101], [115, 119, 101, 101, 116, 115], [97, 99, 99, 117, 115, 101, 100], [103, 114, 97, 118, 105, 116, 121], [108, 101, 110, 103, 116, 104], [111, 108, 100, 101, 114], [100, 97, 121], [114, 117, 108, 101, 100], [97, 112, 112, 101, 97, 108], [98, 105, 114, 116, 104, 100, 97, 121], [114, 105, 103, 104, 116], [105, 102], [111, 114], [97, 110, 100], [110, 111, 116], [116, 111, 119, 110], [98, 101, 110, 99, 104], [112, 101, 114, 115, 111, 110], [116, 119, 105, 110, 115], [99, 97, 115, 101]]
def wAtB : Nat → List Nat → Bool
  | _, [] => true
  | o, x :: cs => decide (wch o = nI x) && (decide (x ≠ 32) && (decide (x < 256) && wAtB (o + 1) cs))
theorem wAt_of : ∀ cs o, wAtB o cs = true → wAt o cs := by
  intro cs
  induction cs with
  | nil => intro o _; trivial
  | cons x cs ih =>
    intro o h
    simp only [wAtB, Bool.and_eq_true, decide_eq_true_eq] at h
    exact ⟨h.1, h.2.1, h.2.2.1, ih (o + 1) h.2.2.2⟩
def wsAtB : Nat → List (List Nat) → Bool
  | o, [] => decide (o = 125)
  | o, cs :: t => decide (o + cs.length < 125) && (wAtB o cs && (decide (wch (o + cs.length) = 32) && wsAtB (o + cs.length + 1) t))
theorem wsAt_of : ∀ ws o, wsAtB o ws = true → wsAt o ws := by
  intro ws
  induction ws with
  | nil => intro o h; simp only [wsAtB, decide_eq_true_eq] at h; exact h
  | cons cs t ih =>
    intro o h
    simp only [wsAtB, Bool.and_eq_true, decide_eq_true_eq] at h
    exact ⟨h.1, wAt_of cs o h.2.1, h.2.2.1, ih _ h.2.2.2⟩
theorem wsAt_all : wsAt 0 wsL := wsAt_of _ _ (by decide +kernel)
/-- which of the words comes next -/
def WIx (w : Nat → Nat) (n p : Nat) (r : Int32) : Prop := wIx w p (ltr w n p) 0 wsL r
theorem c_word {N b n p : Nat} {w : Nat → Nat} {S : ST} {Rf : RT} {I : IT} {J : JT} (hN : 1000 ≤ N) (h : TC b n w I) (hp : I (b + 2) 2 = nI p) (hpn : p ≤ n) : ∃ r, f3_word N b S Rf I J = some (r, up2 I (b + 2) 3 (nI (ltr w n p)), J) ∧ WIx w n p r := by
  have h4 := h.1
  have e1 : p ≤ ltr w n p := run_ge hpn
  have e2 : ltr w n p ≤ n := run_le hpn
  unfold f3_word
  rw [hp, lts, c_wordL8 h (n - p) p N (by omega) (by omega), b3s, up2_at (Or.inr (by decide)), hp, lts]
  obtain ⟨q, g1, g2⟩ := c_wL (N := N) (S := S) (Rf := Rf) (J := J) (I := up2 I (b + 2) 3 (nI (ltr w n p))) (p := p) (h.keep (up2_at (Or.inr (by decide))) (up2_ne _ _ _ (by omega))) ((up2_at (Or.inr (by decide))).trans hp) (up2_same _ _ _ _) e1 e2 wsL 0 0 N wsAt_all (by omega)
  rw [show nI 0 = (0 : Int32) from rfl] at g1
  rw [g1, b3s]
  cases q with
  | inl x => rw [sml]; exact ⟨x, rfl, g2⟩
  | inr x => rw [smr]; exact ⟨-1, rfl, g2⟩
