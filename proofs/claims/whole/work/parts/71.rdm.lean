/-! READING, the reference's side -/
def packF (f : Nat → Nat) : Nat → Nat
  | 0 => 0
  | k + 1 => packF f k * 256 + f k
theorem packF_inj {f g : Nat → Nat} : ∀ k m, (∀ i, i < k → 1 ≤ f i ∧ f i < 256) → (∀ i, i < m → 1 ≤ g i ∧ g i < 256) → packF f k = packF g m → k = m ∧ ∀ i, i < k → f i = g i := by
  intro k
  induction k with
  | zero =>
    intro m _ hg e
    cases m with
    | zero => exact ⟨rfl, fun i hi => by omega⟩
    | succ m => rw [packF, packF] at e; have := hg m (by omega); omega
  | succ k ih =>
    intro m hf hg e
    cases m with
    | zero => rw [packF, packF] at e; have := hf k (by omega); omega
    | succ m =>
      rw [packF, packF] at e
      have a := hf k (by omega)
      have c := hg m (by omega)
      obtain ⟨h1, h2⟩ := ih m (fun i hi => hf i (by omega)) (fun i hi => hg i (by omega)) (by omega)
      subst h1
      refine ⟨rfl, fun i hi => ?_⟩
      rcases Nat.eq_or_lt_of_le (Nat.le_of_lt_succ hi) with rfl | q
      · omega
      · exact h2 i q
theorem packF_congr {f g : Nat → Nat} : ∀ k, (∀ i, i < k → f i = g i) → packF f k = packF g k := by
  intro k
  induction k with
  | zero => intro _; rfl
  | succ k ih => intro h; rw [packF, packF, ih (fun i hi => h i (by omega)), h k (by omega)]
theorem packF_lt {f : Nat → Nat} : ∀ k, (∀ i, i < k + 1 → f i < 128) → packF f (k + 1) < 128 * 256 ^ k := by
  intro k
  induction k with
  | zero => intro h; have := h 0 (by omega); rw [packF, packF]; omega
  | succ k ih =>
    intro h
    have h1 := ih (fun i hi => h i (by omega))
    have h2 := h (k + 1) (by omega)
    rw [packF, Nat.pow_succ]
    omega
theorem pack_step {a c : Nat} (ha : a < 2 ^ 55) (hc : c < 256) : (lN a <<< ((8 : Int32).toInt64 &&& 63)) ||| (nI c).toInt64 = lN (a * 256 + c) := by
  rw [nI_l (by omega)]
  apply Int64.toBitVec_inj.mp
  have tb : ∀ m, (lN m).toBitVec = BitVec.ofNat 64 m := fun m => rfl
  have h8 : ((8 : Int32).toInt64 &&& 63).toBitVec.smod 64 = BitVec.ofNat 64 8 := by decide
  rw [Int64.toBitVec_or, Int64.toBitVec_shiftLeft, h8, tb, tb, tb]
  apply BitVec.eq_of_toNat_eq
  rw [BitVec.toNat_or, BitVec.shiftLeft_eq', BitVec.toNat_shiftLeft, BitVec.toNat_ofNat, BitVec.toNat_ofNat, BitVec.toNat_ofNat, BitVec.toNat_ofNat, Nat.mod_eq_of_lt (show a < 2 ^ 64 by omega), Nat.mod_eq_of_lt (show 8 < 2 ^ 64 by omega), Nat.shiftLeft_eq, Nat.mod_eq_of_lt (show a * 2 ^ 8 < 2 ^ 64 by omega), Nat.mod_eq_of_lt (show c < 2 ^ 64 by omega), Nat.mod_eq_of_lt (show a * 256 + c < 2 ^ 64 by omega)]
  have := Nat.two_pow_add_eq_or_of_lt (i := 8) (show c < 2 ^ 8 by omega) a
  rw [show a * 2 ^ 8 = 2 ^ 8 * a by omega, ← this]
theorem fits_iff {w : Nat → Nat} {e : Nat} : ∀ cs q, fits_ w e q cs ↔ ∀ i, i < cs.length → q + i < e ∧ w (q + i) = cs.getD i 0 := by
  intro cs
  induction cs with
  | nil => intro q; exact ⟨fun _ i hi => by simp at hi, fun _ => trivial⟩
  | cons x cs ih =>
    intro q
    constructor
    · rintro ⟨h1, h2, h3⟩ i hi
      cases i with
      | zero => exact ⟨h1, h2⟩
      | succ i =>
        have := (ih (q + 1)).mp h3 i (by simp at hi; omega)
        rw [show q + (i + 1) = q + 1 + i by omega]
        exact this
    · intro h
      refine ⟨(h 0 (by simp)).1, (h 0 (by simp)).2, (ih (q + 1)).mpr (fun i hi => ?_)⟩
      have := h (i + 1) (by simp; omega)
      rw [show q + 1 + i = q + (i + 1) by omega]
      exact this
/-- the run from p to e reads just cs -/
def isW (w : Nat → Nat) (p e : Nat) (cs : List Nat) : Prop := fits_ w e p cs ∧ p + cs.length = e
theorem isW_eq {w : Nat → Nat} {p e : Nat} {cs ds : List Nat} (h : isW w p e cs) (g : isW w p e ds) : cs = ds := by
  have hl : cs.length = ds.length := by have := h.2; have := g.2; omega
  apply List.ext_getElem hl
  intro i h1 h2
  have a := (fits_iff cs p).mp h.1 i h1
  have c := (fits_iff ds p).mp g.1 i h2
  rw [List.getD_eq_getElem?_getD, List.getElem?_eq_getElem h1] at a
  rw [List.getD_eq_getElem?_getD, List.getElem?_eq_getElem h2] at c
  exact a.2.symm.trans c.2
theorem wIx_cases {w : Nat → Nat} {p e : Nat} {r : Int32} : ∀ ws j, wIx w p e j ws r → (r = -1 ∧ ∀ cs, cs ∈ ws → ¬ isW w p e cs) ∨ ∃ i cs, ws[i]? = some cs ∧ isW w p e cs ∧ r = nI (j + i) := by
  intro ws
  induction ws with
  | nil => intro j h; exact Or.inl ⟨h, fun cs hc => by cases hc⟩
  | cons cs t ih =>
    intro j h
    rcases h with ⟨h1, h2, h3⟩ | ⟨h1, h2⟩
    · exact Or.inr ⟨0, cs, rfl, ⟨h1, h2⟩, h3⟩
    · rcases ih (j + 1) h2 with ⟨g1, g2⟩ | ⟨i, ds, g1, g2, g3⟩
      · refine Or.inl ⟨g1, fun ds hd => ?_⟩
        rcases List.mem_cons.mp hd with rfl | q
        · exact h1
        · exact g2 ds q
      · exact Or.inr ⟨i + 1, ds, g1, g2, by rw [g3, show j + 1 + i = j + (i + 1) by omega]⟩
theorem wsL_inj : ∀ i, i < 22 → ∀ j, j < 22 → wsL.getD i [] = wsL.getD j [] → i = j := by decide
theorem wsL_let : ∀ j, j < 22 → 1 ≤ (wsL.getD j []).length ∧ (wsL.getD j []).length ≤ 8 ∧ ∀ x, x ∈ wsL.getD j [] → 1 ≤ x ∧ x < 256 := by decide
theorem WIx_iff {w : Nat → Nat} {n p : Nat} {r : Int32} (h : WIx w n p r) {j : Nat} (hj : j < 22) : isW w p (ltr w n p) (wsL.getD j []) ↔ r = nI j := by
  have hl : wsL.length = 22 := rfl
  rcases wIx_cases wsL 0 h with ⟨g1, g2⟩ | ⟨i, cs, g1, g2, g3⟩
  · constructor
    · intro q
      refine absurd q (g2 _ ?_)
      rw [List.getD_eq_getElem?_getD, List.getElem?_eq_getElem (by omega)]
      exact List.getElem_mem _
    · intro q
      rw [g1] at q
      exact absurd (show nI j < 0 by rw [← q]; decide) (nI_pos (by omega))
  · have hi : i < 22 := by
      rcases Nat.lt_or_ge i wsL.length with q | q
      · exact q
      · rw [List.getElem?_eq_none q] at g1; cases g1
    have ec : wsL.getD i [] = cs := by rw [List.getD_eq_getElem?_getD, g1]; rfl
    rw [Nat.zero_add] at g3
    constructor
    · intro q
      have := wsL_inj i hi j hj (ec.trans (isW_eq g2 q))
      rw [g3, this]
    · intro q
      have : i = j := (nI_eq (by omega) (by omega)).mp (g3.symm.trans q)
      subst this
      rw [ec]; exact g2
/-- r is one of the words' numbers or -1 -/
theorem WIx_rng {w : Nat → Nat} {n p : Nat} {r : Int32} (h : WIx w n p r) : (r = -1) ∨ ∃ j, j < 22 ∧ r = nI j ∧ p < ltr w n p := by
  have hl : wsL.length = 22 := rfl
  rcases wIx_cases wsL 0 h with ⟨g1, g2⟩ | ⟨i, cs, g1, g2, g3⟩
  · exact Or.inl g1
  · have hi : i < 22 := by
      rcases Nat.lt_or_ge i wsL.length with q | q
      · exact q
      · rw [List.getElem?_eq_none q] at g1; cases g1
    have ec : wsL.getD i [] = cs := by rw [List.getD_eq_getElem?_getD, g1]; rfl
    have := (wsL_let i hi).1
    rw [ec] at this
    have := g2.2
    exact Or.inr ⟨i, hi, by rw [g3, Nat.zero_add], by omega⟩
def wcst (j : Nat) : Int64 := lN (packF (fun i => (wsL.getD j []).getD i 0) (wsL.getD j []).length)
section RDM
variable {N mb n p p' : Nat} {w : Nat → Nat} {I' : IT} {J' : JT}
theorem TM.keep {I1 : IT} (h : TM mb n w I') (h1 : I1 mb 1 = I' mb 1) (h2 : I1 (mb + 1) = I' (mb + 1)) : TM mb n w I1 := ⟨h.1, h1.trans h.2.1, fun k hk => by rw [h2]; exact h.2.2 k hk⟩
theorem m_seeL (h : TM mb n w I') : ∀ r p m, p + r = n → r < m → f12_see_L0 N mb m (up2 I' mb 8 (nI p)) J' = some ((), up2 I' mb 8 (nI (skp w n p)), J') := by
  obtain ⟨h4, h1, hw⟩ := h
  intro r
  induction r with
  | zero =>
    intro p m hp hm
    obtain ⟨m, rfl⟩ : ∃ q, m = q + 1 := ⟨m - 1, by omega⟩
    rw [f12_see_L0, up2_at (Or.inr (by decide)), h1, up2_same, if_pos (nI_le (by omega) (by omega))]
    unfold skp
    rw [run_st (by omega)]
  | succ r ih =>
    intro p m hp hm
    obtain ⟨m, rfl⟩ : ∃ q, m = q + 1 := ⟨m - 1, by omega⟩
    obtain ⟨w1, w2⟩ := hw p (by omega)
    rw [f12_see_L0, up2_at (Or.inr (by decide)), h1, up2_same, if_neg (nI_ge (by omega) (by omega)), yb_ck_t (inb_nI (by omega) (by decide)), nI_clamp (by omega), up2_ne _ _ _ (show mb + 1 ≠ mb by omega), w2]
    by_cases c : w p = 32
    · rw [if_pos ((sx_bl _ w1).mpr c), lts, up2_up2, nI_1, ih (p + 1) m (by omega) (by omega)]
      unfold skp
      rw [run_go (p := p) (by omega) (decide_eq_true c)]
    · rw [if_neg (fun q => c ((sx_bl _ w1).mp q))]
      unfold skp
      rw [run_st (fun q => c (of_decide_eq_true q.2))]
theorem m_see (hN : 1000 ≤ N) (h : TM mb n w I') (hp : I' mb 8 = nI p') (hpn : p' ≤ n) : f12_see N mb I' J' = some (chr w n (skp w n p'), up2 I' mb 8 (nI (skp w n p')), J') := by
  have h4 := h.1
  have e2 : skp w n p' ≤ n := run_le hpn
  have := m_seeL (N := N) (J' := J') h (n - p') p' N (by omega) (by omega)
  rw [up2_eta _ _ _ hp] at this
  unfold f12_see chr
  rw [this, b3s, up2_at (Or.inr (by decide)), h.2.1, up2_same]
  by_cases c : skp w n p' < n
  · obtain ⟨w1, w2⟩ := h.2.2 _ c
    rw [if_neg (nI_ge c (by omega)), if_pos c, yb_ck_t (inb_nI (by omega) (by decide)), nI_clamp (by omega), up2_ne _ _ _ (show mb + 1 ≠ mb by omega), w2, sx_and _ w1]
  · rw [if_pos (nI_le (by omega) (by omega)), if_neg c]
theorem m_letter {k : Nat} (h : TM mb n w I') (hk : k ≤ n) : f12_isLetter mb (nI k) I' J' = some (if k < n ∧ isLe w k = true then 1 else 0, I', J') := by
  have h4 := h.1
  unfold f12_isLetter
  rw [h.2.1]
  by_cases c : k < n
  · obtain ⟨w1, w2⟩ := h.2.2 _ c
    rw [if_neg (nI_ge c (by omega)), yb_ck_t (inb_nI (by omega) (by decide)), nI_clamp (by omega), w2]
    by_cases c1 : 97 ≤ w k ∧ w k ≤ 122
    · obtain ⟨_, g2, g3⟩ := (sx_le _ w1).1 c1
      rw [if_neg g2, if_neg g3, if_pos (show k < n ∧ isLe w k = true from ⟨c, decide_eq_true c1⟩)]
    · have hz : ¬ (k < n ∧ isLe w k = true) := fun q => c1 (of_decide_eq_true q.2)
      rw [if_neg hz]
      rcases (sx_le _ w1).2 c1 with g | g
      · rw [if_pos g]
      · by_cases g' : sx (w k) < 97
        · rw [if_pos g']
        · rw [if_neg g', if_pos g]
  · have hz : ¬ (k < n ∧ isLe w k = true) := fun q => c q.1
    rw [if_pos (nI_le (by omega) (by omega)), if_neg hz]
theorem m_letY {k : Nat} (h : TM mb n w I') (hk : k < n) (c : isLe w k = true) : f12_isLetter mb (nI k) I' J' = some (1, I', J') := by
  have hz : k < n ∧ isLe w k = true := ⟨hk, c⟩
  rw [m_letter h (by omega), if_pos hz]
theorem m_letN {k : Nat} (h : TM mb n w I') (hk : k ≤ n) (c : ¬ (k < n ∧ isLe w k = true)) : f12_isLetter mb (nI k) I' J' = some (0, I', J') := by
  rw [m_letter h hk, if_neg c]
theorem m_digit {k : Nat} (h : TM mb n w I') (hk : k ≤ n) : f12_isDigit mb (nI k) I' J' = some (if k < n ∧ isDi w k = true then 1 else 0, I', J') := by
  have h4 := h.1
  unfold f12_isDigit
  rw [h.2.1]
  by_cases c : k < n
  · obtain ⟨w1, w2⟩ := h.2.2 _ c
    rw [if_neg (nI_ge c (by omega)), yb_ck_t (inb_nI (by omega) (by decide)), nI_clamp (by omega), w2]
    by_cases c1 : 48 ≤ w k ∧ w k ≤ 57
    · obtain ⟨_, g2, g3⟩ := (sx_di _ w1).1 c1
      rw [if_neg g2, if_neg g3, if_pos (show k < n ∧ isDi w k = true from ⟨c, decide_eq_true c1⟩)]
    · have hz : ¬ (k < n ∧ isDi w k = true) := fun q => c1 (of_decide_eq_true q.2)
      rw [if_neg hz]
      rcases (sx_di _ w1).2 c1 with g | g
      · rw [if_pos g]
      · by_cases g' : sx (w k) < 48
        · rw [if_pos g']
        · rw [if_neg g', if_pos g]
  · have hz : ¬ (k < n ∧ isDi w k = true) := fun q => c q.1
    rw [if_pos (nI_le (by omega) (by omega)), if_neg hz]
theorem m_digY {k : Nat} (h : TM mb n w I') (hk : k < n) (c : isDi w k = true) : f12_isDigit mb (nI k) I' J' = some (1, I', J') := by
  have hz : k < n ∧ isDi w k = true := ⟨hk, c⟩
  rw [m_digit h (by omega), if_pos hz]
theorem m_digN {k : Nat} (h : TM mb n w I') (hk : k ≤ n) (c : ¬ (k < n ∧ isDi w k = true)) : f12_isDigit mb (nI k) I' J' = some (0, I', J') := by
  rw [m_digit h hk, if_neg c]
theorem m_passL (h : TM mb n w I') : ∀ r p m, p + r = n → r < m → f12_passWord_L0 N mb m (up2 I' mb 8 (nI p)) J' = some ((), up2 I' mb 8 (nI (ltr w n p)), J') := by
  have h4 := h.1
  have hk : ∀ p, TM mb n w (up2 I' mb 8 (nI p)) := fun p => h.keep (up2_at (Or.inr (by decide))) (up2_ne _ _ _ (by omega))
  intro r
  induction r with
  | zero =>
    intro p m hp hm
    obtain ⟨m, rfl⟩ : ∃ q, m = q + 1 := ⟨m - 1, by omega⟩
    rw [f12_passWord_L0, up2_same, m_letN (hk p) (by omega) (fun q => by omega), b3s, if_pos rfl]
    unfold ltr
    rw [run_st (by omega)]
  | succ r ih =>
    intro p m hp hm
    obtain ⟨m, rfl⟩ : ∃ q, m = q + 1 := ⟨m - 1, by omega⟩
    by_cases c : isLe w p = true
    · rw [f12_passWord_L0, up2_same, m_letY (hk p) (by omega) c, b3s, if_neg i10, lts, up2_same, up2_up2, nI_1, ih (p + 1) m (by omega) (by omega)]
      unfold ltr
      rw [run_go (p := p) (by omega) c]
    · rw [f12_passWord_L0, up2_same, m_letN (hk p) (by omega) (fun q => c q.2), b3s, if_pos rfl]
      unfold ltr
      rw [run_st (fun q => c q.2)]
theorem m_pass (hN : 1000 ≤ N) (h : TM mb n w I') (hp : I' mb 8 = nI p) (hpn : p ≤ n) : f12_passWord N mb I' J' = some ((), up2 I' mb 8 (nI (ltr w n p)), J') := by
  have h4 := h.1
  have := m_passL (N := N) (J' := J') h (n - p) p N (by omega) (by omega)
  rw [up2_eta _ _ _ hp] at this
  unfold f12_passWord
  rw [this, b3s]
theorem m_wordL {x1 : Int64} (h : TM mb n w I') (hp : I' mb 8 = nI p) (hpn : p ≤ n) : ∀ r i m x3, p + i + r = ltr w n p → r < m → (i ≤ 8 → x3 = lN (packF (fun i => w (p + i)) i)) → ∃ x, f12_isWord_L10 N mb x1 m x3 (nI i) I' J' = some ((x, nI (i + r)), I', J') ∧ (i + r ≤ 8 → x = lN (packF (fun i => w (p + i)) (i + r))) := by
  have h4 := h.1
  have e2 : ltr w n p ≤ n := run_le hpn
  intro r
  induction r with
  | zero =>
    intro i m x3 hr hm hx
    obtain ⟨m, rfl⟩ : ∃ q, m = q + 1 := ⟨m - 1, by omega⟩
    have ha : ¬ (p + i < n ∧ isLe w (p + i) = true) := by
      have := run_at (c := isLe w) hpn
      rw [show p + i = runE (isLe w) n p from hr]
      exact this
    rw [f12_isWord_L10, hp, nI_add, m_letN h (by omega) ha, b3s, if_pos rfl]
    exact ⟨x3, rfl, hx⟩
  | succ r ih =>
    intro i m x3 hr hm hx
    obtain ⟨m, rfl⟩ : ∃ q, m = q + 1 := ⟨m - 1, by omega⟩
    have hin : isLe w (p + i) = true := run_in hpn (by omega) (show p + i < ltr w n p by omega)
    have hlt := of_decide_eq_true hin
    have w2 := (h.2.2 (p + i) (by omega)).2
    rw [f12_isWord_L10, hp, nI_add, m_letY h (by omega) hin, b3s, if_neg i10]
    by_cases c : 8 ≤ i
    · rw [if_pos (show (8 : Int32) ≤ nI i from nI_le (a := 8) c (by omega)), lts, nI_1]
      obtain ⟨x, g1, g2⟩ := ih (i + 1) m x3 (by omega) (by omega) (fun q => by omega)
      rw [show i + 1 + r = i + (r + 1) by omega] at g1 g2
      exact ⟨x, g1, g2⟩
    · have hle : ∀ k, k < i + 1 → w (p + k) < 128 := fun k hk => by
        have := of_decide_eq_true (run_in (c := isLe w) hpn (show p ≤ p + k by omega) (show p + k < ltr w n p by omega))
        omega
      have hb : packF (fun i => w (p + i)) i < 2 ^ 55 := by
        cases i with
        | zero => rw [packF]; omega
        | succ i =>
          have := packF_lt (f := fun i => w (p + i)) i (fun k hk => hle k (by omega))
          have : 256 ^ i ≤ 256 ^ 6 := Nat.pow_le_pow_right (by decide) (by omega)
          omega
      rw [if_neg (show ¬ (8 : Int32) ≤ nI i from nI_ge (b := 8) (by omega) (by omega)), hp, nI_add, yb_ck_t (inb_nI (show p + i < 400 by omega) (by decide)), nI_clamp (show p + i < 2 ^ 31 by omega), lts, lts, nI_1, w2, sx_lo (by omega), hx (by omega), pack_step hb (by omega)]
      obtain ⟨x, g1, g2⟩ := ih (i + 1) m (lN (packF (fun i => w (p + i)) i * 256 + w (p + i))) (by omega) (by omega) (fun q => rfl)
      rw [show i + 1 + r = i + (r + 1) by omega] at g1 g2
      exact ⟨x, g1, g2⟩
theorem m_isWord {j : Nat} {r : Int32} {W : Int64} (hN : 1000 ≤ N) (h : TM mb n w I') (hp : I' mb 8 = nI p') (hpn : p' ≤ n) (hsk : skp w n p' = p) (hr : WIx w n p r) (hj : j < 22) (hW : W = wcst j) : f12_isWord N mb W I' J' = some (if r = nI j then 1 else 0, up2 I' mb 8 (nI p), J') := by
  have h4 := h.1
  have hp2 : p ≤ n := by rw [← hsk]; exact run_le hpn
  have e1 : p ≤ ltr w n p := run_ge hp2
  have e2 : ltr w n p ≤ n := run_le hp2
  have hk : TM mb n w (up2 I' mb 8 (nI p)) := h.keep (up2_at (Or.inr (by decide))) (up2_ne _ _ _ (by omega))
  obtain ⟨x, g1, g2⟩ := m_wordL (N := N) (J' := J') (x1 := W) hk (up2_same _ _ _ _) hp2 (ltr w n p - p) 0 N 0 (by omega) (by omega) (fun _ => rfl)
  rw [show nI 0 = (0 : Int32) from rfl, Nat.zero_add] at g1
  rw [Nat.zero_add] at g2
  unfold f12_isWord
  rw [m_see hN h hp hpn, hsk, b3s, g1, b3s]
  obtain ⟨l1, l2, l3⟩ := wsL_let j hj
  have key := WIx_iff hr hj
  by_cases c0 : ltr w n p - p = 0
  · rw [if_pos (show nI (ltr w n p - p) ≤ 0 by rw [c0]; decide), if_neg (fun q => by have := (key.mpr q).2; omega)]
  · rw [if_neg (nI_nle (by omega) (by omega))]
    by_cases c9 : 9 ≤ ltr w n p - p
    · rw [if_pos (show (9 : Int32) ≤ nI (ltr w n p - p) from nI_le (a := 9) c9 (by omega)), if_neg (fun q => by have := (key.mpr q).2; omega)]
    · rw [if_neg (show ¬ (9 : Int32) ≤ nI (ltr w n p - p) from nI_ge (b := 9) (by omega) (by omega)), g2 (by omega), hW]
      have hlet : ∀ i, i < ltr w n p - p → 97 ≤ w (p + i) ∧ w (p + i) ≤ 122 := fun i hi => of_decide_eq_true (run_in (c := isLe w) hp2 (show p ≤ p + i by omega) (show p + i < ltr w n p by omega))
      have hcs : ∀ i, i < (wsL.getD j []).length → 1 ≤ (wsL.getD j []).getD i 0 ∧ (wsL.getD j []).getD i 0 < 256 := fun i hi => by
        rw [List.getD_eq_getElem?_getD, List.getElem?_eq_getElem hi]
        exact l3 _ (List.getElem_mem _)
      have ba : packF (fun i => w (p + i)) (ltr w n p - p) < 2 ^ 63 := by
        obtain ⟨q, hq⟩ : ∃ q, ltr w n p - p = q + 1 := ⟨ltr w n p - p - 1, by omega⟩
        rw [hq]
        have := packF_lt (f := fun i => w (p + i)) q (fun k hk => by have := hlet k (by omega); show w (p + k) < 128; omega)
        have : 256 ^ q ≤ 256 ^ 7 := Nat.pow_le_pow_right (by decide) (by omega)
        omega
      have bc : ∀ j, j < 22 → packF (fun i => (wsL.getD j []).getD i 0) (wsL.getD j []).length < 2 ^ 63 := by decide +kernel
      by_cases cr : r = nI j
      · obtain ⟨f1, f2⟩ := key.mpr cr
        have f3 := (fits_iff _ p).mp f1
        have : packF (fun i => w (p + i)) (ltr w n p - p) = packF (fun i => (wsL.getD j []).getD i 0) (wsL.getD j []).length := by
          rw [show ltr w n p - p = (wsL.getD j []).length by omega]
          exact packF_congr _ (fun i hi => (f3 i hi).2)
        unfold wcst
        rw [this, if_pos ((lg_cmp_eq _ _).mpr rfl), if_pos cr]
      · rw [if_neg cr, if_neg]
        intro q
        have q1 : lN (packF (fun i => w (p + i)) (ltr w n p - p)) = wcst j := (lg_cmp_eq _ _).mp q
        unfold wcst at q1
        rw [pk_lEQ ba (bc j hj)] at q1
        obtain ⟨f1, f2⟩ := packF_inj _ _ (fun i hi => ⟨by have := hlet i hi; show 1 ≤ w (p + i); omega, by have := hlet i hi; show w (p + i) < 256; omega⟩) hcs q1
        exact cr (key.mp ⟨(fits_iff _ p).mpr (fun i hi => ⟨by omega, f2 i (by omega)⟩), by omega⟩)
end RDM
