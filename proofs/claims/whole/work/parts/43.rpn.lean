/-! A RULE's two machines: the reference's signs and the class's steps over one list of tokens (s, x): 0 a number, 1 a word, 2 .. 14 what joins -/
abbrev Tk : Type := Nat × Nat
def TkOK (t : Tk) : Prop := (t.1 = 0 ∧ t.2 ≤ 99999) ∨ (t.1 = 1 ∧ t.2 ≤ 11) ∨ (2 ≤ t.1 ∧ t.1 ≤ 14 ∧ t.2 = 0)
def tkI (t : Tk) : Int32 := nI (t.1 + 16 * t.2)
def tkO (s : Nat) : Nat := [0, 0, 0, 1, 2, 3, 5, 6, 7, 8, 9, 12, 10, 11, 4].getD s 0
def tkC (t : Tk) : Int32 := if t.1 = 0 then nI t.2 else if t.1 = 1 then nI (100000 + t.2) else nI (200000 + tkO t.1)
def opV (s : Nat) (x y : Int64) : Int64 :=
  if s = 2 then x + y else if s = 3 then x - y else if s = 4 then x * y else
  if s = 5 then (if lg_cmp y 0 = 0 then 0 else x / y) else
  if s = 6 then (if 0 ≤ lg_cmp x y then 0 else 1) else if s = 7 then (if 0 < lg_cmp x y then 0 else 1) else
  if s = 8 then (if lg_cmp x y = 0 then 1 else 0) else if s = 9 then (if lg_cmp x y < 0 then 0 else 1) else
  if s = 10 then (if lg_cmp x y ≤ 0 then 0 else 1) else if s = 12 then x &&& y else if s = 14 then (if lg_cmp y 0 = 0 then 0 else x - x / y * y) else x ||| y
def stN : List Int64 → Option (List Int64)
  | x :: r => some ((1 - x) :: r)
  | [] => none
def stO (s : Nat) : List Int64 → Option (List Int64)
  | y :: x :: r => some (opV s x y :: r)
  | _ => none
def stepT (W : Nat → Int64) (t : Tk) (st : List Int64) : Option (List Int64) :=
  if t.1 = 0 then some ((nI t.2).toInt64 :: st) else if t.1 = 1 then some (W t.2 :: st) else
  if t.1 = 11 then stN st else stO t.1 st
def runT (W : Nat → Int64) : List Tk → List Int64 → Option (List Int64)
  | [], st => some st
  | t :: ts, st => match stepT W t st with
    | none => none
    | some s1 => runT W ts s1
theorem runT_app (W : Nat → Int64) : ∀ (a c : List Tk) (st : List Int64), runT W (a ++ c) st = match runT W a st with
    | none => none
    | some s1 => runT W c s1
  | [], c, st => rfl
  | t :: a, c, st => by
    show (match stepT W t st with
      | none => none
      | some s1 => runT W (a ++ c) s1) = _
    simp only [runT]
    cases stepT W t st with
    | none => rfl
    | some s1 => exact runT_app W a c s1
def cntT : List Tk → Nat
  | [] => 0
  | t :: ts => (if t.1 ≤ 1 then 1 else 0) + cntT ts
theorem cntT_app : ∀ (a c : List Tk), cntT (a ++ c) = cntT a + cntT c
  | [], c => by simp [cntT]
  | t :: a, c => by
    show (if t.1 ≤ 1 then 1 else 0) + cntT (a ++ c) = (if t.1 ≤ 1 then 1 else 0) + cntT a + cntT c
    rw [cntT_app a c]
    omega
/-- the tokens leave one value, and all that lay below it -/
def SemA (ts : List Tk) : Prop := ∃ F : (Nat → Int64) → Int64, ∀ W st, runT W ts st = some (F W :: st)
def SemB (ts : List Tk) : Prop := ∃ F : (Nat → Int64) → Int64, ∀ W, (F W = 0 ∨ F W = 1) ∧ ∀ st, runT W ts st = some (F W :: st)
theorem SemB.a {ts : List Tk} (h : SemB ts) : SemA ts := by
  obtain ⟨F, h⟩ := h
  exact ⟨F, fun W st => (h W).2 st⟩
def valT (W : Nat → Int64) (ts : List Tk) : Int64 := match runT W ts [] with
  | some (x :: _) => x
  | _ => 0
theorem SemA.run {ts : List Tk} (h : SemA ts) (W : Nat → Int64) (st : List Int64) : runT W ts st = some (valT W ts :: st) := by
  obtain ⟨F, h⟩ := h
  have e : valT W ts = F W := by unfold valT; rw [h W []]
  rw [e, h W st]
theorem SemB.val {ts : List Tk} (h : SemB ts) (W : Nat → Int64) : valT W ts = 0 ∨ valT W ts = 1 := by
  obtain ⟨F, h⟩ := h
  have e : valT W ts = F W := by unfold valT; rw [(h W).2 []]
  rw [e]
  exact (h W).1
/-- a stack in a row of longs, its top first in the list -/
def StkR (f : Nat → Int64) : List Int64 → Prop
  | [] => True
  | x :: r => f r.length = x ∧ StkR f r
theorem StkR.up {f : Nat → Int64} {n : Nat} {x : Int64} : ∀ {st : List Int64}, st.length ≤ n → StkR f st → StkR (vp_updL f n x) st
  | [], _, _ => trivial
  | y :: r, hn, h => by
    simp only [List.length_cons] at hn
    exact ⟨by rw [pk_uLn (by omega)]; exact h.1, StkR.up (by omega) h.2⟩
theorem StkR.push {f : Nat → Int64} {x : Int64} {st : List Int64} (h : StkR f st) : StkR (vp_updL f st.length x) (x :: st) := ⟨pk_uLs, StkR.up (Nat.le_refl _) h⟩
def TokAt (f : Nat → Int32) : Nat → List Int32 → Prop
  | _, [] => True
  | p, x :: r => f p = x ∧ TokAt f (p + 1) r
theorem TokAt.app {f : Nat → Int32} : ∀ {p : Nat} {a c : List Int32}, TokAt f p (a ++ c) ↔ TokAt f p a ∧ TokAt f (p + a.length) c
  | p, [], c => by simp [TokAt]
  | p, x :: a, c => by
    show f p = x ∧ TokAt f (p + 1) (a ++ c) ↔ (f p = x ∧ TokAt f (p + 1) a) ∧ TokAt f (p + (a.length + 1)) c
    rw [TokAt.app, show p + (a.length + 1) = p + 1 + a.length by omega]
    exact and_assoc.symm
theorem TokAt.congr {f g : Nat → Int32} : ∀ {p : Nat} {a : List Int32}, (∀ i, p ≤ i → i < p + a.length → g i = f i) → TokAt f p a → TokAt g p a
  | _, [], _, _ => trivial
  | p, x :: a, h, q => by
    refine ⟨by rw [h p (by omega) (by simp only [List.length_cons]; omega)]; exact q.1, TokAt.congr (fun i h1 h2 => h i (by omega) (by simp only [List.length_cons]; omega)) q.2⟩
theorem up2J_at (J : JT) (a k : Nat) (v : Int64) : up2J J a k v a = vp_updL (J a) k v := if_pos rfl
theorem nI_nl {n : Nat} {x : Int32} (m : Nat) (hx : x = nI m) (hn : n < 2 ^ 31) (hm : m < 2 ^ 31) (h : n ≠ m) : ¬ nI n = x := by
  rw [hx, nI_eq hn hm]
  exact h
section REF
variable {N mb : Nat} {I : IT} {J : JT}
theorem k12_push {n : Nat} {x : Int64} (hn : n < 64) (h : I mb 18 = nI n) : f12_push mb x I J = some ((), up2 I mb 18 (nI (n + 1)), up2J J (mb + 8) n x) := by
  unfold f12_push
  rw [h, yb_ck_t (inb_nI hn (by decide)), nI_clamp (by omega), lts, lts, nI_1]
theorem k12_pop {n : Nat} (hn : n < 64) (h : I mb 18 = nI (n + 1)) : f12_pop mb I J = some (J (mb + 8) n, up2 I mb 18 (nI n), J) := by
  unfold f12_pop
  rw [h, lts, nI_pred, up2_same, yb_ck_t (inb_nI hn (by decide)), nI_clamp (by omega)]
theorem k12_one {s : Nat} {x y : Int64} (h1 : 2 ≤ s) (h2 : s ≤ 14) (h3 : s ≠ 11) : f12_one mb (nI s) x y I J = some (opV s x y, I, J) := by
  have hz : lg_cmp y 0 ≠ 0 → ¬ y = 0 := fun c e => c (by rw [e]; decide)
  obtain rfl | rfl | rfl | rfl | rfl | rfl | rfl | rfl | rfl | rfl | rfl | rfl : s = 2 ∨ s = 3 ∨ s = 4 ∨ s = 5 ∨ s = 6 ∨ s = 7 ∨ s = 8 ∨ s = 9 ∨ s = 10 ∨ s = 12 ∨ s = 13 ∨ s = 14 := by omega
  · rfl
  · rfl
  · rfl
  · show (if lg_cmp y 0 = 0 then some ((0 : Int64), I, J) else if y = 0 then none else some (x / y, I, J)) = some ((if lg_cmp y 0 = 0 then 0 else x / y), I, J)
    by_cases c : lg_cmp y 0 = 0
    · rw [if_pos c, if_pos c]
    · rw [if_neg c, if_neg c, if_neg (hz c)]
  · show (if 0 ≤ lg_cmp x y then some ((0 : Int64), I, J) else some ((1 : Int64), I, J)) = some ((if 0 ≤ lg_cmp x y then 0 else 1), I, J)
    split <;> rfl
  · show (if 0 < lg_cmp x y then some ((0 : Int64), I, J) else some ((1 : Int64), I, J)) = some ((if 0 < lg_cmp x y then 0 else 1), I, J)
    split <;> rfl
  · show (if lg_cmp x y = 0 then some ((1 : Int64), I, J) else some ((0 : Int64), I, J)) = some ((if lg_cmp x y = 0 then 1 else 0), I, J)
    split <;> rfl
  · show (if lg_cmp x y < 0 then some ((0 : Int64), I, J) else some ((1 : Int64), I, J)) = some ((if lg_cmp x y < 0 then 0 else 1), I, J)
    split <;> rfl
  · show (if lg_cmp x y ≤ 0 then some ((0 : Int64), I, J) else some ((1 : Int64), I, J)) = some ((if lg_cmp x y ≤ 0 then 0 else 1), I, J)
    split <;> rfl
  · rfl
  · rfl
  · show (if lg_cmp y 0 = 0 then some ((0 : Int64), I, J) else if y = 0 then none else some (x - x / y * y, I, J)) = some ((if lg_cmp y 0 = 0 then 0 else x - x / y * y), I, J)
    by_cases c : lg_cmp y 0 = 0
    · rw [if_pos c, if_pos c]
    · rw [if_neg c, if_neg c, if_neg (hz c)]
theorem tk_lo {t : Tk} (h : TkOK t) : tkI t &&& 15 = nI t.1 ∧ tkI t >>> ((4 : Int32) &&& 31) = nI t.2 := by
  unfold tkI
  unfold TkOK at h
  rw [pk_andN (by omega) 4 rfl, pk_shrN (by omega) _ 4 rfl]
  constructor
  · congr 1; omega
  · congr 1; omega
theorem k12_reck {k e : Nat} (hk : k < 6) (he : e ≤ 400) {W : Nat → Int64} : ∀ (ts : List Tk) (s n : Nat) (st st1 : List Int64) (I : IT) (J : JT), s + ts.length = e → ts.length < n → (∀ t ∈ ts, TkOK t) → TokAt (I (mb + 2)) (400 * k + s) (ts.map tkI) → runT W ts st = some st1 → st.length + cntT ts ≤ 64 → I mb 18 = nI st.length → StkR (J (mb + 8)) st → (∀ i, i < 12 → J (mb + 9) i = W i) →
    ∃ I1 J1, f12_reckons_L8 N mb (nI k) (nI e) n (nI s) I J = some ((), I1, J1) ∧ I1 mb 18 = nI st1.length ∧ StkR (J1 (mb + 8)) st1 ∧ st1.length ≤ 64 ∧ (∀ a j, (a ≠ mb ∨ j ≠ 18) → I1 a j = I a j) ∧ (∀ a, a ≠ mb + 8 → J1 a = J a)
  | [], s, n, st, st1, I, J, hs, hn, ho, ha, hr, hc, h18, hS, hW => by
    obtain ⟨n, rfl⟩ : ∃ q, n = q + 1 := ⟨n - 1, by simp only [List.length_nil] at hn; omega⟩
    simp only [List.length_nil, Nat.add_zero] at hs
    subst hs
    cases hr
    refine ⟨I, J, ?_, h18, hS, ?_, fun _ _ _ => rfl, fun _ _ => rfl⟩
    · rw [f12_reckons_L8, if_pos (nI_le (Nat.le_refl _) (by omega))]
    · simp only [cntT] at hc; omega
  | t :: ts, s, n, st, st1, I, J, hs, hn, ho, ha, hr, hc, h18, hS, hW => by
    obtain ⟨n, rfl⟩ : ∃ q, n = q + 1 := ⟨n - 1, by omega⟩
    simp only [List.length_cons] at hs hn
    have hto := ho t (List.mem_cons_self ..)
    obtain ⟨l1, l2⟩ := tk_lo hto
    have hat : I (mb + 2) (400 * k + s) = tkI t := ha.1
    have hidx : ((400 : Int32) * nI k) + nI s = nI (400 * k + s) := by
      show nI 400 * nI k + nI s = _
      rw [pk_mul, nI_add]
    rw [f12_reckons_L8, if_neg (nI_ge (by omega) (by omega)), hidx, yb_ck_t (inb_nI (by omega) (by decide)), nI_clamp (by omega), hat, lts, lts, l1, l2]
    simp only [runT] at hr
    simp only [cntT] at hc
    have fin : ∀ (s1 : List Int64) (I2 : IT) (J2 : JT), stepT W t st = some s1 → s1.length + cntT ts ≤ 64 → I2 mb 18 = nI s1.length → StkR (J2 (mb + 8)) s1 → (∀ a j, (a ≠ mb ∨ j ≠ 18) → I2 a j = I a j) → (∀ a, a ≠ mb + 8 → J2 a = J a) →
        ∃ I1 J1, f12_reckons_L8 N mb (nI k) (nI e) n (nI s + 1) I2 J2 = some ((), I1, J1) ∧ I1 mb 18 = nI st1.length ∧ StkR (J1 (mb + 8)) st1 ∧ st1.length ≤ 64 ∧ (∀ a j, (a ≠ mb ∨ j ≠ 18) → I1 a j = I a j) ∧ (∀ a, a ≠ mb + 8 → J1 a = J a) := by
      intro s1 I2 J2 q1 q2 q3 q4 q5 q6
      rw [q1] at hr
      have hI2 : I2 (mb + 2) = I (mb + 2) := funext fun j => q5 _ j (Or.inl (by omega))
      obtain ⟨I1, J1, r1, r2, r3, r4, r5, r6⟩ := k12_reck hk he ts (s + 1) n s1 st1 I2 J2 (by omega) (by omega) (fun t h => ho t (List.mem_cons_of_mem _ h)) (by rw [hI2]; exact ha.2) hr q2 q3 q4 (fun i hi => by rw [q6 _ (by omega)]; exact hW i hi)
      rw [nI_1]
      exact ⟨I1, J1, r1, r2, r3, r4, fun a j h => (r5 a j h).trans (q5 a j h), fun a h => (r6 a h).trans (q6 a h)⟩
    have fr : ∀ (x : Int32) a j, (a ≠ mb ∨ j ≠ 18) → up2 I mb 18 x a j = I a j := fun x a j h => up2_other I h
    rcases hto with ⟨t0, tv⟩ | ⟨t1, tv⟩ | ⟨t2, t14, tv⟩
    · rw [t0, if_pos (show nI 0 = 0 from rfl), k12_push (by rw [if_pos (by omega)] at hc; omega) h18, b3s, lts]
      refine fin (_ :: st) _ _ (by unfold stepT; rw [if_pos t0]) ?_ (up2_same _ _ _ _) ?_ (fr _) (fun a h => up2J_ne _ _ _ h)
      · rw [if_pos (by omega)] at hc; simp only [List.length_cons]; omega
      · rw [up2J_at]; exact hS.push
    · rw [t1, if_neg (show ¬ nI 1 = 0 by decide), if_pos (show nI 1 = 1 from rfl), yb_ck_t (inb_nI (by omega) (by decide)), nI_clamp (by omega), hW _ (by omega), k12_push (by rw [if_pos (by omega)] at hc; omega) h18, b3s, lts]
      refine fin (_ :: st) _ _ (by unfold stepT; rw [if_neg (by omega), if_pos t1]) ?_ (up2_same _ _ _ _) ?_ (fr _) (fun a h => up2J_ne _ _ _ h)
      · rw [if_pos (by omega)] at hc; simp only [List.length_cons]; omega
      · rw [up2J_at]; exact hS.push
    · rw [if_neg (nI_ne0 (by omega) (by omega)), if_neg (show ¬ nI t.1 = (1 : Int32) from nI_nl 1 rfl (by omega) (by omega) (by omega))]
      rw [if_neg (by omega)] at hc
      by_cases c11 : t.1 = 11
      · rw [c11, if_pos (show nI 11 = 11 from rfl)]
        have hst : stepT W t st = stN st := by unfold stepT; rw [if_neg (by omega), if_neg (by omega), if_pos c11]
        cases st with
        | nil => rw [hst] at hr; cases hr
        | cons x r =>
          simp only [List.length_cons] at hc h18
          rw [k12_pop (by omega) h18, b3s, k12_push (by omega) (up2_same _ _ _ _), b3s, lts, hS.1]
          refine fin _ _ _ hst (by simp only [List.length_cons]; omega) (up2_same _ _ _ _) ?_ (fun a j h => (up2_other _ h).trans (fr _ a j h)) (fun a h => up2J_ne _ _ _ h)
          rw [up2J_at]
          exact hS.2.push
      · rw [if_neg (show ¬ nI t.1 = (11 : Int32) from nI_nl 11 rfl (by omega) (by omega) (by omega))]
        have hst : stepT W t st = stO t.1 st := by unfold stepT; rw [if_neg (by omega), if_neg (by omega), if_neg c11]
        rcases st with _ | ⟨y, _ | ⟨x, r⟩⟩
        · rw [hst] at hr; cases hr
        · rw [hst] at hr; cases hr
        ·
          simp only [List.length_cons] at hc h18
          rw [k12_pop (by omega) h18, b3s, k12_pop (by omega) (up2_same _ _ _ _), b3s, k12_one t2 t14 c11, b3s, k12_push (by omega) (up2_same _ _ _ _), b3s, lts]
          have e1 : J (mb + 8) (r.length + 1) = y := hS.1
          have e2 : J (mb + 8) r.length = x := hS.2.1
          rw [e1, e2]
          refine fin _ _ _ hst (by simp only [List.length_cons]; omega) (up2_same _ _ _ _) ?_ (fun a j h => ((up2_other _ h).trans (up2_other _ h)).trans (fr _ a j h)) (fun a h => up2J_ne _ _ _ h)
          rw [up2J_at]
          exact hS.2.2.push
theorem k12_reckons {k s : Nat} {ts : List Tk} {W : Nat → Int64} (hN : 1000 ≤ N) (hk : k < 6) (he : s + ts.length ≤ 400) (ho : ∀ t ∈ ts, TkOK t) (ha : TokAt (I (mb + 2)) (400 * k + s) (ts.map tkI)) (hr : SemA ts) (hc : cntT ts ≤ 64) (hW : ∀ i, i < 12 → J (mb + 9) i = W i) :
    ∃ I1 J1, f12_reckons N mb (nI k) (nI s) (nI (s + ts.length)) I J = some (valT W ts, I1, J1) ∧ (∀ a j, (a ≠ mb ∨ j ≠ 18) → I1 a j = I a j) ∧ (∀ a, a ≠ mb + 8 → J1 a = J a) := by
  unfold f12_reckons
  rw [lts]
  have e0 : up2 I mb 18 0 (mb + 2) = I (mb + 2) := up2_ne _ _ _ (by omega)
  obtain ⟨I1, J1, r1, r2, r3, r4, r5, r6⟩ := k12_reck (N := N) (mb := mb) hk he ts s N [] _ (up2 I mb 18 0) J rfl (by omega) ho (by rw [e0]; exact ha) (hr.run W []) (by simp only [List.length_nil]; omega) (up2_same _ _ _ _) trivial hW
  rw [r1, b3s, k12_pop (n := 0) (by omega) r2, b3s]
  have e1 : J1 (mb + 8) 0 = valT W ts := r3.1
  rw [e1]
  exact ⟨_, J1, rfl, fun a j h => (up2_other _ h).trans ((r5 a j h).trans (up2_other _ h)), r6⟩
end REF
