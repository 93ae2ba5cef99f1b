/-! ROWS' CONSTRUCTOR, what its loops leave: run over lists -/
abbrev L4 : Type := List Int32 × List Int32 × List Int32 × List Int32
def T4 (I0 : IT) (z : Nat) (q : L4) : IT := fun a => if a = z + 13 then (fun k => q.1.getD k 0) else if a = z then (fun k => q.2.1.getD k 0) else if a = z + 1 then (fun k => q.2.2.1.getD k 0) else if a = z + 2 then (fun k => q.2.2.2.getD k 0) else I0 a
def len4 (q : L4) : Prop := q.1.length = 65 ∧ q.2.1.length = 260 ∧ q.2.2.1.length = 65 ∧ q.2.2.2.length = 65
def p129 (x4 : Int32) : Nat → Int32 → Int32 → L4 → Option (Int32 × L4)
  | 0, _, _, _ => none
  | n + 1, x3, x5, q =>
    if (4 : Int32) ≤ x5 then some (x3, q)
    else if inb x4 65 = true then
      if (((q.1.getD x4.toNatClampNeg 0) >>> (x5 &&& 31)) &&& (1 : Int32)) = 0 then
        if (65 : Int32) ≤ x3 then
          if inb ((x4 * (4 : Int32)) + x5) 260 = true then p129 x4 n x3 (x5 + 1) (q.1, q.2.1.set ((x4 * (4 : Int32)) + x5).toNatClampNeg (-1), q.2.2.1, q.2.2.2) else none
        else
          if inb ((x4 * (4 : Int32)) + x5) 260 = true then
            if inb x3 65 = true then p129 x4 n (x3 + 1) (x5 + 1) (q.1.set x3.toNatClampNeg ((q.1.getD x4.toNatClampNeg 0) ||| ((1 : Int32) <<< (x5 &&& 31))), q.2.1.set ((x4 * (4 : Int32)) + x5).toNatClampNeg x3, q.2.2.1.set x3.toNatClampNeg x4, q.2.2.2.set x3.toNatClampNeg x5) else none
          else none
      else
        if inb ((x4 * (4 : Int32)) + x5) 260 = true then p129 x4 n x3 (x5 + 1) (q.1, q.2.1.set ((x4 * (4 : Int32)) + x5).toNatClampNeg (-1), q.2.2.1, q.2.2.2) else none
    else none
def p119 : Nat → Int32 → Int32 → L4 → Option L4
  | 0, _, _, _ => none
  | n + 1, x3, x4, q =>
    if (65 : Int32) ≤ x4 then some q
    else match p129 x4 5 x3 0 q with
      | none => none
      | some r => p119 n r.1 (x4 + 1) r.2
theorem inb_lt {i : Int32} {n : Nat} (h : inb i n = true) : i.toNatClampNeg < n := Nat.not_le.mp fun q => (inb_vp h) (Or.inr q)
theorem getD_set {l : List Int32} {k : Nat} {v : Int32} (h : k < l.length) : (fun j => (l.set k v).getD j 0) = upd (fun j => l.getD j 0) k v := by
  funext j
  unfold upd
  by_cases hj : j = k
  · subst hj
    simp [List.getD_eq_getElem?_getD, List.getElem?_set_self h]
  · simp [List.getD_eq_getElem?_getD, hj, List.getElem?_set_ne (Ne.symm hj)]
section T4ROWS
variable {I0 : IT} {z k : Nat} {q : L4} {v : Int32}
theorem T4_m : T4 I0 z q (z + 13) k = q.1.getD k 0 := by simp [T4]
theorem T4_um (h : k < q.1.length) : up2 (T4 I0 z q) (z + 13) k v = T4 I0 z (q.1.set k v, q.2.1, q.2.2.1, q.2.2.2) := by
  funext a
  unfold up2
  by_cases ha : a = z + 13
  · subst ha; rw [if_pos rfl]; simp only [T4, if_true]; exact (getD_set h).symm
  · rw [if_neg ha]; simp [T4, ha]
theorem T4_ul (h : k < q.2.1.length) : up2 (T4 I0 z q) z k v = T4 I0 z (q.1, q.2.1.set k v, q.2.2.1, q.2.2.2) := by
  have h1 : ¬ z = z + 13 := by omega
  funext a
  unfold up2
  by_cases ha : a = z
  · subst ha; rw [if_pos rfl]; simp only [T4, if_neg h1, if_true]; exact (getD_set h).symm
  · rw [if_neg ha]; simp [T4, ha]
theorem T4_us (h : k < q.2.2.1.length) : up2 (T4 I0 z q) (z + 1) k v = T4 I0 z (q.1, q.2.1, q.2.2.1.set k v, q.2.2.2) := by
  have h1 : ¬ z + 1 = z + 13 := by omega
  have h2 : ¬ z + 1 = z := by omega
  funext a
  unfold up2
  by_cases ha : a = z + 1
  · subst ha; rw [if_pos rfl]; simp only [T4, if_neg h1, if_neg h2, if_true]; exact (getD_set h).symm
  · rw [if_neg ha]; simp [T4, ha]
theorem T4_ua (h : k < q.2.2.2.length) : up2 (T4 I0 z q) (z + 2) k v = T4 I0 z (q.1, q.2.1, q.2.2.1, q.2.2.2.set k v) := by
  have h1 : ¬ z + 2 = z + 13 := by omega
  have h2 : ¬ z + 2 = z := by omega
  have h3 : ¬ z + 2 = z + 1 := by omega
  funext a
  unfold up2
  by_cases ha : a = z + 2
  · subst ha; rw [if_pos rfl]; simp only [T4, if_neg h1, if_neg h2, if_neg h3, if_true]; exact (getD_set h).symm
  · rw [if_neg ha]; simp [T4, ha]
end T4ROWS
theorem yb_ck_t {α : Type} {b : Bool} {k : Unit → Option α} (h : b = true) : yb_ck b k = k () := if_pos h
theorem p129_ok {N t0 z : Nat} {I0 : IT} {J : JT} {x4 : Int32} : ∀ (n n' : Nat) (x3 x5 : Int32) (q : L4) (r : Int32) (q' : L4), n ≤ n' → len4 q → p129 x4 n x3 x5 q = some (r, q') → f4_init_L129 N t0 z x4 n' x3 x5 (T4 I0 z q) J = some (r, T4 I0 z q', J) ∧ len4 q' := by
  intro n
  induction n with
  | zero => intro n' x3 x5 q r q' hn hl h; rw [p129] at h; cases h
  | succ n ih =>
    intro n' x3 x5 q r q' hn hl h
    obtain ⟨n', rfl⟩ : ∃ m, n' = m + 1 := ⟨n' - 1, by omega⟩
    have hn' : n ≤ n' := by omega
    obtain ⟨l1, l2, l3, l4⟩ := hl
    rw [p129] at h
    rw [f4_init_L129]
    by_cases c1 : (4 : Int32) ≤ x5
    · rw [if_pos c1] at h ⊢; cases h; exact ⟨rfl, l1, l2, l3, l4⟩
    · rw [if_neg c1] at h ⊢
      obtain ⟨c2, h⟩ := yb_ite h
      rw [yb_ck_t c2, T4_m]
      by_cases c3 : (((q.1.getD x4.toNatClampNeg 0) >>> (x5 &&& 31)) &&& (1 : Int32)) = 0
      · rw [if_pos c3] at h ⊢
        by_cases c4 : (65 : Int32) ≤ x3
        · rw [if_pos c4] at h ⊢
          obtain ⟨c5, h⟩ := yb_ite h
          rw [yb_ck_t c5]
          simp only [yb_let]
          rw [T4_ul (by rw [l2]; exact inb_lt c5)]
          exact ih n' _ _ _ _ _ hn' ⟨l1, by rw [List.length_set]; exact l2, l3, l4⟩ h
        · rw [if_neg c4] at h ⊢
          obtain ⟨c5, h⟩ := yb_ite h
          obtain ⟨c6, h⟩ := yb_ite h
          have h6 := inb_lt c6
          rw [yb_ck_t c5]
          simp only [yb_let]
          rw [yb_ck_t c6, T4_ul (by rw [l2]; exact inb_lt c5), T4_m, T4_um (by show _ < q.1.length; rw [l1]; exact h6), T4_us (by show _ < q.2.2.1.length; rw [l3]; exact h6), T4_ua (by show _ < q.2.2.2.length; rw [l4]; exact h6)]
          exact ih n' _ _ _ _ _ hn' ⟨by rw [List.length_set]; exact l1, by rw [List.length_set]; exact l2, by rw [List.length_set]; exact l3, by rw [List.length_set]; exact l4⟩ h
      · rw [if_neg c3] at h ⊢
        obtain ⟨c5, h⟩ := yb_ite h
        rw [yb_ck_t c5]
        simp only [yb_let]
        rw [T4_ul (by rw [l2]; exact inb_lt c5)]
        exact ih n' _ _ _ _ _ hn' ⟨l1, by rw [List.length_set]; exact l2, l3, l4⟩ h
theorem p119_ok {N t0 z : Nat} {I0 : IT} {J : JT} (hN : 5 ≤ N) : ∀ (n n' : Nat) (x3 x4 : Int32) (q q' : L4), n ≤ n' → len4 q → p119 n x3 x4 q = some q' → f4_init_L119 N t0 z n' x3 x4 (T4 I0 z q) J = some ((), T4 I0 z q', J) := by
  intro n
  induction n with
  | zero => intro n' x3 x4 q q' hn hl h; rw [p119] at h; cases h
  | succ n ih =>
    intro n' x3 x4 q q' hn hl h
    obtain ⟨n', rfl⟩ : ∃ m, n' = m + 1 := ⟨n' - 1, by omega⟩
    rw [p119] at h
    rw [f4_init_L119]
    by_cases c1 : (65 : Int32) ≤ x4
    · rw [if_pos c1] at h ⊢; cases h; rfl
    · rw [if_neg c1] at h ⊢
      cases hp : p129 x4 5 x3 0 q with
      | none => rw [hp] at h; cases h
      | some r =>
        rw [hp] at h
        obtain ⟨g1, g2⟩ := p129_ok (N := N) (t0 := t0) (z := z) (I0 := I0) (J := J) 5 N x3 0 q r.1 r.2 hN hl hp
        rw [g1]
        simp only [yb_b3, yb_let]
        exact ih n' _ _ _ _ (by omega) g2 h
def lo4 : List Int32 := [1, 2, 3, 4, (-1), 5, 6, 7, 8, (-1), 9, 10, 11, 12, (-1), 13, 14, 15, 16, (-1), (-1), (-1), 17, 18, (-1), 19, (-1), 20, (-1), 21, 22, (-1), (-1), (-1), 23, 24, 25, (-1), (-1), 26, 27, (-1), 28, (-1), (-1), 29, (-1), 30, 31, (-1), (-1), 32, 33, 34, (-1), (-1), (-1), 35, 36, (-1), 37, (-1), 38, (-1), 39, 40, (-1), (-1), (-1), (-1), (-1), 41, (-1), (-1), 42, (-1), (-1), (-1), (-1), 43, (-1), 44, (-1), (-1), (-1), (-1), 45, (-1), (-1), 46, (-1), (-1), (-1), (-1), (-1), 47, (-1), (-1), 48, (-1), (-1), (-1), (-1), 49, 50, (-1), (-1), (-1), (-1), (-1), 51, (-1), 52, (-1), (-1), (-1), (-1), (-1), (-1), 53, (-1), 54, (-1), (-1), (-1), (-1), (-1), 55, 56, (-1), (-1), (-1), (-1), 57, (-1), (-1), 58, (-1), (-1), (-1), (-1), (-1), 59, (-1), (-1), 60, (-1), (-1), (-1), (-1), 61, (-1), 62, (-1), (-1), (-1), (-1), 63, (-1), (-1), 64, (-1), (-1), (-1), (-1), (-1), (-1), (-1), (-1), (-1), (-1), (-1), (-1), (-1), (-1), (-1), (-1), (-1), (-1), (-1), (-1), (-1), (-1), (-1), (-1), (-1), (-1), (-1), (-1), (-1), (-1), (-1), (-1), (-1), (-1), (-1), (-1), (-1), (-1), (-1), (-1), (-1), (-1), (-1), (-1), (-1), (-1), (-1), (-1), (-1), (-1), (-1), (-1), (-1), (-1), (-1), (-1), (-1), (-1), (-1), (-1), (-1), (-1), (-1), (-1), (-1), (-1), (-1), (-1), (-1), (-1), (-1), (-1), (-1), (-1), (-1), (-1), (-1), (-1), (-1), (-1), (-1), (-1), (-1), (-1), (-1), (-1), (-1), (-1), (-1), (-1), (-1), (-1), (-1), (-1), (-1), (-1), (-1), (-1), (-1)]
def sh4 : List Int32 := [0, 0, 0, 0, 0, 1, 1, 1, 2, 2, 2, 3, 3, 3, 4, 4, 4, 5, 5, 6, 6, 7, 7, 8, 8, 9, 9, 10, 10, 11, 11, 12, 12, 13, 13, 14, 14, 15, 15, 16, 16, 17, 18, 19, 20, 21, 22, 23, 24, 25, 26, 27, 28, 29, 30, 31, 32, 33, 34, 35, 36, 37, 38, 39, 40]
def la4 : List Int32 := [0, 0, 1, 2, 3, 1, 2, 3, 0, 2, 3, 0, 1, 3, 0, 1, 2, 2, 3, 1, 3, 1, 2, 2, 3, 0, 3, 0, 2, 1, 3, 0, 3, 0, 1, 1, 2, 0, 2, 0, 1, 3, 2, 3, 1, 2, 1, 3, 2, 3, 0, 2, 0, 3, 1, 3, 0, 1, 0, 2, 1, 2, 0, 1, 0]
def me4 : List Int32 := [0, 1, 2, 4, 8, 3, 5, 9, 3, 6, 10, 5, 6, 12, 9, 10, 12, 7, 11, 7, 13, 11, 13, 7, 11, 7, 14, 11, 14, 7, 13, 7, 14, 13, 14, 11, 13, 11, 14, 13, 14, 15, 15, 15, 15, 15, 15, 15, 15, 15, 15, 15, 15, 15, 15, 15, 15, 15, 15, 15, 15, 15, 15, 15, 15]
def ini4 : L4 := (List.replicate 65 0, List.replicate 260 0, List.replicate 65 0, List.replicate 65 0)
def end4 : L4 := (me4, lo4, sh4, la4)
theorem p119_run : p119 66 1 0 ini4 = some end4 := by decide +kernel
theorem T4_ini {I : IT} {z : Nat} (h0 : I z = fun _ => 0) (h1 : I (z + 1) = fun _ => 0) (h2 : I (z + 2) = fun _ => 0) (h3 : I (z + 13) = fun _ => 0) : T4 I z ini4 = I := by
  have hg : ∀ (n k : Nat), (List.replicate n (0 : Int32)).getD k 0 = 0 := fun n k => by
    rw [List.getD_eq_getElem?_getD, List.getElem?_replicate]; split <;> rfl
  funext a
  unfold T4 ini4
  split
  · rename_i h; rw [h, h3]; funext k; exact hg 65 k
  · split
    · rename_i h; rw [h, h0]; funext k; exact hg 260 k
    · split
      · rename_i h; rw [h, h1]; funext k; exact hg 65 k
      · split
        · rename_i h; rw [h, h2]; funext k; exact hg 65 k
        · rfl
/-- Rows(law), its loops done -/
def f4_init (t0 z x1 : Nat) (S : ST) (Rf : RT) (I : IT) (J : JT) : ST × RT × IT × JT :=
  ((f4_pre t0 z x1 S Rf I J).1, (f4_pre t0 z x1 S Rf I J).2.1, T4 (f4_pre t0 z x1 S Rf I J).2.2.1 z end4, (f4_pre t0 z x1 S Rf I J).2.2.2)
theorem pre4_I {t0 z x1 : Nat} {S : ST} {Rf : RT} {I : IT} {J : JT} : (f4_pre t0 z x1 S Rf I J).2.2.1 z = (fun _ => 0) ∧ (f4_pre t0 z x1 S Rf I J).2.2.1 (z + 1) = (fun _ => 0) ∧ (f4_pre t0 z x1 S Rf I J).2.2.1 (z + 2) = (fun _ => 0) ∧ (f4_pre t0 z x1 S Rf I J).2.2.1 (z + 13) = (fun _ => 0) := by
  simp [f4_pre, yb_let, va_up]
theorem c4_init (l : Launch) (D : va_G) (cz : Nat → ClassId) (ev : Nat × Nat × Nat) {t0 z n0 x1 : Nat} {L : List Nat} {S : ST} {Rf : RT} {I : IT} {J : JT} {S1 : ST} {Rf1 : RT} {I1 : IT} {J1 : JT} (ha : t0 ∈ L) (hS : S t0 = (11, n0)) (hf : f4_init t0 z x1 S Rf I J = (S1, Rf1, I1, J1)) : MA l D cz ev yX4_init cX4_init 7 1 40 14 1400 [.ref t0, .ref x1] z L S Rf I J S1 Rf1 I1 J1 := by
  cases hf
  obtain ⟨h0, h1, h2, h3⟩ := pre4_I (t0 := t0) (z := z) (x1 := x1) (S := S) (Rf := Rf) (I := I) (J := J)
  refine c4_pre l D cz ev (N := 100) (I0 := (f4_pre t0 z x1 S Rf I J).2.2.1) (J0 := (f4_pre t0 z x1 S Rf I J).2.2.2) ha hS rfl ?_
  have h := p119_ok (N := 100) (t0 := t0) (z := z) (I0 := (f4_pre t0 z x1 S Rf I J).2.2.1) (J := (f4_pre t0 z x1 S Rf I J).2.2.2) (by decide) 66 100 1 0 ini4 end4 (by decide) ⟨List.length_replicate, List.length_replicate, List.length_replicate, List.length_replicate⟩ p119_run
  rw [T4_ini h0 h1 h2 h3] at h
  exact h
theorem fS4 {t0 z x1 a : Nat} {S : ST} {Rf : RT} {I : IT} {J : JT} (h : a < z) : (f4_init t0 z x1 S Rf I J).1 a = S a := by
  have hne : ∀ k, a ≠ z + k := fun k => by omega
  have hn0 : a ≠ z := by omega
  simp [f4_init, f4_pre, yb_let, va_up, hn0, hne]
theorem fR4 {t0 z x1 a : Nat} {S : ST} {Rf : RT} {I : IT} {J : JT} (h : a < z) (ht : a ≠ t0) : (f4_init t0 z x1 S Rf I J).2.1 a = Rf a := by
  have hne : ∀ k, a ≠ z + k := fun k => by omega
  have hn0 : a ≠ z := by omega
  simp [f4_init, f4_pre, yb_let, va_up, up2R, hn0, hne, ht]
theorem fI4 {t0 z x1 a : Nat} {S : ST} {Rf : RT} {I : IT} {J : JT} (h : a < z) (_ht : a ≠ t0) : (f4_init t0 z x1 S Rf I J).2.2.1 a = I a := by
  have hne : ∀ k, a ≠ z + k := fun k => by omega
  have hn0 : a ≠ z := by omega
  simp [f4_init, f4_pre, yb_let, va_up, T4, hn0, hne]
theorem fJ4 {t0 z x1 a : Nat} {S : ST} {Rf : RT} {I : IT} {J : JT} (h : a < z) (_ht : a ≠ t0) : (f4_init t0 z x1 S Rf I J).2.2.2 a = J a := by
  have hne : ∀ k, a ≠ z + k := fun k => by omega
  have hn0 : a ≠ z := by omega
  simp [f4_init, f4_pre, yb_let, va_up, hn0, hne]
theorem fr4 {t0 z x1 : Nat} {S : ST} {Rf : RT} {I : IT} {J : JT} (a : Nat) (h : a < z) : (f4_init t0 z x1 S Rf I J).1 a = S a ∧ (a ≠ t0 → (f4_init t0 z x1 S Rf I J).2.1 a = Rf a ∧ (f4_init t0 z x1 S Rf I J).2.2.1 a = I a ∧ (f4_init t0 z x1 S Rf I J).2.2.2 a = J a) := ⟨fS4 h, fun ht => ⟨fR4 h ht, fI4 h ht, fJ4 h ht⟩⟩
