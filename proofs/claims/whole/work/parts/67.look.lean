/-! LOOK -/
def ptN (p : Nat) (x : Hit) : Nat := if p = 0 then x.1 else if p = 1 then x.2.1 else x.2.2
/-- m is how many are alike at most -/
def IsMx (m : Nat) (pt : Hit → Nat) (l : List Hit) : Prop := m ≤ 427 ∧ (∀ x ∈ l, l.countP (fun y => pt y == pt x) ≤ m) ∧ (m = 0 ∨ ∃ x ∈ l, l.countP (fun y => pt y == pt x) = m)
theorem IsMx.uniq {m m1 : Nat} {pt : Hit → Nat} {l : List Hit} (h : IsMx m pt l) (g : IsMx m1 pt l) : m = m1 := by
  obtain ⟨_, h1, h2⟩ := h
  obtain ⟨_, g1, g2⟩ := g
  have a : m ≤ m1 := by
    rcases h2 with q | ⟨x, hx, e⟩
    · omega
    · have := g1 x hx; omega
  have c : m1 ≤ m := by
    rcases g2 with q | ⟨x, hx, e⟩
    · omega
    · have := h1 x hx; omega
  omega
theorem SvM.congr2 {mb : Nat} {l : List Hit} {I I1 : IT} (h : SvM mb l I) (h38 : I1 mb 38 = I mb 38) (h22 : I1 (mb + 22) = I (mb + 22)) (h23 : I1 (mb + 23) = I (mb + 23)) : SvM mb l I1 :=
  ⟨h38.trans h.1, fun k x hk => by rw [h22, h23]; exact h.2 k x hk⟩
theorem SameM.al {mb : Nat} {A : IT} {y : Int32} {k : Nat} : SameM mb A (up2 A (mb + 24) k y) :=
  ⟨⟨by simp [up2], by simp [up2], by simp [up2], by simp [up2], by simp [up2]⟩, fun i hi => by rw [up2_ne _ _ _ (by omega)]⟩
theorem al_fill {N b mb P C D M K c p : Nat} {L : List Nat} {S : ST} {Rf : RT} {I I0' : IT} {Rl : Nat → List (List Tk × Option (List Tk))} (hN : 1000 ≤ N) (h0 : RelB b mb L S Rf I I0' P C D M K Rl) (hc : c < C) {l : List Hit} (hL : SvL P (fun j d => rgtC (I0' (mb + 10)) (I0' mb 21) Rl c j (nI d) 0 0) l) (hl : l.length ≤ 427) (hp : p ≤ 2) :
    ∀ l2 l1 n (I' : IT) (J' : JT), l = l1 ++ l2 → l2.length < n → SameM mb I0' I' → SvM mb l I' → (∀ k x, l1[k]? = some x → I' (mb + 24) k = nI (ptN p x)) → ∃ I1' J1', f12_alikeBy_L2 N mb (nI c) (nI p) n (nI l1.length) I' J' = some ((), I1', J1') ∧ SameM mb I0' I1' ∧ SvM mb l I1' ∧ ∀ k x, l[k]? = some x → I1' (mb + 24) k = nI (ptN p x) := by
  intro l2
  induction l2 with
  | nil =>
    intro l1 n I' J' e hn hs hm h24
    obtain ⟨n, rfl⟩ : ∃ q, n = q + 1 := ⟨n - 1, by simp at hn; omega⟩
    rw [List.append_nil] at e
    subst e
    rw [f12_alikeBy_L2, hm.1, if_pos (nI_le (Nat.le_refl _) (by omega))]
    exact ⟨_, _, rfl, hs, hm, h24⟩
  | cons x l2 ih =>
    intro l1 n I' J' e hn hs hm h24
    obtain ⟨n, rfl⟩ : ∃ q, n = q + 1 := ⟨n - 1, by simp at hn; omega⟩
    have hlen : l.length = l1.length + (l2.length + 1) := by rw [e]; simp
    have hx : l[l1.length]? = some x := by rw [e]; simp
    have hxm : x ∈ l := by rw [e]; simp
    obtain ⟨x1, x2, x3, x4⟩ := hL x hxm
    have go : ∀ (A : IT) (B : JT), (∀ q k, (q ≠ mb ∨ k ≠ 18) → A q k = I' q k) → ∃ I1' J1', f12_alikeBy_L2 N mb (nI c) (nI p) n (nI (l1.length + 1)) (up2 A (mb + 24) l1.length (nI (ptN p x))) B = some ((), I1', J1') ∧ SameM mb I0' I1' ∧ SvM mb l I1' ∧ ∀ k x, l[k]? = some x → I1' (mb + 24) k = nI (ptN p x) := by
      intro A B hA
      have := ih (l1 ++ [x]) n (up2 A (mb + 24) l1.length (nI (ptN p x))) B (by rw [e]; simp) (by simp at hn; omega) ((hs.tr (SameM.top hA)).tr SameM.al) ((hm.congr hA).congr2 (up2_at (Or.inl (by omega))) (up2_ne _ _ _ (by omega)) (up2_ne _ _ _ (by omega))) (fun k y hk => by
        by_cases ck : k = l1.length
        · subst ck
          simp at hk
          subst hk
          exact up2_same _ _ _ _
        · rw [up2_at (Or.inr ck), hA _ _ (Or.inl (by omega))]
          apply h24
          rcases Nat.lt_or_ge k l1.length with q | q
          · rw [List.getElem?_append_left q] at hk; exact hk
          · rw [List.getElem?_append_right q] at hk
            obtain ⟨m, hm⟩ : ∃ m, k - l1.length = m + 1 := ⟨k - l1.length - 1, by omega⟩
            rw [hm] at hk
            simp at hk)
      rw [List.length_append] at this
      exact this
    obtain ⟨y1, y2⟩ := hm.2 _ _ hx
    rw [f12_alikeBy_L2, hm.1, if_neg (nI_ge (by omega) (by omega)), yb_ck_t (inb_nI (by omega) (by decide)), yb_ck_t (inb_nI (by omega) (by decide)), yb_ck_t (inb_nI (by omega) (by decide)), nI_clamp (by omega), y1, y2]
    obtain rfl | rfl | rfl : p = 0 ∨ p = 1 ∨ p = 2 := by omega
    · rw [if_pos (show nI 0 = 0 from rfl), lts, lts, nI_1]
      exact go I' J' (fun _ _ _ => rfl)
    · rw [if_neg (show ¬ nI 1 = 0 by decide), if_pos (show nI 1 = 1 from rfl), lts, lts, nI_1]
      exact go I' J' (fun _ _ _ => rfl)
    · obtain ⟨A, B, f1, f2⟩ := q12_rightThen (J' := J') hN (h0.keep (Same.rf b I) hs) hc x1 (d := nI x.2.1)
      have x4' : rgtC (I' (mb + 10)) (I' mb 21) Rl c x.1 (nI x.2.1) 0 0 = nI x.2.2 := by rw [hs.v, hs.fo]; exact x4
      rw [x4'] at f1
      rw [if_neg (show ¬ nI 2 = 0 by decide), if_neg (show ¬ nI 2 = 1 by decide), f1, b3s, lts, lts, nI_1]
      exact go A B f2
section ALIKE
variable {N mb : Nat} {I' : IT} {J' : JT} {l : List Hit} {pt : Hit → Nat}
theorem al_cnt {i : Nat} {y : Hit} {x3 : Int32} (e38 : I' mb 38 = nI l.length) (hl : l.length ≤ 427) (h24 : ∀ k x, l[k]? = some x → I' (mb + 24) k = nI (pt x)) (hp : ∀ x ∈ l, pt x < 1000) (hi : l[i]? = some y) : ∀ l2 l1 acc n, l = l1 ++ l2 → l2.length < n → f12_alikeBy_L86 N mb x3 (nI i) n (nI acc) (nI l1.length) I' J' = some (nI (acc + l2.countP (fun x => pt x == pt y)), I', J') := by
  have hiL : i < l.length := by
    rcases Nat.lt_or_ge i l.length with q | q
    · exact q
    · rw [List.getElem?_eq_none q] at hi; cases hi
  have hy : y ∈ l := List.mem_of_getElem? hi
  intro l2
  induction l2 with
  | nil =>
    intro l1 acc n e hn
    obtain ⟨n, rfl⟩ : ∃ q, n = q + 1 := ⟨n - 1, by simp at hn; omega⟩
    rw [List.append_nil] at e
    subst e
    rw [f12_alikeBy_L86, e38, if_pos (nI_le (Nat.le_refl _) (by omega))]
    rfl
  | cons x l2 ih =>
    intro l1 acc n e hn
    obtain ⟨n, rfl⟩ : ∃ q, n = q + 1 := ⟨n - 1, by simp at hn; omega⟩
    have hlen : l.length = l1.length + (l2.length + 1) := by rw [e]; simp
    have hx : l[l1.length]? = some x := by rw [e]; simp
    have hxm : x ∈ l := by rw [e]; simp
    have go : ∀ a, f12_alikeBy_L86 N mb x3 (nI i) n (nI a) (nI (l1.length + 1)) I' J' = some (nI (a + l2.countP (fun x => pt x == pt y)), I', J') := by
      intro a
      have := ih (l1 ++ [x]) a n (by rw [e]; simp) (by simp at hn; omega)
      rw [List.length_append] at this
      exact this
    have p1 := hp x hxm
    have p2 := hp y hy
    rw [f12_alikeBy_L86, e38, if_neg (nI_ge (by omega) (by omega)), yb_ck_t (inb_nI (by omega) (by decide)), yb_ck_t (inb_nI (by omega) (by decide)), nI_clamp (by omega), nI_clamp (by omega), h24 _ _ hx, h24 _ _ hi, List.countP_cons]
    by_cases c : pt x = pt y
    · rw [c, if_pos rfl, lts, lts, nI_1, nI_1, go]
      simp
      congr 1; omega
    · rw [if_neg (fun q => c ((nI_eq (by omega) (by omega)).mp q)), lts, lts, nI_1, Int32.add_zero, go]
      simp [c]
theorem al_max (hN : 1000 ≤ N) (e38 : I' mb 38 = nI l.length) (hl : l.length ≤ 427) (h24 : ∀ k x, l[k]? = some x → I' (mb + 24) k = nI (pt x)) (hp : ∀ x ∈ l, pt x < 1000) : ∀ l2 l1 m n, l = l1 ++ l2 → l2.length < n → m ≤ 427 → ∃ m', f12_alikeBy_L71 N mb n (nI m) (nI l1.length) I' J' = some (nI m', I', J') ∧ m ≤ m' ∧ m' ≤ 427 ∧ (∀ x ∈ l2, l.countP (fun y => pt y == pt x) ≤ m') ∧ (m' = m ∨ ∃ x ∈ l2, l.countP (fun y => pt y == pt x) = m') := by
  intro l2
  induction l2 with
  | nil =>
    intro l1 m n e hn hm
    obtain ⟨n, rfl⟩ : ∃ q, n = q + 1 := ⟨n - 1, by simp at hn; omega⟩
    rw [List.append_nil] at e
    subst e
    rw [f12_alikeBy_L71, e38, if_pos (nI_le (Nat.le_refl _) (by omega))]
    exact ⟨m, rfl, Nat.le_refl _, hm, fun x hx => (by cases hx), Or.inl rfl⟩
  | cons x l2 ih =>
    intro l1 m n e hn hm
    obtain ⟨n, rfl⟩ : ∃ q, n = q + 1 := ⟨n - 1, by simp at hn; omega⟩
    have hlen : l.length = l1.length + (l2.length + 1) := by rw [e]; simp
    have hx : l[l1.length]? = some x := by rw [e]; simp
    have hcl : l.countP (fun y => pt y == pt x) ≤ l.length := List.countP_le_length
    have hcnt := al_cnt (N := N) (J' := J') (x3 := nI m) e38 hl h24 hp hx l [] 0 N (by simp) (by omega)
    rw [show nI ([] : List Hit).length = (0 : Int32) from rfl, show nI 0 = (0 : Int32) from rfl, Nat.zero_add] at hcnt
    have go : ∀ a, a ≤ 427 → ∃ m', f12_alikeBy_L71 N mb n (nI a) (nI (l1.length + 1)) I' J' = some (nI m', I', J') ∧ a ≤ m' ∧ m' ≤ 427 ∧ (∀ x ∈ l2, l.countP (fun y => pt y == pt x) ≤ m') ∧ (m' = a ∨ ∃ x ∈ l2, l.countP (fun y => pt y == pt x) = m') := by
      intro a ha
      have := ih (l1 ++ [x]) a n (by rw [e]; simp) (by simp at hn; omega) ha
      rw [List.length_append] at this
      exact this
    rw [f12_alikeBy_L71, e38, if_neg (nI_ge (by omega) (by omega)), hcnt, b3s]
    by_cases cc : l.countP (fun y => pt y == pt x) ≤ m
    · rw [if_pos (nI_le cc (by omega)), lts, nI_1]
      obtain ⟨m', g1, g2, g3, g4, g5⟩ := go m hm
      refine ⟨m', g1, g2, g3, fun y hy => ?_, ?_⟩
      · rcases List.mem_cons.mp hy with rfl | q
        · omega
        · exact g4 y q
      · rcases g5 with q | ⟨y, hy, q⟩
        · exact Or.inl q
        · exact Or.inr ⟨y, List.mem_cons_of_mem _ hy, q⟩
    · rw [if_neg (nI_ge (by omega) (by omega)), lts, nI_1]
      obtain ⟨m', g1, g2, g3, g4, g5⟩ := go _ (Nat.le_trans hcl hl)
      refine ⟨m', g1, by omega, g3, fun y hy => ?_, ?_⟩
      · rcases List.mem_cons.mp hy with rfl | q
        · omega
        · exact g4 y q
      · rcases g5 with q | ⟨y, hy, q⟩
        · exact Or.inr ⟨x, List.mem_cons_self, q.symm⟩
        · exact Or.inr ⟨y, List.mem_cons_of_mem _ hy, q⟩
end ALIKE
theorem q_alike {N b mb P C D M K c p m : Nat} {L : List Nat} {S : ST} {Rf : RT} {I I0' I' : IT} {J' : JT} {Rl : Nat → List (List Tk × Option (List Tk))} (hN : 1000 ≤ N) (h0 : RelB b mb L S Rf I I0' P C D M K Rl) (hc : c < C) {l : List Hit} (hL : SvL P (fun j d => rgtC (I0' (mb + 10)) (I0' mb 21) Rl c j (nI d) 0 0) l) (hl : l.length ≤ 427) (hp : p ≤ 2) (hx : IsMx m (ptN p) l) (hs : SameM mb I0' I') (hm : SvM mb l I') : ∃ I1' J1', f12_alikeBy N mb (nI c) (nI p) I' J' = some (nI m, I1', J1') ∧ SameM mb I0' I1' ∧ SvM mb l I1' := by
  have h7 := co_P7 h0.core
  obtain ⟨A, B, e1, e2, e3, e4⟩ := al_fill hN h0 hc hL hl hp l [] N I' J' (by simp) (by omega) hs hm (fun k x hk => by simp at hk)
  have hpt : ∀ x ∈ l, ptN p x < 1000 := fun x hx => by
    obtain ⟨x1, x2, x3, x4⟩ := hL x hx
    unfold ptN
    split
    · omega
    · split <;> omega
  obtain ⟨m', g1, g2, g3, g4, g5⟩ := al_max (N := N) (J' := B) hN e3.1 hl e4 hpt l [] 0 N (by simp) (by omega) (by omega)
  rw [show nI ([] : List Hit).length = (0 : Int32) from rfl] at e1 g1
  rw [show nI 0 = (0 : Int32) from rfl] at g1
  have : m = m' := hx.uniq ⟨g3, g4, g5⟩
  subst this
  unfold f12_alikeBy
  rw [e1, b3s, g1, b3s]
  exact ⟨A, B, rfl, e2, e3⟩
theorem most_LL {N b t n0 : Nat} {S : ST} {Rf : RT} {I : IT} {J : JT} {cN : Nat → Nat} (hn0 : n0 < 1000) (h : ∀ i, i < n0 → I t i = nI (cN i)) (hb : ∀ i, i < n0 → cN i ≤ 427) : ∀ r k n m, k + r = n0 → r < n → m ≤ 427 → ∃ m', f7_most_L4 N b S Rf t n0 n (nI m) (nI k) I J = some (nI m', I, J) ∧ m ≤ m' ∧ m' ≤ 427 ∧ (∀ i, k ≤ i → i < n0 → cN i ≤ m') ∧ (m' = m ∨ ∃ i, i < n0 ∧ cN i = m') := by
  intro r
  induction r with
  | zero =>
    intro k n m hk hn hm
    obtain ⟨n, rfl⟩ : ∃ q, n = q + 1 := ⟨n - 1, by omega⟩
    rw [f7_most_L4, if_pos (nI_le (by omega) (by omega))]
    exact ⟨m, rfl, Nat.le_refl _, hm, fun i h1 h2 => by omega, Or.inl rfl⟩
  | succ r ih =>
    intro k n m hk hn hm
    obtain ⟨n, rfl⟩ : ∃ q, n = q + 1 := ⟨n - 1, by omega⟩
    have hk1 := hb k (by omega)
    rw [f7_most_L4, if_neg (nI_ge (by omega) (by omega)), yb_ck_t (inb_nI (by omega) (by omega)), nI_clamp (by omega), h k (by omega)]
    by_cases cc : m < cN k
    · rw [if_pos (nI_lt cc (by omega)), lts, lts, nI_1]
      obtain ⟨m', g1, g2, g3, g4, g5⟩ := ih (k + 1) n (cN k) (by omega) (by omega) hk1
      refine ⟨m', g1, by omega, g3, fun i h1 h2 => ?_, ?_⟩
      · rcases Nat.eq_or_lt_of_le h1 with rfl | h3
        · exact g2
        · exact g4 i (by omega) h2
      · rcases g5 with q | q
        · exact Or.inr ⟨k, by omega, q.symm⟩
        · exact Or.inr q
    · rw [if_neg (nI_nlt (by omega) (by omega)), lts, lts, nI_1]
      obtain ⟨m', g1, g2, g3, g4, g5⟩ := ih (k + 1) n m (by omega) (by omega) hm
      refine ⟨m', g1, g2, g3, fun i h1 h2 => ?_, g5⟩
      rcases Nat.eq_or_lt_of_le h1 with rfl | h3
      · omega
      · exact g4 i (by omega) h2
theorem q_most {N b t n0 : Nat} {S : ST} {Rf : RT} {I : IT} {J : JT} {l : List Hit} {pt : Hit → Nat} (hN : 1000 ≤ N) (hn0 : n0 < 1000) (hl : l.length ≤ 427) (h : ∀ i, i < n0 → I t i = nI (l.countP (fun x => pt x == i))) (hp : ∀ x ∈ l, pt x < n0) : ∃ m, f7_most N b S Rf t n0 I J = some (nI m, I, J) ∧ IsMx m pt l := by
  have hb : ∀ i, i < n0 → l.countP (fun x => pt x == i) ≤ 427 := fun i _ => Nat.le_trans List.countP_le_length hl
  obtain ⟨m, g1, g2, g3, g4, g5⟩ := most_LL (N := N) (b := b) (S := S) (Rf := Rf) (J := J) hn0 h hb n0 0 N 0 (by omega) (by omega) (by omega)
  unfold f7_most
  rw [show nI 0 = (0 : Int32) from rfl] at g1
  rw [g1, b3s]
  refine ⟨m, rfl, g3, fun x hx => g4 (pt x) (Nat.zero_le _) (hp x hx), ?_⟩
  rcases g5 with q | ⟨i, hi, q⟩
  · exact Or.inl q
  · rcases Nat.eq_zero_or_pos m with z | z
    · exact Or.inl z
    · rw [← q] at z
      obtain ⟨x, hx, ex⟩ := List.countP_pos_iff.mp z
      have ex' : pt x = i := by simpa using ex
      exact Or.inr ⟨x, hx, by rw [ex']; exact q⟩
theorem look_ref {N b mb P C D M K c n m0 m1 m2 : Nat} {L : List Nat} {S : ST} {Rf : RT} {I I0' I' : IT} {J' : JT} {y : Int32} {Rl : Nat → List (List Tk × Option (List Tk))} (hN : 1000 ≤ N) (h0 : RelB b mb L S Rf I I0' P C D M K Rl) (hc : c < C) {l : List Hit} (hL : SvL P (fun j d => rgtC (I0' (mb + 10)) (I0' mb 21) Rl c j (nI d) 0 0) l) (hl : l.length ≤ 427) (x0 : IsMx m0 (ptN 0) l) (x1 : IsMx m1 (ptN 1) l) (x2 : IsMx m2 (ptN 2) l) (hs : SameM mb I0' I') (hm : SvM mb l I') :
    ∃ I1' J1', f12_look_L40 N mb (nI c) y (n + 3) 0 1 I' J' = some (nI (if m0 ≤ m1 then (if m0 ≤ m2 then 0 else 2) else (if m1 ≤ m2 then 1 else 2)), I1', J1') ∧ SameM mb I0' I1' ∧ SvM mb l I1' := by
  have b0 := x0.1
  have b1 := x1.1
  have b2 := x2.1
  obtain ⟨A1, B1, e1, s1, t1⟩ := q_alike (p := 1) (J' := J') hN h0 hc hL hl (by omega) x1 hs hm
  obtain ⟨A2, B2, e2, s2, t2⟩ := q_alike (p := 0) (J' := B1) hN h0 hc hL hl (by omega) x0 s1 t1
  obtain ⟨A3, B3, e3, s3, t3⟩ := q_alike (p := 2) (J' := B2) hN h0 hc hL hl (by omega) x2 s2 t2
  rw [show nI 1 = (1 : Int32) from rfl] at e1
  rw [show nI 0 = (0 : Int32) from rfl] at e2
  rw [show nI 2 = (2 : Int32) from rfl] at e3
  rw [f12_look_L40, if_neg (show ¬ (3 : Int32) ≤ 1 by decide), e1, b3s, e2, b3s]
  by_cases c1 : m0 ≤ m1
  · obtain ⟨A4, B4, e4, s4, t4⟩ := q_alike (p := 0) (J' := B3) hN h0 hc hL hl (by omega) x0 s3 t3
    rw [show nI 0 = (0 : Int32) from rfl] at e4
    rw [if_pos (nI_le c1 (by omega)), if_pos c1, lts, show (1 : Int32) + 1 = 2 from rfl, f12_look_L40, if_neg (show ¬ (3 : Int32) ≤ 2 by decide), e3, b3s, e4, b3s]
    by_cases c2 : m0 ≤ m2
    · rw [if_pos (nI_le c2 (by omega)), if_pos c2, lts, show (2 : Int32) + 1 = 3 from rfl, f12_look_L40, if_pos (show (3 : Int32) ≤ 3 by decide)]
      exact ⟨_, _, rfl, s4, t4⟩
    · rw [if_neg (nI_ge (by omega) (by omega)), if_neg c2, lts, show (2 : Int32) + 1 = 3 from rfl, f12_look_L40, if_pos (show (3 : Int32) ≤ 3 by decide)]
      exact ⟨_, _, rfl, s4, t4⟩
  · obtain ⟨A4, B4, e4, s4, t4⟩ := q_alike (p := 1) (J' := B3) hN h0 hc hL hl (by omega) x1 s3 t3
    rw [show nI 1 = (1 : Int32) from rfl] at e4
    rw [if_neg (nI_ge (by omega) (by omega)), if_neg c1, lts, show (1 : Int32) + 1 = 2 from rfl, f12_look_L40, if_neg (show ¬ (3 : Int32) ≤ 2 by decide), e3, b3s, e4, b3s]
    by_cases c2 : m1 ≤ m2
    · rw [if_pos (nI_le c2 (by omega)), if_pos c2, lts, show (2 : Int32) + 1 = 3 from rfl, f12_look_L40, if_pos (show (3 : Int32) ≤ 3 by decide)]
      exact ⟨_, _, rfl, s4, t4⟩
    · rw [if_neg (nI_ge (by omega) (by omega)), if_neg c2, lts, show (2 : Int32) + 1 = 3 from rfl, f12_look_L40, if_pos (show (3 : Int32) ≤ 3 by decide)]
      exact ⟨_, _, rfl, s4, t4⟩
theorem look_cls {N b m0 m1 m2 : Nat} {S : ST} {Rf : RT} {I : IT} {J : JT} {x : Int32} (hz : ¬ I (b + 48) 4 = 0) (b0 : m0 ≤ 427) (b1 : m1 ≤ 427) (b2 : m2 ≤ 427) (e0 : f7_most N b S Rf (b + 49) 7 I J = some (nI m0, I, J)) (e1 : f7_most N b S Rf (b + 50) 61 I J = some (nI m1, I, J)) (e2 : f7_most N b S Rf (b + 51) 101 I J = some (nI m2, I, J)) : f7_part N b S Rf x I J = some (if x = 0 then nI (if m0 ≤ m1 then (if m0 ≤ m2 then m0 else m2) else (if m1 ≤ m2 then m1 else m2)) else nI (if m0 ≤ m1 then (if m0 ≤ m2 then 0 else 2) else (if m1 ≤ m2 then 1 else 2)), I, J) := by
  unfold f7_part
  rw [if_neg hz, e0, b3s, e1, b3s]
  by_cases c1 : m0 ≤ m1
  · rw [if_pos (nI_le c1 (by omega)), if_pos c1, if_pos c1, e2, b3s]
    by_cases c2 : m0 ≤ m2
    · rw [if_pos (nI_le c2 (by omega)), if_pos c2, if_pos c2]
      by_cases c3 : x = 0
      · rw [if_pos c3, if_pos c3]
      · rw [if_neg c3, if_neg c3]; rfl
    · rw [if_neg (nI_ge (by omega) (by omega)), if_neg c2, if_neg c2, e2, b3s]
      by_cases c3 : x = 0
      · rw [if_pos c3, if_pos c3]
      · rw [if_neg c3, if_neg c3]; rfl
  · rw [if_neg (nI_ge (by omega) (by omega)), if_neg c1, if_neg c1, e1, b3s, e2, b3s]
    by_cases c2 : m1 ≤ m2
    · rw [if_pos (nI_le c2 (by omega)), if_pos c2, if_pos c2]
      by_cases c3 : x = 0
      · rw [if_pos c3, if_pos c3]
      · rw [if_neg c3, if_neg c3]; rfl
    · rw [if_neg (nI_ge (by omega) (by omega)), if_neg c2, if_neg c2, e2, b3s]
      by_cases c3 : x = 0
      · rw [if_pos c3, if_pos c3]
      · rw [if_neg c3, if_neg c3]; rfl
theorem G_look {N : Nat} (hN : 1000 ≤ N) : Gd_look N RelY := by
  intro b mb L S Rf I J I' J' x1 x2 hR
  obtain ⟨P, C, D, M, K, Rl, h⟩ := hR
  have hc := h.core
  have h7 := co_P7 hc
  have hh : ∀ r, ∃ (r_1 : Int32) (I1 : IT) (J1 : JT) (I1' : IT) (J1' : JT), some (r, I, J) = some (r_1, I1, J1) ∧ some (r, I', J') = some (r_1, I1', J1') ∧ RelY b mb L S Rf I1 J1 I1' J1' := fun r => ⟨r, I, J, I', J', rfl, rfl, P, C, D, M, K, Rl, h⟩
  unfold f11_look f12_look
  rcases co_isCase (J := J) (J' := J') (S := S) (Rf := Rf) hc x1 with ⟨a1, a2⟩ | ⟨c, hcC, rfl, a1, a2⟩
  · rw [a1, a2, b3s, b3s, if_pos rfl, if_pos rfl]; exact hh _
  · rw [a1, a2, b3s, b3s, if_neg i10, if_neg i10, l_inc (a := 0) (c := 1) 0 1 rfl rfl, b3s]
    by_cases hk : ∃ k, k ≤ 1 ∧ x2 = nI k
    · obtain ⟨k, hk, rfl⟩ := hk
      obtain ⟨l, A, JA, A', JA', e1, e2, e3, e4, e5, e6, e7, e8⟩ := sv_all (N := N) (J := J) (J' := J') hN h hcC
      rw [rngY (hi := 1) 1 rfl (by omega) hk, if_neg i10, if_neg (nI_pos (by omega)), if_pos (show nI k ≤ (1 : Int32) from nI_le (b := 1) hk (by omega)), e1, e2, b3s, b3s, e6.1]
      obtain ⟨g4, g5, g6, g7, g49, g50, g51⟩ := e7
      by_cases cl : l = []
      · subst cl
        have h2 := h.keep e3 e4
        have z : A (b + 48) 4 = 0 := g4
        have hpart : ∀ x, f7_part N b S Rf x A JA = some (-2, A, JA) := fun x => by unfold f7_part; rw [if_pos z]
        rw [hpart, hpart, b3s, if_pos (show nI ([] : List Hit).length = 0 from rfl)]
        by_cases ck : nI k = 0
        · rw [if_pos ck]; exact ⟨_, _, _, _, _, rfl, rfl, P, C, D, M, K, Rl, h2⟩
        · rw [if_neg ck]; exact ⟨_, _, _, _, _, rfl, rfl, P, C, D, M, K, Rl, h2⟩
      · have hl0 : 0 < l.length := List.length_pos_iff.mpr cl
        have hz : ¬ A (b + 48) 4 = 0 := by rw [g4]; exact nI_ne0 hl0 (by omega)
        obtain ⟨m0, q0, y0⟩ := q_most (N := N) (b := b) (S := S) (Rf := Rf) (J := JA) hN (by omega) e8 g49 (fun x hx => by have := (e5 x hx).1; omega)
        obtain ⟨m1, q1, y1⟩ := q_most (N := N) (b := b) (S := S) (Rf := Rf) (J := JA) hN (by omega) e8 g50 (fun x hx => (e5 x hx).2.1)
        obtain ⟨m2, q2, y2⟩ := q_most (N := N) (b := b) (S := S) (Rf := Rf) (J := JA) hN (by omega) e8 g51 (fun x hx => (e5 x hx).2.2.1)
        have hpart : ∀ x, _ := fun x => look_cls (x := x) hz y0.1 y1.1 y2.1 q0 q1 q2
        obtain ⟨n, hn⟩ : ∃ n, N = n + 3 := ⟨N - 3, by omega⟩
        obtain ⟨B', JB', w1, w2, w3⟩ := look_ref (n := n) (y := nI k) (J' := JA') hN h hcC e5 e8 y0 y1 y2 e4 e6
        rw [← hn] at w1
        rw [hpart, hpart, b3s, b3s, if_neg (nI_ne0 hl0 (by omega)), w1, b3s, if_neg i10, if_pos rfl]
        by_cases ck : nI k = 0
        · rw [if_pos ck, if_pos ck]; exact ⟨_, _, _, _, _, rfl, rfl, P, C, D, M, K, Rl, h.keep e3 w2⟩
        · rw [if_neg ck, if_neg ck]
          by_cases c1 : m0 ≤ m1
          · by_cases c2 : m0 ≤ m2
            · obtain ⟨E', JE', u1, u2, u3⟩ := q_alike (p := 0) (J' := JB') hN h hcC e5 e8 (by omega) y0 w2 w3
              rw [if_pos c1, if_pos c1, if_pos c2, if_pos c2, u1, b3s]
              exact ⟨_, _, _, _, _, rfl, rfl, P, C, D, M, K, Rl, h.keep e3 u2⟩
            · obtain ⟨E', JE', u1, u2, u3⟩ := q_alike (p := 2) (J' := JB') hN h hcC e5 e8 (by omega) y2 w2 w3
              rw [if_pos c1, if_pos c1, if_neg c2, if_neg c2, u1, b3s]
              exact ⟨_, _, _, _, _, rfl, rfl, P, C, D, M, K, Rl, h.keep e3 u2⟩
          · by_cases c2 : m1 ≤ m2
            · obtain ⟨E', JE', u1, u2, u3⟩ := q_alike (p := 1) (J' := JB') hN h hcC e5 e8 (by omega) y1 w2 w3
              rw [if_neg c1, if_neg c1, if_pos c2, if_pos c2, u1, b3s]
              exact ⟨_, _, _, _, _, rfl, rfl, P, C, D, M, K, Rl, h.keep e3 u2⟩
            · obtain ⟨E', JE', u1, u2, u3⟩ := q_alike (p := 2) (J' := JB') hN h hcC e5 e8 (by omega) y2 w2 w3
              rw [if_neg c1, if_neg c1, if_neg c2, if_neg c2, u1, b3s]
              exact ⟨_, _, _, _, _, rfl, rfl, P, C, D, M, K, Rl, h.keep e3 u2⟩
    · have hn : ∀ d, d ≤ 1 → x2 ≠ nI d := fun d hd e => hk ⟨d, hd, e⟩
      rw [rngN (hi := 1) 1 rfl hn, if_pos rfl]
      by_cases c0 : x2 < 0
      · rw [if_pos c0]; exact hh _
      · rw [if_neg c0, if_neg (fun q => by obtain ⟨d, hd, e⟩ := nI_of2 (M := 1) (n := 1) rfl c0 q; exact hn d hd e)]; exact hh _
