/-! THE CORE: town and course of both sides, and the readers of both as one word of the picture -/
def CoreR (b mb : Nat) (I I' : IT) (P C D : Nat) : Prop := SaidOK (I' (mb + 10)) P C D ∧ TownR (fun k => I (b + 5 + k)) (I' (mb + 10)) P C ∧ CourseR (fun k => I (b + 14 + k)) (I' (mb + 10)) P C
theorem b3s {α β : Type} {a : α} {I : IT} {J : JT} {k : α → IT → JT → Option β} : yb_b3 (some (a, I, J)) k = k a I J := rfl
theorem lts {α β : Type} {a : α} {k : α → β} : yb_let a k = k a := rfl
theorem sml {α β γ : Type} {a : α} {f : α → γ} {g : β → γ} : yb_sm (.inl a) f g = f a := rfl
theorem smr {α β γ : Type} {x : β} {f : α → γ} {g : β → γ} : yb_sm (.inr x) f g = g x := rfl
theorem opn {β : Type} {f : Unit → Option β} {g : Nat → Option β} : yb_op none f g = f () := rfl
theorem ops {β : Type} {q : Nat} {f : Unit → Option β} {g : Nat → Option β} : yb_op (some q) f g = g q := rfl
theorem k12_c0 {mb c : Nat} {I : IT} {J : JT} (hc : c < 6) : f12_caseOf mb (nI c) (0 : Int32) I J = some (I (mb + 10) (45 + 11 * c), I, J) := by
  have h := q12_caseOf (mb := mb) (I := I) (J := J) (k := 0) hc (by omega)
  rw [show 45 + 11 * c + 0 = 45 + 11 * c by omega] at h
  exact h
theorem k12_c1 {mb c : Nat} {I : IT} {J : JT} (hc : c < 6) : f12_caseOf mb (nI c) (1 : Int32) I J = some (I (mb + 10) (46 + 11 * c), I, J) := by
  have h := q12_caseOf (mb := mb) (I := I) (J := J) (k := 1) hc (by omega)
  rw [show 45 + 11 * c + 1 = 46 + 11 * c by omega] at h
  exact h
theorem k12_c2 {mb c : Nat} {I : IT} {J : JT} (hc : c < 6) : f12_caseOf mb (nI c) (2 : Int32) I J = some (I (mb + 10) (47 + 11 * c), I, J) := by
  have h := q12_caseOf (mb := mb) (I := I) (J := J) (k := 2) hc (by omega)
  rw [show 45 + 11 * c + 2 = 47 + 11 * c by omega] at h
  exact h
theorem k12_c3 {mb c : Nat} {I : IT} {J : JT} (hc : c < 6) : f12_caseOf mb (nI c) (3 : Int32) I J = some (I (mb + 10) (48 + 11 * c), I, J) := by
  have h := q12_caseOf (mb := mb) (I := I) (J := J) (k := 3) hc (by omega)
  rw [show 45 + 11 * c + 3 = 48 + 11 * c by omega] at h
  exact h
theorem k12_c4 {mb c : Nat} {I : IT} {J : JT} (hc : c < 6) : f12_caseOf mb (nI c) (4 : Int32) I J = some (I (mb + 10) (49 + 11 * c), I, J) := by
  have h := q12_caseOf (mb := mb) (I := I) (J := J) (k := 4) hc (by omega)
  rw [show 45 + 11 * c + 4 = 49 + 11 * c by omega] at h
  exact h
theorem k12_c5 {mb c : Nat} {I : IT} {J : JT} (hc : c < 6) : f12_caseOf mb (nI c) (5 : Int32) I J = some (I (mb + 10) (50 + 11 * c), I, J) := by
  have h := q12_caseOf (mb := mb) (I := I) (J := J) (k := 5) hc (by omega)
  rw [show 45 + 11 * c + 5 = 50 + 11 * c by omega] at h
  exact h
theorem k12_c6 {mb c : Nat} {I : IT} {J : JT} (hc : c < 6) : f12_caseOf mb (nI c) (6 : Int32) I J = some (I (mb + 10) (51 + 11 * c), I, J) := by
  have h := q12_caseOf (mb := mb) (I := I) (J := J) (k := 6) hc (by omega)
  rw [show 45 + 11 * c + 6 = 51 + 11 * c by omega] at h
  exact h
theorem k12_c7 {mb c : Nat} {I : IT} {J : JT} (hc : c < 6) : f12_caseOf mb (nI c) (7 : Int32) I J = some (I (mb + 10) (52 + 11 * c), I, J) := by
  have h := q12_caseOf (mb := mb) (I := I) (J := J) (k := 7) hc (by omega)
  rw [show 45 + 11 * c + 7 = 52 + 11 * c by omega] at h
  exact h
theorem k12_c8 {mb c : Nat} {I : IT} {J : JT} (hc : c < 6) : f12_caseOf mb (nI c) (8 : Int32) I J = some (I (mb + 10) (53 + 11 * c), I, J) := by
  have h := q12_caseOf (mb := mb) (I := I) (J := J) (k := 8) hc (by omega)
  rw [show 45 + 11 * c + 8 = 53 + 11 * c by omega] at h
  exact h
theorem k12_c9 {mb c : Nat} {I : IT} {J : JT} (hc : c < 6) : f12_caseOf mb (nI c) (9 : Int32) I J = some (I (mb + 10) (54 + 11 * c), I, J) := by
  have h := q12_caseOf (mb := mb) (I := I) (J := J) (k := 9) hc (by omega)
  rw [show 45 + 11 * c + 9 = 54 + 11 * c by omega] at h
  exact h
theorem k12_c10 {mb c : Nat} {I : IT} {J : JT} (hc : c < 6) : f12_caseOf mb (nI c) (10 : Int32) I J = some (I (mb + 10) (55 + 11 * c), I, J) := by
  have h := q12_caseOf (mb := mb) (I := I) (J := J) (k := 10) hc (by omega)
  rw [show 45 + 11 * c + 10 = 55 + 11 * c by omega] at h
  exact h
theorem k12_p0 {mb p : Nat} {I : IT} {J : JT} (hp : p < 7) : f12_personOf mb (nI p) (0 : Int32) I J = some (I (mb + 10) (10 + 5 * p), I, J) := by
  have h := q12_personOf (mb := mb) (I := I) (J := J) (k := 0) hp (by omega)
  rw [show 10 + 5 * p + 0 = 10 + 5 * p by omega] at h
  exact h
theorem k12_p1 {mb p : Nat} {I : IT} {J : JT} (hp : p < 7) : f12_personOf mb (nI p) (1 : Int32) I J = some (I (mb + 10) (11 + 5 * p), I, J) := by
  have h := q12_personOf (mb := mb) (I := I) (J := J) (k := 1) hp (by omega)
  rw [show 10 + 5 * p + 1 = 11 + 5 * p by omega] at h
  exact h
theorem k12_p2 {mb p : Nat} {I : IT} {J : JT} (hp : p < 7) : f12_personOf mb (nI p) (2 : Int32) I J = some (I (mb + 10) (12 + 5 * p), I, J) := by
  have h := q12_personOf (mb := mb) (I := I) (J := J) (k := 2) hp (by omega)
  rw [show 10 + 5 * p + 2 = 12 + 5 * p by omega] at h
  exact h
theorem k12_p3 {mb p : Nat} {I : IT} {J : JT} (hp : p < 7) : f12_personOf mb (nI p) (3 : Int32) I J = some (I (mb + 10) (13 + 5 * p), I, J) := by
  have h := q12_personOf (mb := mb) (I := I) (J := J) (k := 3) hp (by omega)
  rw [show 10 + 5 * p + 3 = 13 + 5 * p by omega] at h
  exact h
theorem k12_p4 {mb p : Nat} {I : IT} {J : JT} (hp : p < 7) : f12_personOf mb (nI p) (4 : Int32) I J = some (I (mb + 10) (14 + 5 * p), I, J) := by
  have h := q12_personOf (mb := mb) (I := I) (J := J) (k := 4) hp (by omega)
  rw [show 10 + 5 * p + 4 = 14 + 5 * p by omega] at h
  exact h
section CORE
variable {b mb P C D : Nat} {I I' : IT} {J J' : JT} {S : ST} {Rf : RT}
theorem co_P (h : CoreR b mb I I' P C D) : I (b + 5) 13 = nI P := (h.2.1.1.2.2.1).trans h.1.1.1
theorem co_C (h : CoreR b mb I I' P C D) : I (b + 5) 14 = nI C := (h.2.1.1.2.2.2).trans h.1.2.1.1
theorem co_D (h : CoreR b mb I I' P C D) : I (b + 14) 9 = nI D := (h.2.2.1).trans h.1.2.2.1.1
theorem cv_P (h : CoreR b mb I I' P C D) : I' (mb + 10) 2 = nI P := h.1.1.1
theorem cv_C (h : CoreR b mb I I' P C D) : I' (mb + 10) 3 = nI C := h.1.2.1.1
theorem cv_D (h : CoreR b mb I I' P C D) : I' (mb + 10) 4 = nI D := h.1.2.2.1.1
theorem co_P7 (h : CoreR b mb I I' P C D) : P ≤ 7 := h.1.1.2
theorem co_C6 (h : CoreR b mb I I' P C D) : C ≤ 6 := h.1.2.1.2
theorem co_D12 (h : CoreR b mb I I' P C D) : D ≤ 1200 := h.1.2.2.1.2
theorem co_gap (h : CoreR b mb I I' P C D) : I (b + 5) 9 = I' (mb + 10) 0 := h.2.1.1.1
theorem co_year (h : CoreR b mb I I' P C D) : I (b + 5) 10 = I' (mb + 10) 1 := h.2.1.1.2.1
theorem co_age (h : CoreR b mb I I' P C D) {p : Nat} (hp : p < P) : I (b + 6) p = I' (mb + 10) (10 + 5 * p) := (h.2.1.2.2.2.1 p hp).1
theorem co_sweets (h : CoreR b mb I I' P C D) {p : Nat} (hp : p < P) : I (b + 8) p = I' (mb + 10) (12 + 5 * p) := (h.2.1.2.2.2.1 p hp).2.1
theorem co_twins (h : CoreR b mb I I' P C D) {p : Nat} (hp : p < P) : I (b + 9) p = I' (mb + 10) (13 + 5 * p) := (h.2.1.2.2.2.1 p hp).2.2
theorem co_acc (h : CoreR b mb I I' P C D) {c : Nat} (hc : c < C) : I (b + 10) c = I' (mb + 10) (45 + 11 * c) := (h.2.1.2.2.2.2 c hc).1
theorem co_grav (h : CoreR b mb I I' P C D) {c : Nat} (hc : c < C) : I (b + 11) c = I' (mb + 10) (46 + 11 * c) := (h.2.1.2.2.2.2 c hc).2.1
theorem co_len (h : CoreR b mb I I' P C D) {c : Nat} (hc : c < C) : I (b + 12) c = I' (mb + 10) (47 + 11 * c) := (h.2.1.2.2.2.2 c hc).2.2.1
theorem co_from (h : CoreR b mb I I' P C D) {c : Nat} (hc : c < C) : I (b + 13) c = I' (mb + 10) (48 + 11 * c) := (h.2.1.2.2.2.2 c hc).2.2.2
theorem co_wit (h : CoreR b mb I I' P C D) {p : Nat} (hp : p < P) : I (b + 15) p = I' (mb + 10) (11 + 5 * p) := (h.2.2.2.1 p hp).1
theorem co_ruled (h : CoreR b mb I I' P C D) {p : Nat} (hp : p < P) : I (b + 16) p = I' (mb + 10) (14 + 5 * p) := (h.2.2.2.1 p hp).2
theorem co_judge (h : CoreR b mb I I' P C D) {c : Nat} (hc : c < C) : I (b + 17) c = I' (mb + 10) (49 + 11 * c) := (h.2.2.2.2.1 c hc).1
theorem co_toGo (h : CoreR b mb I I' P C D) {c : Nat} (hc : c < C) : I (b + 18) c = I' (mb + 10) (50 + 11 * c) := (h.2.2.2.2.1 c hc).2.1
theorem co_ruler (h : CoreR b mb I I' P C D) {c : Nat} (hc : c < C) : I (b + 20) c = I' (mb + 10) (51 + 11 * c) := (h.2.2.2.2.1 c hc).2.2.2.1
theorem co_right (h : CoreR b mb I I' P C D) {c : Nat} (hc : c < C) : I (b + 21) c = I' (mb + 10) (52 + 11 * c) := (h.2.2.2.2.1 c hc).2.2.2.2.1
theorem co_rage (h : CoreR b mb I I' P C D) {c : Nat} (hc : c < C) : I (b + 22) c = I' (mb + 10) (53 + 11 * c) := (h.2.2.2.2.1 c hc).2.2.2.2.2.1
theorem co_times (h : CoreR b mb I I' P C D) {c : Nat} (hc : c < C) : I (b + 23) c = I' (mb + 10) (54 + 11 * c) := (h.2.2.2.2.1 c hc).2.2.2.2.2.2
/-- with a person or a case there is a town -/
theorem co_town (h : CoreR b mb I I' P C D) (hp : 0 < P ∨ 0 < C) : ∃ G Y F La : Nat, I' (mb + 10) 0 = nI G ∧ I' (mb + 10) 1 = nI Y ∧ I' (mb + 10) 5 = nI F ∧ I' (mb + 10) 6 = nI La ∧ 1 ≤ G ∧ G ≤ 99 ∧ 5 ≤ Y ∧ Y ≤ 99 ∧ F ≤ 9999 ∧ La ≤ 9999 :=
  h.1.2.2.2.1.elim (fun q => absurd hp (by omega)) id
theorem co_v0 (h : CoreR b mb I I' P C D) (hp : 0 < P ∨ 0 < C) : I' (mb + 10) 0 ≠ 0 := by
  obtain ⟨G, Y, F, La, e, _, _, _, g, _⟩ := co_town h hp
  rw [e]
  exact nI_ne0 g (by omega)
theorem co_ends (h : CoreR b mb I I' P C D) (hp : 0 < P ∨ 0 < C) : I (b + 5) 11 = I' (mb + 10) 5 ∧ I (b + 5) 12 = I' (mb + 10) 6 := (h.2.1.2.1 (co_v0 h hp)).2
theorem co_told (h : CoreR b mb I I' P C D) : (I (b + 5) 8 = 0 ∧ I' (mb + 10) 0 = 0) ∨ (I (b + 5) 8 = 1 ∧ I' (mb + 10) 0 ≠ 0 ∧ ¬ I' (mb + 10) 0 ≤ 0) := by
  by_cases c : I' (mb + 10) 0 = 0
  · exact Or.inl ⟨h.2.1.2.2.1 c, c⟩
  · refine Or.inr ⟨(h.2.1.2.1 c).1, c, ?_⟩
    rcases h.1.2.2.2.1 with q | ⟨G, Y, F, La, e, _, _, _, g, g9, _⟩
    · exact absurd q.1 c
    · rw [e]
      exact nI_nle g (by omega)
theorem co_nums (h : CoreR b mb I I' P C D) {j : Nat} (hj : j < P) : ∃ A Y F La, Nums (I' (mb + 10)) j A Y F La := by
  obtain ⟨G, Y, F, La, e0, e1, e5, e6, g1, g2, g3, g4, g5, g6⟩ := co_town h (Or.inl (by omega))
  obtain ⟨A, W, Z, a1, a2, a3, a4, a5, a6⟩ := h.1.2.2.2.2.1 j hj
  exact ⟨A, Y, F, La, a1, e1, e5, e6, a4, g3, g4, g5, g6⟩
theorem co_isTown (h : CoreR b mb I I' P C D) : (I (b + 5) 8 = 0 ∧ f12_isTown mb I' J' = some (0, I', J')) ∨ (I (b + 5) 8 = 1 ∧ f12_isTown mb I' J' = some (1, I', J') ∧ I' (mb + 10) 0 ≠ 0) := by
  unfold f12_isTown
  rcases co_told h with ⟨q1, q2⟩ | ⟨q1, q2, q3⟩
  · refine Or.inl ⟨q1, ?_⟩
    rw [q2, if_pos (by decide)]
  · exact Or.inr ⟨q1, by rw [if_neg q3], q2⟩
/-- x is a person's number or none -/
theorem co_isPerson (h : CoreR b mb I I' P C D) (x : Int32) : (f9_hasPerson b S Rf (b + 5) x I J = some (0, I, J) ∧ f12_isPerson mb x I' J' = some (0, I', J')) ∨ ∃ p : Nat, p < P ∧ x = nI p ∧ f9_hasPerson b S Rf (b + 5) x I J = some (1, I, J) ∧ f12_isPerson mb x I' J' = some (1, I', J') := by
  have h7 := co_P7 h
  unfold f9_hasPerson f12_isPerson
  rw [co_P h, cv_P h]
  rcases pk_ix x (n := P) (by omega) with q | q | ⟨p, hp, e⟩
  · rw [if_pos q]; exact Or.inl ⟨rfl, if_pos q⟩
  · by_cases c : x < 0
    · rw [if_pos c]; exact Or.inl ⟨rfl, if_pos c⟩
    · rw [if_neg c, if_neg c, if_pos q]; exact Or.inl ⟨rfl, if_pos q⟩
  · subst e
    rw [if_neg (nI_pos (by omega)), if_neg (nI_pos (by omega)), if_neg (nI_ge hp (by omega)), if_neg (nI_ge hp (by omega))]
    exact Or.inr ⟨p, hp, rfl, rfl, rfl⟩
theorem co_isCase (h : CoreR b mb I I' P C D) (x : Int32) : (f9_hasCase b S Rf (b + 5) x I J = some (0, I, J) ∧ f12_isCase mb x I' J' = some (0, I', J')) ∨ ∃ p : Nat, p < C ∧ x = nI p ∧ f9_hasCase b S Rf (b + 5) x I J = some (1, I, J) ∧ f12_isCase mb x I' J' = some (1, I', J') := by
  have h7 := co_C6 h
  unfold f9_hasCase f12_isCase
  rw [co_C h, cv_C h]
  rcases pk_ix x (n := C) (by omega) with q | q | ⟨p, hp, e⟩
  · rw [if_pos q]; exact Or.inl ⟨rfl, if_pos q⟩
  · by_cases c : x < 0
    · rw [if_pos c]; exact Or.inl ⟨rfl, if_pos c⟩
    · rw [if_neg c, if_neg c, if_pos q]; exact Or.inl ⟨rfl, if_pos q⟩
  · subst e
    rw [if_neg (nI_pos (by omega)), if_neg (nI_pos (by omega)), if_neg (nI_ge hp (by omega)), if_neg (nI_ge hp (by omega))]
    exact Or.inr ⟨p, hp, rfl, rfl, rfl⟩
theorem q1_canSit (h : CoreR b mb I I' P C D) {j a : Nat} {n d : Int32} (hj : j < P) (ha : a < P) : f1_canSit b S Rf (nI j) (nI a) n d I J = some (canS (I' (mb + 10)) j a n d, I, J) := by
  have h7 := co_P7 h
  unfold f1_canSit canS yngS
  rw [q9_isYounger (by omega) (by omega), show b + 5 + 1 = b + 6 from rfl, co_age h hj, co_age h ha, co_gap h]
  rw [b3s]
  by_cases c1 : I' (mb + 10) (10 + 5 * a) - I' (mb + 10) (10 + 5 * j) < I' (mb + 10) 0
  · rw [if_pos c1, if_pos rfl, if_pos rfl]
  · rw [if_neg c1, if_neg (by decide), if_neg (by decide)]
    unfold f9_areTwins
    rw [yb_ck_t (inb_nI (by omega) (by decide)), nI_clamp (by omega), show b + 5 + 4 = b + 9 from rfl, co_twins h hj]
    have ht : (I' (mb + 10) (13 + 5 * j) >>> (nI a &&& 31)) &&& 1 = twM (I' (mb + 10)) a j := (h.1.2.2.2.2.2.2.2 j a hj ha).symm
    rw [ht]
    rcases and1 (I' (mb + 10) (13 + 5 * a) >>> (nI j &&& 31)) with c2 | c2
    · have c2' : twM (I' (mb + 10)) a j = 0 := c2
      rw [c2', if_pos rfl, b3s, if_pos rfl, if_neg (by decide), yb_ck_t (inb_nI (by omega) (by decide)), co_age h hj]
      rw [lts]
      obtain ⟨A, Y, F, La, eA, eY, eF, eL, bA, bY1, bY, bF, bL⟩ := co_nums h hj
      have hy0 : ¬ I' (mb + 10) 1 ≤ 0 := by rw [eY]; exact nI_nle (by omega) (by omega)
      have hy1 : ¬ I' (mb + 10) 1 = 0 := by rw [eY]; exact nI_ne0 (by omega) (by omega)
      unfold f9_tillBirthday
      rw [co_year h, if_neg hy0, if_neg hy1, b3s, q9_sits, b3s, q9_sits]
      obtain ⟨e11, e12⟩ := co_ends h (Or.inl (by omega))
      rw [e11, e12]
      have hs : ∀ x : Int32, (if x < I' (mb + 10) 5 then (0 : Int32) else if I' (mb + 10) 6 < x then 0 else 1) = sitS (I' (mb + 10)) x := fun x => rfl
      have ht' : ∀ x : Int32, I' (mb + 10) 1 - (x - x / I' (mb + 10) 1 * I' (mb + 10) 1) = tilS (I' (mb + 10)) x := fun x => rfl
      rw [hs, hs, ht']
      by_cases d1 : sitS (I' (mb + 10)) (I' (mb + 10) (10 + 5 * j) + d) = 0
      · rw [if_pos d1, if_pos d1]
      · rw [if_neg d1, if_neg d1, b3s, co_year h]
        by_cases d2 : sitS (I' (mb + 10)) (I' (mb + 10) (10 + 5 * j) + d + n - 1) = 0
        · rw [if_pos d2, if_pos d2]
        · rw [if_neg d2, if_neg d2]
          by_cases d3 : I' (mb + 10) 1 ≤ tilS (I' (mb + 10)) (I' (mb + 10) (10 + 5 * j) + d)
          · rw [if_pos d3, if_pos d3]
          · rw [if_neg d3, if_neg d3]
            by_cases d4 : tilS (I' (mb + 10)) (I' (mb + 10) (10 + 5 * j) + d) < n
            · rw [if_pos d4, if_pos d4]
            · rw [if_neg d4, if_neg d4]
    · have c2' : twM (I' (mb + 10)) a j = 1 := c2
      rw [c2', if_neg (by decide), b3s, if_neg (by decide), if_pos rfl]
/-- may a case be heard by j on the day d -/
def canH (v : Nat → Int32) (c j : Nat) (d : Int32) : Int32 := if d < v (48 + 11 * c) then 0 else canS v j (v (45 + 11 * c)).toNatClampNeg (v (47 + 11 * c)) d
theorem canS01 (v : Nat → Int32) (j a : Nat) (n d : Int32) : canS v j a n d = 0 ∨ canS v j a n d = 1 := by
  unfold canS
  split
  · exact Or.inl rfl
  · split
    · exact Or.inl rfl
    · exact can01
theorem canH01 (v : Nat → Int32) (c j : Nat) (d : Int32) : canH v c j d = 0 ∨ canH v c j d = 1 := by
  unfold canH
  split
  · exact Or.inl rfl
  · exact canS01 _ _ _ _ _
theorem q1_canHear (h : CoreR b mb I I' P C D) {c j : Nat} {d : Int32} (hc : c < C) (hj : j < P) : f1_canHear b S Rf (nI c) (nI j) d I J = some (canH (I' (mb + 10)) c j d, I, J) := by
  have h6 := co_C6 h
  have h7 := co_P7 h
  unfold f1_canHear canH
  rw [yb_ck_t (inb_nI (by omega) (by decide)), nI_clamp (by omega), co_from h hc, co_acc h hc, co_len h hc]
  obtain ⟨a, g, n, f, ea, eg, en, ef, ha, _⟩ := h.1.2.2.2.2.2.1 c hc
  by_cases c1 : d < I' (mb + 10) (48 + 11 * c)
  · rw [if_pos c1, if_pos c1]
  · rw [if_neg c1, if_neg c1, ea, nI_clamp (by omega), q1_canSit h hj ha, b3s]
    rcases canS01 (I' (mb + 10)) j a (I' (mb + 10) (47 + 11 * c)) d with e | e
    · rw [e, if_pos rfl]
    · rw [e, if_neg (by decide)]
theorem q12_canHear {N : Nat} (hN : 100 ≤ N) (h : CoreR b mb I I' P C D) {c j d : Nat} (hc : c < C) (hj : j < P) (hd : d ≤ 20000) : f12_canHear N mb (nI c) (nI j) (nI d) I' J' = some (canH (I' (mb + 10)) c j (nI d), I', J') := by
  have h6 := co_C6 h
  have h7 := co_P7 h
  unfold f12_canHear canH
  rw [k12_c3 (by omega), b3s]
  obtain ⟨a, g, n, f, ea, eg, en, ef, ha, hg1, hg2, hn1, hn2, hf⟩ := h.1.2.2.2.2.2.1 c hc
  by_cases c1 : nI d < I' (mb + 10) (48 + 11 * c)
  · rw [if_pos c1, if_pos c1]
  · rw [if_neg c1, if_neg c1, k12_c0 (by omega), b3s, k12_c2 (by omega), b3s, ea, en, nI_clamp (by omega)]
    obtain ⟨A, Y, F, La, hn⟩ := co_nums h hj
    rw [q12_canSit hN (by omega) (by omega) hn hd hn1 hn2, b3s]
    rcases canS01 (I' (mb + 10)) j a (nI n) (nI d) with e | e
    · rw [e, if_pos rfl]
    · rw [e, if_neg (by decide)]
end CORE
