section TRYJ
variable {N b P m D : Nat} {Bg : Nat → Nat → Option Nat} {Rt : Nat → Nat → Nat} {ln : Nat → Nat} {u : List Nat} {I I0 I1 : IT} {J : JT} {S : ST} {Rf : RT}
theorem BsC.cg {best : Option Cd} (h : BsC b D u I best) (h33 : I1 (b + 33) = I (b + 33)) (h44 : I1 (b + 44) = I (b + 44)) (h45 : I1 (b + 45) = I (b + 45)) (h46 : I1 (b + 46) = I (b + 46)) : BsC b D u I1 best := by
  cases best with
  | none => unfold BsC; rw [h33]; exact h
  | some x => unfold BsC; rw [h33, h44, h45, h46]; exact h
theorem ex_lt {pr : Rw} {c j j' : Nat} {rest : List Nat} {q q' : Option (Nat × Nat)} {x y : Cd} (hj : j < j') (hy : ExT Bg Rt ln P (pr ++ [(c, j)]) q rest y) (hx : ExT Bg Rt ln P (pr ++ [(c, j')]) q' rest x) : lexL (keyL y) (keyL x) := by
  obtain ⟨t, t1, _, _, rfl⟩ := hy
  obtain ⟨s, s1, _, _, rfl⟩ := hx
  unfold keyL rcW
  show lexL (((pr ++ [(c, j)]) ++ t).map Prod.fst ++ ((pr ++ [(c, j)]) ++ t).map Prod.snd) (((pr ++ [(c, j')]) ++ s).map Prod.fst ++ ((pr ++ [(c, j')]) ++ s).map Prod.snd)
  have e : ((pr ++ [(c, j)]) ++ t).map Prod.fst = ((pr ++ [(c, j')]) ++ s).map Prod.fst := by simp [t1, s1]
  rw [e]
  refine lexL_pre _ ?_
  simp only [List.map_append, List.append_assoc, List.map_cons, List.map_nil]
  exact lexL_pre _ (Or.inl hj)
theorem okW_lt : ∀ (r : Rw) (o : Nat → Nat), okW lgN Bg P o r → ∀ x, x ∈ r → x.2 < P := by
  intro r
  induction r with
  | nil => intro o _ x hx; cases hx
  | cons y r ih =>
    intro o h x hx
    obtain ⟨c, j⟩ := y
    rcases List.mem_cons.mp hx with rfl | q
    · exact h.1
    · exact ih _ h.2.2.2 x q
theorem ix4 (o c : Nat) : nI o * 4 + nI c = nI (o * 4 + c) := by
  show nI o * nI 4 + nI c = _
  rw [pk_mul, nI_add]
/-- what x3 tells of the row so far -/
def LsR (Bg : Nat → Nat → Option Nat) (ln : Nat → Nat) (D : Nat) (pr : Rw) (x3 : Int32) : Prop := (pr = [] ∧ x3 = -1) ∨ (pr ≠ [] ∧ x3 = nI (D + enW lgN Bg ln o00 pr - 1))
/-- the judges of one place, given what goes on behind it -/
theorem lj_c {c e : Nat} {cs rest : List Nat} {pr : Rw} {x3 : Int32} {rJ : Int32 → Int32 → Int32 → IT → JT → Option (Unit × IT × JT)} (hN : 1000 ≤ N) (hS : SeC b P m D Bg Rt ln u I0) (heP : e ≤ P) (hk : pr.length < m) (hcs : cs = pr.map Prod.fst ++ c :: rest) (hcm : ∀ c, c ∈ cs → c < m) (hok : okW lgN Bg P o00 pr) (hx3 : LsR Bg ln D pr x3)
    (hJ : ∀ j V best (I : IT), j < P → 0 < lgN (ordW lgN o00 pr j) c → Bg j (lgN (ordW lgN o00 pr j) c) ≠ none → FrS b I0 I → PrC b m D Bg cs (pr ++ [(c, j)]) I → BsC b D u I best → IsBest V best → (∀ y, V y → ∀ x, ExT Bg Rt ln P (pr ++ [(c, j)]) (some (c, j)) rest x → lexL (keyL y) (keyL x)) →
      ∃ I1 best1, rJ (nI (pr.length + 1)) (nI (rsW lgN Rt o00 (pr ++ [(c, j)]))) (nI (D + enW lgN Bg ln o00 (pr ++ [(c, j)]) - 1)) I J = some ((), I1, J) ∧ FrS b I0 I1 ∧ PrC b m D Bg cs (pr ++ [(c, j)]) I1 ∧ BsC b D u I1 best1 ∧ IsBest (fun x => V x ∨ ExT Bg Rt ln P (pr ++ [(c, j)]) (some (c, j)) rest x) best1) :
    ∀ r j n V best (I : IT), j + r = e → r < n → FrS b I0 I → PrC b m D Bg cs pr I → BsC b D u I best → IsBest V best → (∀ y, V y → ∀ j' x, j ≤ j' → j' < e → (0 < lgN (ordW lgN o00 pr j') c ∧ Bg j' (lgN (ordW lgN o00 pr j') c) ≠ none) → ExT Bg Rt ln P (pr ++ [(c, j')]) (some (c, j')) rest x → lexL (keyL y) (keyL x)) →
    ∃ I1 best1, g4_tryJudges_L102 N b S Rf rJ (nI pr.length) (nI (rsW lgN Rt o00 pr)) x3 (nI c) (nI e) n (nI j) I J = some ((), I1, J) ∧ FrS b I0 I1 ∧ PrC b m D Bg cs pr I1 ∧ BsC b D u I1 best1 ∧ IsBest (fun x => V x ∨ ∃ j', j ≤ j' ∧ j' < e ∧ (0 < lgN (ordW lgN o00 pr j') c ∧ Bg j' (lgN (ordW lgN o00 pr j') c) ≠ none) ∧ ExT Bg Rt ln P (pr ++ [(c, j')]) (some (c, j')) rest x) best1 := by
  obtain ⟨⟨_, m1, m4⟩, ⟨_, hP7⟩, hD, _⟩ := id hS
  have hcm' : c < m := hcm c (by rw [hcs]; simp)
  have hprm : ∀ c', c' ∈ pr.map Prod.fst → c' < m := fun c' h => hcm c' (by rw [hcs]; exact List.mem_append_left _ h)
  obtain ⟨o65, rb, eb, eb1⟩ := row_bnd hS pr o00 (fun _ => by show (0 : Nat) < 65; omega) hprm hok
  intro r
  induction r with
  | zero =>
    intro j n V best I hr hn hF hP hB hV hlt
    obtain ⟨n, rfl⟩ : ∃ q, n = q + 1 := ⟨n - 1, by omega⟩
    rw [g4_tryJudges_L102, if_pos (nI_le (by omega) (by omega))]
    exact ⟨I, best, rfl, hF, hP, hB, hV.cg (fun z => ⟨fun q => q.elim id (fun ⟨j', h1, h2, _⟩ => by omega), Or.inl⟩)⟩
  | succ r ih =>
    intro j n V best I hr hn hF hP hB hV hlt
    obtain ⟨n, rfl⟩ : ∃ q, n = q + 1 := ⟨n - 1, by omega⟩
    have hjP : j < P := by omega
    have hS' := hS.fr hF
    obtain ⟨p1, p2, p3, p4⟩ := id hP
    have ho := o65 j
    have e34 : I (b + 34) (ordW lgN o00 pr j * 4 + c) = lo4.getD (ordW lgN o00 pr j * 4 + c) 0 := by rw [hS'.2.2.2.1]
    rw [g4_tryJudges_L102, if_neg (nI_ge (by omega) (by omega)), yb_ck_t (inb_nI (show j < 7 by omega) (by decide)), nI_clamp (show j < 2 ^ 31 by omega), p2 j (by omega), lts, ix4, yb_ck_t (inb_nI (show ordW lgN o00 pr j * 4 + c < 260 by omega) (by decide)), nI_clamp (show ordW lgN o00 pr j * 4 + c < 2 ^ 31 by omega), e34, lts, lts]
    have skip : ¬ (0 < lgN (ordW lgN o00 pr j) c ∧ Bg j (lgN (ordW lgN o00 pr j) c) ≠ none) → ∃ I1 best1, g4_tryJudges_L102 N b S Rf rJ (nI pr.length) (nI (rsW lgN Rt o00 pr)) x3 (nI c) (nI e) n (nI (j + 1)) I J = some ((), I1, J) ∧ FrS b I0 I1 ∧ PrC b m D Bg cs pr I1 ∧ BsC b D u I1 best1 ∧ IsBest (fun x => V x ∨ ∃ j', j ≤ j' ∧ j' < e ∧ (0 < lgN (ordW lgN o00 pr j') c ∧ Bg j' (lgN (ordW lgN o00 pr j') c) ≠ none) ∧ ExT Bg Rt ln P (pr ++ [(c, j')]) (some (c, j')) rest x) best1 := by
      intro hno
      obtain ⟨I1, best1, e1, e2, e3, e4, e5⟩ := ih (j + 1) n V best I (by omega) (by omega) hF hP hB hV (fun y hy j' x h1 h2 => hlt y hy j' x (by omega) h2)
      refine ⟨I1, best1, e1, e2, e3, e4, e5.cg (fun z => ⟨fun q => ?_, fun q => ?_⟩)⟩
      · rcases q with q | ⟨j', h1, h2, h3, h4⟩
        · exact Or.inl q
        · by_cases ej : j' = j
          · subst ej; exact absurd h3 hno
          · exact Or.inr ⟨j', by omega, h2, h3, h4⟩
      · rcases q with q | ⟨j', h1, h2, h3, h4⟩
        · exact Or.inl q
        · exact Or.inr ⟨j', by omega, h2, h3, h4⟩
    rcases tb2 (ordW lgN o00 pr j) ho c (by omega) with ⟨t1, t2, t3, t4, t5⟩ | ⟨t1, t2, _⟩
    · obtain ⟨s1, s2, s3⟩ := hS'.2.2.2.2.1 j _ hjP t2 t3
      rw [t1, if_neg (nI_nle t2 (by omega)), ix65, yb_ck_t (inb_nI (show j * 65 + lgN (ordW lgN o00 pr j) c < 455 by omega) (by decide)), nI_clamp (show j * 65 + lgN (ordW lgN o00 pr j) c < 2 ^ 31 by omega), s1]
      cases hb : Bg j (lgN (ordW lgN o00 pr j) c) with
      | none =>
        rw [if_pos (show bI D none < 0 from (by decide : (-1 : Int32) < 0)), lts, nI_1]
        exact skip (fun q => q.2 hb)
      | some d =>
        obtain ⟨d1, d2⟩ := s2 d hb
        obtain ⟨u1, u2, u3, u4, u5⟩ := hS'.2.2.2.2.2 c hcm'
        have s1' : I (b + 37) (j * 65 + lgN (ordW lgN o00 pr j) c) = nI (D + d) := by rw [s1, hb]; rfl
        have v37 : up2 (up2 I (b + 43) j (nI (lgN (ordW lgN o00 pr j) c))) (b + 41) pr.length (nI j) (b + 37) (j * 65 + lgN (ordW lgN o00 pr j) c) = nI (D + d) := by rw [up2_ne _ _ _ (by omega), up2_ne _ _ _ (by omega)]; exact s1'
        rw [if_neg (show ¬ bI D (some d) < 0 from nI_pos (by omega)), lts, yb_ck_t (inb_nI (show pr.length < 4 by omega) (by decide)), nI_clamp (show pr.length < 2 ^ 31 by omega), lts, v37, lts]
        generalize hI3 : up2 (up2 (up2 I (b + 43) j (nI (lgN (ordW lgN o00 pr j) c))) (b + 41) pr.length (nI j)) (b + 42) pr.length (nI (D + d)) = I3
        have k3 : ∀ a, a ≠ b + 41 → a ≠ b + 42 → a ≠ b + 43 → I3 a = I a := fun a h1 h2 h3 => by rw [← hI3, up2_ne _ _ _ h2, up2_ne _ _ _ h1, up2_ne _ _ _ h3]
        have ex : nI (D + d) + nI (ln c) - 1 = nI (D + (d + ln c) - 1) := by
          rw [nI_add, show D + d + ln c = D + (d + ln c) by omega, lsI_n (by omega)]
        have eo : ordW lgN o00 (pr ++ [(c, j)]) = updN (ordW lgN o00 pr) j (lgN (ordW lgN o00 pr j) c) := by rw [ordW_app]; rfl
        have ers : rsW lgN Rt o00 (pr ++ [(c, j)]) = rsW lgN Rt o00 pr + Rt j (lgN (ordW lgN o00 pr j) c) := by rw [rsW_app]; rfl
        have een : enW lgN Bg ln o00 (pr ++ [(c, j)]) = max (enW lgN Bg ln o00 pr) (d + ln c) := by
          rw [enW_app]
          show max _ (max ((Bg j (lgN (ordW lgN o00 pr j) c)).getD 0 + ln c) 0) = _
          rw [hb, Nat.max_eq_left (Nat.zero_le _)]
          rfl
        have edy : dyW lgN Bg o00 (pr ++ [(c, j)]) = dyW lgN Bg o00 pr ++ [d] := by
          rw [dyW_app]
          show _ ++ [(Bg j (lgN (ordW lgN o00 pr j) c)).getD 0] = _
          rw [hb]; rfl
        have ex3 : (if x3 < nI (D + (d + ln c) - 1) then nI (D + (d + ln c) - 1) else x3) = nI (D + enW lgN Bg ln o00 (pr ++ [(c, j)]) - 1) := by
          rw [een]
          rcases hx3 with ⟨q1, q2⟩ | ⟨q1, q2⟩
          · subst q1
            rw [q2, if_pos (Int32.lt_of_lt_of_le (show (-1 : Int32) < 0 by decide) (nI_pos' (by omega)))]
            show nI (D + (d + ln c) - 1) = nI (D + max 0 (d + ln c) - 1)
            rw [Nat.max_eq_right (Nat.zero_le _)]
          · have e1 := eb1 q1
            rw [q2]
            by_cases cc : enW lgN Bg ln o00 pr < d + ln c
            · rw [if_pos (nI_lt (by omega) (by omega)), Nat.max_eq_right (by omega)]
            · rw [if_neg (nI_nlt (by omega) (by omega)), Nat.max_eq_left (by omega)]
        have e38 : I3 (b + 38) (j * 65 + lgN (ordW lgN o00 pr j) c) = nI (Rt j (lgN (ordW lgN o00 pr j) c)) := by rw [k3 _ (by omega) (by omega) (by omega)]; exact d2
        have e37 : I3 (b + 37) (j * 65 + lgN (ordW lgN o00 pr j) c) = nI (D + d) := by rw [k3 _ (by omega) (by omega) (by omega)]; exact s1'
        have e39 : I3 (b + 39) c = nI (u.getD c 0) := by rw [k3 _ (by omega) (by omega) (by omega)]; exact u2
        have e12 : I3 (b + 12) (u.getD c 0) = nI (ln c) := by rw [k3 _ (by omega) (by omega) (by omega)]; exact u3
        rw [yb_ck_t (inb_nI (show c < 4 by omega) (by decide)), nI_clamp (show c < 2 ^ 31 by omega), e39, yb_ck_t (inb_nI u1 (by decide)), nI_clamp (show u.getD c 0 < 2 ^ 31 by omega), e37, e12, ex, lts, e38, nI_add, nI_1, ex3, ← ers]
        have hF3 : FrS b I0 I3 := by rw [← hI3]; exact ((hF.up _ (by omega)).up _ (by omega)).up _ (by omega)
        have hP3 : PrC b m D Bg cs (pr ++ [(c, j)]) I3 := by
          refine ⟨fun p c' h => by rw [k3 _ (by omega) (by omega) (by omega)]; exact p1 p c' h, fun i hi => ?_, fun p c' j' h => ?_, fun p d' h => ?_⟩
          · rw [eo, ← hI3, up2_ne _ _ _ (by omega), up2_ne _ _ _ (by omega)]
            by_cases ei : i = j
            · subst ei; rw [up2_same, updN_s]
            · rw [up2_at (Or.inr ei), updN_n _ _ ei]; exact p2 i hi
          · rw [← hI3, up2_ne _ _ _ (by omega)]
            by_cases ep : p = pr.length
            · subst ep
              simp at h
              rw [up2_same, h.2]
            · rw [up2_at (Or.inr ep), up2_ne _ _ _ (by omega)]
              have hlt' : p < pr.length := by
                have := (List.getElem?_eq_some_iff.mp h).1
                simp at this; omega
              rw [List.getElem?_append_left hlt'] at h
              exact p3 p c' j' h
          · rw [← hI3]
            rw [edy] at h
            have hdl := dyW_len (lg := lgN) (Bg := Bg) pr o00
            by_cases ep : p = pr.length
            · subst ep
              rw [← hdl] at h
              simp at h
              rw [up2_same, h]
            · rw [up2_at (Or.inr ep), up2_ne _ _ _ (by omega), up2_ne _ _ _ (by omega)]
              have hlt' : p < pr.length := by
                have := (List.getElem?_eq_some_iff.mp h).1
                simp [hdl] at this; omega
              rw [List.getElem?_append_left (by rw [hdl]; exact hlt')] at h
              exact p4 p d' h
        have hB3 : BsC b D u I3 best := hB.cg (k3 _ (by omega) (by omega) (by omega)) (k3 _ (by omega) (by omega) (by omega)) (k3 _ (by omega) (by omega) (by omega)) (k3 _ (by omega) (by omega) (by omega))
        obtain ⟨I4, best4, g1, g2, g3, g4, g5⟩ := hJ j V best I3 hjP t2 (by rw [hb]; exact fun q => by cases q) hF3 hP3 hB3 hV (fun y hy x hx => hlt y hy j x (Nat.le_refl _) (by omega) ⟨t2, by rw [hb]; exact fun q => by cases q⟩ hx)
        rw [g1, b3s, lts, lts, nI_1]
        have hF4 : FrS b I0 (up2 I4 (b + 43) j (nI (ordW lgN o00 pr j))) := g2.up _ (by omega)
        have hP4 : PrC b m D Bg cs pr (up2 I4 (b + 43) j (nI (ordW lgN o00 pr j))) := by
          obtain ⟨z1, z2, z3, z4⟩ := g3
          refine ⟨fun p c' h => by rw [up2_ne _ _ _ (by omega)]; exact z1 p c' h, fun i hi => ?_, fun p c' j' h => ?_, fun p d' h => ?_⟩
          · by_cases ei : i = j
            · subst ei; exact up2_same _ _ _ _
            · rw [up2_at (Or.inr ei), z2 i hi, eo, updN_n _ _ ei]
          · rw [up2_ne _ _ _ (by omega)]
            exact z3 p c' j' (by rw [List.getElem?_append_left (List.getElem?_eq_some_iff.mp h).1]; exact h)
          · rw [up2_ne _ _ _ (by omega)]
            exact z4 p d' (by rw [edy, List.getElem?_append_left (List.getElem?_eq_some_iff.mp h).1]; exact h)
        have hB4 : BsC b D u (up2 I4 (b + 43) j (nI (ordW lgN o00 pr j))) best4 := g4.cg (up2_ne _ _ _ (by omega)) (up2_ne _ _ _ (by omega)) (up2_ne _ _ _ (by omega)) (up2_ne _ _ _ (by omega))
        obtain ⟨I5, best5, i1, i2, i3, i4, i5⟩ := ih (j + 1) n _ best4 _ (by omega) (by omega) hF4 hP4 hB4 g5 (fun y hy j' x h1 h2 hf hx => by
          rcases hy with hy | hy
          · exact hlt y hy j' x (by omega) h2 hf hx
          · exact ex_lt (show j < j' by omega) hy hx)
        refine ⟨I5, best5, i1, i2, i3, i4, i5.cg (fun z => ⟨fun q => ?_, fun q => ?_⟩)⟩
        · rcases q with q | ⟨j', h1, h2, h3, h4⟩
          · exact Or.inl (Or.inl q)
          · by_cases ej : j' = j
            · subst ej; exact Or.inl (Or.inr h4)
            · exact Or.inr ⟨j', by omega, h2, h3, h4⟩
        · rcases q with (q | q) | ⟨j', h1, h2, h3, h4⟩
          · exact Or.inl q
          · exact Or.inr ⟨j, Nat.le_refl _, by omega, ⟨t2, by rw [hb]; exact fun q => by cases q⟩, q⟩
          · exact Or.inr ⟨j', by omega, h2, h3, h4⟩
    · rw [t1, if_pos (show (-1 : Int32) ≤ 0 by decide), lts, nI_1]
      exact skip (fun q => by omega)
theorem tj_c {cs : List Nat} (hN : 1000 ≤ N) (hS : SeC b P m D Bg Rt ln u I0) (hcl : cs.length = m) (hcm : ∀ c, c ∈ cs → c < m) : ∀ h (pr : Rw) (rest : List Nat) f V best x3 (I : IT), rest.length = h → h < f → cs = pr.map Prod.fst ++ rest → okW lgN Bg P o00 pr → LsR Bg ln D pr x3 → FrS b I0 I → PrC b m D Bg cs pr I → BsC b D u I best → IsBest V best → (∀ y, V y → ∀ x, ExT Bg Rt ln P pr pr.getLast? rest x → lexL (keyL y) (keyL x)) →
    ∃ I1 best1, f4_rec_tryJudges N b S Rf f 0 (nI pr.length) (nI (rsW lgN Rt o00 pr)) x3 I J = some ((), I1, J) ∧ FrS b I0 I1 ∧ PrC b m D Bg cs pr I1 ∧ BsC b D u I1 best1 ∧ IsBest (fun x => V x ∨ ExT Bg Rt ln P pr pr.getLast? rest x) best1 := by
  obtain ⟨⟨_, m1, m4⟩, ⟨_, hP7⟩, hD, _⟩ := id hS
  intro h
  induction h with
  | zero =>
    intro pr rest f V best x3 I hl hf hcs hok hx3 hF hP hB hV hlt
    obtain ⟨f, rfl⟩ : ∃ q, f = q + 1 := ⟨f - 1, by omega⟩
    have r0 : rest = [] := List.length_eq_zero_iff.mp hl
    subst r0
    rw [List.append_nil] at hcs
    have hpl : pr.length = m := by rw [← hcl, hcs]; simp
    have hS' := hS.fr hF
    have hne : pr ≠ [] := fun q => by rw [q] at hpl; simp at hpl; omega
    have ex3 : x3 = nI (D + enW lgN Bg ln o00 pr - 1) := hx3.elim (fun q => absurd q.1 hne) (fun q => q.2)
    have hex : ∀ x, ExT Bg Rt ln P pr pr.getLast? [] x ↔ x = rcW lgN Bg Rt ln pr := by
      intro x
      constructor
      · rintro ⟨t, t1, _, _, t4⟩
        have : t = [] := by simpa using t1
        subst this
        rw [t4, List.append_nil]
      · intro q
        exact ⟨[], rfl, trivial, by cases pr.getLast? <;> trivial, by rw [q, List.append_nil]⟩
    obtain ⟨I1, best1, e1, e2, e3, e4, e5⟩ := keep_c (N := N) (S := S) (Rf := Rf) (J := J) hN hS hcs hpl hcm hok hF hP hB hV (fun y hy => hlt y hy _ ((hex _).mpr rfl))
    rw [f4_rec_tryJudges]
    unfold g4_tryJudges
    rw [hS'.1.1, if_pos (nI_le (by omega) (by omega)), ex3, e1, b3s]
    obtain ⟨p1, p2, p3, p4⟩ := id hP
    refine ⟨I1, best1, rfl, e2, ⟨fun p c q => ?_, fun j hj => ?_, fun p c j q => ?_, fun p d q => ?_⟩, e3, e4.cg (fun z => by rw [hex])⟩
    · rw [e5 _ (by omega) (by omega) (by omega) (by omega)]; exact p1 p c q
    · rw [e5 _ (by omega) (by omega) (by omega) (by omega)]; exact p2 j hj
    · rw [e5 _ (by omega) (by omega) (by omega) (by omega)]; exact p3 p c j q
    · rw [e5 _ (by omega) (by omega) (by omega) (by omega)]; exact p4 p d q
  | succ h ih =>
    intro pr rest f V best x3 I hl hf hcs hok hx3 hF hP hB hV hlt
    obtain ⟨f, rfl⟩ : ∃ q, f = q + 1 := ⟨f - 1, by omega⟩
    cases rest with
    | nil => simp at hl
    | cons c rest =>
      have hl' : rest.length = h := by simpa using hl
      have hpl : pr.length + (h + 1) = m := by rw [← hcl, hcs]; simp [hl']
      have hS' := hS.fr hF
      obtain ⟨p1, p2, p3, p4⟩ := id hP
      have hck : cs[pr.length]? = some c := by rw [hcs]; simp
      have hJ : ∀ j V best (I : IT), j < P → 0 < lgN (ordW lgN o00 pr j) c → Bg j (lgN (ordW lgN o00 pr j) c) ≠ none → FrS b I0 I → PrC b m D Bg cs (pr ++ [(c, j)]) I → BsC b D u I best → IsBest V best → (∀ y, V y → ∀ x, ExT Bg Rt ln P (pr ++ [(c, j)]) (some (c, j)) rest x → lexL (keyL y) (keyL x)) →
          ∃ I1 best1, f4_rec_tryJudges N b S Rf f 0 (nI (pr.length + 1)) (nI (rsW lgN Rt o00 (pr ++ [(c, j)]))) (nI (D + enW lgN Bg ln o00 (pr ++ [(c, j)]) - 1)) I J = some ((), I1, J) ∧ FrS b I0 I1 ∧ PrC b m D Bg cs (pr ++ [(c, j)]) I1 ∧ BsC b D u I1 best1 ∧ IsBest (fun x => V x ∨ ExT Bg Rt ln P (pr ++ [(c, j)]) (some (c, j)) rest x) best1 := by
        intro j V best I g1 g2 g3 g4 g5 g6 g7 g8
        have el : (pr ++ [(c, j)]).length = pr.length + 1 := by simp
        have eq : (pr ++ [(c, j)]).getLast? = some (c, j) := by simp
        have := ih (pr ++ [(c, j)]) rest f V best (nI (D + enW lgN Bg ln o00 (pr ++ [(c, j)]) - 1)) I hl' (by omega) (by rw [hcs]; simp) ((okW_app _ _ _).mpr ⟨hok, g1, g2, g3, trivial⟩) (Or.inr ⟨by simp, rfl⟩) g4 g5 g6 g7 (by rw [eq]; exact g8)
        rw [el, eq] at this
        exact this
      have main : ∀ j0 e, e ≤ P → j0 ≤ e → (∀ j', j' < P → ((∀ z, pr.getLast? = some z → c < z.1 → j' = z.2) ↔ (j0 ≤ j' ∧ j' < e))) → ∃ I1 best1, (yb_b3 (g4_tryJudges_L102 N b S Rf (f4_rec_tryJudges N b S Rf f 0) (nI pr.length) (nI (rsW lgN Rt o00 pr)) x3 (nI c) (nI e) N (nI j0) I J) fun q_37 I_38 J_39 => some ((), I_38, J_39)) = some ((), I1, J) ∧ FrS b I0 I1 ∧ PrC b m D Bg cs pr I1 ∧ BsC b D u I1 best1 ∧ IsBest (fun x => V x ∨ ExT Bg Rt ln P pr pr.getLast? (c :: rest) x) best1 := by
        intro j0 e he hj0 hiff
        have hex : ∀ x, ExT Bg Rt ln P pr pr.getLast? (c :: rest) x ↔ ∃ j', j0 ≤ j' ∧ j' < e ∧ (0 < lgN (ordW lgN o00 pr j') c ∧ Bg j' (lgN (ordW lgN o00 pr j') c) ≠ none) ∧ ExT Bg Rt ln P (pr ++ [(c, j')]) (some (c, j')) rest x := by
          intro x
          rw [ExT_cons]
          constructor
          · rintro ⟨j', q1, q2, q3, q4⟩
            obtain ⟨z1, z2⟩ := (hiff j' q1).mp q2
            exact ⟨j', z1, z2, q3, q4⟩
          · rintro ⟨j', q1, q2, q3, q4⟩
            exact ⟨j', by omega, (hiff j' (by omega)).mpr ⟨q1, q2⟩, q3, q4⟩
        obtain ⟨I1, best1, e1, e2, e3, e4, e5⟩ := lj_c (N := N) (S := S) (Rf := Rf) (J := J) (rJ := f4_rec_tryJudges N b S Rf f 0) hN hS he (by omega) hcs hcm hok hx3 hJ (e - j0) j0 N V best I (by omega) (by omega) hF hP hB hV (fun y hy j' x h1 h2 hf hx => hlt y hy x ((hex x).mpr ⟨j', h1, h2, hf, hx⟩))
        rw [e1, b3s]
        exact ⟨I1, best1, rfl, e2, e3, e4, e5.cg (fun z => by rw [hex])⟩
      rw [f4_rec_tryJudges]
      unfold g4_tryJudges
      rw [hS'.1.1, if_neg (nI_ge (by omega) (by omega)), if_pos (show nI pr.length < (4 : Int32) from nI_lt (b := 4) (by omega) (by omega)), yb_ck_t (inb_nI (show pr.length < 4 by omega) (by decide)), nI_clamp (show pr.length < 2 ^ 31 by omega), p1 _ _ hck, lts, hS'.2.1.1]
      by_cases hp0 : pr = []
      · subst hp0
        have := main 0 P (Nat.le_refl _) (Nat.zero_le _) (fun j' hj' => ⟨fun _ => ⟨Nat.zero_le _, hj'⟩, fun _ z hz => by cases hz⟩)
        rw [if_pos (show nI ([] : Rw).length ≤ 0 by decide), lts]
        rw [show nI 0 = (0 : Int32) from rfl] at this
        exact this
      · have hpos : 0 < pr.length := List.length_pos_iff.mpr hp0
        obtain ⟨z, hz⟩ : ∃ z, pr.getLast? = some z := ⟨pr.getLast hp0, List.getLast?_eq_some_getLast hp0⟩
        have hzk : pr[pr.length - 1]? = some z := by rw [← List.getLast?_eq_getElem?]; exact hz
        have hck1 : cs[pr.length - 1]? = some z.1 := by
          rw [hcs, List.getElem?_append_left (by simp; omega), List.getElem?_map, hzk]; rfl
        have ek : nI pr.length - 1 = nI (pr.length - 1) := by
          show nI pr.length - nI 1 = _
          rw [pk_sub hpos]
        have hz1 : z.1 < m := hcm _ (List.mem_of_getElem? hck1)
        have hz2 : z.2 < P := okW_lt pr o00 hok z (List.mem_of_getElem? hzk)
        have hc' : c < m := hcm c (List.mem_of_getElem? hck)
        rw [if_neg (nI_nle hpos (by omega)), ek, yb_ck_t (inb_nI (show pr.length - 1 < 4 by omega) (by decide)), nI_clamp (show pr.length - 1 < 2 ^ 31 by omega), p1 _ _ hck1]
        by_cases cz : z.1 ≤ c
        · have := main 0 P (Nat.le_refl _) (Nat.zero_le _) (fun j' hj' => ⟨fun _ => ⟨Nat.zero_le _, hj'⟩, fun _ y hy hlt' => by rw [hz] at hy; cases hy; omega⟩)
          rw [if_pos (nI_le cz (by omega)), lts]
          rw [show nI 0 = (0 : Int32) from rfl] at this
          exact this
        · have := main z.2 (z.2 + 1) (by omega) (by omega) (fun j' hj' => ⟨fun q => by have := q z hz (by omega); omega, fun q y hy _ => by rw [hz] at hy; cases hy; omega⟩)
          rw [if_neg (nI_ge (by omega) (by omega)), p3 _ z.1 z.2 (by rw [hzk]), lts, nI_1, lts]
          exact this
end TRYJ
