/-! RULE: a sum on both sides -/
section SUM7
variable {N b mb n K e : Nat} {w : Nat → Nat} {S : ST} {Rf : RT} {J J' : JT}
theorem oT_cnt (o : Option Nat) (h : okO o) : cntT (oT o) = 0 := by
  cases o with
  | none => rfl
  | some s =>
    obtain ⟨h1, _⟩ := h s rfl
    show (if s ≤ 1 then 1 else 0) + 0 = 0
    rw [if_neg (by omega)]
theorem oT_len (o : Option Nat) : (oT o).length = pnd o := by cases o <;> rfl
theorem oT_ok {o : Option Nat} (h : okO o) : ∀ t, t ∈ oT o → TkOK t := by
  intro t ht
  cases o with
  | none => cases ht
  | some s =>
    obtain ⟨h1, h2, _⟩ := h s rfl
    simp [oT] at ht
    subst ht
    exact Or.inr (Or.inr ⟨h1, h2, rfl⟩)
theorem oT_red {o : Option Nat} (h : okO o) (k : Nat) : Red (k + 1 + pnd o) (k + 1) (oT o) := by
  cases o with
  | none => exact Red.nil _
  | some s =>
    obtain ⟨h1, _, h3⟩ := h s rfl
    exact Red.op h1 h3 k
/-- a sum, or what is left of one -/
theorem sum_J (hN : 1000 ≤ N) : ∀ left (to po : Option Nat) (i mC m1 m2 p p' V : Nat) (tc tr : List Int32) (I I' : IT), n - p' < left → left ≤ 500 → left ≤ mC → left ≤ m1 → left ≤ m2 → 2 * i ≤ p' → okO to → okO po → PS b mb n w K p p' tc tr V I I' → tc.length + pnd to + pnd po + e ≤ p' →
    (∃ I1 I1', f6_readsSum_L6 N b S Rf mC (tC to) (tC po) (nI i) I J = some (Sum.inl 0, I1, J) ∧ RCm N mb to po m1 m2 I' J' = some (0, I1', J') ∧ FL b mb K I I1 I' I1') ∨
    ∃ (ts : List Tk) (q q' : Nat) (I1 I1' : IT), f6_readsSum_L6 N b S Rf mC (tC to) (tC po) (nI i) I J = some (Sum.inl 1, I1, J) ∧ RCm N mb to po m1 m2 I' J' = some (1, I1', J') ∧ PS b mb n w K q q' (tc ++ ts.map tkC) (tr ++ ts.map tkI) (V + cntT ts) I1 I1' ∧ FR b mb K I I1 I' I1' ∧ FS mb I' I1' ∧ p' < q' ∧ tc.length + ts.length + e ≤ q' ∧ (∀ t, t ∈ ts → TkOK t) ∧ Red (pnd to + pnd po) 1 ts := by
  intro left
  induction left with
  | zero => intro to po i mC m1 m2 p p' V tc tr I I' h; omega
  | succ left ih =>
    intro to po i mC m1 m2 p p' V tc tr I I' hlt h500 hmC hm1 hm2 hi hto hpo h hb
    obtain ⟨mC, rfl⟩ : ∃ z, mC = z + 1 := ⟨mC - 1, by omega⟩
    have hr := h.1
    have h4 := hr.n4
    have hp'n := hr.2.2.1
    rw [L6_eq hto hpo, if_neg (show ¬ (400 : Int32) ≤ nI i from nI_ge (b := 400) (by omega) (by omega))]
    rcases q_value (S := S) (Rf := Rf) (J := J) (J' := J') (e := pnd to + pnd po + e) hN h (by omega) with ⟨I1, I1', a1, a2, a3⟩ | ⟨t, q, q', I1, I1', a1, a2, a3, a4, a5, a6, a7, a8, a9⟩
    · refine Or.inl ⟨I1, I1', by rw [a1, b3s, if_pos rfl], ?_, a3⟩
      unfold RCm RTm
      rw [a2, b3s, if_pos rfl, b3s, if_pos rfl]
    · have hq'n := a3.1.2.2.1
      have hqq : q' ≤ q := by rw [← a3.1.2.2.2.1]; exact run_ge hq'n
      have lt1 : (tc ++ [tkC t]).length = tc.length + 1 := by simp
      obtain ⟨I2, I2', b1, b2, b3, b4, b5⟩ := q_emO (S := S) (Rf := Rf) (J := J) (J' := J') a3 (fun z => by rw [lt1]; omega) hto
      have lt2 : (tc ++ [tkC t] ++ (oT to).map tkC).length = tc.length + 1 + pnd to := by simp [oT_len]; omega
      obtain ⟨o, c1, c2, c3, c4⟩ := q_times (S := S) (Rf := Rf) (J := J) (J' := J') hN b3.1
      have hs2 := b3.1.seen
      rw [a1, b3s, if_neg i10, b1, b3s, c1, b3s]
      have ok1 : ∀ x, x ∈ [t] → TkOK x := fun x hx => by simp at hx; subst hx; exact a7
      have cnt1 : cntT [t] = 1 := by show (if t.1 ≤ 1 then 1 else 0) + 0 = 1; rw [if_pos a8]
      have red1 : Red (pnd to + pnd po) (pnd po + 1) ([t] ++ oT to) := by
        have r1 := Red.val a8 (pnd to + pnd po)
        have r2 := oT_red hto (pnd po)
        rw [show pnd po + 1 + pnd to = pnd to + pnd po + 1 by omega] at r2
        exact r1.app r2
      cases o with
      | some s =>
        obtain ⟨d1, d2⟩ := c4 s rfl
        obtain ⟨m1, rfl⟩ : ∃ z, m1 = z + 1 := ⟨m1 - 1, by omega⟩
        obtain ⟨p1, p2⟩ := q_passSign (S := S) (Rf := Rf) (J := J) hN hs2 d1
        rw [up2_up2] at p2
        have frP : FrN b mb I2 (up2 I2 (b + 2) 2 (nI (skp w n (q + 1)))) I2' (up2 I2' mb 8 (nI (q + 1))) := ⟨fun a k z => up2_at (by omega), fun a k z => up2_at (by omega)⟩
        have hP3 := b3.mv p2 frP
        have eRC : RCm N mb to po (m1 + 1) m2 I' J' = RCm N mb (some s) po m1 m2 (up2 I2' mb 8 (nI (q + 1))) J' := by
          unfold RCm
          congr 1
          unfold RTm
          rw [a2, b3s, if_neg i10, b2, b3s, d2, b3_assoc]
          congr 1
          funext r I J
          by_cases z : r = 0
          · rw [if_pos z, if_pos z, b3s, sml]
          · rw [if_neg z, if_neg z, b3_assoc]
            rfl
        rw [if_neg (tC_ne c2 rfl), p1, b3s, nI_1, eRC]
        rcases ih (some s) po (i + 1) mC m1 m2 _ _ (V + 1) _ _ _ _ (by omega) (by omega) (by omega) (by omega) (by omega) (by omega) c2 hpo hP3 (by rw [lt2]; show tc.length + 1 + pnd to + 1 + pnd po + e ≤ q + 1; omega) with ⟨I3, I3', e1, e2, e3⟩ | ⟨ts, z, z', I3, I3', e1, e2, e3, e4, e5, e6, e7, e8, e9⟩
        · exact Or.inl ⟨I3, I3', e1, e2, FL.of ((a4.t2 b4).t2 frP.fr) e3⟩
        · refine Or.inr ⟨[t] ++ oT to ++ ts, z, z', I3, I3', e1, e2, ?_, ((a4.t2 b4).t2 frP.fr).t2 e4, ((a5.t2 b5).t2 frP.fs).t2 e5, by omega, ?_, ?_, ?_⟩
          · have ec : V + cntT ([t] ++ oT to ++ ts) = V + 1 + cntT ts := by rw [cntT_app, cntT_app, oT_cnt to hto, cnt1]; omega
            rw [ec]
            simp only [List.map_append, List.map_cons, List.map_nil, ← List.append_assoc] at e3 ⊢
            exact e3
          · rw [lt2] at e7
            simp only [List.length_append, oT_len, List.length_cons, List.length_nil]
            omega
          · intro x hx
            rcases List.mem_append.mp hx with hx | hx
            · rcases List.mem_append.mp hx with hx | hx
              · exact ok1 x hx
              · exact oT_ok hto x hx
            · exact e8 x hx
          · have e9' : Red (pnd po + 1) 1 ts := by rw [Nat.add_comm]; exact e9
            exact red1.app e9'
      | none =>
        obtain ⟨m1, rfl⟩ : ∃ z, m1 = z + 1 := ⟨m1 - 1, by omega⟩
        have d2 := c3 rfl m1
        have hP2 := b3.mv hs2 (FrN.see (b := b) (I := I2) (nI q))
        obtain ⟨I3, I3', g1, g2, g3, g4, g5⟩ := q_emO (S := S) (Rf := Rf) (J := J) (J' := J') hP2 (fun z => by rw [lt2]; omega) hpo
        have lt3 : (tc ++ [tkC t] ++ (oT to).map tkC ++ (oT po).map tkC).length = tc.length + 1 + pnd to + pnd po := by simp [oT_len]; omega
        obtain ⟨o', k1, k2, k3, k4⟩ := q_plus (S := S) (Rf := Rf) (J := J) (J' := J') hN g3.1
        have hs3 := g3.1.seen
        have eRT : RTm N mb to (m1 + 1) I' J' = some (1, up2 I2' mb 8 (nI q), J') := by
          unfold RTm
          rw [a2, b3s, if_neg i10, b2, b3s, d2, b3s, smr]
        have frA : FR b mb K I I3 I' I3' := ((a4.t2 b4).t2 (FrN.see (b := b) (I := I2) (nI q)).fr).t2 g4
        have fsA : FS mb I' I3' := ((a5.t2 b5).t2 (FrN.see (b := b) (I := I2) (nI q)).fs).t2 g5
        have red2 : Red (pnd to + pnd po) 1 ([t] ++ oT to ++ oT po) := by
          have r2 := oT_red hpo 0
          rw [show 0 + 1 + pnd po = pnd po + 1 by omega] at r2
          exact red1.app r2
        have ok2 : ∀ x, x ∈ [t] ++ oT to ++ oT po → TkOK x := fun x hx => by
          rcases List.mem_append.mp hx with hx | hx
          · rcases List.mem_append.mp hx with hx | hx
            · exact ok1 x hx
            · exact oT_ok hto x hx
          · exact oT_ok hpo x hx
        have cnt2 : cntT ([t] ++ oT to ++ oT po) = 1 := by rw [cntT_app, cntT_app, oT_cnt to hto, oT_cnt po hpo, cnt1]
        rw [if_pos (show tC none = -1 from rfl), g1, b3s, k1, b3s]
        cases o' with
        | none =>
          obtain ⟨m2, rfl⟩ : ∃ z, m2 = z + 1 := ⟨m2 - 1, by omega⟩
          rw [if_pos (show tC none = -1 from rfl)]
          refine Or.inr ⟨[t] ++ oT to ++ oT po, q, q, I3, up2 I3' mb 8 (nI q), rfl, ?_, ?_, frA.t2 (FrN.see (b := b) (I := I3) (nI q)).fr, fsA.t2 (FrN.see (b := b) (I := I3) (nI q)).fs, by omega, ?_, ok2, red2⟩
          · unfold RCm
            rw [eRT, b3s, if_neg i10, g2, b3s, k3 rfl m2, b3s, smr]
          · rw [cnt2]
            have := g3.mv hs3 (FrN.see (b := b) (I := I3) (nI q))
            simp only [List.map_append, List.map_cons, List.map_nil, ← List.append_assoc] at this ⊢
            exact this
          · simp only [List.length_append, oT_len, List.length_cons, List.length_nil]
            omega
        | some s =>
          obtain ⟨d1, d3⟩ := k4 s rfl
          obtain ⟨m2, rfl⟩ : ∃ z, m2 = z + 1 := ⟨m2 - 1, by omega⟩
          obtain ⟨p1, p2⟩ := q_passSign (S := S) (Rf := Rf) (J := J) hN hs3 d1
          rw [up2_up2] at p2
          have frP : FrN b mb I3 (up2 I3 (b + 2) 2 (nI (skp w n (q + 1)))) I3' (up2 I3' mb 8 (nI (q + 1))) := ⟨fun a k z => up2_at (by omega), fun a k z => up2_at (by omega)⟩
          have hP4 := g3.mv p2 frP
          have eRC : RCm N mb to po (m1 + 1) (m2 + 1) I' J' = RCm N mb none (some s) N m2 (up2 I3' mb 8 (nI (q + 1))) J' := by
            unfold RCm
            rw [eRT, b3s, if_neg i10, g2, b3s, d3, b3_assoc, RTm_term]
            congr 1
            funext r I J
            by_cases z : r = 0
            · rw [if_pos z, if_pos z, b3s, sml]
            · rw [if_neg z, if_neg z, b3_assoc]
              rfl
          have nge : ¬ tC (some s) = -1 := tC_ne k2 rfl
          rw [if_neg nge, p1, b3s, nI_1, eRC]
          rcases ih none (some s) (i + 1) mC N m2 _ _ (V + 1) _ _ _ _ (by omega) (by omega) (by omega) (by omega) (by omega) (by omega) c2 k2 hP4 (by rw [lt3]; show tc.length + 1 + pnd to + pnd po + 0 + 1 + e ≤ q + 1; omega) with ⟨I4, I4', e1, e2, e3⟩ | ⟨ts, z, z', I4, I4', e1, e2, e3, e4, e5, e6, e7, e8, e9⟩
          · exact Or.inl ⟨I4, I4', e1, e2, FL.of (frA.t2 frP.fr) e3⟩
          · refine Or.inr ⟨[t] ++ oT to ++ oT po ++ ts, z, z', I4, I4', e1, e2, ?_, (frA.t2 frP.fr).t2 e4, (fsA.t2 frP.fs).t2 e5, by omega, ?_, ?_, red2.app e9⟩
            · have ec : V + cntT ([t] ++ oT to ++ oT po ++ ts) = V + 1 + cntT ts := by rw [cntT_app, cnt2]; omega
              rw [ec]
              simp only [List.map_append, List.map_cons, List.map_nil, ← List.append_assoc] at e3 ⊢
              exact e3
            · rw [lt3] at e7
              simp only [List.length_append, oT_len, List.length_cons, List.length_nil]
              omega
            · intro x hx
              rcases List.mem_append.mp hx with hx | hx
              · exact ok2 x hx
              · exact e8 x hx
/-- a sum -/
theorem q_sum {p p' V : Nat} {tc tr : List Int32} {I I' : IT} (hN : 1000 ≤ N) (h : PS b mb n w K p p' tc tr V I I') (hb : tc.length + e ≤ p') :
    (∃ I1 I1', f6_readsSum N b S Rf I J = some (0, I1, J) ∧ f12_sum N mb I' J' = some (0, I1', J') ∧ FL b mb K I I1 I' I1') ∨
    ∃ (ts : List Tk) (q q' : Nat) (I1 I1' : IT), f6_readsSum N b S Rf I J = some (1, I1, J) ∧ f12_sum N mb I' J' = some (1, I1', J') ∧ PS b mb n w K q q' (tc ++ ts.map tkC) (tr ++ ts.map tkI) (V + cntT ts) I1 I1' ∧ FR b mb K I I1 I' I1' ∧ FS mb I' I1' ∧ p' < q' ∧ tc.length + ts.length + e ≤ q' ∧ (∀ t, t ∈ ts → TkOK t) ∧ Red 0 1 ts := by
  have h4 := h.1.n4
  unfold f6_readsSum
  rcases sum_J (S := S) (Rf := Rf) (J := J) (J' := J') (e := e) hN 401 none none 0 N N N p p' V tc tr I I' (by omega) (by omega) (by omega) (by omega) (by omega) (by omega) (fun s q => (by cases q)) (fun s q => (by cases q)) h (by show tc.length + 0 + 0 + e ≤ p'; omega) with ⟨I1, I1', a1, a2, a3⟩ | ⟨ts, q, q', I1, I1', a1, a2, a3⟩
  · rw [RCm_sum] at a2
    have a1' : f6_readsSum_L6 N b S Rf N (-1) (-1) 0 I J = some (Sum.inl 0, I1, J) := a1
    exact Or.inl ⟨I1, I1', by rw [a1', b3s, sml], a2, a3⟩
  · rw [RCm_sum] at a2
    have a1' : f6_readsSum_L6 N b S Rf N (-1) (-1) 0 I J = some (Sum.inl 1, I1, J) := a1
    exact Or.inr ⟨ts, q, q', I1, I1', by rw [a1', b3s, sml], a2, a3⟩
end SUM7
