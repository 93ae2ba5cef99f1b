/-! RULE: a test's loop on both sides -/
section TEST3
variable {e N b mb n K : Nat} {w : Nat → Nat} {S : ST} {Rf : RT} {J J' : JT} {st : List Nat}
def OkL (e N b mb n : Nat) (w : Nat → Nat) (K : Nat) (st : List Nat) (c0 : Nat) (tc tr : List Int32) (V p' nn : Nat) (I I' : IT) (J J' : JT) (cls : Option ((Int32 ⊕ Unit) × IT × JT)) (ref : Option (Int32 × IT × JT)) : Prop :=
  (∃ I1 I1', cls = some (Sum.inl 0, I1, J) ∧ ref = some (0, I1', J') ∧ FL b mb K I I1 I' I1') ∨
  ∃ (ts : List Tk) (inner : List Nat) (q q' V' m' nn' : Nat) (r : Int32) (I1 I1' : IT), cls = some (Sum.inl 1, I1, J) ∧ ref = tpL N mb m' nn' I1' J' ∧ Rd b mb n w q q' I1 I1' ∧ (PCt b (tc ++ (ts ++ tk0 inner).map tkC) V' I1 ∧ V' ≤ 60 ∧ PMt mb K (tr ++ ts.map tkI) V' I1') ∧ (StM mb (inner ++ st) I1' ∧ ∀ x, x ∈ inner → x = 12 ∨ x = 13) ∧ (WIx w n q r ∧ ¬ r = nI 14 ∧ ¬ r = nI 15) ∧ FR b mb K I I1 I' I1' ∧ p' < q' ∧ (tc.length + (ts.length + inner.length) + pcS st + e ≤ q' ∧ (inner ++ st).length ≤ q') ∧ (nn ≤ nn' + (q' - p') ∧ N ≤ m' + q') ∧ (∀ t, t ∈ ts ++ tk0 inner → TkOK t) ∧ (∀ k, RedB (k + c0) (k + 1) (ts ++ tk0 inner)) ∧ V + cntT (ts ++ tk0 inner) ≤ V'
theorem T_L {d k : Nat} (hN : 1000 ≤ N) (ihF : FCl e N b mb n w K S Rf J J' k) (hk : 21 ≤ k + 2 * d) (hd : d ≤ 10) (hdp : dpS st = d) (hbase : ∀ x r, st = x :: r → x = 91) : ∀ left (an orr : Bool) (i mC m2 nn p p' V : Nat) (tc tr : List Int32) (I I' : IT), n - p' < left → left ≤ mC → 2 * i ≤ p' → 12 ≤ m2 + d → PS b mb n w K p p' tc tr V I I' → StM mb (ia an ++ (io orr ++ st)) I' → (ia an ++ (io orr ++ st)).length ≤ p' → tc.length + (ia an).length + (io orr).length + pcS st + e ≤ p' → n - p' < nn →
    OkL e N b mb n w K st ((ia an).length + (io orr).length) tc tr V p' nn I I' J J' (g6_readsTest_L7 N b S Rf (f6_rec_readsTest N b S Rf k 1) (nI d) mC (xb an) (xb orr) (nI i) I J) (tpA N mb m2 nn I' J') := by
  intro left
  induction left with
  | zero => intro an orr i mC m2 nn p p' V tc tr I I' h; omega
  | succ left ih =>
    intro an orr i mC m2 nn p p' V tc tr I I' hlt hmC hi hm2 h hst hsl hb hnn
    obtain ⟨mC, rfl⟩ : ∃ z, mC = z + 1 := ⟨mC - 1, by omega⟩
    obtain ⟨a1, a2, a3, a4, a5, a6⟩ := ia_f an
    obtain ⟨o1, o2, o3, o4, o5, o6⟩ := io_f orr
    have h4 := h.1.n4
    have hp'n := h.1.2.2.1
    have hK := h.2.2.2.1
    have edp : dpS (ia an ++ (io orr ++ st)) = d := by rw [dpS_app, dpS_app, a1, o1]; omega
    have epc : pcS (ia an ++ (io orr ++ st)) = (ia an).length + (io orr).length + pcS st := by rw [pcS_app, pcS_app, a2, o2]; omega
    have hst3 : ∀ x r, ia an ++ (io orr ++ st) = x :: r → strN x < 3 := fun x r e => by
      have hx : x ∈ ia an ++ (io orr ++ st) := by rw [e]; simp
      cases an with
      | true => cases e; decide
      | false =>
        cases orr with
        | true => cases e; decide
        | false => have e' : st = x :: r := e; rw [hbase x r e']; decide
    rw [L7_eq, if_neg (show ¬ (400 : Int32) ≤ nI i from nI_ge (b := 400) (by omega) (by omega))]
    rcases ihF d (ia an ++ (io orr ++ st)) p p' V m2 nn tc tr I I' hk hd edp hm2 h hst hsl (by rw [epc]; omega) hnn with ⟨I1, I1', f1, f2, f3⟩ | ⟨ts, q, q', V', m', nn', I1, I1', f1, f2, f3, f4, f5, f6, f7, ⟨f8, f9⟩, f10, f11, f12⟩
    · exact Or.inl ⟨I1, I1', by rw [f1, b3s, if_pos rfl], f2, f3⟩
    · obtain ⟨hrd, hpc, hV, _, hpm, hlen⟩ := PS_iff.mp f3
      have hq'n := hrd.2.2.1
      have hqn := hrd.le
      have hqq : q' ≤ q := by rw [← hrd.2.2.2.1]; exact run_ge hrd.2.2.1
      rw [epc] at f7
      have ltc : (tc ++ ts.map tkC).length = tc.length + ts.length := by simp
      have ltr' : (tr ++ ts.map tkI).length = tr.length + ts.length := by simp
      have hlen0 := h.2.2.2.2.2
      obtain ⟨I2', g1, g2, g3, g4⟩ := tpC_nop (J' := J') (m := m') (nn := nn') hN hK f4 hpm (by rw [ltr']; omega) hst3
      have hrd2 := hrd.ft g4
      obtain ⟨I2, c1, c2, c3⟩ := emC_c (S := S) (Rf := Rf) (J := J) (o := opA an) hpc (fun z => by rw [ltc]; omega)
      rw [a5] at c2
      have hrd3 : Rd b mb n w q q' I2 I2' := hrd2.keep (by rw [c3 _ (by omega) (by omega)]) (by rw [c3 _ (by omega) (by omega)]) (c3 _ (by omega) (by omega)) rfl rfl rfl rfl
      obtain ⟨r, w1, w2⟩ := q_word (S := S) (Rf := Rf) (J := J) hN hrd3
      have frC : FR b mb K I1 (up2 I2 (b + 2) 3 (nI (ltr w n q))) I1' I2' := ⟨fun a h1 h2 h3 => by rw [up2_ne _ _ _ h1, c3 a h2 h3], by rw [up2_at (Or.inr (by decide)), c3 _ (by omega) (by omega)], fun a h1 h2 h3 _ => g4.1 a h1 h2 h3, fun k _ _ _ _ h5 h6 => g4.2.1 k h5 h6, g4.2.2.1, fun i hi => g4.2.2.2 i (by omega)⟩
      have hpc3 : PCt b (tc ++ ts.map tkC ++ (tk0 (ia an)).map tkC) V' (up2 I2 (b + 2) 3 (nI (ltr w n q))) := c2.cg (up2_ne _ _ _ (by omega)) (up2_ne _ _ _ (by omega))
      have hrd4 : Rd b mb n w q q' (up2 I2 (b + 2) 3 (nI (ltr w n q))) I2' := hrd3.word _
      have l2 : (tc ++ ts.map tkC ++ (tk0 (ia an)).map tkC).length = tc.length + ts.length + (ia an).length := by simp [tk0]; omega
      obtain ⟨m', rfl⟩ : ∃ z, m' = z + 1 := ⟨m' - 1, by omega⟩
      obtain ⟨nn', rfl⟩ : ∃ z, nn' = z + 1 := ⟨nn' - 1, by omega⟩
      rw [f1, b3s, if_neg i10, c1, b3s, w1, b3s, f2, g1]
      by_cases c15 : r = nI 15
      · rw [if_pos (show r = (15 : Int32) from c15)]
        obtain ⟨hl1, hl2, I4', k1, k2, k3, k4, k5, k6, k7, k8⟩ := tpL_word (J' := J') (m := m') (nn := nn') (s := 12) (pops := ia an) (rest := io orr ++ st) hN hK hrd4 w2 (Or.inl ⟨rfl, c15⟩) g2 (fun x hx => by rw [a4 x hx]; decide) (fun x t e => by
            cases orr with
            | true => cases e; decide
            | false => have e' : st = x :: t := e; rw [hbase x t e']; decide) g3 (by rw [ltr']; omega) (by simp at hsl ⊢; omega)
        have pw := c_passWord (N := N) (S := S) (Rf := Rf) (J := J) (e := ltr w n q) hN hrd4.1 (up2_same _ _ _ _) hl2
        have hrd5 : Rd b mb n w (skp w n (ltr w n q)) (ltr w n q) (up2 (up2 I2 (b + 2) 3 (nI (ltr w n q))) (b + 2) 2 (nI (skp w n (ltr w n q)))) I4' := ⟨hrd4.1.keep (up2_at (Or.inr (by decide))) (up2_ne _ _ _ (by omega)), hrd4.2.1.keep (k6 1 (by decide) (by decide) (by decide)) (k5 _ (by omega) (by omega) (by omega) (by omega)), hl2, rfl, up2_same _ _ _ _, k4, (k6 9 (by decide) (by decide) (by decide)).trans hrd4.2.2.2.2.2.2⟩
        have frD : FR b mb K (up2 I2 (b + 2) 3 (nI (ltr w n q))) (up2 (up2 I2 (b + 2) 3 (nI (ltr w n q))) (b + 2) 2 (nI (skp w n (ltr w n q)))) I2' I4' := ⟨fun a h1 _ _ => up2_ne _ _ _ h1, up2_at (Or.inr (by decide)), k5, fun k h1 _ _ _ h5 h6 => k6 k h1 h5 h6, k7, fun i hi => k8 i (by omega)⟩
        have hPS5 : PS b mb n w K (skp w n (ltr w n q)) (ltr w n q) (tc ++ ts.map tkC ++ (tk0 (ia an)).map tkC) (tr ++ ts.map tkI ++ (tk0 (ia an)).map tkI) V' (up2 (up2 I2 (b + 2) 3 (nI (ltr w n q))) (b + 2) 2 (nI (skp w n (ltr w n q)))) I4' := PS_iff.mpr ⟨hrd5, hpc3.cg (up2_ne _ _ _ (by omega)) (up2_ne _ _ _ (by omega)), hV, hK, k3, by simp only [List.length_append, List.length_map]; omega⟩
        rw [pw, b3s, nI_1, k1]
        have fr5 := (f5.t2 frC).t2 frD
        rcases ih true orr (i + 1) mC N nn' _ _ V' _ _ _ _ (by omega) (by omega) (by omega) (by omega) hPS5 k2 (by simp [ia] at hsl ⊢; omega) (by rw [l2]; show _ + 1 + (io orr).length + pcS st + e ≤ _; omega) (by omega) with ⟨Iz, Iz', e1, e2, e3⟩ | ⟨tz, inner, z, z', Vz, mz, nz, rz, Iz, Iz', e1, e2, e3, ⟨e4, e5, e6⟩, e7, e8, e9, e10, ⟨e11, e12⟩, ⟨e13, e14⟩, e15, e16, e17⟩
        · exact Or.inl ⟨Iz, Iz', e1, e2, FL.of fr5 e3⟩
        · refine Or.inr ⟨ts ++ tk0 (ia an) ++ tz, inner, z, z', Vz, mz, nz, rz, Iz, Iz', e1, e2, e3, ⟨?_, e5, ?_⟩, e7, e8, fr5.t2 e9, by omega, ⟨?_, e12⟩, ⟨by omega, e14⟩, ?_, fun k => ?_, ?_⟩
          · simp only [List.map_append, ← List.append_assoc] at e4 ⊢; exact e4
          · simp only [List.map_append, ← List.append_assoc] at e6 ⊢; exact e6
          · rw [l2] at e11
            have : (tk0 (ia an)).length = (ia an).length := by simp [tk0]
            simp only [List.length_append, this]; omega
          · intro t ht
            rw [List.append_assoc] at ht
            rcases List.mem_append.mp ht with ht | ht
            · rcases List.mem_append.mp ht with ht | ht
              · exact f10 t ht
              · exact tk0_ok (fun x hx => Or.inl (a4 x hx)) t ht
            · exact e15 t ht
          · rw [List.append_assoc]
            have r1 := f11 (k + ((ia an).length + (io orr).length))
            have r2 := ia_red an (k + (io orr).length)
            rw [show k + (io orr).length + 1 + (ia an).length = k + ((ia an).length + (io orr).length) + 1 by omega] at r2
            have r3 := e16 k
            rw [show k + ((ia true).length + (io orr).length) = k + (io orr).length + 1 by show k + (1 + _) = _; omega] at r3
            exact (r1.app r2).app r3
          · have c0 := tk0_cnt (ia an) (fun x hx => by rw [a4 x hx]; omega)
            rw [List.append_assoc, cntT_app, cntT_app, c0]; omega
      · rw [if_neg (show ¬ r = (15 : Int32) from c15)]
        obtain ⟨I3, d1, d2, d3⟩ := emC_c (S := S) (Rf := Rf) (J := J) (o := opB orr) hpc3 (fun z => by rw [l2]; omega)
        rw [o5] at d2
        have l3 : (tc ++ ts.map tkC ++ (tk0 (ia an)).map tkC ++ (tk0 (io orr)).map tkC).length = tc.length + ts.length + (ia an).length + (io orr).length := by rw [List.length_append, l2]; simp [tk0]
        have hrd5 : Rd b mb n w q q' I3 I2' := hrd4.keep (by rw [d3 _ (by omega) (by omega)]) (by rw [d3 _ (by omega) (by omega)]) (d3 _ (by omega) (by omega)) rfl rfl rfl rfl
        have e3 : I3 (b + 2) 3 = nI (ltr w n q) := by rw [d3 _ (by omega) (by omega), up2_same]
        have frE : FR b mb K (up2 I2 (b + 2) 3 (nI (ltr w n q))) I3 I2' I2' := ⟨fun a _ h2 h3 => d3 a h2 h3, by rw [d3 _ (by omega) (by omega)], fun _ _ _ _ _ => rfl, fun _ _ _ _ _ _ _ => rfl, fun _ _ => rfl, fun _ _ => rfl⟩
        have hin : ∀ x, x ∈ ia an ++ io orr → x = 12 ∨ x = 13 := fun x hx => by
          rcases List.mem_append.mp hx with hx | hx
          · exact Or.inl (a4 x hx)
          · exact Or.inr (o4 x hx)
        have etk : tk0 (ia an ++ io orr) = tk0 (ia an) ++ tk0 (io orr) := List.map_append
        have g2' : StM mb ((ia an ++ io orr) ++ st) I2' := by rw [List.append_assoc]; exact g2
        have redI : ∀ k, RedB (k + 1 + ((ia an).length + (io orr).length)) (k + 1) (tk0 (ia an) ++ tk0 (io orr)) := fun k => by
          have r2 := ia_red an (k + (io orr).length)
          have r3 := io_red orr k
          rw [show k + 1 + (io orr).length = k + (io orr).length + 1 by omega] at r3
          rw [show k + (io orr).length + 1 + (ia an).length = k + 1 + ((ia an).length + (io orr).length) by omega] at r2
          exact r2.app r3
        have cntI : cntT (tk0 (ia an) ++ tk0 (io orr)) = 0 := by
          rw [← etk]; exact tk0_cnt _ (fun x hx => by have := hin x hx; omega)
        have okI : ∀ t, t ∈ tk0 (ia an) ++ tk0 (io orr) → TkOK t := by rw [← etk]; exact tk0_ok hin
        have lenI : (tk0 (ia an) ++ tk0 (io orr)).length = (ia an).length + (io orr).length := by simp [tk0]
        rw [d1, b3s]
        by_cases c14 : r = nI 14
        · rw [if_pos (show r = (14 : Int32) from c14)]
          obtain ⟨hl1, hl2, I4', k1, k2, k3, k4, k5, k6, k7, k8⟩ := tpL_word (J' := J') (m := m') (nn := nn') (s := 13) (pops := ia an ++ io orr) (rest := st) hN hK hrd5 w2 (Or.inr ⟨rfl, c14⟩) g2' (fun x hx => by rcases hin x hx with rfl | rfl <;> decide) (fun x t e => by rw [hbase x t e]; decide) g3 (by rw [ltr', List.length_append]; omega) (by simp at hsl ⊢; omega)
          have pw := c_passWord (N := N) (S := S) (Rf := Rf) (J := J) (e := ltr w n q) hN hrd5.1 e3 hl2
          have hrd6 : Rd b mb n w (skp w n (ltr w n q)) (ltr w n q) (up2 I3 (b + 2) 2 (nI (skp w n (ltr w n q)))) I4' := ⟨hrd5.1.keep (up2_at (Or.inr (by decide))) (up2_ne _ _ _ (by omega)), hrd5.2.1.keep (k6 1 (by decide) (by decide) (by decide)) (k5 _ (by omega) (by omega) (by omega) (by omega)), hl2, rfl, up2_same _ _ _ _, k4, (k6 9 (by decide) (by decide) (by decide)).trans hrd5.2.2.2.2.2.2⟩
          have frD : FR b mb K I3 (up2 I3 (b + 2) 2 (nI (skp w n (ltr w n q)))) I2' I4' := ⟨fun a h1 _ _ => up2_ne _ _ _ h1, up2_at (Or.inr (by decide)), k5, fun k h1 _ _ _ h5 h6 => k6 k h1 h5 h6, k7, fun i hi => k8 i (by omega)⟩
          rw [etk] at k3
          have hPS6 : PS b mb n w K (skp w n (ltr w n q)) (ltr w n q) (tc ++ ts.map tkC ++ (tk0 (ia an)).map tkC ++ (tk0 (io orr)).map tkC) (tr ++ ts.map tkI ++ (tk0 (ia an) ++ tk0 (io orr)).map tkI) V' (up2 I3 (b + 2) 2 (nI (skp w n (ltr w n q)))) I4' := PS_iff.mpr ⟨hrd6, d2.cg (up2_ne _ _ _ (by omega)) (up2_ne _ _ _ (by omega)), hV, hK, k3, by simp only [List.length_append, List.length_map]; omega⟩
          rw [pw, b3s, nI_1, k1]
          have fr5 := ((f5.t2 frC).t2 frE).t2 frD
          rcases ih false true (i + 1) mC N nn' _ _ V' _ _ _ _ (by omega) (by omega) (by omega) (by omega) hPS6 k2 (by simp [ia, io] at hsl ⊢; omega) (by rw [l3]; show _ + 0 + 1 + pcS st + e ≤ _; omega) (by omega) with ⟨Iz, Iz', e1, e2, e3⟩ | ⟨tz, inner, z, z', Vz, mz, nz, rz, Iz, Iz', e1, e2, e3, ⟨e4, e5, e6⟩, e7, e8, e9, e10, ⟨e11, e12⟩, ⟨e13, e14⟩, e15, e16, e17⟩
          · exact Or.inl ⟨Iz, Iz', e1, e2, FL.of fr5 e3⟩
          · refine Or.inr ⟨ts ++ (tk0 (ia an) ++ tk0 (io orr)) ++ tz, inner, z, z', Vz, mz, nz, rz, Iz, Iz', e1, e2, e3, ⟨?_, e5, ?_⟩, e7, e8, fr5.t2 e9, by omega, ⟨?_, e12⟩, ⟨by omega, e14⟩, ?_, fun k => ?_, ?_⟩
            · simp only [List.map_append, ← List.append_assoc] at e4 ⊢; exact e4
            · simp only [List.map_append, ← List.append_assoc] at e6 ⊢; exact e6
            · rw [l3] at e11
              rw [List.length_append, List.length_append, lenI]; omega
            · intro t ht
              rw [List.append_assoc] at ht
              rcases List.mem_append.mp ht with ht | ht
              · rcases List.mem_append.mp ht with ht | ht
                · exact f10 t ht
                · exact okI t ht
              · exact e15 t ht
            · rw [List.append_assoc]
              have r1 := f11 (k + ((ia an).length + (io orr).length))
              have r2 := redI k
              rw [show k + 1 + ((ia an).length + (io orr).length) = k + ((ia an).length + (io orr).length) + 1 by omega] at r2
              exact (r1.app r2).app (e16 k)
            · rw [List.append_assoc, cntT_app, cntT_app, cntI]; omega
        · rw [if_neg (show ¬ r = (14 : Int32) from c14)]
          refine Or.inr ⟨ts, ia an ++ io orr, q, q', V', m' + 1, nn' + 1, r, I3, I2', rfl, rfl, hrd5, ⟨?_, hV, g3⟩, ⟨g2', hin⟩, ⟨w2, c14, c15⟩, (f5.t2 frC).t2 frE, f6, ⟨?_, ?_⟩, ⟨f8, f9⟩, ?_, fun k => ?_, ?_⟩
          · rw [etk]
            simp only [List.map_append, ← List.append_assoc] at d2 ⊢; exact d2
          · rw [List.length_append]; omega
          · rw [List.append_assoc]; omega
          · intro t ht
            rw [etk] at ht
            rcases List.mem_append.mp ht with ht | ht
            · exact f10 t ht
            · exact okI t ht
          · rw [etk]
            have r1 := f11 (k + ((ia an).length + (io orr).length))
            have r2 := redI k
            rw [show k + 1 + ((ia an).length + (io orr).length) = k + ((ia an).length + (io orr).length) + 1 by omega] at r2
            exact r1.app r2
          · rw [etk, cntT_app, cntI]; omega
theorem T_step {k : Nat} (hN : 1000 ≤ N) (ihF : FCl e N b mb n w K S Rf J J' k) : TCl e N b mb n w K S Rf J J' (k + 1) := by
  intro d st p p' V m2 nn tc tr I I' hk hd hdp hbase hm2 h hst hsl hb hnn
  have h4 := h.1.n4
  have t := T_L (S := S) (Rf := Rf) (J := J) (J' := J') (st := st) hN ihF (by omega) hd hdp hbase 401 false false 0 N m2 nn p p' V tc tr I I' (by omega) (by omega) (by omega) hm2 h hst hsl (by show tc.length + 0 + 0 + pcS st + e ≤ p'; omega) hnn
  have cl : f6_rec_readsTest N b S Rf (k + 1) 0 (nI d) I J = yb_b3 (g6_readsTest_L7 N b S Rf (f6_rec_readsTest N b S Rf k 1) (nI d) N (xb false) (xb false) (nI 0) I J) fun q I J => yb_sm q (fun v => some (v, I, J)) fun _ => some ((0 : Int32), I, J) := rfl
  rw [cl]
  rcases t with ⟨I1, I1', e1, e2, e3⟩ | ⟨ts, inner, q, q', V', m', nn', r, I1, I1', e1, e2⟩
  · exact Or.inl ⟨I1, I1', by rw [e1, b3s, sml], e2, e3⟩
  · exact Or.inr ⟨ts, inner, q, q', V', m', nn', r, I1, I1', by rw [e1, b3s, sml], e2⟩
/-- facts and tests, all of them -/
theorem FT_all (hN : 1000 ≤ N) : ∀ k, FCl e N b mb n w K S Rf J J' k ∧ TCl e N b mb n w K S Rf J J' k := by
  intro k
  induction k with
  | zero => exact ⟨fun d st p p' V m2 nn tc tr I I' hk hd => by omega, fun d st p p' V m2 nn tc tr I I' hk hd => by omega⟩
  | succ k ih => exact ⟨F_step hN ih.1 ih.2, T_step hN ih.1⟩
end TEST3
