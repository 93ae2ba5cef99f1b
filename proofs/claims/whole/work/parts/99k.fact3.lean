/-! RULE: a fact in brackets -/
section FACT3
variable {N b mb n p p' K V e m nn : Nat} {w : Nat → Nat} {tc tr : List Int32} {S : ST} {Rf : RT} {I I1 I2 I' I1' I2' : IT} {J J' : JT} {r : Int32} {st : List Nat}
theorem F_br {d k m2 : Nat} (hN : 1000 ≤ N) (ihT : TCl e N b mb n w K S Rf J J' k) (hk : 21 ≤ k + 1 + 2 * d) (hd : d ≤ 10) (hdp : dpS st = d) (hm2 : 12 ≤ m2 + d) (h : PS b mb n w K p p' tc tr V I I') (hst : StM mb st I') (hsl : st.length ≤ p') (hb : tc.length + pcS st + e ≤ p') (hnn : n - p' < nn) (hr : WIx w n p r) (w1 : f3_word N b S Rf I J = some (r, up2 I (b + 2) 3 (nI (ltr w n p)), J)) (e16 : ¬ r = nI 16) (e91 : chr w n p = 91) : OkF e N b mb n w K st tc tr V p' nn I I' J J' (f6_rec_readsTest N b S Rf (k + 1) 1 (nI d) I J) (tpA N mb m2 nn I' J') := by
  obtain ⟨hrd, hpc, hV, hK, hpm, hlen⟩ := PS_iff.mp h
  have h4 := hrd.n4
  have hpp : p' ≤ p := by rw [← hrd.2.2.2.1]; exact run_ge hrd.2.2.1
  have frW : FrN b mb I (up2 I (b + 2) 3 (nI (ltr w n p))) I' (up2 I' mb 8 (nI p)) := ⟨fun a k q => up2_at (by omega), fun a k q => up2_at (by omega)⟩
  have hTw : TC b n w (up2 I (b + 2) 3 (nI (ltr w n p))) := (hrd.word _).1
  have e2w : up2 I (b + 2) 3 (nI (ltr w n p)) (b + 2) 2 = nI p := (up2_at (Or.inr (by decide))).trans hrd.2.2.2.2.1
  obtain ⟨m, rfl⟩ : ∃ q, m2 = q + 1 := ⟨m2 - 1, by omega⟩
  have cl : f6_rec_readsTest N b S Rf (k + 1) 1 (nI d) I J = if nI d < (10 : Int32) then yb_b3 (f3_passSign N b S Rf (up2 I (b + 2) 3 (nI (ltr w n p))) J) fun _ I J => yb_b3 (f6_rec_readsTest N b S Rf k 0 (nI d + 1) I J) fun r I J => if r = 0 then some ((0 : Int32), I, J) else yb_b3 (f3_sign b S Rf I J) fun r I J => if r = (93 : Int32) then yb_b3 (f3_passSign N b S Rf I J) fun _ I J => some ((1 : Int32), I, J) else yb_b3 (f3_fail b S Rf (0 : Int32) I J) fun r I J => yb_ck (bz r) fun _ => some (r, I, J) else yb_b3 (f3_fail b S Rf (2 : Int32) (up2 I (b + 2) 3 (nI (ltr w n p))) J) fun r I J => yb_ck (bz r) fun _ => some (r, I, J) := by
    rw [f6_rec_readsTest]
    unfold g6_readsFact
    rw [w1, b3s, if_neg (show ¬ r = (16 : Int32) from e16), q_sign (hrd.word _), b3s, if_pos e91]
  rw [cl]
  obtain ⟨hpn, tp⟩ := tpA_br (J' := J') (m := m) (nn := nn) hN hrd hr e16 e91 hst hsl
  rcases tp with ⟨c, t1⟩ | ⟨c, Ia', t1, t2, t3, t4, t5⟩
  · have hd10 : d = 10 := by omega
    subst hd10
    rw [if_neg (show ¬ nI 10 < (10 : Int32) by decide), c_fail (p := p) e2w, b3s, yb_ck_t (show bz 0 = true from rfl), t1]
    exact Or.inl ⟨_, _, rfl, rfl, fl_at (k := 2) rfl (by omega) (by omega) frW.fr⟩
  · have hd10 : d < 10 := by omega
    have pw := c_passSign (N := N) (S := S) (Rf := Rf) (J := J) hN hTw e2w hpn
    have hRd : Rd b mb n w (skp w n (p + 1)) (p + 1) (up2 (up2 I (b + 2) 3 (nI (ltr w n p))) (b + 2) 2 (nI (skp w n (p + 1)))) Ia' := ⟨hTw.keep (up2_at (Or.inr (by decide))) (up2_ne _ _ _ (by omega)), hrd.2.1.keep (t5 1 (by decide) (by decide) (by decide)) (t4 _ (by omega) (by omega)), hpn, rfl, up2_same _ _ _ _, t3, (t5 9 (by decide) (by decide) (by decide)).trans hrd.2.2.2.2.2.2⟩
    have frA : FR b mb K I (up2 (up2 I (b + 2) 3 (nI (ltr w n p))) (b + 2) 2 (nI (skp w n (p + 1)))) I' Ia' := ⟨fun a h1 _ _ => by rw [up2_ne _ _ _ h1, up2_ne _ _ _ h1], by rw [up2_at (Or.inr (by decide)), up2_at (Or.inr (by decide))], fun a h1 _ _ h4 => t4 a h1 h4, fun k h1 _ _ _ h5 h6 => t5 k h1 h5 h6, fun i _ => by rw [t4 _ (by omega) (by omega)], fun i _ => by rw [t4 _ (by omega) (by omega)]⟩
    have hP2 : PS b mb n w K (skp w n (p + 1)) (p + 1) tc tr V (up2 (up2 I (b + 2) 3 (nI (ltr w n p))) (b + 2) 2 (nI (skp w n (p + 1)))) Ia' := PS_iff.mpr ⟨hRd, hpc.cg (by rw [up2_ne _ _ _ (by omega), up2_ne _ _ _ (by omega)]) (by rw [up2_ne _ _ _ (by omega), up2_ne _ _ _ (by omega)]), hV, hK, hpm.cg (t5 _ (by decide) (by decide) (by decide)) (t5 _ (by decide) (by decide) (by decide)) (t4 _ (by omega) (by omega)) (t4 _ (by omega) (by omega)), hlen⟩
    have edp : dpS (91 :: st) = d + 1 := by show (if 91 = 11 ∨ 91 = 91 then 1 else 0) + dpS st = d + 1; rw [if_pos (Or.inr rfl)]; omega
    have epc : pcS (91 :: st) = pcS st := by show (if 91 = 91 then 0 else 1) + pcS st = pcS st; rw [if_pos rfl]; omega
    rw [if_pos (show nI d < (10 : Int32) from nI_lt (b := 10) hd10 (by omega)), pw, b3s, nI_1, t1]
    rcases ihT (d + 1) (91 :: st) _ _ V m nn tc tr _ _ (by omega) (by omega) edp (fun x r z => by cases z; rfl) (by omega) hP2 t2 (by simp; omega) (by rw [epc]; omega) (by omega) with ⟨I3, I3', a1, a2, a3⟩ | ⟨ts, inner, q, q', V', m', nn', r', I3, I3', a1, a2, a3, ⟨a4, a5, a6⟩, ⟨a7, a8⟩, ⟨a9, a10, a11⟩, a12, a13, ⟨a14, a15⟩, ⟨a16, a17⟩, a18, a19, a20⟩
    · exact Or.inl ⟨I3, I3', by rw [a1, b3s, if_pos rfl], a2, FL.of frA a3⟩
    · have hq4 := a3.2.2.1
      have hq5 := a3.le
      have hqq : q' ≤ q := by rw [← a3.2.2.2.1]; exact run_ge a3.2.2.1
      rw [epc] at a14
      have ltr' : (tr ++ ts.map tkI).length = tr.length + ts.length := by simp
      obtain ⟨m', rfl⟩ : ∃ z, m' = z + 1 := ⟨m' - 1, by omega⟩
      rw [a1, b3s, if_neg i10, q_sign a3, b3s, a2]
      by_cases c93 : chr w n q = 93
      · obtain ⟨hqn, I4', k1, k2, k3, k4, k5, k6, k7, k8⟩ := tpL_br (J' := J') (m := m') (nn := nn') hN hK a3 c93 a7 a8 a6 (by rw [ltr']; omega)
        have pw2 := c_passSign (N := N) (S := S) (Rf := Rf) (J := J) hN a3.1 a3.2.2.2.2.1 hqn
        have hRd4 : Rd b mb n w (skp w n (q + 1)) (q + 1) (up2 I3 (b + 2) 2 (nI (skp w n (q + 1)))) I4' := ⟨a3.1.keep (up2_at (Or.inr (by decide))) (up2_ne _ _ _ (by omega)), a3.2.1.keep (k6 1 (by decide) (by decide) (by decide)) (k5 _ (by omega) (by omega) (by omega)), hqn, rfl, up2_same _ _ _ _, k4, (k6 9 (by decide) (by decide) (by decide)).trans a3.2.2.2.2.2.2⟩
        have frB : FR b mb K I3 (up2 I3 (b + 2) 2 (nI (skp w n (q + 1)))) I3' I4' := ⟨fun a h1 _ _ => up2_ne _ _ _ h1, up2_at (Or.inr (by decide)), fun a h1 h2 h3 _ => k5 a h1 h2 h3, fun k h1 _ _ _ h5 h6 => k6 k h1 h5 h6, k7, fun i hi => k8 i (by omega)⟩
        rw [if_pos c93, pw2, b3s]
        refine Or.inr ⟨ts ++ inner.map (fun s => ((s, 0) : Tk)), skp w n (q + 1), q + 1, V', m', nn', _, I4', rfl, k1, PS_iff.mpr ⟨hRd4, a4.cg (up2_ne _ _ _ (by omega)) (up2_ne _ _ _ (by omega)), a5, hK, ?_, ?_⟩, k2, (frA.t2 a12).t2 frB, by omega, ?_, ⟨by omega, by omega⟩, a18, a19, a20⟩
        · have em : (ts ++ inner.map (fun s => ((s, 0) : Tk))).map tkI = ts.map tkI ++ inner.map (fun s => tkI (s, 0)) := by rw [List.map_append, List.map_map]; rfl
          rw [em, ← List.append_assoc]
          exact k3
        · simp only [List.length_append, List.length_map]; omega
        · simp only [List.length_append, List.length_map]; omega
      · obtain ⟨nn', rfl⟩ : ∃ z, nn' = z + 1 := ⟨nn' - 1, by omega⟩
        have hs3 := a3.seen
        have hst3 : StM mb (inner ++ 91 :: st) (up2 I3' mb 8 (nI q)) := a7.fs ⟨up2_at (Or.inr (by decide)), up2_at (Or.inr (by decide)), up2_ne _ _ _ (by omega)⟩
        rw [if_neg c93, c_fail a3.2.2.2.2.1, b3s, yb_ck_t (show bz 0 = true from rfl), tpL_end hN a3 a9 a10 a11 a7 (Or.inl c93), tsE_in hN hs3 hst3 (by simp)]
        exact Or.inl ⟨_, _, rfl, rfl, fl_at (k := 0) rfl (by omega) (by omega) ((frA.t2 a12).t2 (FrN.see (b := b) (I := I3) (nI q)).fr)⟩
theorem F_step {k : Nat} (hN : 1000 ≤ N) (ihF : FCl e N b mb n w K S Rf J J' k) (ihT : TCl e N b mb n w K S Rf J J' k) : FCl e N b mb n w K S Rf J J' (k + 1) := by
  intro d st p p' V m2 nn tc tr I I' hk hd hdp hm2 h hst hsl hb hnn
  obtain ⟨r, w1, w2⟩ := q_word (S := S) (Rf := Rf) (J := J) hN h.1
  by_cases e16 : r = nI 16
  · exact F_not hN ihF hk hd hdp hm2 h hst hsl hb hnn w2 w1 e16
  · by_cases e91 : chr w n p = 91
    · exact F_br hN ihT hk hd hdp hm2 h hst hsl hb hnn w2 w1 e16 e91
    · exact F_cmp hN (by omega) h hst hb w2 w1 e16 e91
end FACT3
