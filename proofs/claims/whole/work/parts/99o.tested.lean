/-! RULE: a whole test on both sides -/
section TESTED
variable {N b mb n p p' K V e : Nat} {w : Nat → Nat} {tc tr : List Int32} {S : ST} {Rf : RT} {I I' : IT} {J J' : JT}
theorem q_tested (hN : 1000 ≤ N) (h : PS b mb n w K p p' tc tr V I I') (hb : tc.length + e ≤ p') :
    (∃ I1 I1', f6_readsTest N b S Rf 0 I J = some (0, I1, J) ∧ f12_tested N mb I' J' = some (0, I1', J') ∧ FL b mb K I I1 I' I1') ∨
    ∃ (ts : List Tk) (q q' V' : Nat) (I1 I1' : IT), f6_readsTest N b S Rf 0 I J = some (1, I1, J) ∧ f12_tested N mb I' J' = some (1, I1', J') ∧ PS b mb n w K q q' (tc ++ ts.map tkC) (tr ++ ts.map tkI) V' I1 I1' ∧ FR b mb K I I1 I' I1' ∧ p' < q' ∧ tc.length + ts.length + e ≤ q' ∧ (∀ t, t ∈ ts → TkOK t) ∧ RedB 0 1 ts ∧ V + cntT ts ≤ V' := by
  obtain ⟨hrd, hpc, hV, hK, hpm, hlen⟩ := PS_iff.mp h
  have h4 := hrd.n4
  have hp'n := hrd.2.2.1
  have frI : FR b mb K I I I' (up2 (up2 I' mb 16 0) mb 13 0) := ⟨fun _ _ _ _ => rfl, rfl, fun a h1 _ _ _ => by rw [up2_ne _ _ _ h1, up2_ne _ _ _ h1], fun k _ _ _ _ h5 h6 => by rw [up2_at (Or.inr h5), up2_at (Or.inr h6)], fun i _ => by rw [up2_ne _ _ _ (by omega), up2_ne _ _ _ (by omega)], fun i _ => by rw [up2_ne _ _ _ (by omega), up2_ne _ _ _ (by omega)]⟩
  have hP : PS b mb n w K p p' tc tr V I (up2 (up2 I' mb 16 0) mb 13 0) := PS_iff.mpr ⟨hrd.keep rfl rfl rfl (by rw [up2_at (Or.inr (by decide)), up2_at (Or.inr (by decide))]) (by rw [up2_at (Or.inr (by decide)), up2_at (Or.inr (by decide))]) (by rw [up2_at (Or.inr (by decide)), up2_at (Or.inr (by decide))]) (by rw [up2_ne _ _ _ (by omega), up2_ne _ _ _ (by omega)]), hpc, hV, hK, hpm.cg (by rw [up2_at (Or.inr (by decide)), up2_at (Or.inr (by decide))]) (by rw [up2_at (Or.inr (by decide)), up2_at (Or.inr (by decide))]) (by rw [up2_ne _ _ _ (by omega), up2_ne _ _ _ (by omega)]) (by rw [up2_ne _ _ _ (by omega), up2_ne _ _ _ (by omega)]), hlen⟩
  have hst : StM mb [] (up2 (up2 I' mb 16 0) mb 13 0) := ⟨by rw [up2_at (Or.inr (by decide)), up2_same]; rfl, trivial, up2_same _ _ _ _, fun x hx => (by cases hx), by decide⟩
  obtain ⟨M, hM⟩ : ∃ M, N = M + 1 := ⟨N - 1, by omega⟩
  have eT : f12_tested N mb I' J' = tpA N mb N M (up2 (up2 I' mb 16 0) mb 13 0) J' := by
    rw [tested_all, ← tpA_eq, ← hM]
  have eC : f6_readsTest N b S Rf 0 I J = f6_rec_readsTest N b S Rf 26 0 (nI 0) I J := rfl
  rw [eT, eC]
  rcases (FT_all (e := e) (b := b) (mb := mb) (n := n) (w := w) (K := K) (S := S) (Rf := Rf) (J := J) (J' := J') hN 26).2 0 [] p p' V N M tc tr I _ (by omega) (by omega) rfl (fun x r e => (by cases e)) (by omega) hP hst (Nat.zero_le _) (by show tc.length + 0 + e ≤ p'; omega) (by omega) with ⟨I1, I1', e1, e2, e3⟩ | ⟨ts, inner, q, q', V', m', nn', r, I1, I1', a1, a2, a3, ⟨a4, a5, a6⟩, ⟨a7, a8⟩, ⟨a9, a10, a11⟩, a12, a13, ⟨a14, a15⟩, ⟨a16, a17⟩, a18, a19, a20⟩
  · exact Or.inl ⟨I1, I1', e1, e2, FL.of frI e3⟩
  · have hq4 := a3.2.2.1
    have hqq : q' ≤ q := by rw [← a3.2.2.2.1]; exact run_ge a3.2.2.1
    have hqn := a3.le
    obtain ⟨m', rfl⟩ : ∃ z, m' = z + 1 := ⟨m' - 1, by omega⟩
    obtain ⟨nn', rfl⟩ : ∃ z, nn' = z + 1 := ⟨nn' - 1, by omega⟩
    have h91 : 91 ∉ inner ++ [] := fun z => by
      rw [List.append_nil] at z
      have := a8 91 z
      omega
    have hst2 : StM mb (inner ++ []) (up2 I1' mb 8 (nI q)) := a7.fs ⟨up2_at (Or.inr (by decide)), up2_at (Or.inr (by decide)), up2_ne _ _ _ (by omega)⟩
    have hpm2 : PMt mb K (tr ++ ts.map tkI) V' (up2 I1' mb 8 (nI q)) := a6.cg (up2_at (Or.inr (by decide))) (up2_at (Or.inr (by decide))) (up2_ne _ _ _ (by omega)) (up2_ne _ _ _ (by omega))
    have hpc0 : pcS ([] : List Nat) = 0 := rfl
    have ltr' : (tr ++ ts.map tkI).length = tr.length + ts.length := by simp
    obtain ⟨I2, k1, k2, k3, k4⟩ := m_settles (N := N) (mb := mb) (J' := J') (Lv := 1) (by omega) (by omega) hK [] (fun x t e => (by cases e)) inner N (tr ++ ts.map tkI) (up2 I1' mb 8 (nI q)) (by simp at a15; omega) (fun x hx => by rcases a8 x hx with rfl | rfl <;> decide) hst2 hpm2 (by rw [ltr']; omega)
    have k1' : f12_settles N mb 1 (up2 I1' mb 8 (nI q)) J' = some ((), I2, J') := by
      unfold f12_settles
      rw [show (1 : Int32) = nI 1 from rfl, k1, b3s]
    have eE : tsE N mb (Sum.inr ()) (up2 I1' mb 8 (nI q)) J' = some (1, I2, J') := by
      unfold tsE
      rw [smr, m_inside hN hst2, if_neg h91, b3s, if_pos rfl, k1', b3s]
    have em : (ts ++ inner.map (fun s => ((s, 0) : Tk))).map tkI = ts.map tkI ++ inner.map (fun s => tkI (s, 0)) := by rw [List.map_append, List.map_map]; rfl
    have fr2 : FR b mb K I1 I1 I1' I2 := (FrN.see (b := b) (I := I1) (nI q)).fr.t2 k4.fr
    refine Or.inr ⟨ts ++ inner.map (fun s => ((s, 0) : Tk)), q, q, V', I1, I2, a1, by rw [a2, tpL_end hN a3 a9 a10 a11 a7 (Or.inr h91), eE], PS_iff.mpr ⟨a3.seen.ft k4, a4, a5, hK, ?_, ?_⟩, (frI.t2 a12).t2 fr2, by omega, ?_, a18, a19 0, a20⟩
    · rw [em, ← List.append_assoc]; exact k3
    · simp only [List.length_append, List.length_map]; omega
    · simp only [List.length_append, List.length_map]; omega
end TESTED
