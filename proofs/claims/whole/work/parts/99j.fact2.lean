/-! RULE: a fact with not, a fact in brackets -/
section FACT2
variable {N b mb n p p' K V e m nn : Nat} {w : Nat → Nat} {tc tr : List Int32} {S : ST} {Rf : RT} {I I1 I2 I' I1' I2' : IT} {J J' : JT} {r : Int32} {st : List Nat}
/-- nothing more belongs to the test -/
theorem tpL_end (hN : 1000 ≤ N) (h : Rd b mb n w p p' I I') (hr : WIx w n p r) (h14 : ¬ r = nI 14) (h15 : ¬ r = nI 15) (hst : StM mb st I') (hc : ¬ chr w n p = 93 ∨ 91 ∉ st) : tpL N mb (m + 1) (nn + 1) I' J' = tsE N mb (Sum.inr ()) (up2 I' mb 8 (nI p)) J' := by
  have hs := h.seen
  have hst2 : StM mb st (up2 I' mb 8 (nI p)) := hst.fs ⟨up2_at (Or.inr (by decide)), up2_at (Or.inr (by decide)), up2_ne _ _ _ (by omega)⟩
  have tw := (ts_word (J' := J') hN hs hr (nn + 1)).2.2 h15 h14
  rw [up2_up2, tested_0] at tw
  have cl : f12_closes_L5 N mb (m + 1) I' J' = some ((), up2 I' mb 8 (nI p), J') := by
    rw [f12_closes_L5, q_see hN h, b3s]
    by_cases c : chr w n p = 93
    · have h91 : 91 ∉ st := hc.resolve_left (fun z => z c)
      rw [if_pos c, m_inside hN hst2, if_neg h91, b3s, if_pos rfl]
    · rw [if_neg c]
  unfold tpL
  rw [cl, b3s, tw, b3s]
theorem tsE_in (hN : 1000 ≤ N) (h : Rd b mb n w p p I I') (hst : StM mb st I') (h91 : 91 ∈ st) : tsE N mb (Sum.inr ()) I' J' = some (0, up2 I' mb 9 ((1 + 8 * nI p) + 0), J') := by
  have e : up2 I' mb 8 (nI p) = I' := up2_eta _ _ _ h.2.2.2.2.2.1
  have see1 := q_see (J' := J') hN h
  rw [e] at see1
  unfold tsE
  rw [smr, m_inside hN hst, if_pos h91, b3s, if_neg i10, see1, b3s, h.2.2.2.2.2.1, m_fails h.2.2.2.2.2.2, b3s, yb_ck_t (show bz 0 = true from rfl)]
theorem F_not {d k m2 : Nat} (hN : 1000 ≤ N) (ihF : FCl e N b mb n w K S Rf J J' k) (hk : 21 ≤ k + 1 + 2 * d) (hd : d ≤ 10) (hdp : dpS st = d) (hm2 : 12 ≤ m2 + d) (h : PS b mb n w K p p' tc tr V I I') (hst : StM mb st I') (hsl : st.length ≤ p') (hb : tc.length + pcS st + e ≤ p') (hnn : n - p' < nn) (hr : WIx w n p r) (w1 : f3_word N b S Rf I J = some (r, up2 I (b + 2) 3 (nI (ltr w n p)), J)) (e16 : r = nI 16) : OkF e N b mb n w K st tc tr V p' nn I I' J J' (f6_rec_readsTest N b S Rf (k + 1) 1 (nI d) I J) (tpA N mb m2 nn I' J') := by
  obtain ⟨hrd, hpc, hV, hK, hpm, hlen⟩ := PS_iff.mp h
  have h4 := hrd.n4
  have hpn := hrd.le
  have hpp : p' ≤ p := by rw [← hrd.2.2.2.1]; exact run_ge hrd.2.2.1
  have hlt : p < ltr w n p := by
    rcases WIx_rng hr with q | ⟨i, _, _, q⟩
    · rw [q] at e16; exact absurd e16 (by decide)
    · exact q
  have hle : ltr w n p ≤ n := run_le hpn
  have frW : FrN b mb I (up2 I (b + 2) 3 (nI (ltr w n p))) I' (up2 I' mb 8 (nI p)) := ⟨fun a k q => up2_at (by omega), fun a k q => up2_at (by omega)⟩
  have hTw : TC b n w (up2 I (b + 2) 3 (nI (ltr w n p))) := (hrd.word _).1
  obtain ⟨m, rfl⟩ : ∃ q, m2 = q + 1 := ⟨m2 - 1, by omega⟩
  have cl : f6_rec_readsTest N b S Rf (k + 1) 1 (nI d) I J = if nI d < (10 : Int32) then yb_b3 (f3_passWord N b S Rf (up2 I (b + 2) 3 (nI (ltr w n p))) J) fun _ I J => yb_b3 (f6_rec_readsTest N b S Rf k 1 (nI d + 1) I J) fun r I J => if r = 0 then some ((0 : Int32), I, J) else yb_b3 (f6_put b S Rf (200012 : Int32) I J) fun _ I J => some ((1 : Int32), I, J) else yb_b3 (f3_fail b S Rf (2 : Int32) (up2 I (b + 2) 3 (nI (ltr w n p))) J) fun r I J => yb_ck (bz r) fun _ => some (r, I, J) := by
    rw [f6_rec_readsTest]
    unfold g6_readsFact
    rw [w1, b3s, if_pos (show r = (16 : Int32) from e16), q_sign (hrd.word _), b3s]
    by_cases c : chr w n p = 91
    · rw [if_pos c]
    · rw [if_neg c]
  rw [cl]
  rcases tpA_not (J' := J') (m := m) (nn := nn) hN hrd hr e16 hst hsl with ⟨c, t1⟩ | ⟨c, Ia', t1, t2, t3, t4, t5⟩
  · have hd10 : d = 10 := by omega
    subst hd10
    rw [if_neg (show ¬ nI 10 < (10 : Int32) by decide), c_fail (p := p) ((up2_at (Or.inr (by decide))).trans hrd.2.2.2.2.1), b3s, yb_ck_t (show bz 0 = true from rfl), t1]
    exact Or.inl ⟨_, _, rfl, rfl, fl_at (k := 2) rfl (by omega) (by omega) frW.fr⟩
  · have hd10 : d < 10 := by omega
    have pw := c_passWord (N := N) (S := S) (Rf := Rf) (J := J) (e := ltr w n p) hN hTw (up2_same _ _ _ _) hle
    have hRd : Rd b mb n w (skp w n (ltr w n p)) (ltr w n p) (up2 (up2 I (b + 2) 3 (nI (ltr w n p))) (b + 2) 2 (nI (skp w n (ltr w n p)))) Ia' := ⟨hTw.keep (up2_at (Or.inr (by decide))) (up2_ne _ _ _ (by omega)), hrd.2.1.keep (t5 1 (by decide) (by decide) (by decide)) (t4 _ (by omega) (by omega)), hle, rfl, up2_same _ _ _ _, t3, (t5 9 (by decide) (by decide) (by decide)).trans hrd.2.2.2.2.2.2⟩
    have frA : FR b mb K I (up2 (up2 I (b + 2) 3 (nI (ltr w n p))) (b + 2) 2 (nI (skp w n (ltr w n p)))) I' Ia' := ⟨fun a h1 _ _ => by rw [up2_ne _ _ _ h1, up2_ne _ _ _ h1], by rw [up2_at (Or.inr (by decide)), up2_at (Or.inr (by decide))], fun a h1 _ _ h4 => t4 a h1 h4, fun k h1 _ _ _ h5 h6 => t5 k h1 h5 h6, fun i _ => by rw [t4 _ (by omega) (by omega)], fun i _ => by rw [t4 _ (by omega) (by omega)]⟩
    have hP2 : PS b mb n w K (skp w n (ltr w n p)) (ltr w n p) tc tr V (up2 (up2 I (b + 2) 3 (nI (ltr w n p))) (b + 2) 2 (nI (skp w n (ltr w n p)))) Ia' := PS_iff.mpr ⟨hRd, hpc.cg (by rw [up2_ne _ _ _ (by omega), up2_ne _ _ _ (by omega)]) (by rw [up2_ne _ _ _ (by omega), up2_ne _ _ _ (by omega)]), hV, hK, hpm.cg (t5 _ (by decide) (by decide) (by decide)) (t5 _ (by decide) (by decide) (by decide)) (t4 _ (by omega) (by omega)) (t4 _ (by omega) (by omega)), hlen⟩
    have edp : dpS (11 :: st) = d + 1 := by show (if 11 = 11 ∨ 11 = 91 then 1 else 0) + dpS st = d + 1; rw [if_pos (Or.inl rfl)]; omega
    have epc : pcS (11 :: st) = 1 + pcS st := rfl
    rw [if_pos (show nI d < (10 : Int32) from nI_lt (b := 10) hd10 (by omega)), pw, b3s, nI_1, t1]
    rcases ihF (d + 1) (11 :: st) _ _ V m nn tc tr _ _ (by omega) (by omega) edp (by omega) hP2 t2 (by simp; omega) (by rw [epc]; omega) (by omega) with ⟨I3, I3', a1, a2, a3⟩ | ⟨ts, q, q', V', m', nn', I3, I3', a1, a2, a3, a4, a5, a6, a7, ⟨a8, a9⟩, a10, a11, a12⟩
    · exact Or.inl ⟨I3, I3', by rw [a1, b3s, if_pos rfl], a2, FL.of frA a3⟩
    · obtain ⟨hrd3, hpc3, hV3, _, hpm3, hlen3⟩ := PS_iff.mp a3
      have hq4 := hrd3.2.2.1
      rw [epc] at a7
      have ltc : (tc ++ ts.map tkC).length = tc.length + ts.length := by simp
      have ltr' : (tr ++ ts.map tkI).length = tr.length + ts.length := by simp
      obtain ⟨I4, c1, c2, c3, c4, c5⟩ := put_c (b := b) (S := S) (Rf := Rf) (J := J) (x := (200012 : Int32)) hpc3.1 hpc3.2.1 (by rw [ltc]; omega)
      obtain ⟨I4', k1, k2, k3, k4⟩ := tpC_not (J' := J') (m := m') (nn := nn') hN hK a4 hpm3 (by rw [ltr']; omega)
      have hRd4 : Rd b mb n w q q' I4 I4' := (hrd3.ft k4).keep (by rw [c4 _ (by omega) (by omega)]) (by rw [c4 _ (by omega) (by omega)]) (c4 _ (by omega) (by omega)) rfl rfl rfl rfl
      have frB : FR b mb K I3 I4 I3' I4' := ⟨fun a _ h2 h3 => c4 a h2 h3, by rw [c4 _ (by omega) (by omega)], fun a h1 h2 h3 _ => k4.1 a h1 h2 h3, fun k _ _ _ _ h5 h6 => k4.2.1 k h5 h6, k4.2.2.1, fun i hi => k4.2.2.2 i (by omega)⟩
      refine Or.inr ⟨ts ++ [(11, 0)], q, q', V', m', nn', I4, I4', by rw [a1, b3s, if_neg i10, c1, b3s], by rw [a2, k1], PS_iff.mpr ⟨hRd4, ⟨?_, ?_, (c5 3 (by decide)).trans hpc3.2.2⟩, hV3, hK, ?_, ?_⟩, k2, (frA.t2 a5).t2 frB, by omega, ?_, ⟨by omega, a9⟩, fun t ht => ?_, fun k => (a11 k).app (RedB.not k), ?_⟩
      · rw [List.map_append, ← List.append_assoc]; exact c2
      · rw [List.map_append, ← List.append_assoc]; exact c3
      · rw [List.map_append, ← List.append_assoc]; exact k3
      · simp; omega
      · simp only [List.length_append, List.length_cons, List.length_nil]; omega
      · rcases List.mem_append.mp ht with z | z
        · exact a10 t z
        · simp at z; subst z; exact Or.inr (Or.inr (by decide))
      · rw [cntT_app]
        have : cntT [((11, 0) : Tk)] = 0 := rfl
        omega
end FACT2
