/-! RULE: the reference's points while it tests -/
def tpL (N mb m n : Nat) (I : IT) (J : JT) : Option (Int32 × IT × JT) := yb_b3 (f12_closes_L5 N mb m I J) fun _ I J => yb_b3 (f12_tsT N mb n I J) (tsE N mb)
def tpC (N mb m n : Nat) (I : IT) (J : JT) : Option (Int32 × IT × JT) := yb_b3 (f12_settles N mb 3 I J) fun _ I J => tpL N mb m n I J
def tpA (N mb m2 n : Nat) (I : IT) (J : JT) : Option (Int32 × IT × JT) :=
  yb_b3 (yb_b3 (f12_fact_L2 N mb m2 1 I J) fun q I J => yb_sm q (fun v => some (v, I, J)) fun _ => yb_b3 (f12_compare N mb I J) fun r I J => yb_ck (bz r) fun _ => some (r, I, J)) fun r I J => if r = 0 then some ((0 : Int32), I, J) else tpC N mb N n I J
theorem tpA_eq (N mb n : Nat) (I : IT) (J : JT) : yb_b3 (f12_tested_L12 N mb (n + 1) 1 I J) (tsE N mb) = tpA N mb N n I J := by
  rw [tested_eq, b3_assoc]
  unfold tpA
  congr 1
  funext r I J
  by_cases c : r = 0
  · rw [if_pos c, if_pos c, b3s]
    unfold tsE
    rw [sml]
  · rw [if_neg c, if_neg c, b3_assoc]
    unfold tpC tpL f12_closes
    rw [b3_assoc]
    congr 1
    funext _ I J
    rw [b3_assoc]
    rfl
section POINTS
variable {N b mb n p p' K V e m nn : Nat} {w : Nat → Nat} {tc tr : List Int32} {S : ST} {Rf : RT} {I I1 I2 I' I1' I2' : IT} {J J' : JT} {r : Int32} {st : List Nat}
theorem fa_see (hN : 1000 ≤ N) (h : Rd b mb n w p p' I I') (hr : WIx w n p r) (m : Nat) :
    (r = nI 16 → f12_fact_L2 N mb (m + 1) 1 I' J' = yb_b3 (f12_opens mb 11 (up2 I' mb 8 (nI p)) J') fun r I J => if r = 0 then some (Sum.inl (0 : Int32), I, J) else yb_b3 (f12_passWord N mb I J) fun _ I J => f12_fact_L2 N mb m 1 I J) ∧
    (¬ r = nI 16 → chr w n p = 91 → f12_fact_L2 N mb (m + 1) 1 I' J' = yb_b3 (f12_opens mb 91 (up2 I' mb 8 (nI p)) J') fun r I J => if r = 0 then some (Sum.inl (0 : Int32), I, J) else yb_let (up2 I mb 8 ((I mb 8) + 1)) fun I => f12_fact_L2 N mb m 1 I J) ∧
    (¬ r = nI 16 → ¬ chr w n p = 91 → f12_fact_L2 N mb (m + 1) 1 I' J' = f12_fact_L2 N mb m 0 (up2 I' mb 8 (nI p)) J') := by
  have hs := h.seen
  have see1 := q_see (J' := J') hN h
  refine ⟨fun e => ?_, fun e1 e2 => ?_, fun e1 e2 => ?_⟩
  · rw [f12_fact_L2, if_neg i10, see1, b3s, q_isWY hN hs hr (by decide) wc16 e, b3s, if_neg i10]
  · rw [f12_fact_L2, if_neg i10, see1, b3s, q_isWN hN hs hr (by decide) wc16 e1, b3s, if_pos rfl, if_pos e2]
  · rw [f12_fact_L2, if_neg i10, see1, b3s, q_isWN hN hs hr (by decide) wc16 e1, b3s, if_pos rfl, if_neg e2]
/-- the reference goes in, or fails -/
theorem tpA_not (hN : 1000 ≤ N) (h : Rd b mb n w p p' I I') (hr : WIx w n p r) (e : r = nI 16) (hst : StM mb st I') (hl : st.length ≤ p') : (dpS st = 10 ∧ tpA N mb (m + 1) nn I' J' = some (0, up2 (up2 I' mb 8 (nI p)) mb 9 ((1 + 8 * nI p) + 2), J')) ∨ (dpS st ≠ 10 ∧ ∃ I1', tpA N mb (m + 1) nn I' J' = tpA N mb m nn I1' J' ∧ StM mb (11 :: st) I1' ∧ I1' mb 8 = nI (ltr w n p) ∧ (∀ a, a ≠ mb → a ≠ mb + 7 → I1' a = I' a) ∧ ∀ k, k ≠ 8 → k ≠ 13 → k ≠ 16 → I1' mb k = I' mb k) := by
  have hs := h.seen
  have h4 := h.n4
  have hpn := h.le
  have hpp : p' ≤ p := by rw [← h.2.2.2.1]; exact run_ge h.2.2.1
  have hlt : p < ltr w n p := by
    rcases WIx_rng hr with q | ⟨i, _, _, q⟩
    · rw [q] at e; exact absurd e (by decide)
    · exact q
  have hle : ltr w n p ≤ n := run_le hpn
  have hst2 : StM mb st (up2 I' mb 8 (nI p)) := by
    obtain ⟨s1, s2, s3, s4, s5⟩ := hst
    exact ⟨(up2_at (Or.inr (by decide))).trans s1, by rw [up2_ne _ _ _ (by omega)]; exact s2, (up2_at (Or.inr (by decide))).trans s3, s4, s5⟩
  have e0 := (fa_see (J' := J') hN h hr m).1 e
  rcases m_opens (J' := J') (x := 11) hst2 (Or.inl rfl) (by omega) hs.2.2.2.2.2.2 (up2_same _ _ _ _) with ⟨c, o1⟩ | ⟨c, I2, o1, o2, o3, o4⟩
  · refine Or.inl ⟨c, ?_⟩
    have o1' : f12_opens mb 11 (up2 I' mb 8 (nI p)) J' = _ := o1
    unfold tpA
    rw [e0, o1', b3s, if_pos rfl, b3s, sml, b3s, if_pos rfl]
  · have o1' : f12_opens mb 11 (up2 I' mb 8 (nI p)) J' = _ := o1
    have hT : TM mb n w I2 := h.2.1.keep (by rw [o4 _ (by decide) (by decide), up2_at (Or.inr (by decide))]) (by rw [o3 _ (by omega) (by omega), up2_ne _ _ _ (by omega)])
    have pw := m_pass (N := N) (J' := J') hN hT (by rw [o4 _ (by decide) (by decide), up2_same]) hpn
    refine Or.inr ⟨c, up2 I2 mb 8 (nI (ltr w n p)), ?_, ?_, up2_same _ _ _ _, fun a h1 h2 => by rw [up2_ne _ _ _ h1, o3 a h1 h2, up2_ne _ _ _ h1], fun k h1 h2 h3 => by rw [up2_at (Or.inr h1), o4 k h2 h3, up2_at (Or.inr h1)]⟩
    · unfold tpA
      rw [e0, o1', b3s, if_neg i10, pw, b3s]
    · obtain ⟨s1, s2, s3, s4, s5⟩ := o2
      exact ⟨(up2_at (Or.inr (by decide))).trans s1, by rw [up2_ne _ _ _ (by omega)]; exact s2, (up2_at (Or.inr (by decide))).trans s3, s4, s5⟩
theorem tpA_br (hN : 1000 ≤ N) (h : Rd b mb n w p p' I I') (hr : WIx w n p r) (e : ¬ r = nI 16) (ec : chr w n p = 91) (hst : StM mb st I') (hl : st.length ≤ p') : p < n ∧ ((dpS st = 10 ∧ tpA N mb (m + 1) nn I' J' = some (0, up2 (up2 I' mb 8 (nI p)) mb 9 ((1 + 8 * nI p) + 2), J')) ∨ (dpS st ≠ 10 ∧ ∃ I1', tpA N mb (m + 1) nn I' J' = tpA N mb m nn I1' J' ∧ StM mb (91 :: st) I1' ∧ I1' mb 8 = nI (p + 1) ∧ (∀ a, a ≠ mb → a ≠ mb + 7 → I1' a = I' a) ∧ ∀ k, k ≠ 8 → k ≠ 13 → k ≠ 16 → I1' mb k = I' mb k)) := by
  have hs := h.seen
  have h4 := h.n4
  have hpp : p' ≤ p := by rw [← h.2.2.2.1]; exact run_ge h.2.2.1
  have hpn := (chr_n (k := 91) rfl (by omega) h.w256 ec).1
  have hst2 : StM mb st (up2 I' mb 8 (nI p)) := by
    obtain ⟨s1, s2, s3, s4, s5⟩ := hst
    exact ⟨(up2_at (Or.inr (by decide))).trans s1, by rw [up2_ne _ _ _ (by omega)]; exact s2, (up2_at (Or.inr (by decide))).trans s3, s4, s5⟩
  have e0 := (fa_see (J' := J') hN h hr m).2.1 e ec
  refine ⟨hpn, ?_⟩
  rcases m_opens (J' := J') (x := 91) hst2 (Or.inr rfl) (by omega) hs.2.2.2.2.2.2 (up2_same _ _ _ _) with ⟨c, o1⟩ | ⟨c, I2, o1, o2, o3, o4⟩
  · refine Or.inl ⟨c, ?_⟩
    have o1' : f12_opens mb 91 (up2 I' mb 8 (nI p)) J' = _ := o1
    unfold tpA
    rw [e0, o1', b3s, if_pos rfl, b3s, sml, b3s, if_pos rfl]
  · have o1' : f12_opens mb 91 (up2 I' mb 8 (nI p)) J' = _ := o1
    have e8 : I2 mb 8 = nI p := by rw [o4 _ (by decide) (by decide), up2_same]
    refine Or.inr ⟨c, up2 I2 mb 8 (nI (p + 1)), ?_, ?_, up2_same _ _ _ _, fun a h1 h2 => by rw [up2_ne _ _ _ h1, o3 a h1 h2, up2_ne _ _ _ h1], fun k h1 h2 h3 => by rw [up2_at (Or.inr h1), o4 k h2 h3, up2_at (Or.inr h1)]⟩
    · unfold tpA
      rw [e0, o1', b3s, if_neg i10, e8, nI_1, lts]
    · obtain ⟨s1, s2, s3, s4, s5⟩ := o2
      exact ⟨(up2_at (Or.inr (by decide))).trans s1, by rw [up2_ne _ _ _ (by omega)]; exact s2, (up2_at (Or.inr (by decide))).trans s3, s4, s5⟩
theorem tpA_no (hN : 1000 ≤ N) (h : Rd b mb n w p p' I I') (hr : WIx w n p r) (e : ¬ r = nI 16) (ec : ¬ chr w n p = 91) : tpA N mb (m + 2) nn I' J' = yb_b3 (f12_compare N mb (up2 I' mb 8 (nI p)) J') fun r I J => yb_ck (bz r) fun _ => if r = 0 then some ((0 : Int32), I, J) else tpC N mb N nn I J := by
  have e0 := (fa_see (J' := J') hN h hr (m + 1)).2.2 e ec
  unfold tpA
  rw [e0, f12_fact_L2, if_pos rfl, b3s, smr, b3_assoc]
  congr 1
  funext r I J
  by_cases c : bz r = true
  · rw [yb_ck_t c, yb_ck_t c, b3s]
  · unfold yb_ck
    rw [if_neg c, if_neg c]
    rfl
end POINTS
