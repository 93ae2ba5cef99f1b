/-! RULE: a fact on both sides, given smaller ones -/
def OkF (e N b mb n : Nat) (w : Nat → Nat) (K : Nat) (st : List Nat) (tc tr : List Int32) (V p' nn : Nat) (I I' : IT) (J J' : JT) (cls ref : Option (Int32 × IT × JT)) : Prop :=
  (∃ I1 I1', cls = some (0, I1, J) ∧ ref = some (0, I1', J') ∧ FL b mb K I I1 I' I1') ∨
  ∃ (ts : List Tk) (q q' V' m' nn' : Nat) (I1 I1' : IT), cls = some (1, I1, J) ∧ ref = tpC N mb m' nn' I1' J' ∧ PS b mb n w K q q' (tc ++ ts.map tkC) (tr ++ ts.map tkI) V' I1 I1' ∧ StM mb st I1' ∧ FR b mb K I I1 I' I1' ∧ p' < q' ∧ tc.length + ts.length + pcS st + e ≤ q' ∧ (nn ≤ nn' + (q' - p') ∧ N ≤ m' + q') ∧ (∀ t, t ∈ ts → TkOK t) ∧ (∀ k, RedB k (k + 1) ts) ∧ V + cntT ts ≤ V'
def OkT (e N b mb n : Nat) (w : Nat → Nat) (K : Nat) (st : List Nat) (tc tr : List Int32) (V p' nn : Nat) (I I' : IT) (J J' : JT) (cls ref : Option (Int32 × IT × JT)) : Prop :=
  (∃ I1 I1', cls = some (0, I1, J) ∧ ref = some (0, I1', J') ∧ FL b mb K I I1 I' I1') ∨
  ∃ (ts : List Tk) (inner : List Nat) (q q' V' m' nn' : Nat) (r : Int32) (I1 I1' : IT), cls = some (1, I1, J) ∧ ref = tpL N mb m' nn' I1' J' ∧ Rd b mb n w q q' I1 I1' ∧ (PCt b (tc ++ (ts ++ inner.map (fun s => ((s, 0) : Tk))).map tkC) V' I1 ∧ V' ≤ 60 ∧ PMt mb K (tr ++ ts.map tkI) V' I1') ∧ (StM mb (inner ++ st) I1' ∧ ∀ x, x ∈ inner → x = 12 ∨ x = 13) ∧ (WIx w n q r ∧ ¬ r = nI 14 ∧ ¬ r = nI 15) ∧ FR b mb K I I1 I' I1' ∧ p' < q' ∧ (tc.length + (ts.length + inner.length) + pcS st + e ≤ q' ∧ (inner ++ st).length ≤ q') ∧ (nn ≤ nn' + (q' - p') ∧ N ≤ m' + q') ∧ (∀ t, t ∈ ts ++ inner.map (fun s => ((s, 0) : Tk)) → TkOK t) ∧ (∀ k, RedB k (k + 1) (ts ++ inner.map (fun s => ((s, 0) : Tk)))) ∧ V + cntT (ts ++ inner.map (fun s => ((s, 0) : Tk))) ≤ V'
def FCl (e N b mb n : Nat) (w : Nat → Nat) (K : Nat) (S : ST) (Rf : RT) (J J' : JT) (k : Nat) : Prop := ∀ (d : Nat) (st : List Nat) (p p' V m2 nn : Nat) (tc tr : List Int32) (I I' : IT), 21 ≤ k + 2 * d → d ≤ 10 → dpS st = d → 12 ≤ m2 + d → PS b mb n w K p p' tc tr V I I' → StM mb st I' → st.length ≤ p' → tc.length + pcS st + e ≤ p' → n - p' < nn → OkF e N b mb n w K st tc tr V p' nn I I' J J' (f6_rec_readsTest N b S Rf k 1 (nI d) I J) (tpA N mb m2 nn I' J')
def TCl (e N b mb n : Nat) (w : Nat → Nat) (K : Nat) (S : ST) (Rf : RT) (J J' : JT) (k : Nat) : Prop := ∀ (d : Nat) (st : List Nat) (p p' V m2 nn : Nat) (tc tr : List Int32) (I I' : IT), 22 ≤ k + 2 * d → d ≤ 10 → dpS st = d → (∀ x r, st = x :: r → x = 91) → 12 ≤ m2 + d → PS b mb n w K p p' tc tr V I I' → StM mb st I' → st.length ≤ p' → tc.length + pcS st + e ≤ p' → n - p' < nn → OkT e N b mb n w K st tc tr V p' nn I I' J J' (f6_rec_readsTest N b S Rf k 0 (nI d) I J) (tpA N mb m2 nn I' J')
section FACT
variable {N b mb n p p' K V e m nn : Nat} {w : Nat → Nat} {tc tr : List Int32} {S : ST} {Rf : RT} {I I1 I2 I' I1' I2' : IT} {J J' : JT} {r : Int32} {st : List Nat}
theorem StM.fs (h : StM mb st I') (g : FS mb I' I1') : StM mb st I1' := by
  obtain ⟨s1, s2, s3, s4, s5⟩ := h
  exact ⟨g.2.1.trans s1, by rw [g.2.2]; exact s2, g.1.trans s3, s4, s5⟩
theorem FT6.fr (h : FT6 mb K I' I1') : FR b mb K I I I' I1' := ⟨fun _ _ _ _ => rfl, rfl, fun a h1 h2 h3 _ => h.1 a h1 h2 h3, fun k _ _ _ _ h5 h6 => h.2.1 k h5 h6, h.2.2.1, fun i hi => h.2.2.2 i (by omega)⟩
theorem Rd.ft (h : Rd b mb n w p p' I I') (g : FT6 mb K I' I1') : Rd b mb n w p p' I I1' := h.keep rfl rfl rfl (g.2.1 1 (by decide) (by decide)) (g.2.1 8 (by decide) (by decide)) (g.2.1 9 (by decide) (by decide)) (g.1 _ (by omega) (by omega) (by omega))
/-- a bracket closes -/
theorem tpL_br {inner : List Nat} (hN : 1000 ≤ N) (hK : K < 6) (h : Rd b mb n w p p' I I') (hc : chr w n p = 93) (hst : StM mb (inner ++ 91 :: st) I') (hin : ∀ x, x ∈ inner → x = 12 ∨ x = 13) (hpm : PMt mb K tr V I') (hl : tr.length + inner.length ≤ 400) : p < n ∧ ∃ I1', tpL N mb (m + 1) nn I' J' = tpC N mb m nn I1' J' ∧ StM mb st I1' ∧ PMt mb K (tr ++ inner.map (fun s => tkI (s, 0))) V I1' ∧ I1' mb 8 = nI (p + 1) ∧ (∀ a, a ≠ mb → a ≠ mb + 2 → a ≠ mb + 3 → I1' a = I' a) ∧ (∀ k, k ≠ 8 → k ≠ 13 → k ≠ 16 → I1' mb k = I' mb k) ∧ (∀ i, i < 400 * K → I1' (mb + 2) i = I' (mb + 2) i) ∧ ∀ i, i ≠ K → I1' (mb + 3) i = I' (mb + 3) i := by
  have hs := h.seen
  have h4 := h.n4
  have hpn := (chr_n (k := 93) rfl (by omega) h.w256 hc).1
  have hst2 : StM mb (inner ++ 91 :: st) (up2 I' mb 8 (nI p)) := by
    obtain ⟨s1, s2, s3, s4, s5⟩ := hst
    exact ⟨(up2_at (Or.inr (by decide))).trans s1, by rw [up2_ne _ _ _ (by omega)]; exact s2, (up2_at (Or.inr (by decide))).trans s3, s4, s5⟩
  have hpm2 : PMt mb K tr V (up2 I' mb 8 (nI p)) := hpm.cg (up2_at (Or.inr (by decide))) (up2_at (Or.inr (by decide))) (up2_ne _ _ _ (by omega)) (up2_ne _ _ _ (by omega))
  have hin2 := m_inside (N := N) (J' := J') hN hst2
  rw [if_pos (by simp)] at hin2
  have hs5 := hst.2.2.2.2
  obtain ⟨I2, k1, k2, k3, k4⟩ := m_settles (N := N) (mb := mb) (J' := J') (Lv := 1) (by omega) (by omega) hK (91 :: st) (fun x t e => by cases e; decide) inner N tr (up2 I' mb 8 (nI p)) (by simp at hs5; omega) (fun x hx => by rcases hin x hx with rfl | rfl <;> decide) hst2 hpm2 hl
  have k1' : f12_settles N mb 1 (up2 I' mb 8 (nI p)) J' = some ((), I2, J') := by
    unfold f12_settles
    rw [show (1 : Int32) = nI 1 from rfl, k1, b3s]
  obtain ⟨t1, t2, t3, t4, t5⟩ := k2
  have t5' : st.length + 1 ≤ 400 := by simpa using t5
  have e16 : nI (91 :: st).length - 1 = nI st.length := by
    show nI (st.length + 1) - nI 1 = _
    rw [pk_sub (by omega)]; rfl
  have e13 : nI (dpS (91 :: st)) - 1 = nI (dpS st) := by
    show nI ((if 91 = 11 ∨ 91 = 91 then 1 else 0) + dpS st) - nI 1 = _
    rw [if_pos (Or.inr rfl), pk_sub (by omega), Nat.add_sub_cancel_left]
  have e8 : I2 mb 8 = nI p := by rw [k4.2.1 8 (by decide) (by decide), up2_same]
  refine ⟨hpn, up2 (up2 (up2 I2 mb 16 (nI st.length)) mb 13 (nI (dpS st))) mb 8 (nI (p + 1)), ?_, ⟨?_, ?_, ?_, fun x hx => t4 x (by simp [hx]), by omega⟩, ?_, up2_same _ _ _ _, fun a h1 h2 h3 => ?_, fun k h1 h2 h3 => ?_, fun i hi => ?_, fun i hi => ?_⟩
  · unfold tpL
    rw [f12_closes_L5, q_see hN h, b3s, if_pos hc, hin2, b3s, if_neg i10, k1', b3s, t1, e16, lts, up2_at (I := I2) (Or.inr (show (13 : Nat) ≠ 16 by decide)), t3, e13, lts, up2_at (Or.inr (show (8 : Nat) ≠ 13 by decide)), up2_at (Or.inr (show (8 : Nat) ≠ 16 by decide)), e8, nI_1, lts, b3_assoc]
    rfl
  · rw [up2_at (Or.inr (by decide)), up2_at (Or.inr (by decide)), up2_same]
  · rw [up2_ne _ _ _ (by omega), up2_ne _ _ _ (by omega), up2_ne _ _ _ (by omega)]; exact t2.2
  · rw [up2_at (Or.inr (by decide)), up2_same]
  · exact k3.cg (by rw [up2_at (Or.inr (by decide)), up2_at (Or.inr (by decide)), up2_at (Or.inr (by decide))]) (by rw [up2_at (Or.inr (by decide)), up2_at (Or.inr (by decide)), up2_at (Or.inr (by decide))]) (by rw [up2_ne _ _ _ (by omega), up2_ne _ _ _ (by omega), up2_ne _ _ _ (by omega)]) (by rw [up2_ne _ _ _ (by omega), up2_ne _ _ _ (by omega), up2_ne _ _ _ (by omega)])
  · rw [up2_ne _ _ _ h1, up2_ne _ _ _ h1, up2_ne _ _ _ h1, k4.1 a h1 h2 h3, up2_ne _ _ _ h1]
  · rw [up2_at (Or.inr h1), up2_at (Or.inr h2), up2_at (Or.inr h3), k4.2.1 k h2 h3, up2_at (Or.inr h1)]
  · rw [up2_ne _ _ _ (by omega), up2_ne _ _ _ (by omega), up2_ne _ _ _ (by omega), k4.2.2.1 i hi, up2_ne _ _ _ (by omega)]
  · rw [up2_ne _ _ _ (by omega), up2_ne _ _ _ (by omega), up2_ne _ _ _ (by omega), k4.2.2.2 i hi, up2_ne _ _ _ (by omega)]
/-- a fact that is a comparison -/
theorem F_cmp {d k m2 : Nat} (hN : 1000 ≤ N) (hm2 : 2 ≤ m2) (h : PS b mb n w K p p' tc tr V I I') (hst : StM mb st I') (hb : tc.length + pcS st + e ≤ p') (hr : WIx w n p r) (w1 : f3_word N b S Rf I J = some (r, up2 I (b + 2) 3 (nI (ltr w n p)), J)) (e16 : ¬ r = nI 16) (e91 : ¬ chr w n p = 91) : OkF e N b mb n w K st tc tr V p' nn I I' J J' (f6_rec_readsTest N b S Rf (k + 1) 1 (nI d) I J) (tpA N mb m2 nn I' J') := by
  have hrd := h.1
  have hs := hrd.seen
  have hpp : p' ≤ p := by rw [← hrd.2.2.2.1]; exact run_ge hrd.2.2.1
  have hsw := hs.word (nI (ltr w n p))
  have frW : FrN b mb I (up2 I (b + 2) 3 (nI (ltr w n p))) I' (up2 I' mb 8 (nI p)) := ⟨fun a k q => up2_at (by omega), fun a k q => up2_at (by omega)⟩
  have hPw := h.mv hsw frW
  obtain ⟨m, rfl⟩ : ∃ q, m2 = q + 2 := ⟨m2 - 2, by omega⟩
  have cl : f6_rec_readsTest N b S Rf (k + 1) 1 (nI d) I J = cmC N b S Rf (up2 I (b + 2) 3 (nI (ltr w n p))) J := by
    rw [f6_rec_readsTest]
    unfold g6_readsFact
    rw [w1, b3s, if_neg (show ¬ r = (16 : Int32) from e16), q_sign (hrd.word _), b3s, if_neg e91]
    rfl
  rw [cl, tpA_no hN hrd hr e16 e91]
  rcases q_compare (S := S) (Rf := Rf) (J := J) (J' := J') (e := pcS st + e) hN hPw (by omega) with ⟨I1, I1', a1, a2, a3⟩ | ⟨ts, q, q', V', I1, I1', a1, a2, a3, a4, a5, a6, a7, a8, a9, a10⟩
  · refine Or.inl ⟨I1, I1', a1, ?_, FL.of frW.fr a3⟩
    rw [a2, b3s, yb_ck_t (show bz 0 = true from rfl), if_pos rfl]
  · refine Or.inr ⟨ts, q, q', V', N, nn, I1, I1', a1, ?_, a3, (hst.fs frW.fs).fs a5, frW.fr.t2 a4, by omega, by omega, ⟨by omega, by omega⟩, a8, a9, a10⟩
    rw [a2, b3s, yb_ck_t (show bz 1 = true from rfl), if_neg i10]
end FACT
