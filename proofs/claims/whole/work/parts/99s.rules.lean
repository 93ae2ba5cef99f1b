/-! RULE: all clauses on both sides -/
theorem b3_ite {α β : Type} {c : Prop} [Decidable c] (x y : Option (α × IT × JT)) (k : α → IT → JT → Option β) : yb_b3 (if c then x else y) k = if c then yb_b3 x k else yb_b3 y k := by
  split <;> rfl
theorem L12c_eq (N b : Nat) (S : ST) (Rf : RT) (m : Nat) (x1 : Int32) (I : IT) (J : JT) : f6_reads_L12 N b S Rf (m + 1) x1 I J = if (12 : Int32) < x1 then some (Sum.inr (), I, J) else
    yb_b3 (f3_word N b S Rf I J) fun r I J => if r = (12 : Int32) then
      if x1 = (12 : Int32) then yb_b3 (f3_fail b S Rf (4 : Int32) I J) fun r I J => yb_ck (bz r) fun _ => some (Sum.inl r, I, J)
      else yb_b3 (rgC N b S Rf I J) fun r I J => if r = 0 then some (Sum.inl (0 : Int32), I, J) else
        yb_b3 (f3_sign b S Rf I J) fun r I J => if r = (-1 : Int32) then some (Sum.inl (1 : Int32), I, J) else
        yb_b3 (f3_sign b S Rf I J) fun r I J => if r = (59 : Int32) then yb_b3 (f3_passSign N b S Rf I J) fun _ I J => f6_reads_L12 N b S Rf m (x1 + 1) I J
        else yb_b3 (f3_fail b S Rf (0 : Int32) I J) fun r I J => yb_ck (bz r) fun _ => some (Sum.inl r, I, J)
    else yb_b3 (f3_fail b S Rf (0 : Int32) I J) fun r I J => yb_ck (bz r) fun _ => some (Sum.inl r, I, J) := by
  rw [f6_reads_L12]
  unfold rgC
  simp only [b3_assoc, b3_ite, b3s, i10, if_true, if_false]
  rfl
section RULES
variable {N b mb n p p' K V : Nat} {w : Nat → Nat} {tc tr : List Int32} {S : ST} {Rf : RT} {I I' I0 I0' : IT} {J J' : JT}
theorem PS.k14 {x : Int32} (h : PS b mb n w K p p' tc tr V I I') : PS b mb n w K p p' tc tr V I (up2 I' mb 14 x) := by
  obtain ⟨hrd, hpc, hV, hK, hpm, hlen⟩ := PS_iff.mp h
  exact PS_iff.mpr ⟨hrd.keep rfl rfl rfl (up2_at (Or.inr (by decide))) (up2_at (Or.inr (by decide))) (up2_at (Or.inr (by decide))) (up2_ne _ _ _ (by omega)), hpc, hV, hK, hpm.cg (up2_at (Or.inr (by decide))) (up2_at (Or.inr (by decide))) (up2_ne _ _ _ (by omega)) (up2_ne _ _ _ (by omega)), hlen⟩
theorem FQ.k14 (x : Int32) : FQ b mb K I I I' (up2 I' mb 14 x) := ⟨fun _ _ _ _ => rfl, rfl, fun c h1 _ _ _ _ _ => up2_ne _ _ _ h1, fun k _ _ _ _ _ h _ => up2_at (Or.inr h), fun i _ => by rw [up2_ne _ _ _ (by omega)], fun i hi => by rw [up2_ne _ _ _ (by omega)], fun i hi => by rw [up2_ne _ _ _ (by omega)]⟩
theorem ru_loop (hN : 1000 ≤ N) : ∀ s m m' p p' V (cl : Cls) (I I' : IT), PS b mb n w K p p' (encR cl) (trR cl) V I I' → RwR (I' (mb + 4)) K 0 0 cl → (∀ x, x ∈ cl → ClOK x) → I' (mb + 5) K = nI cl.length → I' mb 14 = nI cl.length → (encR cl).length ≤ p' → cl.length ≤ 12 → 13 ≤ cl.length + s → s ≤ m → s ≤ m' → FQ b mb K I0 I I0' I' →
    (∃ I1 I1', f6_reads_L12 N b S Rf m (nI cl.length) I J = some (Sum.inl 0, I1, J) ∧ lpR N mb m' I' J' = some (0, up2 I1' mb 1 0, J') ∧ FQ b mb K I0 I1 I0' I1' ∧ I1 (b + 2) 4 = I1' mb 9) ∨
    ∃ (cz : Cls) (Vz : Nat) (I1 I1' : IT), f6_reads_L12 N b S Rf m (nI cl.length) I J = some (Sum.inl 1, I1, J) ∧ lpR N mb m' I' J' = some (1, up2 I1' mb 1 0, J') ∧ FQ b mb K I0 I1 I0' I1' ∧ PCt b (encR cz) Vz I1 ∧ PMt mb K (trR cz) Vz I1' ∧ RwR (I1' (mb + 4)) K 0 0 cz ∧ (∀ x, x ∈ cz → ClOK x) ∧ I1' (mb + 5) K = nI cz.length ∧ cz.length ≤ 12 ∧ (encR cz).length < 400 ∧ (trR cz).length ≤ 400 := by
  intro s
  induction s with
  | zero => intro m m' p p' V cl I I' _ _ _ _ _ _ h1 h2; omega
  | succ s ih =>
    intro m m' p p' V cl I I' h hrw hok h5 h14 hb hcl hs hm hm' hF
    obtain ⟨m, rfl⟩ : ∃ q, m = q + 1 := ⟨m - 1, by omega⟩
    obtain ⟨m', rfl⟩ : ∃ q, m' = q + 1 := ⟨m' - 1, by omega⟩
    obtain ⟨hrd, hpc, hV, hK, hpm, hlen⟩ := PS_iff.mp h
    have h4 := hrd.n4
    have hsn := hrd.seen
    have hpn := hrd.le
    have hpp : p' ≤ p := by rw [← hrd.2.2.2.1]; exact run_ge hrd.2.2.1
    obtain ⟨r, w1, w2⟩ := q_word (S := S) (Rf := Rf) (J := J) hN hrd
    have iw := q_isWord (J' := J') (W := 491394656372) hN hsn w2 (j := 12) (by decide) wc12
    rw [up2_up2] at iw
    have frW : FrN b mb I (up2 I (b + 2) 3 (nI (ltr w n p))) I' (up2 I' mb 8 (nI p)) := ⟨fun a k q => up2_at (by omega), fun a k q => up2_at (by omega)⟩
    have hPd := h.mv (hsn.word (nI (ltr w n p))) frW
    have z11 : up2 I' mb 8 (nI p) mb 11 = nI K := (up2_at (Or.inr (by decide))).trans hpm.1
    have z14 : up2 I' mb 8 (nI p) mb 14 = nI cl.length := (up2_at (Or.inr (by decide))).trans h14
    have z9 : up2 I' mb 8 (nI p) mb 9 = 0 := hsn.2.2.2.2.2.2
    have c2 : up2 I (b + 2) 3 (nI (ltr w n p)) (b + 2) 2 = nI p := (up2_at (Or.inr (by decide))).trans hrd.2.2.2.2.1
    have nK6 : ¬ nI K = (6 : Int32) := nI_nl 6 rfl (by omega) (by omega) (by omega)
    have mC : f12_clauseHere N mb I' J' = yb_b3 (f12_isWord N mb (491394656372 : Int64) (up2 I' mb 8 (nI p)) J') fun r I J => if r = 0 then yb_b3 (f12_fails mb (0 : Int32) (nI p) I J) fun r I J => yb_ck (bz r) fun _ => some (r, I, J) else
        if I mb 14 = (12 : Int32) then yb_b3 (f12_fails mb (4 : Int32) (nI p) I J) fun r I J => yb_ck (bz r) fun _ => some (r, I, J) else
        yb_b3 (f12_isRightHere N mb (up2 I mb 14 (I mb 14 + 1)) J) fun r I J => yb_ck (bz r) fun _ => some (r, I, J) := by
      unfold f12_clauseHere
      rw [q_see hN hrd, b3s, up2_same, lts, z11, if_neg nK6]
      rfl
    rw [L12c_eq, if_neg (show ¬ (12 : Int32) < nI cl.length from nI_nlt (a := 12) (by omega) (by omega)), w1, b3s]
    unfold lpR
    rw [mC, iw, b3s]
    by_cases c12 : r = nI 12
    · rw [if_pos (show r = (12 : Int32) from c12), if_pos c12, if_neg i10, z14]
      by_cases cm : cl.length = 12
      · rw [if_pos (show nI cl.length = (12 : Int32) by rw [cm]; rfl), c_fail c2, b3s, yb_ck_t (show bz 0 = true from rfl), if_pos (show nI cl.length = (12 : Int32) by rw [cm]; rfl), m_fails z9, b3s, yb_ck_t (show bz 0 = true from rfl), b3s, f12_readsAll_L35, if_pos rfl, b3s]
        have fl := fl_at (k := 4) (x := 4) (q := p) rfl (by omega) (by omega) (frW.fr (K := K))
        rw [tlR_0 fl.2.2]
        exact Or.inl ⟨_, _, rfl, rfl, hF.t2 fl.1.fq, fl.2.1⟩
      · have hlt : p + 5 = ltr w n p := ((WIx_iff w2 (j := 12) (by omega)).mpr c12).2
        have n12 : ¬ nI cl.length = (12 : Int32) := nI_nl 12 rfl (by omega) (by omega) cm
        rw [if_neg n12, if_neg n12, nI_1]
        have fq1 := (hF.t2 (frW.fr (K := K)).fq).t2 (FQ.k14 (b := b) (K := K) (I := up2 I (b + 2) 3 (nI (ltr w n p))) (I' := up2 I' mb 8 (nI p)) (nI (cl.length + 1)))
        rcases q_right (S := S) (Rf := Rf) (J := J) (J' := J') (i := cl.length) hN (hPd.k14 (x := nI (cl.length + 1))) (up2_same _ _ _ _) (by omega) (by omega) (by omega) (by rw [up2_ne _ _ _ (by omega), up2_ne _ _ _ (by omega)]; exact h5) with ⟨I1, I1', a1, a2, a3, a4, a5⟩ | ⟨x, q, q', V', I1, I1', a1, a2, a3, a4, a5, a6, a7, a8, a9, a10, a11⟩
        · rw [a1, b3s, if_pos rfl, a2, b3s, yb_ck_t (show bz 0 = true from rfl), b3s, f12_readsAll_L35, if_pos rfl, b3s, tlR_0 a5]
          exact Or.inl ⟨_, _, rfl, rfl, fq1.t2 a3, a4⟩
        · have e3 := a3.1
          have hqn := e3.le
          have hs1 := e3.seen
          have hqq : q' ≤ q := by rw [← e3.2.2.2.1]; exact run_ge e3.2.2.1
          have fq2 := fq1.t2 a4
          have el : (cl ++ [x]).length = cl.length + 1 := by simp
          have hrw1 : RwR (I1' (mb + 4)) K 0 0 (cl ++ [x]) := by
            refine RwR.snoc cl x 0 0 (RwR.cg cl 0 0 hrw (fun j h1 h2 => ?_)) ?_
            · rw [a9 j (by omega), up2_ne _ _ _ (by omega), up2_ne _ _ _ (by omega)]
            · rw [Nat.zero_add, Nat.zero_add]; exact a8
          have hok1 : ∀ y, y ∈ cl ++ [x] → ClOK y := fun y hy => by
            rcases List.mem_append.mp hy with hy | hy
            · exact hok y hy
            · rw [List.mem_singleton.mp hy]; exact a7
          rw [← encR_snoc, ← trR_snoc] at a3
          obtain ⟨_, hpc1, hV1, _, hpm1, hlen1⟩ := PS_iff.mp a3
          have le1 : (encR (cl ++ [x])).length + 1 ≤ q' := by rw [encR_snoc, List.length_append]; exact a5
          have h51 : I1' (mb + 5) K = nI (cl ++ [x]).length := by rw [el]; exact a10
          have h141 : I1' mb 14 = nI (cl ++ [x]).length := by rw [el, a11, up2_same]
          rw [a1, b3s, if_neg i10, a2, b3s, yb_ck_t (show bz 1 = true from rfl), b3s, f12_readsAll_L35, if_neg i10, q_sign e3, b3s, q_see hN e3, b3s]
          have hm1 := chr_m1 (p := q) e3.w256
          by_cases cq : q < n
          · rw [if_neg (fun z => hm1.mp z cq)]
            by_cases c59 : chr w n q = 59
            · obtain ⟨ps1, ps2⟩ := q_passSign (S := S) (Rf := Rf) (J := J) hN hs1 cq
              have u8 : up2 (up2 I1' mb 8 (nI q)) mb 8 (nI (q + 1)) = up2 I1' mb 8 (nI (q + 1)) := up2_up2 _ _ _ _ _
              rw [q_sign e3, b3s, if_pos c59, if_pos c59, ps1, b3s, up2_same, nI_1, lts, u8, b3_assoc, ← el]
              rw [u8] at ps2
              have hh := ih m m' (skp w n (q + 1)) (q + 1) V' (cl ++ [x]) (up2 I1 (b + 2) 2 (nI (skp w n (q + 1)))) (up2 I1' mb 8 (nI (q + 1))) (a3.mv ps2 (FrN.to _ _)) (by rw [up2_ne _ _ _ (by omega)]; exact hrw1) hok1 (by rw [up2_ne _ _ _ (by omega)]; exact h51) (by rw [up2_at (Or.inr (by decide))]; exact h141) (by omega) (by omega) (by omega) (by omega) (by omega) (fq2.t2 (FrN.to (b := b) (mb := mb) (I := I1) (I' := I1') _ _).fr.fq)
              unfold lpR at hh
              exact hh
            · have cp : I1 (b + 2) 2 = nI q := e3.2.2.2.2.1
              have tl := (q_tail (J' := J') hN hs1).1 cq
              rw [up2_up2] at tl
              rw [q_sign e3, b3s, if_neg c59, if_neg c59, c_fail cp, b3s, yb_ck_t (show bz 0 = true from rfl), b3s, tl]
              have fl := fl_at (k := 0) (x := 0) (q := q) rfl (by omega) (by omega) ((FrN.see (b := b) (mb := mb) (I := I1) (I' := I1') (nI q)).fr (K := K))
              exact Or.inl ⟨_, _, rfl, rfl, fq2.t2 fl.1.fq, fl.2.1⟩
          · have em := hm1.mpr cq
            have tl := (q_tail (J' := J') hN hs1).2 cq
            rw [up2_up2] at tl
            rw [if_pos em, if_neg (show ¬ chr w n q = 59 by rw [em]; decide), b3s, tl]
            refine Or.inr ⟨cl ++ [x], V', I1, up2 I1' mb 8 (nI q), rfl, rfl, fq2.t2 ((FrN.see (b := b) (mb := mb) (I := I1) (I' := I1') (nI q)).fr (K := K)).fq, hpc1, hpm1.cg (up2_at (Or.inr (by decide))) (up2_at (Or.inr (by decide))) (up2_ne _ _ _ (by omega)) (up2_ne _ _ _ (by omega)), ?_, hok1, ?_, by omega, by omega, by omega⟩
            · rw [up2_ne _ _ _ (by omega)]; exact hrw1
            · rw [up2_ne _ _ _ (by omega)]; exact h51
    · rw [if_neg (show ¬ r = (12 : Int32) from c12), if_neg c12, if_pos rfl, c_fail c2, b3s, yb_ck_t (show bz 0 = true from rfl), m_fails z9, b3s, yb_ck_t (show bz 0 = true from rfl), b3s, f12_readsAll_L35, if_pos rfl, b3s]
      have fl := fl_at (k := 0) (x := 0) (q := p) rfl (by omega) (by omega) (frW.fr (K := K))
      rw [tlR_0 fl.2.2]
      exact Or.inl ⟨_, _, rfl, rfl, hF.t2 fl.1.fq, fl.2.1⟩
end RULES
