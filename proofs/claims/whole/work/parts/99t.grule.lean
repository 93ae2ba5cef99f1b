/-! RULE: the call -/
theorem ClsR.rws {I' I1' : IT} {mb k : Nat} (h2 : ∀ j, j < 400 * (k + 1) → I1' (mb + 2) j = I' (mb + 2) j) (h4 : ∀ j, j < 48 * (k + 1) → I1' (mb + 4) j = I' (mb + 4) j) : ∀ (c : Cls) (i : Nat), i + c.length ≤ 12 → ClsR I' mb k i c → ClsR I1' mb k i c := by
  intro c
  induction c with
  | nil => intro i _ _; trivial
  | cons x c ih =>
    intro i hi h
    have hl : (x :: c).length = c.length + 1 := rfl
    obtain ⟨⟨s, a1, a2, a3, a4, a5⟩, h'⟩ := h
    refine ⟨⟨s, ?_, ?_, a3, a4.congr (fun j q1 q2 => h2 j (by rw [List.length_map] at q2; omega)), ?_⟩, ih (i + 1) (by omega) h'⟩
    · rw [h4 _ (by omega)]; exact a1
    · rw [h4 _ (by omega)]; exact a2
    · rcases a5 with ⟨e1, e2⟩ | ⟨u, s1, e1, e2, e3, e4, e5⟩
      · exact Or.inl ⟨e1, by rw [h4 _ (by omega)]; exact e2⟩
      · exact Or.inr ⟨u, s1, e1, by rw [h4 _ (by omega)]; exact e2, by rw [h4 _ (by omega)]; exact e3, e4, e5.congr (fun j q1 q2 => h2 j (by rw [List.length_map] at q2; omega))⟩
theorem FoR.mono {x : Int32} {K K1 : Nat} (h : FoR x K) (hk : K ≤ K1) : FoR x K1 := by
  rcases h with h | ⟨k, h1, h2⟩
  · exact Or.inl h
  · exact Or.inr ⟨k, by omega, h2⟩
section GRULE
variable {b mb P C D M K K1 : Nat} {L L1 : List Nat} {S S1 : ST} {Rf Rf1 : RT} {I I' I1 I1' : IT} {Rl Rl1 : Nat → List (List Tk × Option (List Tk))}
theorem RelB.ruled (h : RelB b mb L S Rf I I' P C D M K Rl) (hC : CW b L1 S1 Rf1) (hD : Dyn b L1 Rf1) (hb : ∀ a, b < a → a < b + 75 → a ≠ b + 2 → a ≠ b + 62 → a ≠ b + 63 → I1 a = I a) (hd : ∀ a, b + 105 ≤ a → a ∈ L → I1 a = I a) (h27 : Rf1 (b + 27) = Rf (b + 27)) (h29 : Rf1 (b + 29) = Rf (b + 29)) (h14 : I1 b 14 = 0) (h15 : I1 b 15 = nI K1)
    (m1 : I1' mb 1 = 0) (m2 : I1' mb 2 = nI K1) (m : I1' mb 21 = I' mb 21 ∧ I1' mb 22 = I' mb 22 ∧ I1' mb 24 = I' mb 24) (mk : ∀ k, (k = 10 ∨ k = 11 ∨ (26 ≤ k ∧ k ≤ 29)) → I1' (mb + k) = I' (mb + k)) (hK : K ≤ K1) (hR : RulesR b mb K1 S1 Rf1 I1 I1' Rl1) : RelB b mb L1 S1 Rf1 I1 I1' P C D M K1 Rl1 := by
  obtain ⟨h1, h2, h3, h4, h5, h6, ⟨h7, h8, h9⟩, h10, h11⟩ := h
  obtain ⟨m21, m22, m24⟩ := m
  refine ⟨h1, ⟨hC, h2.2.cg (fun a g1 g2 => hb a (by omega) (by omega) (by omega) (by omega) (by omega))⟩, hD, ?_, ?_, ?_, ⟨h15, m2, hR⟩, ?_, ?_⟩
  · rw [h14, m1]
    exact ⟨rfl, nI_inr (k := 0) (n := 400) (by omega) (by omega), fun k hk => absurd hk (by show ¬ (k : Int) < 0; omega)⟩
  · rw [m21, m22, mk 10 (by decide)]
    exact h5.congr (fun k hk => hb _ (by omega) (by omega) (by omega) (by omega) (by omega))
  · rw [m21]; exact h6.mono hK
  · intro k hk
    rw [mk 29 (by decide), mk 26 (by decide), mk 27 (by decide), mk 28 (by decide), h27]
    rcases h10 k hk with q | ⟨q, P, C, D, M, e1, e2, e3, e4⟩
    · exact Or.inl q
    · have hq := h3.2.1 _ k q (Or.inr (Or.inl rfl)) e1
      rw [slot27] at hq
      exact Or.inr ⟨q, P, C, D, M, e1, e2, e3.congr (fun i hi => hd _ (by omega) (hq.2 i (by omega))), e4.mono hK⟩
  · obtain ⟨nx, u, g1, g2, g3, g4, g5, g6⟩ := h11
    refine ⟨nx, u, g1, g2, ?_, ?_, ?_, fun j hj => ?_⟩
    · rw [hb (b + 28) (by omega) (by omega) (by omega) (by omega) (by omega)]; exact g3
    · rw [hb (b + 28) (by omega) (by omega) (by omega) (by omega) (by omega)]; exact g4
    · rw [m24]; exact g5
    · obtain ⟨q, D, e1, e2, e3, e4, e5⟩ := g6 j hj
      have hq := h3.2.1 _ _ q (Or.inr (Or.inr rfl)) e1
      rw [slot29] at hq
      rw [mk 11 (by decide), h29]
      exact ⟨q, D, e1, e2, e3, e4.congr (fun k hk => hb _ (by omega) (by omega) (by omega) (by omega) (by omega)), e5.congr (fun k hk => hd _ (by omega) (hq.2 k (by omega)))⟩
/-- the elder rules stay, one more may come -/
theorem RulesR.rws (hq : ∀ k q, Rf (b + 3) k = some q → b + 105 ≤ q ∧ q + 1 ∈ L) (h : RulesR b mb K S Rf I I' Rl) (hS : ∀ a, b + 105 ≤ a → a ∈ L → S1 a = S a ∧ I1 a = I a) (hR : ∀ k, k < K → Rf1 (b + 3) k = Rf (b + 3) k) (hl : ∀ k, k < K → Rl1 k = Rl k) (h2 : ∀ j, j < 400 * K → I1' (mb + 2) j = I' (mb + 2) j) (h4 : ∀ j, j < 48 * K → I1' (mb + 4) j = I' (mb + 4) j) (h5 : ∀ j, j < K → I1' (mb + 5) j = I' (mb + 5) j) : RulesR b mb K S1 Rf1 I1 I1' Rl1 := by
  refine ⟨h.1, fun k hk => ?_⟩
  obtain ⟨q, e1, e2, e3, e4, e5, e6, e7, e8⟩ := h.2 k hk
  obtain ⟨q1, q2⟩ := hq k q e1
  obtain ⟨s1, s2⟩ := hS (q + 1) (by omega) q2
  rw [hl k hk]
  exact ⟨q, (hR k hk).trans e1, by rw [s1]; exact e2, e3, by rw [s2]; exact e4, e5, (h5 k hk).trans e6, e7, e8.rws (fun j hj => h2 j (by omega)) (fun j hj => h4 j (by omega)) _ 0 (by omega)⟩
end GRULE
theorem md_new {b z : Nat} {S : ST} {Rf : RT} {I : IT} {J : JT} (hz : b + 63 < z) : ((mdT b z S Rf I J).1 (z + 1)).2 = (I (b + 62) 2).toNatClampNeg ∧ ∀ j, j < (I (b + 62) 2).toNatClampNeg → (mdT b z S Rf I J).2.2.1 (z + 1) j = I (b + 63) j := by
  unfold mdT f5_init yb_let
  dsimp only
  refine ⟨by rw [va_up_self], fun j hj => ?_⟩
  rw [cpy2_in hj, va_up_ne _ _ (by omega), va_up_ne _ _ (by omega)]
theorem ru_R {b z k : Nat} {S : ST} {Rf : RT} {I : IT} {J : JT} (hz : b + 105 ≤ z) (e : I b 15 = nI k) (hk : k < 6) : (ruR b z S Rf I J) (b + 3) = va_up (Rf (b + 3)) k (some z) ∧ ∀ a, a < z → a ≠ b + 3 → ruR b z S Rf I J a = Rf a := by
  refine ⟨?_, fun a h1 h2 => ?_⟩
  · unfold ruR; rw [up2R_self, md_R (by omega), e, nI_clamp (by omega)]
  · unfold ruR; rw [up2R_ne _ _ _ h2, md_R h1]
def rlU (Rl : Nat → Cls) (K : Nat) (cz : Cls) : Nat → Cls := fun k => if k = K then cz else Rl k
theorem rlU_at {Rl : Nat → Cls} {K : Nat} {cz : Cls} : rlU Rl K cz K = cz := if_pos rfl
theorem rlU_ne {Rl : Nat → Cls} {K k : Nat} {cz : Cls} (h : k ≠ K) : rlU Rl K cz k = Rl k := if_neg h
theorem G_rule {N : Nat} (hN : 3000 ≤ N) : Gd_rule N RelY := by
  intro b mb L S Rf I J I' J' hR
  obtain ⟨P, C, D, M, K, Rl, h⟩ := hR
  have hmb := h.1
  have hDy := h.2.2.1
  have hCW := h.2.1.1
  have hTape := h.2.2.2.1
  have hRu := h.rules
  obtain ⟨e15, e2, _⟩ := h.2.2.2.2.2.2.1
  have hK6 := hRu.1
  by_cases cK : K = 6
  · left
    refine ⟨-1, I, J, I', J', ?_, ?_, P, C, D, M, K, Rl, h⟩
    · unfold f11_rule
      rw [e15, cK, if_neg (by decide)]
    · unfold f12_rule
      rw [e2, cK, if_pos (show nI 6 = (6 : Int32) from rfl)]
  · have hK : K < 6 := by omega
    obtain ⟨n, hn, en⟩ := inr_nI (n := 400) hTape.2.1
    have en' : I' mb 1 = nI n := hTape.1.symm.trans en
    obtain ⟨w, hw⟩ := tape_w (n := n) (t := I (b + 1)) (t' := I' (mb + 1)) (by rw [← en', ← hTape.1] at *; exact hTape) hn
    obtain ⟨A, a1, a2, a3, a4, a5⟩ := q_open (N := N) (S := S) (Rf := Rf) (J := J) (by omega) hn en (fun k hk => ⟨(hw k hk).1, (hw k hk).2.1⟩)
    generalize hB : up2 (up2 A (b + 62) 2 0) (b + 62) 3 0 = B
    generalize hB' : up2 (up2 (up2 (up2 (up2 (up2 (up2 I' mb 11 (nI K)) (mb + 5) K 0) (mb + 3) K 0) mb 14 0) mb 8 0) mb 9 0) mb 12 0 = B'
    have Bn : ∀ a, a ≠ b + 62 → B a = A a := fun a ha => by rw [← hB, up2_ne _ _ _ ha, up2_ne _ _ _ ha]
    have B'n : ∀ a, a ≠ mb → a ≠ mb + 3 → a ≠ mb + 5 → B' a = I' a := fun a h1 h2 h3 => by rw [← hB', up2_ne _ _ _ h1, up2_ne _ _ _ h1, up2_ne _ _ _ h1, up2_ne _ _ _ h1, up2_ne _ _ _ h2, up2_ne _ _ _ h3, up2_ne _ _ _ h1]
    have B'm : ∀ k, k ≠ 8 → k ≠ 9 → k ≠ 11 → k ≠ 12 → k ≠ 14 → B' mb k = I' mb k := fun k h1 h2 h3 h4 h5 => by rw [← hB', up2_at (Or.inr h4), up2_at (Or.inr h2), up2_at (Or.inr h1), up2_at (Or.inr h5), up2_ne _ _ _ (by omega), up2_ne _ _ _ (by omega), up2_at (Or.inr h3)]
    have B'5 : ∀ j, j ≠ K → B' (mb + 5) j = I' (mb + 5) j := fun j hj => by rw [← hB', up2_ne _ _ _ (by omega), up2_ne _ _ _ (by omega), up2_ne _ _ _ (by omega), up2_ne _ _ _ (by omega), up2_ne _ _ _ (by omega), up2_at (Or.inr hj), up2_ne _ _ _ (by omega)]
    have hRd : Rd b mb n w (skp w n 0) 0 B B' := by
      refine ⟨a2.keep ?_ ?_, ⟨hn, ?_, fun k hk => ⟨(hw k hk).1, ?_⟩⟩, by omega, rfl, ?_, ?_, ?_⟩
      · rw [Bn _ (by omega)]
      · rw [Bn _ (by omega)]
      · rw [B'm 1 (by decide) (by decide) (by decide) (by decide) (by decide)]; exact en'
      · rw [B'n _ (by omega) (by omega) (by omega)]; exact (hw k hk).2.2
      · rw [Bn _ (by omega)]; exact a3
      · rw [← hB', up2_at (Or.inr (by decide)), up2_at (Or.inr (by decide)), up2_same]; rfl
      · rw [← hB', up2_at (Or.inr (by decide)), up2_same]
    have hPS : PS b mb n w K (skp w n 0) 0 (encR []) (trR []) 0 B B' := by
      refine PS_iff.mpr ⟨hRd, ⟨?_, trivial, ?_⟩, by omega, hK, ⟨?_, ?_, trivial, ?_⟩, Nat.le_refl _⟩
      · rw [← hB, up2_at (Or.inr (by decide)), up2_same]; rfl
      · rw [← hB, up2_same]; rfl
      · rw [← hB', up2_at (Or.inr (by decide)), up2_at (Or.inr (by decide)), up2_at (Or.inr (by decide)), up2_at (Or.inr (by decide)), up2_ne _ _ _ (by omega), up2_ne _ _ _ (by omega), up2_same]
      · rw [← hB', up2_ne _ _ _ (by omega), up2_ne _ _ _ (by omega), up2_ne _ _ _ (by omega), up2_ne _ _ _ (by omega), up2_same]; rfl
      · rw [← hB', up2_same]; rfl
    have fq0 : FQ b mb K B B B' B' := (FR.rf b mb K B B').fq
    have b5 : B' (mb + 5) K = nI 0 := by rw [← hB', up2_ne _ _ _ (by omega), up2_ne _ _ _ (by omega), up2_ne _ _ _ (by omega), up2_ne _ _ _ (by omega), up2_ne _ _ _ (by omega), up2_same]; rfl
    have b14 : B' mb 14 = nI 0 := by rw [← hB', up2_at (Or.inr (by decide)), up2_at (Or.inr (by decide)), up2_at (Or.inr (by decide)), up2_same]; rfl
    have kA : ∀ a k, a ≠ b + 2 → a ≠ b + 62 → (a ≠ b ∨ k ≠ 14) → B a k = I a k := fun a k h1 h2 h3 => by rw [Bn a h2, a5 a k h1 h3]
    have l6 : nI K < (6 : Int32) := nI_lt (b := 6) hK (by omega)
    have eM : f12_rule N mb I' J' = yb_b3 (lpR N mb N B' J') fun r I J => if r = 0 then some ((-2 : Int32) - I mb 9, I, J) else some (up2 I mb 2 (I mb 2 + 1) mb 2 - 1, up2 I mb 2 (I mb 2 + 1), J) := by
      unfold f12_rule
      rw [e2, if_neg (show ¬ nI K = (6 : Int32) from nI_nl 6 rfl (by omega) (by omega) cK), lts, up2_same, yb_ck_t (inb_nI hK (by decide)), nI_clamp (by omega), lts, readsAll_eq, up2_ne (up2 I' mb 11 (nI K)) _ _ (show mb ≠ mb + 5 by omega), up2_same, yb_ck_t (inb_nI (show K < 7 by omega) (by decide)), nI_clamp (by omega), hB']
      rfl
    have eC : f6_reads N b S Rf A J = yb_b3 (f6_reads_L12 N b S Rf N (nI 0) B J) fun q I J => yb_sm q (fun v => some (v, I, J)) fun _ => some ((0 : Int32), I, J) := by
      unfold f6_reads
      rw [lts, lts, hB]
      rfl
    have hqm : ∀ k q, Rf (b + 3) k = some q → b + 105 ≤ q ∧ q + 1 ∈ L := fun k q e => by
      have := hDy.2.1 _ k q (Or.inl rfl) e
      rw [slot3] at this
      exact ⟨this.1, this.2 1 (by omega)⟩
    rcases ru_loop (N := N) (S := S) (Rf := Rf) (J := J) (J' := J') (show 1000 ≤ N by omega) 13 N N _ _ 0 [] B B' hPS trivial (fun x hx => (by cases hx)) b5 b14 (Nat.zero_le _) (Nat.zero_le _) (Nat.le_refl _) (by omega) (by omega) fq0 with ⟨I1, I1', f1, f2, f3, f4⟩ | ⟨cz, Vz, I1, I1', f1, f2, f3, f4, f5, f6, f7, f8, f9, f10, f11⟩
    all_goals
      obtain ⟨g1, g2, g3, g4, g5, g6, g7⟩ := f3
      have kI : ∀ a, b < a → a ≠ b + 2 → a ≠ b + 62 → a ≠ b + 63 → I1 a = I a := fun a h0 h1 h2 h3 => by
        rw [g1 a h1 h2 h3]; exact funext fun k => kA a k h1 h2 (Or.inl (by omega))
      have k14 : I1 b 14 = 0 := by rw [g1 b (by omega) (by omega) (by omega), Bn b (by omega)]; exact a4
      have k15 : I1 b 15 = nI K := by rw [g1 b (by omega) (by omega) (by omega), kA b 15 (by omega) (by omega) (Or.inr (by decide))]; exact e15
      have kM : ∀ k, k ≠ 8 → k ≠ 9 → k ≠ 10 → k ≠ 11 → k ≠ 12 → k ≠ 13 → k ≠ 14 → k ≠ 16 → I1' mb k = I' mb k := fun k h1 h2 h3 h4 h5 h6 h7 h8 => by rw [g4 k h1 h2 h3 h5 h6 h7 h8, B'm k h1 h2 h4 h5 h7]
      have kT : ∀ k, (k = 10 ∨ k = 11 ∨ (26 ≤ k ∧ k ≤ 29)) → I1' (mb + k) = I' (mb + k) := fun k hk => by rw [g3 _ (by omega) (by omega) (by omega) (by omega) (by omega) (by omega), B'n _ (by omega) (by omega) (by omega)]
      have r2 : ∀ j, j < 400 * K → I1' (mb + 2) j = I' (mb + 2) j := fun j hj => by rw [g5 j hj, B'n _ (by omega) (by omega) (by omega)]
      have r4 : ∀ j, j < 48 * K → I1' (mb + 4) j = I' (mb + 4) j := fun j hj => by rw [g6 j hj, B'n _ (by omega) (by omega) (by omega)]
      have r5 : ∀ j, j < K → I1' (mb + 5) j = I' (mb + 5) j := fun j hj => by rw [g7 j hj, B'5 j (by omega)]
    · left
      have f1' : f6_reads N b S Rf A J = some (0, I1, J) := by
        rw [eC]
        have f1'' : f6_reads_L12 N b S Rf N (nI 0) B J = some (Sum.inl 0, I1, J) := f1
        rw [f1'', b3s, sml]
      refine ⟨(-2 : Int32) - I1 (b + 2) 4, I1, J, up2 I1' mb 1 0, J', ?_, ?_, P, C, D, M, K, Rl, ?_⟩
      · unfold f11_rule
        rw [e15, if_pos l6, a1, b3s, f1', b3s, if_pos rfl]
      · rw [eM, f2, b3s, if_pos rfl, up2_at (Or.inr (by decide)), f4]
      · refine h.ruled hCW hDy (fun a h0 _ h1 h2 h3 => kI a h0 h1 h2 h3) (fun a ha _ => kI a (by omega) (by omega) (by omega) (by omega)) rfl rfl k14 k15 (up2_same _ _ _ _) ?_ ⟨?_, ?_, ?_⟩ (fun k hk => ?_) (Nat.le_refl _) (hRu.rws (L := L) hqm (fun a ha _ => ⟨rfl, kI a (by omega) (by omega) (by omega) (by omega)⟩) (fun _ _ => rfl) (fun _ _ => rfl) (fun j hj => ?_) (fun j hj => ?_) (fun j hj => ?_))
        · rw [up2_at (Or.inr (by decide)), kM 2 (by decide) (by decide) (by decide) (by decide) (by decide) (by decide) (by decide) (by decide)]; exact e2
        · rw [up2_at (Or.inr (by decide)), kM 21 (by decide) (by decide) (by decide) (by decide) (by decide) (by decide) (by decide) (by decide)]
        · rw [up2_at (Or.inr (by decide)), kM 22 (by decide) (by decide) (by decide) (by decide) (by decide) (by decide) (by decide) (by decide)]
        · rw [up2_at (Or.inr (by decide)), kM 24 (by decide) (by decide) (by decide) (by decide) (by decide) (by decide) (by decide) (by decide)]
        · rw [up2_ne _ _ _ (by omega)]; exact kT k hk
        · rw [up2_ne _ _ _ (by omega)]; exact r2 j hj
        · rw [up2_ne _ _ _ (by omega)]; exact r4 j hj
        · rw [up2_ne _ _ _ (by omega)]; exact r5 j hj
    · right
      intro z hz hzm
      have hzb : b + 105 ≤ z := by
        have := hzm _ (ml_mem mb 29 (by decide))
        omega
      have f1' : f6_reads N b S Rf A J = some (1, I1, J) := by
        rw [eC]
        have f1'' : f6_reads_L12 N b S Rf N (nI 0) B J = some (Sum.inl 1, I1, J) := f1
        rw [f1'', b3s, sml]
      have e62 : (I1 (b + 62) 2).toNatClampNeg = (encR cz).length := by rw [f4.1, nI_clamp (by omega)]
      have hmd : mdok (I1 (b + 62) 2) = true := by
        unfold mdok
        rw [f4.1]
        exact decide_eq_true ⟨nI_pos (by omega), nI_lt (b := 400) f10 (by omega)⟩
      obtain ⟨ruA, ruB⟩ := ru_R (b := b) (z := z) (k := K) (S := S) (Rf := Rf) (I := I1) (J := J) hzb k15 hK
      obtain ⟨mdA, mdB⟩ := md_new (b := b) (z := z) (S := S) (Rf := Rf) (I := I1) (J := J) (by omega)
      rw [e62] at mdA mdB
      have mI : ∀ a, a < z → (mdT b z S Rf I1 J).2.2.1 a = I1 a := fun a ha => md_I ha
      have m2 : up2 I1' mb 1 0 mb 2 = nI K := by rw [up2_at (Or.inr (by decide)), kM 2 (by decide) (by decide) (by decide) (by decide) (by decide) (by decide) (by decide) (by decide)]; exact e2
      refine ⟨nI (K + 1) - 1, (mdT b z S Rf I1 J).1, ruR b z S Rf I1 J, up2 (mdT b z S Rf I1 J).2.2.1 b 15 (nI (K + 1)), (mdT b z S Rf I1 J).2.2.2, up2 (up2 I1' mb 1 0) mb 2 (nI (K + 1)), J', ?_, ?_, P, C, D, M, K + 1, rlU Rl K cz, ?_⟩
      · unfold f11_ruleN h11_rule_B
        rw [e15, if_pos l6, a1, b3s, f1', b3s, if_neg i10, yb_ck_t hmd, k15, yb_ck_t (inb_nI hK (by decide)), mI b (by omega), k15, nI_1, lts, up2_same, b3s]
      · rw [eM, f2, b3s, if_neg i10, m2, nI_1, up2_same]
      · have kz : ∀ a, b < a → a < z → a ≠ b + 2 → a ≠ b + 62 → a ≠ b + 63 → up2 (mdT b z S Rf I1 J).2.2.1 b 15 (nI (K + 1)) a = I a := fun a h0 hz h1 h2 h3 => by rw [up2_ne _ _ _ (by omega), mI a hz, kI a h0 h1 h2 h3]
        have q2 : ∀ a, a ≠ mb → up2 (up2 I1' mb 1 0) mb 2 (nI (K + 1)) a = I1' a := fun a ha => by rw [up2_ne _ _ _ ha, up2_ne _ _ _ ha]
        have qm : ∀ k, k ≠ 1 → k ≠ 2 → up2 (up2 I1' mb 1 0) mb 2 (nI (K + 1)) mb k = I1' mb k := fun k h1 h2 => by rw [up2_at (Or.inr h2), up2_at (Or.inr h1)]
        have hDy1 : Dyn b (apn L z 2) (ruR b z S Rf I1 J) := hDy.grow (n0 := K) (Or.inl rfl) (slot3 b) hz hzb (by rw [ruA, va_up_self]) (fun a j ha hne => by
          by_cases c : a = b + 3
          · subst c; rw [ruA, va_up_ne _ _ (hne.elim (fun g => absurd rfl g) id)]
          · rw [ruB a (by rcases ha with rfl | rfl | rfl <;> omega) c])
        refine h.ruled (ru_cw hCW hz) hDy1 (fun a h0 h00 h1 h2 h3 => kz a h0 (by omega) h1 h2 h3) (fun a ha hL => kz a (by omega) (hz a hL) (by omega) (by omega) (by omega)) (ruB _ (by omega) (by omega)) (ruB _ (by omega) (by omega)) ?_ (up2_same _ _ _ _) ?_ (up2_same _ _ _ _) ⟨?_, ?_, ?_⟩ (fun k hk => ?_) (by omega) ⟨by omega, fun k hk => ?_⟩
        · rw [up2_at (Or.inr (by decide)), mI b (by omega)]; exact k14
        · rw [up2_at (Or.inr (by decide)), up2_same]
        · rw [qm 21 (by decide) (by decide), kM 21 (by decide) (by decide) (by decide) (by decide) (by decide) (by decide) (by decide) (by decide)]
        · rw [qm 22 (by decide) (by decide), kM 22 (by decide) (by decide) (by decide) (by decide) (by decide) (by decide) (by decide) (by decide)]
        · rw [qm 24 (by decide) (by decide), kM 24 (by decide) (by decide) (by decide) (by decide) (by decide) (by decide) (by decide) (by decide)]
        · rw [q2 _ (by omega)]; exact kT k hk
        · by_cases ck : k = K
          · rw [ck, rlU_at]
            refine ⟨z, by rw [ruA, va_up_self], mdA, by omega, ?_, f7, ?_, f9, ?_⟩
            · refine f4.2.1.congr (fun j h1 h2 => ?_)
              rw [up2_ne _ _ _ (by omega)]; exact mdB j (by omega)
            · rw [q2 _ (by omega)]; exact f8
            · refine ClsR_of cz 0 0 ?_ ?_ (by omega)
              · rw [q2 _ (by omega)]; exact f6
              · rw [q2 _ (by omega)]; exact f5.2.2.1
          · have rr : RulesR b mb K (mdT b z S Rf I1 J).1 (ruR b z S Rf I1 J) (up2 (mdT b z S Rf I1 J).2.2.1 b 15 (nI (K + 1))) (up2 (up2 I1' mb 1 0) mb 2 (nI (K + 1))) (rlU Rl K cz) := hRu.rws (L := L) hqm (fun a ha hL => ⟨md_S (hz a hL), kz a (by omega) (hz a hL) (by omega) (by omega) (by omega)⟩) (fun j hj => by rw [ruA, va_up_ne _ _ (by omega)]) (fun j hj => rlU_ne (by omega)) (fun j hj => by rw [q2 _ (by omega)]; exact r2 j hj) (fun j hj => by rw [q2 _ (by omega)]; exact r4 j hj) (fun j hj => by rw [q2 _ (by omega)]; exact r5 j hj)
            exact rr.2 k (by omega)
