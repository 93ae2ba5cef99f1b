/-! ONE CASE changes -/
theorem CoreR.one {b mb P C D c : Nat} {A A1 B B1 : IT} (h : CoreR b mb A B P C D) (hc : c < C)
    (ht : ∀ a, b + 5 ≤ a → a ≤ b + 13 → A1 a = A a) (h9 : A1 (b + 14) 9 = A (b + 14) 9) (hw : ∀ p, p < P → A1 (b + 15) p = A (b + 15) p)
    (hru : ∀ p, p < P → A1 (b + 16) p = B1 (mb + 10) (14 + 5 * p)) (ho : ∀ k j, 17 ≤ k → k ≤ 23 → j ≠ c → A1 (b + k) j = A (b + k) j)
    (hv : ∀ i, i < 111 → (i < 49 + 11 * c ∨ 55 + 11 * c < i) → (∀ p, p < P → i ≠ 14 + 5 * p) → B1 (mb + 10) i = B (mb + 10) i)
    (hcr : A1 (b + 17) c = B1 (mb + 10) (49 + 11 * c) ∧ A1 (b + 18) c = B1 (mb + 10) (50 + 11 * c) ∧ (B1 (mb + 10) (49 + 11 * c) ≠ -1 → A1 (b + 19) c = B1 (mb + 10) (55 + 11 * c)) ∧ A1 (b + 20) c = B1 (mb + 10) (51 + 11 * c) ∧ A1 (b + 21) c = B1 (mb + 10) (52 + 11 * c) ∧ A1 (b + 22) c = B1 (mb + 10) (53 + 11 * c) ∧ A1 (b + 23) c = B1 (mb + 10) (54 + 11 * c))
    (hs : (B1 (mb + 10) (49 + 11 * c) = -1 ∨ ∃ j q : Nat, B1 (mb + 10) (49 + 11 * c) = nI j ∧ j < P ∧ B1 (mb + 10) (50 + 11 * c) = nI q ∧ 1 ≤ q ∧ q ≤ 9) ∧
      ((B1 (mb + 10) (51 + 11 * c) = -1 ∧ B1 (mb + 10) (54 + 11 * c) = 0) ∨ ∃ j t : Nat, B1 (mb + 10) (51 + 11 * c) = nI j ∧ j < P ∧ B1 (mb + 10) (54 + 11 * c) = nI t ∧ 1 ≤ t ∧ t ≤ D)) : CoreR b mb A1 B1 P C D := by
  have hP7 := co_P7 h
  have hC6 := co_C6 h
  obtain ⟨⟨⟨a1, a2⟩, ⟨b1, b2⟩, ⟨c1, c2⟩, d, e, f, g, t⟩, ⟨u1, u2, u3, u4, u5⟩, ⟨w1, w2, w3, w4⟩⟩ := id h
  have lo : ∀ i, i < 10 → B1 (mb + 10) i = B (mb + 10) i := fun i hi => hv i (by omega) (by omega) (fun p hp => by omega)
  have pe : ∀ p k, p < P → k < 4 → B1 (mb + 10) (10 + k + 5 * p) = B (mb + 10) (10 + k + 5 * p) := fun p k hp hk => hv _ (by omega) (by omega) (fun q hq => by omega)
  have ca : ∀ x k, x < C → k < 4 → B1 (mb + 10) (45 + k + 11 * x) = B (mb + 10) (45 + k + 11 * x) := fun x k hx hk => hv _ (by omega) (by omega) (fun q hq => by omega)
  have cb : ∀ x k, x < C → x ≠ c → 4 ≤ k → k < 11 → B1 (mb + 10) (45 + k + 11 * x) = B (mb + 10) (45 + k + 11 * x) := fun x k hx hne hk1 hk => hv _ (by omega) (by omega) (fun q hq => by omega)
  refine ⟨⟨⟨(lo 2 (by omega)).trans a1, a2⟩, ⟨(lo 3 (by omega)).trans b1, b2⟩, ⟨(lo 4 (by omega)).trans c1, c2⟩, ?_, fun p hp => ?_, fun x hx => ?_, fun x hx => ?_, fun j a hj ha => ?_⟩, ⟨?_, ?_, ?_, fun p hp => ?_, fun x hx => ?_⟩, ⟨?_, fun p hp => ?_, fun x hx => ?_, fun h0 x h1 h2 => ?_⟩⟩
  · rw [lo 0 (by omega), lo 1 (by omega), lo 5 (by omega), lo 6 (by omega)]; exact d
  · rw [pe p 0 hp (by omega), pe p 1 hp (by omega), pe p 2 hp (by omega)]; exact e p hp
  · rw [ca x 0 hx (by omega), ca x 1 hx (by omega), ca x 2 hx (by omega), ca x 3 hx (by omega)]; exact f x hx
  · by_cases hxc : x = c
    · subst hxc; exact hs
    · rw [cb x 4 hx hxc (by omega) (by omega), cb x 5 hx hxc (by omega) (by omega), cb x 6 hx hxc (by omega) (by omega), cb x 9 hx hxc (by omega) (by omega)]; exact g x hx
  · have := t j a hj ha
    unfold twM at this ⊢
    rw [pe a 3 ha (by omega), pe j 3 hj (by omega)]; exact this
  · show A1 (b + 5) 9 = _ ∧ A1 (b + 5) 10 = _ ∧ A1 (b + 5) 13 = _ ∧ A1 (b + 5) 14 = _
    rw [ht (b + 5) (by omega) (by omega), lo 0 (by omega), lo 1 (by omega), lo 2 (by omega), lo 3 (by omega)]; exact u1
  · show _ → A1 (b + 5) 8 = 1 ∧ A1 (b + 5) 11 = _ ∧ A1 (b + 5) 12 = _
    rw [ht (b + 5) (by omega) (by omega), lo 0 (by omega), lo 5 (by omega), lo 6 (by omega)]; exact u2
  · show _ → A1 (b + 5) 8 = 0
    rw [ht (b + 5) (by omega) (by omega), lo 0 (by omega)]; exact u3
  · show A1 (b + 6) p = _ ∧ A1 (b + 8) p = _ ∧ A1 (b + 9) p = _
    rw [ht (b + 6) (by omega) (by omega), ht (b + 8) (by omega) (by omega), ht (b + 9) (by omega) (by omega), pe p 0 hp (by omega), pe p 2 hp (by omega), pe p 3 hp (by omega)]; exact u4 p hp
  · show A1 (b + 10) x = _ ∧ A1 (b + 11) x = _ ∧ A1 (b + 12) x = _ ∧ A1 (b + 13) x = _
    rw [ht (b + 10) (by omega) (by omega), ht (b + 11) (by omega) (by omega), ht (b + 12) (by omega) (by omega), ht (b + 13) (by omega) (by omega), ca x 0 hx (by omega), ca x 1 hx (by omega), ca x 2 hx (by omega), ca x 3 hx (by omega)]; exact u5 x hx
  · show A1 (b + 14) 9 = _
    rw [h9, lo 4 (by omega)]; exact w1
  · show A1 (b + 15) p = _ ∧ A1 (b + 16) p = _
    refine ⟨?_, hru p hp⟩
    rw [hw p hp, pe p 1 hp (by omega)]; exact (w2 p hp).1
  · by_cases hxc : x = c
    · subst hxc; exact hcr
    · show A1 (b + 17) x = _ ∧ A1 (b + 18) x = _ ∧ (_ → A1 (b + 19) x = _) ∧ A1 (b + 20) x = _ ∧ A1 (b + 21) x = _ ∧ A1 (b + 22) x = _ ∧ A1 (b + 23) x = _
      rw [ho 17 x (by omega) (by omega) hxc, ho 18 x (by omega) (by omega) hxc, ho 19 x (by omega) (by omega) hxc, ho 20 x (by omega) (by omega) hxc, ho 21 x (by omega) (by omega) hxc, ho 22 x (by omega) (by omega) hxc, ho 23 x (by omega) (by omega) hxc, cb x 4 hx hxc (by omega) (by omega), cb x 5 hx hxc (by omega) (by omega), cb x 6 hx hxc (by omega) (by omega), cb x 7 hx hxc (by omega) (by omega), cb x 8 hx hxc (by omega) (by omega), cb x 9 hx hxc (by omega) (by omega), cb x 10 hx hxc (by omega) (by omega)]; exact w3 x hx
  · show A1 (b + 17) x = -1
    rw [ho 17 x (by omega) (by omega) (by omega)]
    rw [lo 0 (by omega)] at h0
    exact w4 h0 x h1 h2
theorem q_may {N b mb P C D c j : Nat} {I I' : IT} {J J' : JT} {S : ST} {Rf : RT} (hN : 1000 ≤ N) (h : CoreR b mb I I' P C D) (hc : c < C) (hj : j < P) : ∃ r : Int32, (r = 0 ∨ r = 1) ∧ f1_mayHear N b S Rf (nI c) (nI j) I J = some (r, I, J) ∧ f12_mayHear N mb (nI c) (nI j) I' J' = some (r, I', J') ∧ (r = 1 → I' (mb + 10) (49 + 11 * c) = -1) := by
  have hP7 := co_P7 h
  have hC6 := co_C6 h
  have h12 := co_D12 h
  obtain ⟨g1, g2⟩ := h.1.2.2.2.2.2.2.1 c hc
  unfold f1_mayHear f12_mayHear
  rw [yb_ck_t (inb_nI (by omega) (by decide)), nI_clamp (by omega), co_judge h hc, k12_c4 (by omega), b3s]
  rcases g1 with e | ⟨p, q, e, hp, _⟩
  · rw [e, if_neg (by decide), if_neg (by decide), q0_heardBy (by omega) h hj, q12_hearsNow (by omega) h, b3s, b3s]
    by_cases c1 : 0 ≤ hbF (I' (mb + 10)) j C 0
    · rw [if_pos c1, if_pos c1]; exact ⟨0, Or.inl rfl, rfl, rfl, fun q => absurd q (by decide)⟩
    · rw [if_neg c1, if_neg c1, co_D h, cv_D h, q1_canHear h hc hj, q12_canHear (by omega) h hc hj (by omega), b3s, b3s]
      rcases canH01 (I' (mb + 10)) c j (nI D) with q | q
      · rw [q, if_pos rfl, if_pos rfl]; exact ⟨0, Or.inl rfl, rfl, rfl, fun q => absurd q (by decide)⟩
      · rw [q, if_neg i10, if_neg i10, co_ruler h hc, lts, k12_c9 (by omega), b3s]
        rcases g2 with ⟨f1, f2⟩ | ⟨p, t, f1, f2, f3, f4, f5⟩
        · rw [f1, f2, if_pos (by decide), if_pos rfl]; exact ⟨1, Or.inr rfl, rfl, rfl, fun _ => rfl⟩
        · rw [f1, f3, if_neg (nI_pos (by omega)), if_neg (nI_ne0 (by omega) (by omega)), k12_c6 (by omega), b3s, f1, q9_isYounger (by omega) (by omega), b3s, q12_isYounger (by omega) (by omega), b3s, show b + 5 + 1 = b + 6 from rfl, co_age h hj, co_age h f2, co_gap h]
          unfold yngS
          by_cases cy : I' (mb + 10) (10 + 5 * p) - I' (mb + 10) (10 + 5 * j) < I' (mb + 10) 0
          · rw [if_pos cy, if_pos rfl, if_pos rfl]; exact ⟨0, Or.inl rfl, rfl, rfl, fun q => absurd q (by decide)⟩
          · rw [if_neg cy, if_neg i10, if_neg i10]; exact ⟨1, Or.inr rfl, rfl, rfl, fun _ => rfl⟩
  · rw [e, if_pos (nI_pos' (by omega)), if_pos (nI_pos' (by omega))]; exact ⟨0, Or.inl rfl, rfl, rfl, fun q => absurd q (by decide)⟩
/-- a case begins to be heard -/
theorem q_begin {N b mb P C D K c j : Nat} {I I' : IT} {J J' : JT} {S : ST} {Rf : RT} {Rl : Nat → List (List Tk × Option (List Tk))} {fo : Int32} (hN : 1000 ≤ N) (h : CoreR b mb I I' P C D) (hR : RulesR b mb K S Rf I I' Rl) (hf : I (b + 4) 6 = fo) (hf' : I' mb 21 = fo) (hF : FoR fo K) (hc : c < C) (hj : j < P) :
    ∃ r I1 J1 I1' J1', f1_begin N b S Rf (nI c) (nI j) I J = some ((), I1, J1) ∧ I1 (b + 19) c = r ∧ f12_begins N mb (nI c) (nI j) I' J' = some (r, I1', J1') ∧ CoreR b mb I1 I1' P C D ∧ (∀ a, a ≠ b + 17 → a ≠ b + 18 → a ≠ b + 19 → I1 a = I a) ∧ (∀ a k, a ≠ mb + 10 → (a ≠ mb ∨ k ≠ 18) → I1' a k = I' a k) ∧ (∀ i, 111 ≤ i → I1' (mb + 10) i = I' (mb + 10) i) ∧ J1' mb = J' mb := by
  have hP7 := co_P7 h
  have hC6 := co_C6 h
  obtain ⟨J1, r1⟩ := q1_rightNow (J := J) hN h hR hf hF hc hj
  obtain ⟨I2', J2', s1, s2, s3⟩ := q12_rightOf (J' := J') hN h hR hf' hF (d := I' (mb + 10) 4) hc hj
  generalize rgtC (I' (mb + 10)) fo Rl c j (I' (mb + 10) 4) (I' (mb + 10) (14 + 5 * j)) (I' (mb + 10) (54 + 11 * c)) = r at r1 s1
  have v2 : I2' (mb + 10) = I' (mb + 10) := funext fun k => s2 _ k (Or.inl (by omega))
  have ex : (45 : Int32) + 11 * nI c = nI (45 + 11 * c) := by
    show nI 45 + nI 11 * nI c = _
    rw [pk_mul, nI_add]
  have ex2 : nI (45 + 11 * c) + 2 = nI (47 + 11 * c) := (nI_add _ 2).trans (congrArg nI (by omega))
  have ex4 : nI (45 + 11 * c) + 4 = nI (49 + 11 * c) := (nI_add _ 4).trans (congrArg nI (by omega))
  have ex5 : nI (45 + 11 * c) + 5 = nI (50 + 11 * c) := (nI_add _ 5).trans (congrArg nI (by omega))
  have ex10 : nI (45 + 11 * c) + 10 = nI (55 + 11 * c) := (nI_add _ 10).trans (congrArg nI (by omega))
  obtain ⟨a, g, n, f, ea, eg, en, ef, ha, hg1, hg2, hn1, hn2, hfr⟩ := h.1.2.2.2.2.2.1 c hc
  unfold f1_begin f12_begins
  rw [r1, b3s, yb_ck_t (inb_nI (by omega) (by decide)), nI_clamp (by omega), lts, lts, lts, ex, lts, s1, b3s, ex4, ex2, ex5, ex10, yb_ck_t (inb_nI (by omega) (by decide)), lts, yb_ck_t (inb_nI (by omega) (by decide)), yb_ck_t (inb_nI (by omega) (by decide)), lts, yb_ck_t (inb_nI (by omega) (by decide)), lts, nI_clamp (show 49 + 11 * c < 2 ^ 31 by omega), nI_clamp (show 47 + 11 * c < 2 ^ 31 by omega), nI_clamp (show 50 + 11 * c < 2 ^ 31 by omega), nI_clamp (show 55 + 11 * c < 2 ^ 31 by omega)]
  have l1 : up2 (up2 I (b + 19) c r) (b + 17) c (nI j) (b + 12) c = nI n := by rw [up2_ne _ _ _ (by omega), up2_ne _ _ _ (by omega), co_len h hc, en]
  have l2 : up2 I2' (mb + 10) (49 + 11 * c) (nI j) (mb + 10) (47 + 11 * c) = nI n := by rw [up2_at (Or.inr (by omega)), v2, en]
  rw [l1, l2]
  have hv : ∀ i, (i ≠ 49 + 11 * c ∧ i ≠ 50 + 11 * c ∧ i ≠ 55 + 11 * c) → up2 (up2 (up2 I2' (mb + 10) (49 + 11 * c) (nI j)) (mb + 10) (50 + 11 * c) (nI n)) (mb + 10) (55 + 11 * c) r (mb + 10) i = I' (mb + 10) i := fun i hi => by rw [up2_at (Or.inr hi.2.2), up2_at (Or.inr hi.2.1), up2_at (Or.inr hi.1), v2]
  have w4 : up2 (up2 (up2 I2' (mb + 10) (49 + 11 * c) (nI j)) (mb + 10) (50 + 11 * c) (nI n)) (mb + 10) (55 + 11 * c) r (mb + 10) (49 + 11 * c) = nI j := by rw [up2_at (Or.inr (by omega)), up2_at (Or.inr (by omega)), up2_same]
  have w5 : up2 (up2 (up2 I2' (mb + 10) (49 + 11 * c) (nI j)) (mb + 10) (50 + 11 * c) (nI n)) (mb + 10) (55 + 11 * c) r (mb + 10) (50 + 11 * c) = nI n := by rw [up2_at (Or.inr (by omega)), up2_same]
  have w10 : up2 (up2 (up2 I2' (mb + 10) (49 + 11 * c) (nI j)) (mb + 10) (50 + 11 * c) (nI n)) (mb + 10) (55 + 11 * c) r (mb + 10) (55 + 11 * c) = r := up2_same _ _ _ _
  have hI : ∀ a, a ≠ b + 17 → a ≠ b + 18 → a ≠ b + 19 → up2 (up2 (up2 I (b + 19) c r) (b + 17) c (nI j)) (b + 18) c (nI n) a = I a := fun a h1 h2 h3 => by rw [up2_ne _ _ _ h2, up2_ne _ _ _ h1, up2_ne _ _ _ h3]
  have hIc : ∀ a k, k ≠ c → up2 (up2 (up2 I (b + 19) c r) (b + 17) c (nI j)) (b + 18) c (nI n) a k = I a k := fun a k hk => by rw [up2_at (Or.inr hk), up2_at (Or.inr hk), up2_at (Or.inr hk)]
  have u19 : up2 (up2 (up2 I (b + 19) c r) (b + 17) c (nI j)) (b + 18) c (nI n) (b + 19) c = r := by rw [up2_ne _ _ _ (by omega), up2_ne _ _ _ (by omega), up2_same]
  have u17 : up2 (up2 (up2 I (b + 19) c r) (b + 17) c (nI j)) (b + 18) c (nI n) (b + 17) c = nI j := by rw [up2_ne _ _ _ (by omega), up2_same]
  refine ⟨r, _, J1, _, J2', rfl, u19, rfl, ?_, hI, fun a k h1 h2 => by rw [up2_ne _ _ _ h1, up2_ne _ _ _ h1, up2_ne _ _ _ h1, s2 a k h2], fun i hi => hv i (by omega), s3 mb (by omega) (by omega)⟩
  refine h.one hc (fun a h1 h2 => hI a (by omega) (by omega) (by omega)) (by rw [hI _ (by omega) (by omega) (by omega)]) (fun p hp => by rw [hI _ (by omega) (by omega) (by omega)]) (fun p hp => by rw [hI _ (by omega) (by omega) (by omega), hv _ (by omega), co_ruled h hp]) (fun k x h1 h2 hx => hIc _ _ hx) (fun i h1 h2 h3 => hv i (by omega)) ⟨?_, ?_, fun _ => ?_, ?_, ?_, ?_, ?_⟩ ⟨Or.inr ⟨j, n, w4, hj, w5, hn1, hn2⟩, ?_⟩
  · rw [w4, u17]
  · rw [w5]; exact up2_same _ _ _ _
  · rw [w10, u19]
  · rw [hI _ (by omega) (by omega) (by omega), hv _ (by omega), co_ruler h hc]
  · rw [hI _ (by omega) (by omega) (by omega), hv _ (by omega), co_right h hc]
  · rw [hI _ (by omega) (by omega) (by omega), hv _ (by omega), co_rage h hc]
  · rw [hI _ (by omega) (by omega) (by omega), hv _ (by omega), co_times h hc]
  · rw [hv _ (by omega), hv _ (by omega)]
    exact (h.1.2.2.2.2.2.2.1 c hc).2
