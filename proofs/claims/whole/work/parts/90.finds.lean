/-! BENCHES, the reference: all rows -/
section FINDS
variable {N b mb P C D : Nat} {u : List Nat} {I I0' I' : IT} {J' : JT} {fo : Int32} {Rl : Nat → List (List Tk × Option (List Tk))} {pr : Rw}
abbrev rcV (v : Nat → Int32) (fo : Int32) (Rl : Nat → List (List Tk × Option (List Tk))) (u : List Nat) (C D : Nat) (r : Rw) : Cd := rcW lgN (BV v u C D) (RtV v fo Rl u C D) (lnV v u) r
theorem ahead_m {y : Cd} {m : Nat} (hN : 1000 ≤ N) (hm : m ≤ 4) (e25 : I' mb 25 = nI m) (h1 : ∀ p c j, pr[p]? = some (c, j) → I' (mb + 15) p = nI c ∧ I' (mb + 16) p = nI j) (hb1 : ∀ x, x ∈ pr → x.1 < 4 ∧ x.2 < 7) (hl1 : pr.length = m) (h2 : ∀ p c j, y.2.2.1[p]? = some (c, j) → I' (mb + 18) p = nI c ∧ I' (mb + 19) p = nI j) (hb2 : ∀ x, x ∈ y.2.2.1 → x.1 < 4 ∧ x.2 < 7) (hl2 : y.2.2.1.length = m) : ∃ x, f12_isAhead N mb I' J' = some (x, I', J') ∧ (x = 0 ∨ x = 1) ∧ (x = 1 ↔ lexL (pr.map Prod.fst ++ pr.map Prod.snd) (keyL y)) := by
  have g1 : ∀ (r : Rw) (p x : Nat), (r.map Prod.fst)[p]? = some x → ∃ j, r[p]? = some (x, j) := by
    intro r p x h
    rw [List.getElem?_map] at h
    cases hr : r[p]? with
    | none => rw [hr] at h; cases h
    | some z => rw [hr] at h; cases h; exact ⟨z.2, rfl⟩
  have g2 : ∀ (r : Rw) (p x : Nat), (r.map Prod.snd)[p]? = some x → ∃ c, r[p]? = some (c, x) := by
    intro r p x h
    rw [List.getElem?_map] at h
    cases hr : r[p]? with
    | none => rw [hr] at h; cases h
    | some z => rw [hr] at h; cases h; exact ⟨z.1, rfl⟩
  obtain ⟨q, e1, e2⟩ := ah_2 (N := N) (mb := mb) (J' := J') hm e25 (pr.map Prod.fst) (y.2.2.1.map Prod.fst) 0 N (by simp [hl1, hl2]) (by simp [hl1]) (by simp [hl1]; omega) (fun p x hx => by
      obtain ⟨j, hj⟩ := g1 pr p x hx
      rw [Nat.zero_add]
      exact ⟨by have := (hb1 _ (List.mem_of_getElem? hj)).1; omega, (h1 p x j hj).1⟩) (fun p x hx => by
      obtain ⟨j, hj⟩ := g1 y.2.2.1 p x hx
      rw [Nat.zero_add]
      exact ⟨by have := (hb2 _ (List.mem_of_getElem? hj)).1; omega, (h2 p x j hj).1⟩)
  obtain ⟨q', f1, f2⟩ := ah_54 (N := N) (mb := mb) (J' := J') hm e25 (pr.map Prod.snd) (y.2.2.1.map Prod.snd) 0 N (by simp [hl1, hl2]) (by simp [hl1]) (by simp [hl1]; omega) (fun p x hx => by
      obtain ⟨c, hc⟩ := g2 pr p x hx
      rw [Nat.zero_add]
      exact ⟨by have := (hb1 _ (List.mem_of_getElem? hc)).2; omega, (h1 p c x hc).2⟩) (fun p x hx => by
      obtain ⟨c, hc⟩ := g2 y.2.2.1 p x hx
      rw [Nat.zero_add]
      exact ⟨by have := (hb2 _ (List.mem_of_getElem? hc)).2; omega, (h2 p c x hc).2⟩)
  rw [show nI 0 = (0 : Int32) from rfl] at e1 f1
  have key := lexL_app_iff (a := pr.map Prod.fst) (c := y.2.2.1.map Prod.fst) (s := pr.map Prod.snd) (t := y.2.2.1.map Prod.snd) (by simp [hl1, hl2])
  unfold f12_isAhead keyL
  rw [key, e1, b3s]
  rcases e2 with ⟨z1, rfl⟩ | ⟨z1, rfl⟩ | ⟨z1, z2, rfl⟩
  · rw [sml]; exact ⟨1, rfl, Or.inr rfl, ⟨fun _ => Or.inl z1, fun _ => rfl⟩⟩
  · rw [smr, f1, b3s]
    rcases f2 with ⟨w1, rfl⟩ | ⟨w1, rfl⟩ | ⟨w1, w2, rfl⟩
    · rw [sml]; exact ⟨1, rfl, Or.inr rfl, ⟨fun _ => Or.inr ⟨z1, w1⟩, fun _ => rfl⟩⟩
    · rw [smr]; exact ⟨0, rfl, Or.inl rfl, ⟨fun w => absurd w (by decide), fun w => by
        rcases w with w | ⟨_, w⟩
        · rw [z1] at w; exact absurd w (lexL_irr _)
        · rw [w1] at w; exact absurd w (lexL_irr _)⟩⟩
    · rw [sml]; exact ⟨0, rfl, Or.inl rfl, ⟨fun w => absurd w (by decide), fun w => by
        rcases w with w | ⟨_, w⟩
        · rw [z1] at w; exact absurd w (lexL_irr _)
        · exact absurd w w1⟩⟩
  · rw [sml]; exact ⟨0, rfl, Or.inl rfl, ⟨fun w => absurd w (by decide), fun w => by
      rcases w with w | ⟨w, _⟩
      · exact absurd w z1
      · exact absurd w z2⟩⟩
theorem copy_m {Bg : Nat → Nat → Option Nat} {m : Nat} (hm : m ≤ 4) (hl : pr.length = m) (hP : PrM mb Bg pr I0') : ∀ r k n (I' : IT), k + r = m → r < n → I' mb 25 = nI m → (∀ a, a ≠ mb → a ≠ mb + 18 → a ≠ mb + 19 → a ≠ mb + 20 → I' a = I0' a) → (∀ p c j, p < k → pr[p]? = some (c, j) → I' (mb + 18) p = nI c ∧ I' (mb + 19) p = nI j) → (∀ p d, p < k → (dyW lgN Bg o00 pr)[p]? = some d → I' (mb + 20) p = nI d) →
    ∃ I1', f12_countsRow_L144 N mb n (nI k) I' J' = some ((), I1', J') ∧ (∀ a, a ≠ mb + 18 → a ≠ mb + 19 → a ≠ mb + 20 → I1' a = I' a) ∧ (∀ p c j, pr[p]? = some (c, j) → I1' (mb + 18) p = nI c ∧ I1' (mb + 19) p = nI j) ∧ ∀ p d, (dyW lgN Bg o00 pr)[p]? = some d → I1' (mb + 20) p = nI d := by
  have hdl := dyW_len (lg := lgN) (Bg := Bg) pr o00
  intro r
  induction r with
  | zero =>
    intro k n I' hk hn e25 hf f1 f2
    obtain ⟨n, rfl⟩ : ∃ q, n = q + 1 := ⟨n - 1, by omega⟩
    rw [f12_countsRow_L144, e25, if_pos (nI_le (by omega) (by omega))]
    exact ⟨I', rfl, fun _ _ _ _ => rfl, fun p c j hp => f1 p c j (by have := (List.getElem?_eq_some_iff.mp hp).1; omega) hp, fun p d hp => f2 p d (by have := (List.getElem?_eq_some_iff.mp hp).1; omega) hp⟩
  | succ r ih =>
    intro k n I' hk hn e25 hf f1 f2
    obtain ⟨n, rfl⟩ : ∃ q, n = q + 1 := ⟨n - 1, by omega⟩
    have hkp : k < pr.length := by omega
    obtain ⟨c, j, hcj⟩ : ∃ c j, pr[k]? = some (c, j) := ⟨(pr[k]).1, (pr[k]).2, by rw [List.getElem?_eq_getElem hkp]⟩
    obtain ⟨d, hd⟩ : ∃ d, (dyW lgN Bg o00 pr)[k]? = some d := ⟨(dyW lgN Bg o00 pr)[k]'(by omega), by rw [List.getElem?_eq_getElem]⟩
    obtain ⟨p1, p2⟩ := hP.1 k c j hcj
    have p3 := hP.2 k d hd
    have q1 : I' (mb + 15) k = nI c := by rw [hf _ (by omega) (by omega) (by omega) (by omega)]; exact p1
    have q2 : I' (mb + 16) k = nI j := by rw [hf _ (by omega) (by omega) (by omega) (by omega)]; exact p2
    have q3 : I' (mb + 17) k = nI d := by rw [hf _ (by omega) (by omega) (by omega) (by omega)]; exact p3
    rw [f12_countsRow_L144, e25, if_neg (nI_ge (by omega) (by omega)), yb_ck_t (inb_nI (show k < 4 by omega) (by decide)), nI_clamp (show k < 2 ^ 31 by omega), q1, lts, up2_ne _ _ _ (show mb + 16 ≠ mb + 18 by omega), q2, lts, up2_ne _ _ _ (show mb + 17 ≠ mb + 19 by omega), up2_ne _ _ _ (show mb + 17 ≠ mb + 18 by omega), q3, lts, lts, nI_1]
    obtain ⟨I1', e1, e2, e3, e4⟩ := ih (k + 1) n (up2 (up2 (up2 I' (mb + 18) k (nI c)) (mb + 19) k (nI j)) (mb + 20) k (nI d)) (by omega) (by omega) (by rw [up2_ne _ _ _ (by omega), up2_ne _ _ _ (by omega), up2_ne _ _ _ (by omega)]; exact e25) (fun a h1 h2 h3 h4 => by rw [up2_ne _ _ _ h4, up2_ne _ _ _ h3, up2_ne _ _ _ h2]; exact hf a h1 h2 h3 h4) (fun p c' j' hp hx => by
        by_cases ep : p = k
        · subst ep
          rw [hcj] at hx; cases hx
          refine ⟨?_, ?_⟩
          · rw [up2_ne _ _ _ (by omega), up2_ne _ _ _ (by omega), up2_same]
          · rw [up2_ne _ _ _ (by omega), up2_same]
        · obtain ⟨z1, z2⟩ := f1 p c' j' (by omega) hx
          refine ⟨?_, ?_⟩
          · rw [up2_ne _ _ _ (by omega), up2_ne _ _ _ (by omega), up2_at (Or.inr ep)]; exact z1
          · rw [up2_ne _ _ _ (by omega), up2_at (Or.inr ep), up2_ne _ _ _ (by omega)]; exact z2) (fun p d' hp hx => by
        by_cases ep : p = k
        · subst ep
          rw [hd] at hx; cases hx
          exact up2_same _ _ _ _
        · rw [up2_at (Or.inr ep), up2_ne _ _ _ (by omega), up2_ne _ _ _ (by omega)]; exact f2 p d' (by omega) hx)
    exact ⟨I1', e1, fun a h1 h2 h3 => by rw [e2 a h1 h2 h3, up2_ne _ _ _ h3, up2_ne _ _ _ h2, up2_ne _ _ _ h1], e3, e4⟩
theorem cnt_m {V : Cd → Prop} {best : Option Cd} (hN : 1000 ≤ N) (hB0 : BaM b mb P C D u fo Rl I I0') (hcm : ∀ c, c ∈ pr.map Prod.fst → c < u.length) (hok : okW lgN (BV (I0' (mb + 10)) u C D) P o00 pr) (hlen : pr.length = u.length) (hF : FrQ mb I0' I') (hP : PrM mb (BV (I0' (mb + 10)) u C D) pr I') (hBs : BsM mb u.length I' best) (hV : IsBest V best) :
    ∃ I1' best1, f12_countsRow N mb I' J' = some ((), I1', J') ∧ FrQ mb I0' I1' ∧ (∀ a, a ≠ mb → a ≠ mb + 18 → a ≠ mb + 19 → a ≠ mb + 20 → I1' a = I' a) ∧ BsM mb u.length I1' best1 ∧ IsBest (fun x => V x ∨ x = rcV (I0' (mb + 10)) fo Rl u C D pr) best1 := by
  have ev : I' (mb + 10) = I0' (mb + 10) := hF.1 _ (by omega)
  have hB := hB0.fr hF
  have h7 := co_P7 hB0.1
  have hu4 := hB0.2.1.2.1
  have hjs : ∀ x, x ∈ pr → x.2 < P := okW_lt pr o00 hok
  have hb1 : ∀ x, x ∈ pr → x.1 < 4 ∧ x.2 < 7 := fun x hx => ⟨by have := hcm x.1 (List.mem_map.mpr ⟨x, hx, rfl⟩); omega, by have := hjs x hx; omega⟩
  obtain ⟨rb, eb⟩ := row_bndM hB0 pr o00 (fun _ => by show (0 : Nat) < 65; omega) hcm hok
  have rb4 : rsW lgN (RtV (I0' (mb + 10)) fo Rl u C D) o00 pr ≤ 400 := by rw [hlen] at rb; omega
  have e6 := cr_L6 (N := N) (J' := J') (pr := pr) hB (by rw [ev]; exact hP) hcm (by rw [ev]; exact hok) hlen pr [] N rfl (by omega)
  rw [ev] at e6
  have e6' : f12_countsRow_L6 N mb N 0 (-1) 0 I' J' = some ((nI (rsW lgN (RtV (I0' (mb + 10)) fo Rl u C D) o00 pr), nI (enW lgN (BV (I0' (mb + 10)) u C D) (lnV (I0' (mb + 10)) u) o00 pr) - 1), I', J') := by
    have z : nI (enW lgN (BV (I0' (mb + 10)) u C D) (lnV (I0' (mb + 10)) u) o00 []) - 1 = (-1 : Int32) := (by decide : nI 0 - 1 = (-1 : Int32))
    rw [z] at e6
    exact e6
  have iv : ∀ z, (V z ∨ z = rcV (I0' (mb + 10)) fo Rl u C D pr) ↔ (V z ∨ z = rcV (I0' (mb + 10)) fo Rl u C D pr) := fun _ => Iff.rfl
  have e25 : I' mb 25 = nI u.length := hB.2.1.1
  have new : ∃ I1', (yb_let (up2 I' mb 35 (nI (rsW lgN (RtV (I0' (mb + 10)) fo Rl u C D) o00 pr))) fun I_24 => yb_let (up2 I_24 mb 36 (nI (enW lgN (BV (I0' (mb + 10)) u C D) (lnV (I0' (mb + 10)) u) o00 pr) - 1)) fun I_25 => yb_b3 (f12_countsRow_L144 N mb N (0 : Int32) I_25 J') fun q_32 I_33 J_34 => some ((), I_33, J_34)) = some ((), I1', J') ∧ FrQ mb I0' I1' ∧ (∀ a, a ≠ mb → a ≠ mb + 18 → a ≠ mb + 19 → a ≠ mb + 20 → I1' a = I' a) ∧ BsM mb u.length I1' (some (rcV (I0' (mb + 10)) fo Rl u C D pr)) := by
    have hF2 : FrQ mb I0' (up2 (up2 I' mb 35 (nI (rsW lgN (RtV (I0' (mb + 10)) fo Rl u C D) o00 pr))) mb 36 (nI (enW lgN (BV (I0' (mb + 10)) u C D) (lnV (I0' (mb + 10)) u) o00 pr) - 1)) := (hF.up _ (by omega)).up _ (by omega)
    obtain ⟨I1', g1, g2, g3, g4⟩ := copy_m (N := N) (mb := mb) (J' := J') hu4 hlen hP u.length 0 N (up2 (up2 I' mb 35 (nI (rsW lgN (RtV (I0' (mb + 10)) fo Rl u C D) o00 pr))) mb 36 (nI (enW lgN (BV (I0' (mb + 10)) u C D) (lnV (I0' (mb + 10)) u) o00 pr) - 1)) (by omega) (by omega) (by rw [up2_at (Or.inr (by decide)), up2_at (Or.inr (by decide))]; exact e25) (fun a h1 h2 h3 h4 => by rw [up2_ne _ _ _ h1, up2_ne _ _ _ h1]) (fun p c j hp => by omega) (fun p d hp => by omega)
    rw [show nI 0 = (0 : Int32) from rfl] at g1
    rw [lts, lts, g1, b3s]
    refine ⟨I1', rfl, ⟨fun a ha => (g2 a (by omega) (by omega) (by omega)).trans (hF2.1 a ha), fun k h1 h2 => by rw [g2 _ (by omega) (by omega) (by omega)]; exact hF2.2 k h1 h2⟩, fun a h1 h2 h3 h4 => by rw [g2 a h2 h3 h4, up2_ne _ _ _ h1, up2_ne _ _ _ h1], ⟨?_, ?_, ⟨rb4, eb, hlen, hb1⟩, g3, g4⟩⟩
    · rw [g2 _ (by omega) (by omega) (by omega), up2_at (Or.inr (by decide)), up2_same]; rfl
    · rw [g2 _ (by omega) (by omega) (by omega), up2_same]; rfl
  obtain ⟨I1', n1, n2, n3, n4⟩ := new
  have eR : (rcV (I0' (mb + 10)) fo Rl u C D pr).1 = rsW lgN (RtV (I0' (mb + 10)) fo Rl u C D) o00 pr := rfl
  have eE : (rcV (I0' (mb + 10)) fo Rl u C D pr).2.1 = enW lgN (BV (I0' (mb + 10)) u C D) (lnV (I0' (mb + 10)) u) o00 pr := rfl
  unfold f12_countsRow
  rw [e6', b3s]
  dsimp only
  cases best with
  | none =>
    obtain ⟨b1, b2⟩ := hBs
    have ne1 : ¬ nI (rsW lgN (RtV (I0' (mb + 10)) fo Rl u C D) o00 pr) = -1 := fun q => nI_pos (n := rsW lgN (RtV (I0' (mb + 10)) fo Rl u C D) o00 pr) (by omega) (by rw [q]; decide)
    rw [b1, if_neg (show ¬ nI (rsW lgN (RtV (I0' (mb + 10)) fo Rl u C D) o00 pr) < -1 from fun q => nI_pos (n := rsW lgN (RtV (I0' (mb + 10)) fo Rl u C D) o00 pr) (by omega) (Int32.lt_trans q (by decide))), if_neg ne1, if_neg ne1, n1]
    exact ⟨I1', _, rfl, n2, n3, n4, hV.new iv⟩
  | some y =>
    obtain ⟨b1, b2, ⟨b3, b4, b5, b6⟩, b7, b8⟩ := id hBs
    rw [b1, b2]
    by_cases c1 : rsW lgN (RtV (I0' (mb + 10)) fo Rl u C D) o00 pr < y.1
    · rw [if_pos (nI_lt c1 (by omega))]
      exact ⟨I', some y, rfl, hF, fun _ _ _ _ _ => rfl, hBs, hV.stay (fun q => by
        rcases q with q | ⟨q, _⟩
        · rw [eR] at q; omega
        · rw [eR] at q; omega) iv⟩
    · rw [if_neg (nI_nlt (by omega) (by omega))]
      by_cases c2 : rsW lgN (RtV (I0' (mb + 10)) fo Rl u C D) o00 pr = y.1
      · have c2' : nI (rsW lgN (RtV (I0' (mb + 10)) fo Rl u C D) o00 pr) = nI y.1 := by rw [c2]
        rw [if_pos c2', if_pos c2']
        by_cases c3 : enW lgN (BV (I0' (mb + 10)) u C D) (lnV (I0' (mb + 10)) u) o00 pr ≤ y.2.1
        · rw [if_pos ((m1_le (by omega) (by omega)).mpr c3)]
          by_cases c4 : enW lgN (BV (I0' (mb + 10)) u C D) (lnV (I0' (mb + 10)) u) o00 pr = y.2.1
          · rw [if_pos ((m1_eq (by omega) (by omega)).mpr c4)]
            obtain ⟨x, a1, a2, a3⟩ := ahead_m (N := N) (mb := mb) (J' := J') (pr := pr) (y := y) hN hu4 e25 hP.1 hb1 hlen b7 b6 b5
            rw [a1, b3s]
            have a3' : x = 1 ↔ lexL (keyL (rcV (I0' (mb + 10)) fo Rl u C D pr)) (keyL y) := a3
            rcases a2 with rfl | rfl
            · rw [if_pos rfl]
              exact ⟨I', some y, rfl, hF, fun _ _ _ _ _ => rfl, hBs, hV.stay (fun q => by
                rcases q with q | ⟨_, q | ⟨_, q⟩⟩
                · rw [eR] at q; omega
                · rw [eE] at q; omega
                · exact absurd (a3'.mpr q) (by decide)) iv⟩
            · rw [if_neg i10, n1]
              exact ⟨I1', _, rfl, n2, n3, n4, hV.up (Or.inr ⟨c2, Or.inr ⟨c4, a3'.mp rfl⟩⟩) iv⟩
          · rw [if_neg (fun z => c4 ((m1_eq (by omega) (by omega)).mp z)), n1]
            exact ⟨I1', _, rfl, n2, n3, n4, hV.up (Or.inr ⟨c2, Or.inl (by rw [eE]; omega)⟩) iv⟩
        · rw [if_neg (fun z => c3 ((m1_le (by omega) (by omega)).mp z))]
          exact ⟨I', some y, rfl, hF, fun _ _ _ _ _ => rfl, hBs, hV.stay (fun q => by
            rcases q with q | ⟨_, q | ⟨q, _⟩⟩
            · rw [eR] at q; omega
            · rw [eE] at q; omega
            · rw [eE] at q; omega) iv⟩
      · have c2' : ¬ nI (rsW lgN (RtV (I0' (mb + 10)) fo Rl u C D) o00 pr) = nI y.1 := fun z => c2 ((nI_eq (by omega) (by omega)).mp z)
        rw [if_neg c2', if_neg c2', n1]
        exact ⟨I1', _, rfl, n2, n3, n4, hV.up (Or.inl (by rw [eR]; omega)) iv⟩
end FINDS
