section TRYR
variable {N b P m D : Nat} {Bg : Nat → Nat → Option Nat} {Rt : Nat → Nat → Nat} {ln : Nat → Nat} {u : List Nat} {I I0 I1 : IT} {J : JT} {S : ST} {Rf : RT}
def ExR (Bg : Nat → Nat → Option Nat) (Rt : Nat → Nat → Nat) (ln : Nat → Nat) (P m : Nat) (cp : List Nat) (x : Cd) : Prop := ∃ rest, (cp ++ rest).length = m ∧ (cp ++ rest).Nodup ∧ (∀ c, c ∈ cp ++ rest → c < m) ∧ ExT Bg Rt ln P [] none (cp ++ rest) x
theorem ExR_cons {cp : List Nat} {x : Cd} (hl : cp.length < m) : ExR Bg Rt ln P m cp x ↔ ∃ i, i < m ∧ i ∉ cp ∧ ExR Bg Rt ln P m (cp ++ [i]) x := by
  constructor
  · rintro ⟨rest, h1, h2, h3, h4⟩
    cases rest with
    | nil => simp at h1; omega
    | cons i rest =>
      have e : cp ++ i :: rest = (cp ++ [i]) ++ rest := by simp
      refine ⟨i, h3 i (by simp), fun hi => ?_, rest, by rw [← e]; exact h1, by rw [← e]; exact h2, by rw [← e]; exact h3, by rw [← e]; exact h4⟩
      rw [List.nodup_append] at h2
      exact h2.2.2 i hi i (by simp) rfl
  · rintro ⟨i, _, _, rest, h1, h2, h3, h4⟩
    have e : (cp ++ [i]) ++ rest = cp ++ i :: rest := by simp
    rw [e] at h1 h2 h3 h4
    exact ⟨i :: rest, h1, h2, h3, h4⟩
theorem exR_lt {cp : List Nat} {i i' : Nat} {x y : Cd} (hi : i < i') (hy : ExR Bg Rt ln P m (cp ++ [i]) y) (hx : ExR Bg Rt ln P m (cp ++ [i']) x) : lexL (keyL y) (keyL x) := by
  obtain ⟨r, r1, _, _, t, t1, _, _, rfl⟩ := hy
  obtain ⟨s, s1, _, _, v, v1, _, _, rfl⟩ := hx
  unfold keyL rcW
  show lexL (([] ++ t).map Prod.fst ++ ([] ++ t).map Prod.snd) (([] ++ v).map Prod.fst ++ ([] ++ v).map Prod.snd)
  rw [List.nil_append, List.nil_append, t1, v1]
  refine lexL_suf (by rw [r1, s1]) ?_
  rw [List.append_assoc, List.append_assoc]
  exact lexL_pre _ (Or.inl hi)
def UsR (us : Nat) (cp : List Nat) : Prop := us < 16 ∧ ∀ i, i < 4 → us / 2 ^ i % 2 = if i ∈ cp then 1 else 0
theorem or16 : ∀ a, a < 16 → ∀ k, k < 4 → a ||| 2 ^ k < 16 := by decide
theorem UsR.add {us i : Nat} {cp : List Nat} (h : UsR us cp) (hi : i < 4) : UsR (us ||| 2 ^ i) (cp ++ [i]) := by
  refine ⟨or16 us h.1 i hi, fun k hk => ?_⟩
  have := h.1
  rw [orb_bit us (by omega) i (by omega) k (by omega)]
  by_cases e : k = i
  · subst e
    rw [if_pos rfl, if_pos (by simp)]
  · rw [if_neg e, h.2 k hk]
    by_cases c : k ∈ cp
    · rw [if_pos c, if_pos (by simp [c])]
    · rw [if_neg c, if_neg (by simp [c, e])]
theorem tr_c (hN : 1000 ≤ N) (hS : SeC b P m D Bg Rt ln u I0) : ∀ h (cp : List Nat) us f V best (I : IT), cp.length + h = m → h < f → cp.Nodup → (∀ c, c ∈ cp → c < m) → UsR us cp → FrS b I0 I → (∀ p c, cp[p]? = some c → I (b + 40) p = nI c) → (∀ j, j < 7 → I (b + 43) j = 0) → BsC b D u I best → IsBest V best → (∀ y, V y → ∀ x, ExR Bg Rt ln P m cp x → lexL (keyL y) (keyL x)) →
    ∃ I1 best1, f4_rec_tryRows N b S Rf f 0 (nI cp.length) (nI us) I J = some ((), I1, J) ∧ FrS b I0 I1 ∧ (∀ p c, cp[p]? = some c → I1 (b + 40) p = nI c) ∧ (∀ j, j < 7 → I1 (b + 43) j = 0) ∧ BsC b D u I1 best1 ∧ IsBest (fun x => V x ∨ ExR Bg Rt ln P m cp x) best1 := by
  obtain ⟨⟨_, m1, m4⟩, ⟨_, hP7⟩, hD, _⟩ := id hS
  intro h
  induction h with
  | zero =>
    intro cp us f V best I hl hf hnd hcm hus hF hrow hord hB hV hlt
    obtain ⟨f, rfl⟩ : ∃ q, f = q + 1 := ⟨f - 1, by omega⟩
    have hcl : cp.length = m := by omega
    have hS' := hS.fr hF
    have hex : ∀ x, ExR Bg Rt ln P m cp x ↔ ExT Bg Rt ln P [] none cp x := by
      intro x
      constructor
      · rintro ⟨rest, h1, _, _, h4⟩
        have : rest = [] := by
          rw [List.length_append] at h1
          exact List.length_eq_zero_iff.mp (by omega)
        subst this
        rw [List.append_nil] at h4; exact h4
      · intro q
        exact ⟨[], by simpa using hcl, by simpa using hnd, by simpa using hcm, by simpa using q⟩
    obtain ⟨I1, best1, e1, e2, e3, e4, e5⟩ := tj_c (N := N) (S := S) (Rf := Rf) (J := J) hN hS hcl hcm m [] cp 6 V best (-1) I hcl (by omega) rfl trivial (Or.inl ⟨rfl, rfl⟩) hF ⟨hrow, fun j hj => (hord j hj).trans rfl, fun p c j q => by simp at q, fun p d q => by simp [dyW] at q⟩ hB hV (fun y hy x hx => hlt y hy x ((hex x).mpr hx))
    have e1' : f4_tryJudges N b S Rf 0 0 (-1) I J = some ((), I1, J) := e1
    rw [f4_rec_tryRows]
    unfold g4_tryRows
    rw [hS'.1.1, if_pos (nI_le (by omega) (by omega)), e1', b3s]
    refine ⟨I1, best1, rfl, e2, e3.1, fun j hj => (e3.2.1 j hj).trans rfl, e4, e5.cg (fun z => by rw [hex]; rfl)⟩
  | succ h ih =>
    intro cp us f V best I hl hf hnd hcm hus hF hrow hord hB hV hlt
    obtain ⟨f, rfl⟩ : ∃ q, f = q + 1 := ⟨f - 1, by omega⟩
    have hS' := hS.fr hF
    have loop : ∀ r i n V best (I : IT), i + r = m → r < n → FrS b I0 I → (∀ p c, cp[p]? = some c → I (b + 40) p = nI c) → (∀ j, j < 7 → I (b + 43) j = 0) → BsC b D u I best → IsBest V best → (∀ y, V y → ∀ i' x, i ≤ i' → i' < m → i' ∉ cp → ExR Bg Rt ln P m (cp ++ [i']) x → lexL (keyL y) (keyL x)) →
        ∃ I1 best1, g4_tryRows_L23 N b S Rf (f4_rec_tryRows N b S Rf f 0) (nI cp.length) (nI us) n (nI i) I J = some ((), I1, J) ∧ FrS b I0 I1 ∧ (∀ p c, cp[p]? = some c → I1 (b + 40) p = nI c) ∧ (∀ j, j < 7 → I1 (b + 43) j = 0) ∧ BsC b D u I1 best1 ∧ IsBest (fun x => V x ∨ ∃ i', i ≤ i' ∧ i' < m ∧ i' ∉ cp ∧ ExR Bg Rt ln P m (cp ++ [i']) x) best1 := by
      intro r
      induction r with
      | zero =>
        intro i n V best I hi hn hF hrow hord hB hV hlt
        obtain ⟨n, rfl⟩ : ∃ q, n = q + 1 := ⟨n - 1, by omega⟩
        rw [g4_tryRows_L23, (hS.fr hF).1.1, if_pos (nI_le (by omega) (by omega))]
        exact ⟨I, best, rfl, hF, hrow, hord, hB, hV.cg (fun z => ⟨fun q => q.elim id (fun ⟨i', h1, h2, _⟩ => by omega), Or.inl⟩)⟩
      | succ r ihr =>
        intro i n V best I hi hn hF hrow hord hB hV hlt
        obtain ⟨n, rfl⟩ : ∃ q, n = q + 1 := ⟨n - 1, by omega⟩
        have hus1 := hus.1
        rw [g4_tryRows_L23, (hS.fr hF).1.1, if_neg (nI_ge (by omega) (by omega)), bit_tab us (by omega) i (by omega), hus.2 i (by omega)]
        by_cases ci : i ∈ cp
        · rw [if_pos ci, if_neg (show ¬ nI 1 = 0 by decide), lts, nI_1]
          obtain ⟨I1, best1, e1, e2, e3, e4, e5, e6⟩ := ihr (i + 1) n V best I (by omega) (by omega) hF hrow hord hB hV (fun y hy i' x h1 => hlt y hy i' x (by omega))
          refine ⟨I1, best1, e1, e2, e3, e4, e5, e6.cg (fun z => ⟨fun q => ?_, fun q => ?_⟩)⟩
          · rcases q with q | ⟨i', h1, h2, h3, h4⟩
            · exact Or.inl q
            · by_cases e : i' = i
              · subst e; exact absurd ci h3
              · exact Or.inr ⟨i', by omega, h2, h3, h4⟩
          · rcases q with q | ⟨i', h1, h2, h3, h4⟩
            · exact Or.inl q
            · exact Or.inr ⟨i', by omega, h2, h3, h4⟩
        · have el : (cp ++ [i]).length = cp.length + 1 := by simp
          rw [if_neg ci, if_pos (show nI 0 = 0 from rfl), yb_ck_t (inb_nI (show cp.length < 4 by omega) (by decide)), nI_clamp (show cp.length < 2 ^ 31 by omega), lts, nI_1, orb_tab us (by omega) i (by omega)]
          obtain ⟨I4, best4, g1, g2, g3, g4, g5, g6⟩ := ih (cp ++ [i]) (us ||| 2 ^ i) f V best (up2 I (b + 40) cp.length (nI i)) (by rw [el]; omega) (by omega) (by
              rw [List.nodup_append]
              exact ⟨hnd, by simp, fun x hx y hy => by simp at hy; subst hy; exact fun e => ci (e ▸ hx)⟩) (fun c hc => by
              rcases List.mem_append.mp hc with q | q
              · exact hcm c q
              · simp at q; omega) (hus.add (by omega)) (hF.up _ (by omega)) (fun p c hp => by
              by_cases ep : p = cp.length
              · subst ep
                simp at hp
                rw [up2_same, hp]
              · rw [up2_at (Or.inr ep)]
                have : p < cp.length := by
                  have := (List.getElem?_eq_some_iff.mp hp).1
                  simp at this; omega
                rw [List.getElem?_append_left this] at hp
                exact hrow p c hp) (fun j hj => by rw [up2_ne _ _ _ (by omega)]; exact hord j hj) (hB.cg (up2_ne _ _ _ (by omega)) (up2_ne _ _ _ (by omega)) (up2_ne _ _ _ (by omega)) (up2_ne _ _ _ (by omega))) hV (fun y hy x hx => hlt y hy i x (Nat.le_refl _) (by omega) ci hx)
          rw [el] at g1
          rw [g1, b3s, lts, nI_1]
          obtain ⟨I5, best5, i1, i2, i3, i4, i5, i6⟩ := ihr (i + 1) n _ best4 I4 (by omega) (by omega) g2 (fun p c hp => g3 p c (by rw [List.getElem?_append_left (List.getElem?_eq_some_iff.mp hp).1]; exact hp)) g4 g5 g6 (fun y hy i' x h1 h2 h3 hx => by
            rcases hy with hy | hy
            · exact hlt y hy i' x (by omega) h2 h3 hx
            · exact exR_lt (show i < i' by omega) hy hx)
          refine ⟨I5, best5, i1, i2, i3, i4, i5, i6.cg (fun z => ⟨fun q => ?_, fun q => ?_⟩)⟩
          · rcases q with q | ⟨i', h1, h2, h3, h4⟩
            · exact Or.inl (Or.inl q)
            · by_cases e : i' = i
              · subst e; exact Or.inl (Or.inr h4)
              · exact Or.inr ⟨i', by omega, h2, h3, h4⟩
          · rcases q with (q | q) | ⟨i', h1, h2, h3, h4⟩
            · exact Or.inl q
            · exact Or.inr ⟨i, Nat.le_refl _, by omega, ci, q⟩
            · exact Or.inr ⟨i', by omega, h2, h3, h4⟩
    obtain ⟨I1, best1, e1, e2, e3, e4, e5, e6⟩ := loop m 0 N V best I (by omega) (by omega) hF hrow hord hB hV (fun y hy i' x _ h2 h3 hx => hlt y hy x ((ExR_cons (by omega)).mpr ⟨i', h2, h3, hx⟩))
    rw [show nI 0 = (0 : Int32) from rfl] at e1
    rw [f4_rec_tryRows]
    unfold g4_tryRows
    rw [hS'.1.1, if_neg (nI_ge (by omega) (by omega)), if_pos (show nI cp.length < (4 : Int32) from nI_lt (b := 4) (by omega) (by omega)), e1, b3s]
    refine ⟨I1, best1, rfl, e2, e3, e4, e5, e6.cg (fun z => ?_)⟩
    rw [ExR_cons (by omega)]
    exact ⟨fun q => q.elim Or.inl (fun ⟨i, h1, h2, h3⟩ => Or.inr ⟨i, Nat.zero_le _, h1, h2, h3⟩), fun q => q.elim Or.inl (fun ⟨i, _, h1, h2, h3⟩ => Or.inr ⟨i, h1, h2, h3⟩)⟩
theorem search_c (hN : 1000 ≤ N) (hS : SeC b P m D Bg Rt ln u I) : ∃ I1 best, f4_search N b S Rf I J = some ((), I1, J) ∧ FrS b I I1 ∧ BsC b D u I1 best ∧ IsBest (PrV lgN Bg Rt ln P m) best := by
  obtain ⟨⟨hm, m1, m4⟩, ⟨_, hP7⟩, hD, _⟩ := id hS
  unfold f4_search
  obtain ⟨A, a1, a2, a3⟩ := q_fill (N := N) (t := b + 43) (n0 := 7) (x := 0) (I := up2 (up2 I (b + 33) 15 (-1)) (b + 33) 16 (-1)) (J := J) (by omega) (by omega)
  have hF : FrS b I A := by
    have f1 : FrS b I (up2 (up2 I (b + 33) 15 (-1)) (b + 33) 16 (-1)) := ((FrS.rf b I).up _ (by omega)).up _ (by omega)
    exact ⟨fun a ha => (a2 a (by omega)).trans (f1.1 a ha), fun k h1 h2 => by rw [a2 _ (by omega)]; exact f1.2 k h1 h2⟩
  have e14 : A (b + 33) 14 = nI m := (hF.2 14 (by decide) (by decide)).trans hm
  obtain ⟨I1, best, e1, e2, _, _, e5, e6⟩ := tr_c (N := N) (S := S) (Rf := Rf) (J := J) hN hS m [] 0 6 (fun _ => False) none A (by simp) (by omega) List.nodup_nil (fun c hc => by cases hc) ⟨by omega, fun i hi => by simp⟩ hF (fun p c hp => by simp at hp) a3 ⟨by rw [a2 _ (by omega), up2_at (Or.inr (by decide)), up2_same], by rw [a2 _ (by omega), up2_same]⟩ (Or.inl ⟨rfl, fun _ q => q⟩) (fun y hy => hy.elim)
  have e1' : f4_tryRows N b S Rf 0 0 A J = some ((), I1, J) := e1
  rw [lts, lts, a1, b3s, e14, if_neg (nI_ne0 (by omega) (by omega)), e1', b3s]
  refine ⟨I1, best, rfl, e2, e5, e6.cg (fun z => ⟨fun q => Or.inr ?_, fun q => ?_⟩)⟩
  · obtain ⟨r, h1, h2, h3, h4, h5, h6⟩ := q
    exact ⟨r.map Prod.fst, by simpa using h1, by simpa using h2, by simpa using h3, r, rfl, h4, h5, h6⟩
  · rcases q with q | ⟨rest, h1, h2, h3, t, t1, t2, t3, t4⟩
    · exact q.elim
    · rw [List.nil_append] at h1 h2 h3 t1
      subst t1
      exact ⟨t, by simpa using h1, h2, h3, t2, t3, t4⟩
end TRYR
