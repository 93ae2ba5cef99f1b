/-! RULE: a test, its steps -/
def ia (a : Bool) : List Nat := if a then [12] else []
def io (a : Bool) : List Nat := if a then [13] else []
def xb (a : Bool) : Int32 := if a then 1 else 0
def opA (a : Bool) : Option Nat := if a then some 12 else none
def opB (a : Bool) : Option Nat := if a then some 13 else none
def tk0 (l : List Nat) : List Tk := l.map (fun s => ((s, 0) : Tk))
section TEST
variable {N b mb n p p' K V e m nn : Nat} {w : Nat → Nat} {tc tr : List Int32} {S : ST} {Rf : RT} {I I1 I2 I' I1' I2' : IT} {J J' : JT} {r : Int32} {st : List Nat}
theorem L7_eq {rF : Int32 → IT → JT → Option (Int32 × IT × JT)} (x1 : Int32) (an orr : Bool) (m : Nat) (i : Int32) (I : IT) (J : JT) : g6_readsTest_L7 N b S Rf rF x1 (m + 1) (xb an) (xb orr) i I J = if (400 : Int32) ≤ i then some (Sum.inr (), I, J) else
    yb_b3 (rF x1 I J) fun r I J => if r = 0 then some (Sum.inl (0 : Int32), I, J) else
    yb_b3 (emC b S Rf (opA an) I J) fun _ I J => yb_b3 (f3_word N b S Rf I J) fun r8 I J =>
    if r8 = (15 : Int32) then yb_b3 (f3_passWord N b S Rf I J) fun _ I J => g6_readsTest_L7 N b S Rf rF x1 m (xb true) (xb orr) (i + 1) I J else
    yb_b3 (emC b S Rf (opB orr) I J) fun _ I J =>
    if r8 = (14 : Int32) then yb_b3 (f3_passWord N b S Rf I J) fun _ I J => g6_readsTest_L7 N b S Rf rF x1 m (xb false) (xb true) (i + 1) I J else some (Sum.inl (1 : Int32), I, J) := by
  rw [g6_readsTest_L7]
  cases an <;> cases orr <;> rfl
/-- nothing to settle: no not on top -/
theorem tpC_nop (hN : 1000 ≤ N) (hK : K < 6) (hst : StM mb st I') (hpm : PMt mb K tr V I') (hl : tr.length ≤ 400) (h3 : ∀ x r, st = x :: r → strN x < 3) : ∃ I1', tpC N mb m nn I' J' = tpL N mb m nn I1' J' ∧ StM mb st I1' ∧ PMt mb K tr V I1' ∧ FT6 mb K I' I1' := by
  obtain ⟨I1', k1, k2, k3, k4⟩ := m_settles (N := N) (mb := mb) (J' := J') (Lv := 3) (by omega) (by omega) hK st h3 [] N tr I' (by simp; omega) (fun x hx => (by cases hx)) hst hpm (by simpa using hl)
  refine ⟨I1', ?_, k2, by simpa using k3, k4⟩
  have k1' : f12_settles_L0 N mb 3 N I' J' = some ((), I1', J') := k1
  unfold tpC f12_settles
  rw [k1', b3s, b3s]
/-- and, or is read: what is as strong is put, then it waits -/
theorem tpL_word {s : Nat} {pops rest : List Nat} (hN : 1000 ≤ N) (hK : K < 6) (h : Rd b mb n w p p' I I') (hr : WIx w n p r) (hs : (s = 12 ∧ r = nI 15) ∨ (s = 13 ∧ r = nI 14)) (hst : StM mb (pops ++ rest) I') (hps : ∀ x, x ∈ pops → strN s ≤ strN x) (hrs : ∀ x t, rest = x :: t → strN x < strN s) (hpm : PMt mb K tr V I') (hl : tr.length + pops.length ≤ 400) (hrl : rest.length < 400) : p < ltr w n p ∧ ltr w n p ≤ n ∧ ∃ I1', tpL N mb (m + 1) (nn + 1) I' J' = tpA N mb N nn I1' J' ∧ StM mb (s :: rest) I1' ∧ PMt mb K (tr ++ (tk0 pops).map tkI) V I1' ∧ I1' mb 8 = nI (ltr w n p) ∧ (∀ a, a ≠ mb → a ≠ mb + 2 → a ≠ mb + 3 → a ≠ mb + 7 → I1' a = I' a) ∧ (∀ k, k ≠ 8 → k ≠ 13 → k ≠ 16 → I1' mb k = I' mb k) ∧ (∀ i, i < 400 * K → I1' (mb + 2) i = I' (mb + 2) i) ∧ ∀ i, i ≠ K → I1' (mb + 3) i = I' (mb + 3) i := by
  have hsn := h.seen
  have hpn := h.le
  have hlt : p < ltr w n p := by
    rcases WIx_rng hr with q | ⟨i, _, _, q⟩
    · rcases hs with ⟨_, z⟩ | ⟨_, z⟩ <;> (rw [q] at z; exact absurd z (by decide))
    · exact q
  have hle : ltr w n p ≤ n := run_le hpn
  have hc93 : ¬ chr w n p = 93 := by
    intro z
    have z2 := (chr_n (k := 93) rfl (by omega) h.w256 z).2
    have : isLe w p = true := run_in hpn (Nat.le_refl _) hlt
    unfold isLe at this
    rw [decide_eq_true_eq, z2] at this
    omega
  have cl : f12_closes_L5 N mb (m + 1) I' J' = some ((), up2 I' mb 8 (nI p), J') := by
    rw [f12_closes_L5, q_see hN h, b3s, if_neg hc93]
  have tw : f12_tsT N mb (nn + 1) (up2 I' mb 8 (nI p)) J' = pushW N mb s (nn + 1) (up2 I' mb 8 (nI (ltr w n p))) J' := by
    have t := ts_word (J' := J') hN hsn hr (nn + 1)
    rw [up2_up2] at t
    rcases hs with ⟨rfl, z⟩ | ⟨rfl, z⟩
    · exact t.1 z
    · exact t.2.1 z
  have s23 : s = 12 ∨ s = 13 := by rcases hs with ⟨z, _⟩ | ⟨z, _⟩ <;> omega
  have hsr : 1 ≤ strN s ∧ strN s ≤ 3 := by rcases s23 with rfl | rfl <;> decide
  have hst2 : StM mb (pops ++ rest) (up2 I' mb 8 (nI (ltr w n p))) := hst.fs ⟨up2_at (Or.inr (by decide)), up2_at (Or.inr (by decide)), up2_ne _ _ _ (by omega)⟩
  have hpm2 : PMt mb K tr V (up2 I' mb 8 (nI (ltr w n p))) := hpm.cg (up2_at (Or.inr (by decide))) (up2_at (Or.inr (by decide))) (up2_ne _ _ _ (by omega)) (up2_ne _ _ _ (by omega))
  have hs5 := hst.2.2.2.2
  obtain ⟨I2, k1, k2, k3, k4⟩ := m_settles (N := N) (mb := mb) (J' := J') (Lv := strN s) hsr.1 hsr.2 hK rest hrs pops N tr (up2 I' mb 8 (nI (ltr w n p))) (by simp at hs5; omega) hps hst2 hpm2 hl
  have k1' : f12_settles N mb (nI (strN s)) (up2 I' mb 8 (nI (ltr w n p))) J' = some ((), I2, J') := by unfold f12_settles; rw [k1, b3s]
  have hp := m_push k2 s23 hrl
  refine ⟨hlt, hle, up2 (up2 I2 (mb + 7) rest.length (nI s)) mb 16 (nI (rest.length + 1)), ?_, hp, ?_, ?_, fun a h1 h2 h3 h7 => ?_, fun k h1 h2 h3 => ?_, fun i hi => ?_, fun i hi => ?_⟩
  · rw [← tpA_eq]
    unfold tpL
    rw [cl, b3s, tw]
    unfold pushW
    rw [k1', b3s, k2.1, yb_ck_t (inb_nI hrl (by decide)), nI_clamp (show rest.length < 2 ^ 31 by omega), lts, up2_ne _ _ _ (show mb ≠ mb + 7 by omega), k2.1, nI_1, lts]
  · have em : (tk0 pops).map tkI = pops.map (fun s => tkI (s, 0)) := by unfold tk0; rw [List.map_map]; rfl
    rw [em]
    exact k3.cg (by rw [up2_at (Or.inr (by decide)), up2_ne _ _ _ (by omega)]) (by rw [up2_at (Or.inr (by decide)), up2_ne _ _ _ (by omega)]) (by rw [up2_ne _ _ _ (by omega), up2_ne _ _ _ (by omega)]) (by rw [up2_ne _ _ _ (by omega), up2_ne _ _ _ (by omega)])
  · rw [up2_at (Or.inr (by decide)), up2_ne _ _ _ (by omega), k4.2.1 8 (by decide) (by decide), up2_same]
  · rw [up2_ne _ _ _ h1, up2_ne _ _ _ h7, k4.1 a h1 h2 h3, up2_ne _ _ _ h1]
  · rw [up2_at (Or.inr h3), up2_ne _ _ _ (by omega), k4.2.1 k h2 h3, up2_at (Or.inr h1)]
  · rw [up2_ne _ _ _ (by omega), up2_ne _ _ _ (by omega), k4.2.2.1 i hi, up2_ne _ _ _ (by omega)]
  · rw [up2_ne _ _ _ (by omega), up2_ne _ _ _ (by omega), k4.2.2.2 i hi, up2_ne _ _ _ (by omega)]
end TEST
