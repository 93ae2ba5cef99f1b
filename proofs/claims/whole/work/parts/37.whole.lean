section F12
variable {t : Nat} {S : ST} {Rf : RT} {I : IT} {J : JT}
set_option maxHeartbeats 4000000 in
theorem f12_S : ∀ k, k < 29 → (f12_init t (t + 1) S Rf I J).1 (t + 1 + k) = mlT.getD (k + 1) (0, 0)
  | 0, _ => by simp [f12_init, yb_let, va_up, mlT]
  | 1, _ => by simp [f12_init, yb_let, va_up, mlT]
  | 2, _ => by simp [f12_init, yb_let, va_up, mlT]
  | 3, _ => by simp [f12_init, yb_let, va_up, mlT]
  | 4, _ => by simp [f12_init, yb_let, va_up, mlT]
  | 5, _ => by simp [f12_init, yb_let, va_up, mlT]
  | 6, _ => by simp [f12_init, yb_let, va_up, mlT]
  | 7, _ => by simp [f12_init, yb_let, va_up, mlT]
  | 8, _ => by simp [f12_init, yb_let, va_up, mlT]
  | 9, _ => by simp [f12_init, yb_let, va_up, mlT]
  | 10, _ => by simp [f12_init, yb_let, va_up, mlT]
  | 11, _ => by simp [f12_init, yb_let, va_up, mlT]
  | 12, _ => by simp [f12_init, yb_let, va_up, mlT]
  | 13, _ => by simp [f12_init, yb_let, va_up, mlT]
  | 14, _ => by simp [f12_init, yb_let, va_up, mlT]
  | 15, _ => by simp [f12_init, yb_let, va_up, mlT]
  | 16, _ => by simp [f12_init, yb_let, va_up, mlT]
  | 17, _ => by simp [f12_init, yb_let, va_up, mlT]
  | 18, _ => by simp [f12_init, yb_let, va_up, mlT]
  | 19, _ => by simp [f12_init, yb_let, va_up, mlT]
  | 20, _ => by simp [f12_init, yb_let, va_up, mlT]
  | 21, _ => by simp [f12_init, yb_let, va_up, mlT]
  | 22, _ => by simp [f12_init, yb_let, va_up, mlT]
  | 23, _ => by simp [f12_init, yb_let, va_up, mlT]
  | 24, _ => by simp [f12_init, yb_let, va_up, mlT]
  | 25, _ => by simp [f12_init, yb_let, va_up, mlT]
  | 26, _ => by simp [f12_init, yb_let, va_up, mlT]
  | 27, _ => by simp [f12_init, yb_let, va_up, mlT]
  | 28, _ => by simp [f12_init, yb_let, va_up, mlT]
  | k + 29, h => absurd h (by omega)
theorem nt_1 (t k : Nat) : ¬ t = t + (k + 1) := by omega
theorem nt_2 (t : Nat) : ¬ t = t + 1 := by omega
set_option maxHeartbeats 4000000 in
theorem f12_R : ∀ j, j < 48 → (layX 12).getD j 0 = 2 → (f12_init t (t + 1) S Rf I J).2.1 t j = some (t + mlF.getD j 0)
  | 0, _, _ => by simp [f12_init, yb_let, va_up, up2R, mlF, nt_1, nt_2, Nat.add_assoc]
  | 1, _, h => absurd h (by decide)
  | 2, _, h => absurd h (by decide)
  | 3, _, _ => by simp [f12_init, yb_let, va_up, up2R, mlF, nt_1, nt_2, Nat.add_assoc]
  | 4, _, _ => by simp [f12_init, yb_let, va_up, up2R, mlF, nt_1, nt_2, Nat.add_assoc]
  | 5, _, _ => by simp [f12_init, yb_let, va_up, up2R, mlF, nt_1, nt_2, Nat.add_assoc]
  | 6, _, _ => by simp [f12_init, yb_let, va_up, up2R, mlF, nt_1, nt_2, Nat.add_assoc]
  | 7, _, _ => by simp [f12_init, yb_let, va_up, up2R, mlF, nt_1, nt_2, Nat.add_assoc]
  | 8, _, h => absurd h (by decide)
  | 9, _, h => absurd h (by decide)
  | 10, _, h => absurd h (by decide)
  | 11, _, h => absurd h (by decide)
  | 12, _, h => absurd h (by decide)
  | 13, _, h => absurd h (by decide)
  | 14, _, h => absurd h (by decide)
  | 15, _, _ => by simp [f12_init, yb_let, va_up, up2R, mlF, nt_1, nt_2, Nat.add_assoc]
  | 16, _, h => absurd h (by decide)
  | 17, _, _ => by simp [f12_init, yb_let, va_up, up2R, mlF, nt_1, nt_2, Nat.add_assoc]
  | 18, _, h => absurd h (by decide)
  | 19, _, _ => by simp [f12_init, yb_let, va_up, up2R, mlF, nt_1, nt_2, Nat.add_assoc]
  | 20, _, _ => by simp [f12_init, yb_let, va_up, up2R, mlF, nt_1, nt_2, Nat.add_assoc]
  | 21, _, h => absurd h (by decide)
  | 22, _, h => absurd h (by decide)
  | 23, _, _ => by simp [f12_init, yb_let, va_up, up2R, mlF, nt_1, nt_2, Nat.add_assoc]
  | 24, _, h => absurd h (by decide)
  | 25, _, h => absurd h (by decide)
  | 26, _, _ => by simp [f12_init, yb_let, va_up, up2R, mlF, nt_1, nt_2, Nat.add_assoc]
  | 27, _, _ => by simp [f12_init, yb_let, va_up, up2R, mlF, nt_1, nt_2, Nat.add_assoc]
  | 28, _, _ => by simp [f12_init, yb_let, va_up, up2R, mlF, nt_1, nt_2, Nat.add_assoc]
  | 29, _, _ => by simp [f12_init, yb_let, va_up, up2R, mlF, nt_1, nt_2, Nat.add_assoc]
  | 30, _, _ => by simp [f12_init, yb_let, va_up, up2R, mlF, nt_1, nt_2, Nat.add_assoc]
  | 31, _, _ => by simp [f12_init, yb_let, va_up, up2R, mlF, nt_1, nt_2, Nat.add_assoc]
  | 32, _, _ => by simp [f12_init, yb_let, va_up, up2R, mlF, nt_1, nt_2, Nat.add_assoc]
  | 33, _, _ => by simp [f12_init, yb_let, va_up, up2R, mlF, nt_1, nt_2, Nat.add_assoc]
  | 34, _, _ => by simp [f12_init, yb_let, va_up, up2R, mlF, nt_1, nt_2, Nat.add_assoc]
  | 35, _, h => absurd h (by decide)
  | 36, _, h => absurd h (by decide)
  | 37, _, _ => by simp [f12_init, yb_let, va_up, up2R, mlF, nt_1, nt_2, Nat.add_assoc]
  | 38, _, h => absurd h (by decide)
  | 39, _, _ => by simp [f12_init, yb_let, va_up, up2R, mlF, nt_1, nt_2, Nat.add_assoc]
  | 40, _, _ => by simp [f12_init, yb_let, va_up, up2R, mlF, nt_1, nt_2, Nat.add_assoc]
  | 41, _, _ => by simp [f12_init, yb_let, va_up, up2R, mlF, nt_1, nt_2, Nat.add_assoc]
  | 42, _, _ => by simp [f12_init, yb_let, va_up, up2R, mlF, nt_1, nt_2, Nat.add_assoc]
  | 43, _, h => absurd h (by decide)
  | 44, _, _ => by simp [f12_init, yb_let, va_up, up2R, mlF, nt_1, nt_2, Nat.add_assoc]
  | 45, _, _ => by simp [f12_init, yb_let, va_up, up2R, mlF, nt_1, nt_2, Nat.add_assoc]
  | 46, _, _ => by simp [f12_init, yb_let, va_up, up2R, mlF, nt_1, nt_2, Nat.add_assoc]
  | 47, _, _ => by simp [f12_init, yb_let, va_up, up2R, mlF, nt_1, nt_2, Nat.add_assoc]
  | j + 48, h, _ => absurd h (by omega)
end F12
theorem EX_noR {cz : Nat → ClassId} {S S' : ST} {Rf Rf' : RT} {I : IT} {J : JT} {a : Nat} (h : S' a = S a) (h4 : (S a).1 < 4) : EX cz S' Rf' I J a = EX cz S Rf I J a := by
  unfold EX
  rw [h]
  rcases (show (S a).1 = 0 ∨ (S a).1 = 1 ∨ (S a).1 = 2 ∨ (S a).1 = 3 by omega) with g | g | g | g <;> rw [g]
theorem EX_ref {cz : Nat → ClassId} {mb : Nat} {S : ST} {Rf : RT} {I : IT} {J : JT} (h0 : S mb = (19, 0)) (hS : ∀ k, k < 29 → S (mb + 1 + k) = mlT.getD (k + 1) (0, 0)) (hR : ∀ j, j < 48 → (layX 12).getD j 0 = 2 → Rf mb j = some (mb + mlF.getD j 0)) : ∀ a ∈ mlL mb, EX cz (mlS mb) (mlR mb) I J a = EX cz S Rf I J a := by
  intro a ha
  unfold mlL at ha
  rw [List.mem_range'_1] at ha
  by_cases hm : a = mb
  · subst hm
    rw [EX_obj (ci := 12) (n := 0) (ml_S0 a), EX_obj (ci := 12) (n := 0) h0]
    congr 2
    unfold flds
    apply List.map_congr_left
    intro k hk
    have hk' : k < 48 := by exact List.mem_range.mp hk
    by_cases h2 : (layX 12).getD k 0 = 2
    · rw [h2]
      show va_rf (mlR a a k) = va_rf (Rf a k)
      rw [hR k hk' h2, ml_R a k rfl]
    · have h01 : (layX 12).getD k 0 = 0 ∨ (layX 12).getD k 0 = 1 := by
        have : ∀ k, k < 48 → (layX 12).getD k 0 = 0 ∨ (layX 12).getD k 0 = 1 ∨ (layX 12).getD k 0 = 2 := by decide
        rcases this k hk' with g | g | g
        · exact Or.inl g
        · exact Or.inr g
        · exact absurd g h2
      rcases h01 with g | g <;> rw [g] <;> rfl
  · obtain ⟨k, hk, rfl⟩ : ∃ k, k < 29 ∧ a = mb + 1 + k := ⟨a - mb - 1, by omega, by omega⟩
    have e : mlS mb (mb + 1 + k) = mlT.getD (k + 1) (0, 0) := by rw [show mb + 1 + k = mb + (k + 1) by omega]; exact ml_S mb (k + 1) rfl
    have h4 : ∀ k, k < 29 → (mlT.getD (k + 1) (0, 0)).1 < 4 := by decide
    exact EX_noR (by rw [e, hS k hk]) (by rw [hS k hk]; exact h4 k hk)
theorem wx_sub {D : va_G} {cz : Nat → ClassId} {A : Nat → Prop} {L L2 : List Nat} {S S2 : ST} {Rf Rf2 : RT} {H0 H : Heap} {I I2 : IT} {J J2 : JT} {locs : List Loc} (hw : WX D cz A L S Rf H0 I J H locs) (hs : ∀ a ∈ L2, a ∈ L) (hn : L2.Nodup) (he : ∀ a ∈ L2, EX cz S2 Rf2 I2 J2 a = EX cz S Rf I J a) : WX D cz A L2 S2 Rf2 H0 I2 J2 H locs := by
  refine ⟨pl_P (fun a ha => ?_), pl_D hn (fun a ha => pl_A hw.2.1 (hs a ha)), hw.2.2⟩
  obtain ⟨k, hk⟩ := x_cell hw (hs a ha)
  rw [he a ha]
  exact hw.1 k _ hk
/-- the tables behind new YoungerBench() at b, and behind new YoungerBenchModel() at b + 75 -/
def ini1 (b : Nat) : ST × RT × IT × JT := f11_init b (b + 1) (va_up (fun _ => (0, 0)) b (18, 0)) (va_up (fun _ _ => none) b (fun _ => none)) (va_up (fun _ _ => 0) b (fun _ => 0)) (va_up (fun _ _ => 0) b (fun _ => 0))
def ini2 (b : Nat) : ST × RT × IT × JT := f12_init (b + 75) (b + 76) (va_up (ini1 b).1 (b + 75) (19, 0)) (va_up (ini1 b).2.1 (b + 75) (fun _ => none)) (va_up (ini1 b).2.2.1 (b + 75) (fun _ => 0)) (va_up (ini1 b).2.2.2 (b + 75) (fun _ => 0))
theorem iw_L_9 : IW R_law 9 yX11_init cX11_init 1 0 := ⟨⟨tw_142, tw_143, tw_119, tw_144⟩, rfl, by decide +kernel⟩
theorem iw_L_12 : IW R_law 12 yX12_init cX12_init 1 0 := ⟨⟨tw_1247, tw_1248, tw_130, tw_1249⟩, rfl, by decide +kernel⟩
set_option maxHeartbeats 4000000 in
set_option maxRecDepth 100000 in
/-- the law from its entry, given what each call owes and how it begins -/
theorem whole_of {N : Nat} {Rel : RelT} (hG : Good N Rel) (hI : ∀ b, Rel b (b + 75) (apn [b] (b + 1) 74) (ini2 b).1 (ini2 b).2.1 (ini2 b).2.2.1 (ini2 b).2.2.2 (ini2 b).2.2.1 (ini2 b).2.2.2) {p : Program} {e : Env} {s : State} {m : MethodId} {below : List Frame} {meth : Method} {c : Code} (l : Launch) {b0 Lx : Nat} {xs : Nat → Int32} (hL : Lx ≤ 3072) (C0 : lw_At p s m meth c b0 Lx xs) : W p l e room_1 s m #[Value.ref b0] below meth c s.heap [] 0 0 (lw_Z below #[Value.ref b0] s) (entryFrame m ([Value.ref b0] : List Value).toArray 4) := by
  obtain ⟨D, cz, ev, hK⟩ := st_env C0
  obtain ⟨hx, hb, hr, hml, hown, hts, hX, hbl, hlocks, hgv⟩ := id C0
  have X : CallFix p m c code 4 s #[Value.ref b0] gw R_law := ⟨hx, hb, hml, hown, fun w hw => hts w (gw_tbl w hw)⟩
  obtain ⟨b, hbz⟩ : ∃ b, s.heap.size = b := ⟨_, rfl⟩
  have hAz : ∀ k, AL s (b + k) := fun k => by show s.heap.size ≤ b + k; omega
  have hw : WX D cz (AL s) [] (fun _ => (0, 0)) (fun _ _ => none) s.heap (fun _ _ => 0) (fun _ _ => 0) s.heap [] := ⟨pl_P (fun a h => absurd h List.not_mem_nil), pl_D List.nodup_nil (fun a h => absurd h List.not_mem_nil), va_S.rf⟩
  have hl := lv_entry ([.ref b0]) (n := 4) (Nat.le_of_ble_eq_true rfl)
  rw [lg_entry_eq]
  generalize (lg_sl ([.ref b0]) ++ List.replicate (4 - (lg_sl ([.ref b0])).length) Slot.unset).toArray = ls at hl ⊢
  have hl : lv_has ls 4 [(0, .ref b0)] := hl
  refine x_new (z := b) X hK hw hbz (hAz 0) cpX11 dfX11 tw_140 tw_141 tw_119 (Nat.le_of_ble_eq_true rfl) (Nat.le_of_ble_eq_true rfl) dL_law_0 (fun H hw hz => ?_)
  refine lv_dup hx hb dL_law_3 rfl ?_
  refine x_ctor (z := b + 1) X hK hw hz (fun q hq => (show s.heap.size ≤ q by omega)) (c11_init l D cz ev (List.mem_append_right _ (List.mem_singleton.mpr rfl)) (va_up_self _ _ _) (show _ = ((ini1 b).1, (ini1 b).2.1, (ini1 b).2.2.1, (ini1 b).2.2.2) from rfl)) iw_L_9 ⟨Nat.le_of_ble_eq_true rfl, Nat.le_of_ble_eq_true rfl⟩ rfl rfl (Nat.le_of_ble_eq_true rfl) hl.1 ⟨Nat.le_of_ble_eq_true rfl, Nat.le_of_ble_eq_true rfl⟩ dL_law_4 (fun H locs hw hz => ?_)
  have hw : WX D cz (AL s) (apn [b] (b + 1) 74) (ini1 b).1 (ini1 b).2.1 s.heap (ini1 b).2.2.1 (ini1 b).2.2.2 H locs := hw
  have hz : H.size = b + 75 := by rw [hz]
  have hN1 := pl_nodup hw.2.1
  have hlt1 : ∀ a ∈ apn [b] (b + 1) 74, a < b + 75 := fun a ha => hz ▸ wx_lt hw ha
  refine lv_astore_n (lv' := [(1, .ref b), (0, .ref b0)]) hx hb dL_law_7 rfl hl (by decide) rfl (fun ls hl => ?_)
  refine x_new (z := b + 75) X hK hw hz (hAz 75) cpX12 dfX12 tw_1245 tw_1246 tw_130 (Nat.le_of_ble_eq_true rfl) (Nat.le_of_ble_eq_true rfl) dL_law_8 (fun H hw hz => ?_)
  refine lv_dup hx hb dL_law_11 rfl ?_
  refine x_ctor (z := b + 76) X hK hw hz (fun q hq => (show s.heap.size ≤ q by omega)) (c12_init l D cz ev (List.mem_append_right _ (List.mem_singleton.mpr rfl)) (va_up_self _ _ _) (show _ = ((ini2 b).1, (ini2 b).2.1, (ini2 b).2.2.1, (ini2 b).2.2.2) from rfl)) iw_L_12 ⟨Nat.le_of_ble_eq_true rfl, Nat.le_of_ble_eq_true rfl⟩ rfl rfl (Nat.le_of_ble_eq_true rfl) hl.1 ⟨Nat.le_of_ble_eq_true rfl, Nat.le_of_ble_eq_true rfl⟩ dL_law_12 (fun H locs hw hz => ?_)
  refine lv_astore_n (lv' := [(2, .ref (b + 75)), (1, .ref b), (0, .ref b0)]) hx hb dL_law_15 rfl hl (by decide) rfl (fun ls hl => ?_)
  refine lv_iconst (v := 0) hx hb dL_law_16 (by decide) ?_
  refine lv_istore_n (lv' := [(3, .int 0), (2, .ref (b + 75)), (1, .ref b), (0, .ref b0)]) hx hb dL_law_17 rfl hl (by decide) rfl (fun ls hl => ?_)
  have hw1 : WX D cz (AL s) (apn [b] (b + 1) 74) (ini2 b).1 (ini2 b).2.1 s.heap (ini2 b).2.2.1 (ini2 b).2.2.2 H locs := wx_sub hw (fun a ha => apn_old (List.mem_append_left _ ha) _) hN1 (fun a _ => rfl)
  have hw2 : WX D cz (AL s) (mlL (b + 75)) (mlS (b + 75)) (mlR (b + 75)) s.heap (ini2 b).2.2.1 (ini2 b).2.2.2 H locs := by
    refine wx_sub hw (fun a ha => ?_) List.nodup_range' (EX_ref ?_ (fun k hk => f12_S k hk) (fun j hj h2 => f12_R j hj h2))
    · unfold mlL at ha
      rw [List.mem_range'_1] at ha
      rcases Nat.eq_or_lt_of_le ha.1 with g | g
      · exact apn_old (List.mem_append_right _ (List.mem_singleton.mpr g.symm)) _
      · have e2 : a = b + 76 + (a - (b + 76)) := by omega
        rw [e2]
        exact apn_new 29 (by omega)
    · unfold ini2
      rw [fS12 (by omega), va_up_self]
  refine law_loop hG hL C0 hK (b := b) (mb := b + 75) 513 0 (0 + 1 + 74 + 1 + 29) (0 + 16 + 2832 + 48 + 13659) 0 (Nat.zero_le _) (by omega) nI_0.symm (by omega) (by decide +kernel) _ _ _ _ _ _ _ H locs (hI b) ⟨hw1, hw2, fun a ha g => ?_⟩ ls (lv_sub hl [3, 2, 1, 0] rfl)
  unfold mlL at g
  rw [List.mem_range'_1] at g
  have := hlt1 a ha
  omega
