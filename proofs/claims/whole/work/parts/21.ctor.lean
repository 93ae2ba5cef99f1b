section XW4
variable {D : va_G} {cz : Nat → ClassId} {A : Nat → Prop} {L : List Nat} {S S2 : ST} {Rf Rf2 : RT} {H0 H : Heap} {locs : List Loc} {I I2 : IT} {J J2 : JT}
theorem yb_w4 (e1 : S2 = S) (e2 : Rf2 = Rf) (e3 : I2 = I) (e4 : J2 = J) (h : WX D cz A L S Rf H0 I J H locs) : WX D cz A L S2 Rf2 H0 I2 J2 H locs := by subst e1; subst e2; subst e3; subst e4; exact h
theorem yb_w5 {L2 : List Nat} (e0 : L2 = L) (e1 : S2 = S) (e2 : Rf2 = Rf) (e3 : I2 = I) (e4 : J2 = J) (h : WX D cz A L S Rf H0 I J H locs) : WX D cz A L2 S2 Rf2 H0 I2 J2 H locs := by subst e0; exact yb_w4 e1 e2 e3 e4 h
theorem apn_s (L : List Nat) (z k : Nat) : apn L z (k + 1) = apn L z k ++ [z + k] := rfl
theorem nS_up {t z : Nat} {q v : Nat × Nat} (e1 : S2 = va_up S z q) (h1 : t ≠ z) (h2 : S t = v) : S2 t = v := by rw [e1, va_up_ne _ _ h1]; exact h2
theorem nS_me {z : Nat} {q : Nat × Nat} (e1 : S2 = va_up S z q) : S2 z = q := by rw [e1, va_up_self]
theorem nS_ca {t : Nat} {v : Nat × Nat} {q f0 : ST × RT × IT × JT} (e1 : S2 = q.1) (e2 : q = f0) (h1 : f0.1 t = S t) (h2 : S t = v) : S2 t = v := by rw [e1, e2, h1]; exact h2
theorem nR_up {t z j : Nat} {q : Nat → Option Nat} {v : Option Nat} (e1 : Rf2 = va_up Rf z q) (h1 : t ≠ z) (h2 : Rf t j = v) : Rf2 t j = v := by rw [e1, va_up_ne _ _ h1]; exact h2
theorem nR_pu {t k j : Nat} {q v : Option Nat} (e1 : Rf2 = up2R Rf t k q) (h1 : j ≠ k) (h2 : Rf t j = v) : Rf2 t j = v := by rw [e1, up2R_self, va_up_ne _ _ h1]; exact h2
theorem nR_me {t k : Nat} {q : Option Nat} (e1 : Rf2 = up2R Rf t k q) : Rf2 t k = q := by rw [e1, up2R_self, va_up_self]
theorem nR_ca {t j : Nat} {v : Option Nat} {q f0 : ST × RT × IT × JT} (e1 : Rf2 = q.2.1) (e2 : q = f0) (h1 : f0.2.1 t = Rf t) (h2 : Rf t j = v) : Rf2 t j = v := by rw [e1, e2, h1]; exact h2
theorem yb_wR (e2 : Rf2 = Rf) (h : WX D cz A L S Rf H0 I J H locs) : WX D cz A L S Rf2 H0 I J H locs := by subst e2; exact h
end XW4
theorem dfX0 : ∀ j, j < 10 → defaultValue (tyX0 j) = dvX ((layX 0).getD j 0) := by decide +kernel
theorem dfX1 : ∀ j, j < 4 → defaultValue (tyX1 j) = dvX ((layX 1).getD j 0) := by decide +kernel
theorem dfX2 : ∀ j, j < 3 → defaultValue (tyX2 j) = dvX ((layX 2).getD j 0) := by decide +kernel
theorem dfX3 : ∀ j, j < 5 → defaultValue (tyX3 j) = dvX ((layX 3).getD j 0) := by decide +kernel
theorem dfX4 : ∀ j, j < 17 → defaultValue (tyX4 j) = dvX ((layX 4).getD j 0) := by decide +kernel
theorem dfX5 : ∀ j, j < 1 → defaultValue (tyX5 j) = dvX ((layX 5).getD j 0) := by decide +kernel
theorem dfX6 : ∀ j, j < 4 → defaultValue (tyX6 j) = dvX ((layX 6).getD j 0) := by decide +kernel
theorem dfX7 : ∀ j, j < 8 → defaultValue (tyX7 j) = dvX ((layX 7).getD j 0) := by decide +kernel
theorem dfX8 : ∀ j, j < 8 → defaultValue (tyX8 j) = dvX ((layX 8).getD j 0) := by decide +kernel
theorem dfX9 : ∀ j, j < 15 → defaultValue (tyX9 j) = dvX ((layX 9).getD j 0) := by decide +kernel
theorem dfX10 : ∀ j, j < 5 → defaultValue (tyX10 j) = dvX ((layX 10).getD j 0) := by decide +kernel
theorem dfX11 : ∀ j, j < 16 → defaultValue (tyX11 j) = dvX ((layX 11).getD j 0) := by decide +kernel
theorem dfX12 : ∀ j, j < 48 → defaultValue (tyX12 j) = dvX ((layX 12).getD j 0) := by decide +kernel
def f0_init (t0 z : Nat) (S : ST) (Rf : RT) (I : IT) (J : JT) : ST × RT × IT × JT :=
  yb_let (va_up S z (0, 7)) fun S_1 =>
  yb_let (va_up Rf z (fun _ => none)) fun Rf_2 =>
  yb_let (va_up I z (fun _ => 0)) fun I_3 =>
  yb_let (va_up J z (fun _ => 0)) fun J_4 =>
  yb_let (up2R Rf_2 t0 0 (some z)) fun Rf_5 =>
  yb_let (va_up S_1 (z + 1) (0, 7)) fun S_6 =>
  yb_let (va_up Rf_5 (z + 1) (fun _ => none)) fun Rf_7 =>
  yb_let (va_up I_3 (z + 1) (fun _ => 0)) fun I_8 =>
  yb_let (va_up J_4 (z + 1) (fun _ => 0)) fun J_9 =>
  yb_let (up2R Rf_7 t0 1 (some (z + 1))) fun Rf_10 =>
  yb_let (va_up S_6 (z + 2) (0, 6)) fun S_11 =>
  yb_let (va_up Rf_10 (z + 2) (fun _ => none)) fun Rf_12 =>
  yb_let (va_up I_8 (z + 2) (fun _ => 0)) fun I_13 =>
  yb_let (va_up J_9 (z + 2) (fun _ => 0)) fun J_14 =>
  yb_let (up2R Rf_12 t0 2 (some (z + 2))) fun Rf_15 =>
  yb_let (va_up S_11 (z + 3) (0, 6)) fun S_16 =>
  yb_let (va_up Rf_15 (z + 3) (fun _ => none)) fun Rf_17 =>
  yb_let (va_up I_13 (z + 3) (fun _ => 0)) fun I_18 =>
  yb_let (va_up J_14 (z + 3) (fun _ => 0)) fun J_19 =>
  yb_let (up2R Rf_17 t0 3 (some (z + 3))) fun Rf_20 =>
  yb_let (va_up S_16 (z + 4) (0, 6)) fun S_21 =>
  yb_let (va_up Rf_20 (z + 4) (fun _ => none)) fun Rf_22 =>
  yb_let (va_up I_18 (z + 4) (fun _ => 0)) fun I_23 =>
  yb_let (va_up J_19 (z + 4) (fun _ => 0)) fun J_24 =>
  yb_let (up2R Rf_22 t0 4 (some (z + 4))) fun Rf_25 =>
  yb_let (va_up S_21 (z + 5) (0, 6)) fun S_26 =>
  yb_let (va_up Rf_25 (z + 5) (fun _ => none)) fun Rf_27 =>
  yb_let (va_up I_23 (z + 5) (fun _ => 0)) fun I_28 =>
  yb_let (va_up J_24 (z + 5) (fun _ => 0)) fun J_29 =>
  yb_let (up2R Rf_27 t0 5 (some (z + 5))) fun Rf_30 =>
  yb_let (va_up S_26 (z + 6) (0, 6)) fun S_31 =>
  yb_let (va_up Rf_30 (z + 6) (fun _ => none)) fun Rf_32 =>
  yb_let (va_up I_28 (z + 6) (fun _ => 0)) fun I_33 =>
  yb_let (va_up J_29 (z + 6) (fun _ => 0)) fun J_34 =>
  yb_let (up2R Rf_32 t0 6 (some (z + 6))) fun Rf_35 =>
  yb_let (va_up S_31 (z + 7) (0, 6)) fun S_36 =>
  yb_let (va_up Rf_35 (z + 7) (fun _ => none)) fun Rf_37 =>
  yb_let (va_up I_33 (z + 7) (fun _ => 0)) fun I_38 =>
  yb_let (va_up J_34 (z + 7) (fun _ => 0)) fun J_39 =>
  yb_let (up2R Rf_37 t0 7 (some (z + 7))) fun Rf_40 =>
  yb_let (va_up S_36 (z + 8) (0, 6)) fun S_41 =>
  yb_let (va_up Rf_40 (z + 8) (fun _ => none)) fun Rf_42 =>
  yb_let (va_up I_38 (z + 8) (fun _ => 0)) fun I_43 =>
  yb_let (va_up J_39 (z + 8) (fun _ => 0)) fun J_44 =>
  yb_let (up2R Rf_42 t0 8 (some (z + 8))) fun Rf_45 =>
  (S_41, Rf_45, I_43, J_44)
theorem fS0 {t0 z a : Nat} {S : ST} {Rf : RT} {I : IT} {J : JT} (h : a < z) : (f0_init t0 z S Rf I J).1 a = S a := by
  have hne : ∀ k, a ≠ z + k := fun k => by omega
  have hn0 : a ≠ z := by omega
  simp [f0_init, yb_let, va_up, up2R, up2, hn0, hne]
theorem fR0 {t0 z a : Nat} {S : ST} {Rf : RT} {I : IT} {J : JT} (h : a < z) (ht : a ≠ t0) : (f0_init t0 z S Rf I J).2.1 a = Rf a := by
  have hne : ∀ k, a ≠ z + k := fun k => by omega
  have hn0 : a ≠ z := by omega
  simp [f0_init, yb_let, va_up, up2R, up2, hn0, hne, ht]
theorem fI0 {t0 z a : Nat} {S : ST} {Rf : RT} {I : IT} {J : JT} (h : a < z) (ht : a ≠ t0) : (f0_init t0 z S Rf I J).2.2.1 a = I a := by
  have hne : ∀ k, a ≠ z + k := fun k => by omega
  have hn0 : a ≠ z := by omega
  simp [f0_init, yb_let, va_up, up2R, up2, hn0, hne, ht]
theorem fJ0 {t0 z a : Nat} {S : ST} {Rf : RT} {I : IT} {J : JT} (h : a < z) (ht : a ≠ t0) : (f0_init t0 z S Rf I J).2.2.2 a = J a := by
  have hne : ∀ k, a ≠ z + k := fun k => by omega
  have hn0 : a ≠ z := by omega
  simp [f0_init, yb_let, va_up, up2R, up2, hn0, hne, ht]
theorem fr0 {t0 z : Nat} {S : ST} {Rf : RT} {I : IT} {J : JT} (a : Nat) (h : a < z) : (f0_init t0 z S Rf I J).1 a = S a ∧ (a ≠ t0 → (f0_init t0 z S Rf I J).2.1 a = Rf a ∧ (f0_init t0 z S Rf I J).2.2.1 a = I a ∧ (f0_init t0 z S Rf I J).2.2.2 a = J a) := ⟨fS0 h, fun ht => ⟨fR0 h ht, fI0 h ht, fJ0 h ht⟩⟩
theorem dX0_init_0 : decode cX0_init 0 = .ok (.aload_n 0, 1) := by decide +kernel
theorem dX0_init_1 : decode cX0_init 1 = .ok (.invokespecial 3, 3) := by decide +kernel
theorem dX0_init_4 : decode cX0_init 4 = .ok (.aload_n 0, 1) := by decide +kernel
theorem dX0_init_5 : decode cX0_init 5 = .ok (.bipush 7, 2) := by decide +kernel
theorem dX0_init_7 : decode cX0_init 7 = .ok (.newarray .int, 2) := by decide +kernel
theorem dX0_init_9 : decode cX0_init 9 = .ok (.putfield 9, 3) := by decide +kernel
theorem dX0_init_12 : decode cX0_init 12 = .ok (.aload_n 0, 1) := by decide +kernel
theorem dX0_init_13 : decode cX0_init 13 = .ok (.bipush 7, 2) := by decide +kernel
theorem dX0_init_15 : decode cX0_init 15 = .ok (.newarray .int, 2) := by decide +kernel
theorem dX0_init_17 : decode cX0_init 17 = .ok (.putfield 15, 3) := by decide +kernel
theorem dX0_init_20 : decode cX0_init 20 = .ok (.aload_n 0, 1) := by decide +kernel
theorem dX0_init_21 : decode cX0_init 21 = .ok (.bipush 6, 2) := by decide +kernel
theorem dX0_init_23 : decode cX0_init 23 = .ok (.newarray .int, 2) := by decide +kernel
theorem dX0_init_25 : decode cX0_init 25 = .ok (.putfield 18, 3) := by decide +kernel
theorem dX0_init_28 : decode cX0_init 28 = .ok (.aload_n 0, 1) := by decide +kernel
theorem dX0_init_29 : decode cX0_init 29 = .ok (.bipush 6, 2) := by decide +kernel
theorem dX0_init_31 : decode cX0_init 31 = .ok (.newarray .int, 2) := by decide +kernel
theorem dX0_init_33 : decode cX0_init 33 = .ok (.putfield 21, 3) := by decide +kernel
theorem dX0_init_36 : decode cX0_init 36 = .ok (.aload_n 0, 1) := by decide +kernel
theorem dX0_init_37 : decode cX0_init 37 = .ok (.bipush 6, 2) := by decide +kernel
theorem dX0_init_39 : decode cX0_init 39 = .ok (.newarray .int, 2) := by decide +kernel
theorem dX0_init_41 : decode cX0_init 41 = .ok (.putfield 24, 3) := by decide +kernel
theorem dX0_init_44 : decode cX0_init 44 = .ok (.aload_n 0, 1) := by decide +kernel
theorem dX0_init_45 : decode cX0_init 45 = .ok (.bipush 6, 2) := by decide +kernel
theorem dX0_init_47 : decode cX0_init 47 = .ok (.newarray .int, 2) := by decide +kernel
theorem dX0_init_49 : decode cX0_init 49 = .ok (.putfield 27, 3) := by decide +kernel
theorem dX0_init_52 : decode cX0_init 52 = .ok (.aload_n 0, 1) := by decide +kernel
theorem dX0_init_53 : decode cX0_init 53 = .ok (.bipush 6, 2) := by decide +kernel
theorem dX0_init_55 : decode cX0_init 55 = .ok (.newarray .int, 2) := by decide +kernel
theorem dX0_init_57 : decode cX0_init 57 = .ok (.putfield 30, 3) := by decide +kernel
theorem dX0_init_60 : decode cX0_init 60 = .ok (.aload_n 0, 1) := by decide +kernel
theorem dX0_init_61 : decode cX0_init 61 = .ok (.bipush 6, 2) := by decide +kernel
theorem dX0_init_63 : decode cX0_init 63 = .ok (.newarray .int, 2) := by decide +kernel
theorem dX0_init_65 : decode cX0_init 65 = .ok (.putfield 33, 3) := by decide +kernel
theorem dX0_init_68 : decode cX0_init 68 = .ok (.aload_n 0, 1) := by decide +kernel
theorem dX0_init_69 : decode cX0_init 69 = .ok (.bipush 6, 2) := by decide +kernel
theorem dX0_init_71 : decode cX0_init 71 = .ok (.newarray .int, 2) := by decide +kernel
theorem dX0_init_73 : decode cX0_init 73 = .ok (.putfield 36, 3) := by decide +kernel
theorem dX0_init_76 : decode cX0_init 76 = .ok (.return_, 1) := by decide +kernel
set_option maxHeartbeats 4000000 in
set_option maxRecDepth 100000 in
theorem c0_init (l : Launch) (D : va_G) (cz : Nat → ClassId) (ev : Nat × Nat × Nat) {t0 z n0 : Nat} {L : List Nat} {S : ST} {Rf : RT} {I : IT} {J : JT} {S1 : ST} {Rf1 : RT} {I1 : IT} {J1 : JT} (ha : t0 ∈ L) (hS : S t0 = (7, n0)) (hf : f0_init t0 z S Rf I J = (S1, Rf1, I1, J1)) : MA l D cz ev yX0_init cX0_init 1 1 40 9 56 [.ref t0] z L S Rf I J S1 Rf1 I1 J1 := by
  unfold f0_init at hf
  refine MA_of (by decide) rfl (Nat.le_of_ble_eq_true rfl) ?_
  intro p e s m args below meth c Q ls X hK hz hin hw hl hfin
  have X : CallFix p m c cX0_init 1 s args gw RX0 := X
  have hx := X.1
  have hb := X.2.1
  have hlt : t0 < z := hz ▸ wx_lt hw ha
  have hw : WX D cz _ (apn L z 0) S Rf s.heap I J s.heap [] := hw
  have hz : s.heap.size = z + 0 := hz
  have hl : lv_has ls 1 [(0, .ref t0)] := hl
  refine lv_aload_n hx hb dX0_init_0 rfl (lv_at hl 0 rfl) ?_
  refine W.objInit hx hb X.2.2.2.1 (X.2.2.2.2 _ tw_285) (X.2.2.2.2 _ tw_146) (X.2.2.2.2 _ tw_147) rfl (by rw [X.2.2.1]; exact hl.1) rfl dX0_init_1 (Nat.le_of_ble_eq_true rfl) (Nat.le_of_ble_eq_true rfl) ?_
  refine lv_aload_n hx hb dX0_init_4 rfl (lv_at hl 0 rfl) ?_
  refine lv_bipush (v := (7 : Int32)) hx hb dX0_init_5 (by decide) ?_
  refine x_newa0 (z := z) X hK hw hz (Or.inr (Nat.le_refl z)) tw_175 (N := 7) (by decide) rfl (by decide) (Nat.le_of_ble_eq_true rfl) (Nat.le_of_ble_eq_true rfl) dX0_init_7 (fun H hw hz => ?_)
  obtain ⟨S_1, eS_1, hf⟩ := yb_let_ex hf
  obtain ⟨Rf_2, eRf_2, hf⟩ := yb_let_ex hf
  obtain ⟨I_3, eI_3, hf⟩ := yb_let_ex hf
  obtain ⟨J_4, eJ_4, hf⟩ := yb_let_ex hf
  have hw : WX D cz _ (apn L z 1) S_1 Rf_2 s.heap I_3 J_4 H [] := yb_w5 (apn_s L z 0) eS_1 eRf_2 eI_3 eJ_4 hw
  have hz : H.size = z + 1 := hz
  have hS : S_1 t0 = (7, n0) := nS_up eS_1 (Nat.ne_of_lt hlt) hS
  refine x_putR X hK hw hz (apn_old ha 1) hS cpX0 0 (by decide) rfl rfl rfl rfl hin rfl tw_286 dX0_init_9 (fun H locs hw hz => ?_)
  obtain ⟨Rf_5, eRf_5, hf⟩ := yb_let_ex hf
  have hw := yb_wR eRf_5 hw
  refine lv_aload_n hx hb dX0_init_12 rfl (lv_at hl 0 rfl) ?_
  refine lv_bipush (v := (7 : Int32)) hx hb dX0_init_13 (by decide) ?_
  refine x_newa0 (z := (z + 1)) X hK hw hz (Or.inr (Nat.le_add_right z 1)) tw_175 (N := 7) (by decide) rfl (by decide) (Nat.le_of_ble_eq_true rfl) (Nat.le_of_ble_eq_true rfl) dX0_init_15 (fun H hw hz => ?_)
  obtain ⟨S_6, eS_6, hf⟩ := yb_let_ex hf
  obtain ⟨Rf_7, eRf_7, hf⟩ := yb_let_ex hf
  obtain ⟨I_8, eI_8, hf⟩ := yb_let_ex hf
  obtain ⟨J_9, eJ_9, hf⟩ := yb_let_ex hf
  have hw : WX D cz _ (apn L z 2) S_6 Rf_7 s.heap I_8 J_9 H locs := yb_w5 (apn_s L z 1) eS_6 eRf_7 eI_8 eJ_9 hw
  have hz : H.size = z + 2 := hz
  have hS : S_6 t0 = (7, n0) := nS_up eS_6 (Nat.ne_of_lt (Nat.lt_of_lt_of_le hlt (Nat.le_add_right z 1))) hS
  refine x_putR X hK hw hz (apn_old ha 2) hS cpX0 1 (by decide) rfl rfl rfl rfl hin rfl tw_291 dX0_init_17 (fun H locs hw hz => ?_)
  obtain ⟨Rf_10, eRf_10, hf⟩ := yb_let_ex hf
  have hw := yb_wR eRf_10 hw
  refine lv_aload_n hx hb dX0_init_20 rfl (lv_at hl 0 rfl) ?_
  refine lv_bipush (v := (6 : Int32)) hx hb dX0_init_21 (by decide) ?_
  refine x_newa0 (z := (z + 2)) X hK hw hz (Or.inr (Nat.le_add_right z 2)) tw_175 (N := 6) (by decide) rfl (by decide) (Nat.le_of_ble_eq_true rfl) (Nat.le_of_ble_eq_true rfl) dX0_init_23 (fun H hw hz => ?_)
  obtain ⟨S_11, eS_11, hf⟩ := yb_let_ex hf
  obtain ⟨Rf_12, eRf_12, hf⟩ := yb_let_ex hf
  obtain ⟨I_13, eI_13, hf⟩ := yb_let_ex hf
  obtain ⟨J_14, eJ_14, hf⟩ := yb_let_ex hf
  have hw : WX D cz _ (apn L z 3) S_11 Rf_12 s.heap I_13 J_14 H locs := yb_w5 (apn_s L z 2) eS_11 eRf_12 eI_13 eJ_14 hw
  have hz : H.size = z + 3 := hz
  have hS : S_11 t0 = (7, n0) := nS_up eS_11 (Nat.ne_of_lt (Nat.lt_of_lt_of_le hlt (Nat.le_add_right z 2))) hS
  refine x_putR X hK hw hz (apn_old ha 3) hS cpX0 2 (by decide) rfl rfl rfl rfl hin rfl tw_295 dX0_init_25 (fun H locs hw hz => ?_)
  obtain ⟨Rf_15, eRf_15, hf⟩ := yb_let_ex hf
  have hw := yb_wR eRf_15 hw
  refine lv_aload_n hx hb dX0_init_28 rfl (lv_at hl 0 rfl) ?_
  refine lv_bipush (v := (6 : Int32)) hx hb dX0_init_29 (by decide) ?_
  refine x_newa0 (z := (z + 3)) X hK hw hz (Or.inr (Nat.le_add_right z 3)) tw_175 (N := 6) (by decide) rfl (by decide) (Nat.le_of_ble_eq_true rfl) (Nat.le_of_ble_eq_true rfl) dX0_init_31 (fun H hw hz => ?_)
  obtain ⟨S_16, eS_16, hf⟩ := yb_let_ex hf
  obtain ⟨Rf_17, eRf_17, hf⟩ := yb_let_ex hf
  obtain ⟨I_18, eI_18, hf⟩ := yb_let_ex hf
  obtain ⟨J_19, eJ_19, hf⟩ := yb_let_ex hf
  have hw : WX D cz _ (apn L z 4) S_16 Rf_17 s.heap I_18 J_19 H locs := yb_w5 (apn_s L z 3) eS_16 eRf_17 eI_18 eJ_19 hw
  have hz : H.size = z + 4 := hz
  have hS : S_16 t0 = (7, n0) := nS_up eS_16 (Nat.ne_of_lt (Nat.lt_of_lt_of_le hlt (Nat.le_add_right z 3))) hS
  refine x_putR X hK hw hz (apn_old ha 4) hS cpX0 3 (by decide) rfl rfl rfl rfl hin rfl tw_299 dX0_init_33 (fun H locs hw hz => ?_)
  obtain ⟨Rf_20, eRf_20, hf⟩ := yb_let_ex hf
  have hw := yb_wR eRf_20 hw
  refine lv_aload_n hx hb dX0_init_36 rfl (lv_at hl 0 rfl) ?_
  refine lv_bipush (v := (6 : Int32)) hx hb dX0_init_37 (by decide) ?_
  refine x_newa0 (z := (z + 4)) X hK hw hz (Or.inr (Nat.le_add_right z 4)) tw_175 (N := 6) (by decide) rfl (by decide) (Nat.le_of_ble_eq_true rfl) (Nat.le_of_ble_eq_true rfl) dX0_init_39 (fun H hw hz => ?_)
  obtain ⟨S_21, eS_21, hf⟩ := yb_let_ex hf
  obtain ⟨Rf_22, eRf_22, hf⟩ := yb_let_ex hf
  obtain ⟨I_23, eI_23, hf⟩ := yb_let_ex hf
  obtain ⟨J_24, eJ_24, hf⟩ := yb_let_ex hf
  have hw : WX D cz _ (apn L z 5) S_21 Rf_22 s.heap I_23 J_24 H locs := yb_w5 (apn_s L z 4) eS_21 eRf_22 eI_23 eJ_24 hw
  have hz : H.size = z + 5 := hz
  have hS : S_21 t0 = (7, n0) := nS_up eS_21 (Nat.ne_of_lt (Nat.lt_of_lt_of_le hlt (Nat.le_add_right z 4))) hS
  refine x_putR X hK hw hz (apn_old ha 5) hS cpX0 4 (by decide) rfl rfl rfl rfl hin rfl tw_303 dX0_init_41 (fun H locs hw hz => ?_)
  obtain ⟨Rf_25, eRf_25, hf⟩ := yb_let_ex hf
  have hw := yb_wR eRf_25 hw
  refine lv_aload_n hx hb dX0_init_44 rfl (lv_at hl 0 rfl) ?_
  refine lv_bipush (v := (6 : Int32)) hx hb dX0_init_45 (by decide) ?_
  refine x_newa0 (z := (z + 5)) X hK hw hz (Or.inr (Nat.le_add_right z 5)) tw_175 (N := 6) (by decide) rfl (by decide) (Nat.le_of_ble_eq_true rfl) (Nat.le_of_ble_eq_true rfl) dX0_init_47 (fun H hw hz => ?_)
  obtain ⟨S_26, eS_26, hf⟩ := yb_let_ex hf
  obtain ⟨Rf_27, eRf_27, hf⟩ := yb_let_ex hf
  obtain ⟨I_28, eI_28, hf⟩ := yb_let_ex hf
  obtain ⟨J_29, eJ_29, hf⟩ := yb_let_ex hf
  have hw : WX D cz _ (apn L z 6) S_26 Rf_27 s.heap I_28 J_29 H locs := yb_w5 (apn_s L z 5) eS_26 eRf_27 eI_28 eJ_29 hw
  have hz : H.size = z + 6 := hz
  have hS : S_26 t0 = (7, n0) := nS_up eS_26 (Nat.ne_of_lt (Nat.lt_of_lt_of_le hlt (Nat.le_add_right z 5))) hS
  refine x_putR X hK hw hz (apn_old ha 6) hS cpX0 5 (by decide) rfl rfl rfl rfl hin rfl tw_306 dX0_init_49 (fun H locs hw hz => ?_)
  obtain ⟨Rf_30, eRf_30, hf⟩ := yb_let_ex hf
  have hw := yb_wR eRf_30 hw
  refine lv_aload_n hx hb dX0_init_52 rfl (lv_at hl 0 rfl) ?_
  refine lv_bipush (v := (6 : Int32)) hx hb dX0_init_53 (by decide) ?_
  refine x_newa0 (z := (z + 6)) X hK hw hz (Or.inr (Nat.le_add_right z 6)) tw_175 (N := 6) (by decide) rfl (by decide) (Nat.le_of_ble_eq_true rfl) (Nat.le_of_ble_eq_true rfl) dX0_init_55 (fun H hw hz => ?_)
  obtain ⟨S_31, eS_31, hf⟩ := yb_let_ex hf
  obtain ⟨Rf_32, eRf_32, hf⟩ := yb_let_ex hf
  obtain ⟨I_33, eI_33, hf⟩ := yb_let_ex hf
  obtain ⟨J_34, eJ_34, hf⟩ := yb_let_ex hf
  have hw : WX D cz _ (apn L z 7) S_31 Rf_32 s.heap I_33 J_34 H locs := yb_w5 (apn_s L z 6) eS_31 eRf_32 eI_33 eJ_34 hw
  have hz : H.size = z + 7 := hz
  have hS : S_31 t0 = (7, n0) := nS_up eS_31 (Nat.ne_of_lt (Nat.lt_of_lt_of_le hlt (Nat.le_add_right z 6))) hS
  refine x_putR X hK hw hz (apn_old ha 7) hS cpX0 6 (by decide) rfl rfl rfl rfl hin rfl tw_309 dX0_init_57 (fun H locs hw hz => ?_)
  obtain ⟨Rf_35, eRf_35, hf⟩ := yb_let_ex hf
  have hw := yb_wR eRf_35 hw
  refine lv_aload_n hx hb dX0_init_60 rfl (lv_at hl 0 rfl) ?_
  refine lv_bipush (v := (6 : Int32)) hx hb dX0_init_61 (by decide) ?_
  refine x_newa0 (z := (z + 7)) X hK hw hz (Or.inr (Nat.le_add_right z 7)) tw_175 (N := 6) (by decide) rfl (by decide) (Nat.le_of_ble_eq_true rfl) (Nat.le_of_ble_eq_true rfl) dX0_init_63 (fun H hw hz => ?_)
  obtain ⟨S_36, eS_36, hf⟩ := yb_let_ex hf
  obtain ⟨Rf_37, eRf_37, hf⟩ := yb_let_ex hf
  obtain ⟨I_38, eI_38, hf⟩ := yb_let_ex hf
  obtain ⟨J_39, eJ_39, hf⟩ := yb_let_ex hf
  have hw : WX D cz _ (apn L z 8) S_36 Rf_37 s.heap I_38 J_39 H locs := yb_w5 (apn_s L z 7) eS_36 eRf_37 eI_38 eJ_39 hw
  have hz : H.size = z + 8 := hz
  have hS : S_36 t0 = (7, n0) := nS_up eS_36 (Nat.ne_of_lt (Nat.lt_of_lt_of_le hlt (Nat.le_add_right z 7))) hS
  refine x_putR X hK hw hz (apn_old ha 8) hS cpX0 7 (by decide) rfl rfl rfl rfl hin rfl tw_311 dX0_init_65 (fun H locs hw hz => ?_)
  obtain ⟨Rf_40, eRf_40, hf⟩ := yb_let_ex hf
  have hw := yb_wR eRf_40 hw
  refine lv_aload_n hx hb dX0_init_68 rfl (lv_at hl 0 rfl) ?_
  refine lv_bipush (v := (6 : Int32)) hx hb dX0_init_69 (by decide) ?_
  refine x_newa0 (z := (z + 8)) X hK hw hz (Or.inr (Nat.le_add_right z 8)) tw_175 (N := 6) (by decide) rfl (by decide) (Nat.le_of_ble_eq_true rfl) (Nat.le_of_ble_eq_true rfl) dX0_init_71 (fun H hw hz => ?_)
  obtain ⟨S_41, eS_41, hf⟩ := yb_let_ex hf
  obtain ⟨Rf_42, eRf_42, hf⟩ := yb_let_ex hf
  obtain ⟨I_43, eI_43, hf⟩ := yb_let_ex hf
  obtain ⟨J_44, eJ_44, hf⟩ := yb_let_ex hf
  have hw : WX D cz _ (apn L z 9) S_41 Rf_42 s.heap I_43 J_44 H locs := yb_w5 (apn_s L z 8) eS_41 eRf_42 eI_43 eJ_44 hw
  have hz : H.size = z + 9 := hz
  have hS : S_41 t0 = (7, n0) := nS_up eS_41 (Nat.ne_of_lt (Nat.lt_of_lt_of_le hlt (Nat.le_add_right z 8))) hS
  refine x_putR X hK hw hz (apn_old ha 9) hS cpX0 8 (by decide) rfl rfl rfl rfl hin rfl tw_313 dX0_init_73 (fun H locs hw hz => ?_)
  obtain ⟨Rf_45, eRf_45, hf⟩ := yb_let_ex hf
  have hw := yb_wR eRf_45 hw
  cases hf
  exact hfin _ _ _ _ hw hz dX0_init_76
def f9_init (t0 z : Nat) (S : ST) (Rf : RT) (I : IT) (J : JT) : ST × RT × IT × JT :=
  yb_let (va_up S z (0, 7)) fun S_1 =>
  yb_let (va_up Rf z (fun _ => none)) fun Rf_2 =>
  yb_let (va_up I z (fun _ => 0)) fun I_3 =>
  yb_let (va_up J z (fun _ => 0)) fun J_4 =>
  yb_let (up2R Rf_2 t0 0 (some z)) fun Rf_5 =>
  yb_let (va_up S_1 (z + 1) (0, 7)) fun S_6 =>
  yb_let (va_up Rf_5 (z + 1) (fun _ => none)) fun Rf_7 =>
  yb_let (va_up I_3 (z + 1) (fun _ => 0)) fun I_8 =>
  yb_let (va_up J_4 (z + 1) (fun _ => 0)) fun J_9 =>
  yb_let (up2R Rf_7 t0 1 (some (z + 1))) fun Rf_10 =>
  yb_let (va_up S_6 (z + 2) (0, 7)) fun S_11 =>
  yb_let (va_up Rf_10 (z + 2) (fun _ => none)) fun Rf_12 =>
  yb_let (va_up I_8 (z + 2) (fun _ => 0)) fun I_13 =>
  yb_let (va_up J_9 (z + 2) (fun _ => 0)) fun J_14 =>
  yb_let (up2R Rf_12 t0 2 (some (z + 2))) fun Rf_15 =>
  yb_let (va_up S_11 (z + 3) (0, 7)) fun S_16 =>
  yb_let (va_up Rf_15 (z + 3) (fun _ => none)) fun Rf_17 =>
  yb_let (va_up I_13 (z + 3) (fun _ => 0)) fun I_18 =>
  yb_let (va_up J_14 (z + 3) (fun _ => 0)) fun J_19 =>
  yb_let (up2R Rf_17 t0 3 (some (z + 3))) fun Rf_20 =>
  yb_let (va_up S_16 (z + 4) (0, 6)) fun S_21 =>
  yb_let (va_up Rf_20 (z + 4) (fun _ => none)) fun Rf_22 =>
  yb_let (va_up I_18 (z + 4) (fun _ => 0)) fun I_23 =>
  yb_let (va_up J_19 (z + 4) (fun _ => 0)) fun J_24 =>
  yb_let (up2R Rf_22 t0 4 (some (z + 4))) fun Rf_25 =>
  yb_let (va_up S_21 (z + 5) (0, 6)) fun S_26 =>
  yb_let (va_up Rf_25 (z + 5) (fun _ => none)) fun Rf_27 =>
  yb_let (va_up I_23 (z + 5) (fun _ => 0)) fun I_28 =>
  yb_let (va_up J_24 (z + 5) (fun _ => 0)) fun J_29 =>
  yb_let (up2R Rf_27 t0 5 (some (z + 5))) fun Rf_30 =>
  yb_let (va_up S_26 (z + 6) (0, 6)) fun S_31 =>
  yb_let (va_up Rf_30 (z + 6) (fun _ => none)) fun Rf_32 =>
  yb_let (va_up I_28 (z + 6) (fun _ => 0)) fun I_33 =>
  yb_let (va_up J_29 (z + 6) (fun _ => 0)) fun J_34 =>
  yb_let (up2R Rf_32 t0 6 (some (z + 6))) fun Rf_35 =>
  yb_let (va_up S_31 (z + 7) (0, 6)) fun S_36 =>
  yb_let (va_up Rf_35 (z + 7) (fun _ => none)) fun Rf_37 =>
  yb_let (va_up I_33 (z + 7) (fun _ => 0)) fun I_38 =>
  yb_let (va_up J_34 (z + 7) (fun _ => 0)) fun J_39 =>
  yb_let (up2R Rf_37 t0 7 (some (z + 7))) fun Rf_40 =>
  (S_36, Rf_40, I_38, J_39)
theorem fS9 {t0 z a : Nat} {S : ST} {Rf : RT} {I : IT} {J : JT} (h : a < z) : (f9_init t0 z S Rf I J).1 a = S a := by
  have hne : ∀ k, a ≠ z + k := fun k => by omega
  have hn0 : a ≠ z := by omega
  simp [f9_init, yb_let, va_up, up2R, up2, hn0, hne]
theorem fR9 {t0 z a : Nat} {S : ST} {Rf : RT} {I : IT} {J : JT} (h : a < z) (ht : a ≠ t0) : (f9_init t0 z S Rf I J).2.1 a = Rf a := by
  have hne : ∀ k, a ≠ z + k := fun k => by omega
  have hn0 : a ≠ z := by omega
  simp [f9_init, yb_let, va_up, up2R, up2, hn0, hne, ht]
theorem fI9 {t0 z a : Nat} {S : ST} {Rf : RT} {I : IT} {J : JT} (h : a < z) (ht : a ≠ t0) : (f9_init t0 z S Rf I J).2.2.1 a = I a := by
  have hne : ∀ k, a ≠ z + k := fun k => by omega
  have hn0 : a ≠ z := by omega
  simp [f9_init, yb_let, va_up, up2R, up2, hn0, hne, ht]
theorem fJ9 {t0 z a : Nat} {S : ST} {Rf : RT} {I : IT} {J : JT} (h : a < z) (ht : a ≠ t0) : (f9_init t0 z S Rf I J).2.2.2 a = J a := by
  have hne : ∀ k, a ≠ z + k := fun k => by omega
  have hn0 : a ≠ z := by omega
  simp [f9_init, yb_let, va_up, up2R, up2, hn0, hne, ht]
theorem fr9 {t0 z : Nat} {S : ST} {Rf : RT} {I : IT} {J : JT} (a : Nat) (h : a < z) : (f9_init t0 z S Rf I J).1 a = S a ∧ (a ≠ t0 → (f9_init t0 z S Rf I J).2.1 a = Rf a ∧ (f9_init t0 z S Rf I J).2.2.1 a = I a ∧ (f9_init t0 z S Rf I J).2.2.2 a = J a) := ⟨fS9 h, fun ht => ⟨fR9 h ht, fI9 h ht, fJ9 h ht⟩⟩
theorem dX9_init_0 : decode cX9_init 0 = .ok (.aload_n 0, 1) := by decide +kernel
theorem dX9_init_1 : decode cX9_init 1 = .ok (.invokespecial 3, 3) := by decide +kernel
theorem dX9_init_4 : decode cX9_init 4 = .ok (.aload_n 0, 1) := by decide +kernel
theorem dX9_init_5 : decode cX9_init 5 = .ok (.bipush 7, 2) := by decide +kernel
theorem dX9_init_7 : decode cX9_init 7 = .ok (.newarray .int, 2) := by decide +kernel
theorem dX9_init_9 : decode cX9_init 9 = .ok (.putfield 9, 3) := by decide +kernel
theorem dX9_init_12 : decode cX9_init 12 = .ok (.aload_n 0, 1) := by decide +kernel
theorem dX9_init_13 : decode cX9_init 13 = .ok (.bipush 7, 2) := by decide +kernel
theorem dX9_init_15 : decode cX9_init 15 = .ok (.newarray .int, 2) := by decide +kernel
theorem dX9_init_17 : decode cX9_init 17 = .ok (.putfield 15, 3) := by decide +kernel
theorem dX9_init_20 : decode cX9_init 20 = .ok (.aload_n 0, 1) := by decide +kernel
theorem dX9_init_21 : decode cX9_init 21 = .ok (.bipush 7, 2) := by decide +kernel
theorem dX9_init_23 : decode cX9_init 23 = .ok (.newarray .int, 2) := by decide +kernel
theorem dX9_init_25 : decode cX9_init 25 = .ok (.putfield 18, 3) := by decide +kernel
theorem dX9_init_28 : decode cX9_init 28 = .ok (.aload_n 0, 1) := by decide +kernel
theorem dX9_init_29 : decode cX9_init 29 = .ok (.bipush 7, 2) := by decide +kernel
theorem dX9_init_31 : decode cX9_init 31 = .ok (.newarray .int, 2) := by decide +kernel
theorem dX9_init_33 : decode cX9_init 33 = .ok (.putfield 21, 3) := by decide +kernel
theorem dX9_init_36 : decode cX9_init 36 = .ok (.aload_n 0, 1) := by decide +kernel
theorem dX9_init_37 : decode cX9_init 37 = .ok (.bipush 6, 2) := by decide +kernel
theorem dX9_init_39 : decode cX9_init 39 = .ok (.newarray .int, 2) := by decide +kernel
theorem dX9_init_41 : decode cX9_init 41 = .ok (.putfield 24, 3) := by decide +kernel
theorem dX9_init_44 : decode cX9_init 44 = .ok (.aload_n 0, 1) := by decide +kernel
theorem dX9_init_45 : decode cX9_init 45 = .ok (.bipush 6, 2) := by decide +kernel
theorem dX9_init_47 : decode cX9_init 47 = .ok (.newarray .int, 2) := by decide +kernel
theorem dX9_init_49 : decode cX9_init 49 = .ok (.putfield 27, 3) := by decide +kernel
theorem dX9_init_52 : decode cX9_init 52 = .ok (.aload_n 0, 1) := by decide +kernel
theorem dX9_init_53 : decode cX9_init 53 = .ok (.bipush 6, 2) := by decide +kernel
theorem dX9_init_55 : decode cX9_init 55 = .ok (.newarray .int, 2) := by decide +kernel
theorem dX9_init_57 : decode cX9_init 57 = .ok (.putfield 30, 3) := by decide +kernel
theorem dX9_init_60 : decode cX9_init 60 = .ok (.aload_n 0, 1) := by decide +kernel
theorem dX9_init_61 : decode cX9_init 61 = .ok (.bipush 6, 2) := by decide +kernel
theorem dX9_init_63 : decode cX9_init 63 = .ok (.newarray .int, 2) := by decide +kernel
theorem dX9_init_65 : decode cX9_init 65 = .ok (.putfield 33, 3) := by decide +kernel
theorem dX9_init_68 : decode cX9_init 68 = .ok (.return_, 1) := by decide +kernel
set_option maxHeartbeats 4000000 in
set_option maxRecDepth 100000 in
theorem c9_init (l : Launch) (D : va_G) (cz : Nat → ClassId) (ev : Nat × Nat × Nat) {t0 z n0 : Nat} {L : List Nat} {S : ST} {Rf : RT} {I : IT} {J : JT} {S1 : ST} {Rf1 : RT} {I1 : IT} {J1 : JT} (ha : t0 ∈ L) (hS : S t0 = (16, n0)) (hf : f9_init t0 z S Rf I J = (S1, Rf1, I1, J1)) : MA l D cz ev yX9_init cX9_init 1 1 40 8 52 [.ref t0] z L S Rf I J S1 Rf1 I1 J1 := by
  unfold f9_init at hf
  refine MA_of (by decide) rfl (Nat.le_of_ble_eq_true rfl) ?_
  intro p e s m args below meth c Q ls X hK hz hin hw hl hfin
  have X : CallFix p m c cX9_init 1 s args gw RX9 := X
  have hx := X.1
  have hb := X.2.1
  have hlt : t0 < z := hz ▸ wx_lt hw ha
  have hw : WX D cz _ (apn L z 0) S Rf s.heap I J s.heap [] := hw
  have hz : s.heap.size = z + 0 := hz
  have hl : lv_has ls 1 [(0, .ref t0)] := hl
  refine lv_aload_n hx hb dX9_init_0 rfl (lv_at hl 0 rfl) ?_
  refine W.objInit hx hb X.2.2.2.1 (X.2.2.2.2 _ tw_189) (X.2.2.2.2 _ tw_146) (X.2.2.2.2 _ tw_147) rfl (by rw [X.2.2.1]; exact hl.1) rfl dX9_init_1 (Nat.le_of_ble_eq_true rfl) (Nat.le_of_ble_eq_true rfl) ?_
  refine lv_aload_n hx hb dX9_init_4 rfl (lv_at hl 0 rfl) ?_
  refine lv_bipush (v := (7 : Int32)) hx hb dX9_init_5 (by decide) ?_
  refine x_newa0 (z := z) X hK hw hz (Or.inr (Nat.le_refl z)) tw_175 (N := 7) (by decide) rfl (by decide) (Nat.le_of_ble_eq_true rfl) (Nat.le_of_ble_eq_true rfl) dX9_init_7 (fun H hw hz => ?_)
  obtain ⟨S_1, eS_1, hf⟩ := yb_let_ex hf
  obtain ⟨Rf_2, eRf_2, hf⟩ := yb_let_ex hf
  obtain ⟨I_3, eI_3, hf⟩ := yb_let_ex hf
  obtain ⟨J_4, eJ_4, hf⟩ := yb_let_ex hf
  have hw : WX D cz _ (apn L z 1) S_1 Rf_2 s.heap I_3 J_4 H [] := yb_w5 (apn_s L z 0) eS_1 eRf_2 eI_3 eJ_4 hw
  have hz : H.size = z + 1 := hz
  have hS : S_1 t0 = (16, n0) := nS_up eS_1 (Nat.ne_of_lt hlt) hS
  refine x_putR X hK hw hz (apn_old ha 1) hS cpX9 0 (by decide) rfl rfl rfl rfl hin rfl tw_190 dX9_init_9 (fun H locs hw hz => ?_)
  obtain ⟨Rf_5, eRf_5, hf⟩ := yb_let_ex hf
  have hw := yb_wR eRf_5 hw
  refine lv_aload_n hx hb dX9_init_12 rfl (lv_at hl 0 rfl) ?_
  refine lv_bipush (v := (7 : Int32)) hx hb dX9_init_13 (by decide) ?_
  refine x_newa0 (z := (z + 1)) X hK hw hz (Or.inr (Nat.le_add_right z 1)) tw_175 (N := 7) (by decide) rfl (by decide) (Nat.le_of_ble_eq_true rfl) (Nat.le_of_ble_eq_true rfl) dX9_init_15 (fun H hw hz => ?_)
  obtain ⟨S_6, eS_6, hf⟩ := yb_let_ex hf
  obtain ⟨Rf_7, eRf_7, hf⟩ := yb_let_ex hf
  obtain ⟨I_8, eI_8, hf⟩ := yb_let_ex hf
  obtain ⟨J_9, eJ_9, hf⟩ := yb_let_ex hf
  have hw : WX D cz _ (apn L z 2) S_6 Rf_7 s.heap I_8 J_9 H locs := yb_w5 (apn_s L z 1) eS_6 eRf_7 eI_8 eJ_9 hw
  have hz : H.size = z + 2 := hz
  have hS : S_6 t0 = (16, n0) := nS_up eS_6 (Nat.ne_of_lt (Nat.lt_of_lt_of_le hlt (Nat.le_add_right z 1))) hS
  refine x_putR X hK hw hz (apn_old ha 2) hS cpX9 1 (by decide) rfl rfl rfl rfl hin rfl tw_196 dX9_init_17 (fun H locs hw hz => ?_)
  obtain ⟨Rf_10, eRf_10, hf⟩ := yb_let_ex hf
  have hw := yb_wR eRf_10 hw
  refine lv_aload_n hx hb dX9_init_20 rfl (lv_at hl 0 rfl) ?_
  refine lv_bipush (v := (7 : Int32)) hx hb dX9_init_21 (by decide) ?_
  refine x_newa0 (z := (z + 2)) X hK hw hz (Or.inr (Nat.le_add_right z 2)) tw_175 (N := 7) (by decide) rfl (by decide) (Nat.le_of_ble_eq_true rfl) (Nat.le_of_ble_eq_true rfl) dX9_init_23 (fun H hw hz => ?_)
  obtain ⟨S_11, eS_11, hf⟩ := yb_let_ex hf
  obtain ⟨Rf_12, eRf_12, hf⟩ := yb_let_ex hf
  obtain ⟨I_13, eI_13, hf⟩ := yb_let_ex hf
  obtain ⟨J_14, eJ_14, hf⟩ := yb_let_ex hf
  have hw : WX D cz _ (apn L z 3) S_11 Rf_12 s.heap I_13 J_14 H locs := yb_w5 (apn_s L z 2) eS_11 eRf_12 eI_13 eJ_14 hw
  have hz : H.size = z + 3 := hz
  have hS : S_11 t0 = (16, n0) := nS_up eS_11 (Nat.ne_of_lt (Nat.lt_of_lt_of_le hlt (Nat.le_add_right z 2))) hS
  refine x_putR X hK hw hz (apn_old ha 3) hS cpX9 2 (by decide) rfl rfl rfl rfl hin rfl tw_199 dX9_init_25 (fun H locs hw hz => ?_)
  obtain ⟨Rf_15, eRf_15, hf⟩ := yb_let_ex hf
  have hw := yb_wR eRf_15 hw
  refine lv_aload_n hx hb dX9_init_28 rfl (lv_at hl 0 rfl) ?_
  refine lv_bipush (v := (7 : Int32)) hx hb dX9_init_29 (by decide) ?_
  refine x_newa0 (z := (z + 3)) X hK hw hz (Or.inr (Nat.le_add_right z 3)) tw_175 (N := 7) (by decide) rfl (by decide) (Nat.le_of_ble_eq_true rfl) (Nat.le_of_ble_eq_true rfl) dX9_init_31 (fun H hw hz => ?_)
  obtain ⟨S_16, eS_16, hf⟩ := yb_let_ex hf
  obtain ⟨Rf_17, eRf_17, hf⟩ := yb_let_ex hf
  obtain ⟨I_18, eI_18, hf⟩ := yb_let_ex hf
  obtain ⟨J_19, eJ_19, hf⟩ := yb_let_ex hf
  have hw : WX D cz _ (apn L z 4) S_16 Rf_17 s.heap I_18 J_19 H locs := yb_w5 (apn_s L z 3) eS_16 eRf_17 eI_18 eJ_19 hw
  have hz : H.size = z + 4 := hz
  have hS : S_16 t0 = (16, n0) := nS_up eS_16 (Nat.ne_of_lt (Nat.lt_of_lt_of_le hlt (Nat.le_add_right z 3))) hS
  refine x_putR X hK hw hz (apn_old ha 4) hS cpX9 3 (by decide) rfl rfl rfl rfl hin rfl tw_203 dX9_init_33 (fun H locs hw hz => ?_)
  obtain ⟨Rf_20, eRf_20, hf⟩ := yb_let_ex hf
  have hw := yb_wR eRf_20 hw
  refine lv_aload_n hx hb dX9_init_36 rfl (lv_at hl 0 rfl) ?_
  refine lv_bipush (v := (6 : Int32)) hx hb dX9_init_37 (by decide) ?_
  refine x_newa0 (z := (z + 4)) X hK hw hz (Or.inr (Nat.le_add_right z 4)) tw_175 (N := 6) (by decide) rfl (by decide) (Nat.le_of_ble_eq_true rfl) (Nat.le_of_ble_eq_true rfl) dX9_init_39 (fun H hw hz => ?_)
  obtain ⟨S_21, eS_21, hf⟩ := yb_let_ex hf
  obtain ⟨Rf_22, eRf_22, hf⟩ := yb_let_ex hf
  obtain ⟨I_23, eI_23, hf⟩ := yb_let_ex hf
  obtain ⟨J_24, eJ_24, hf⟩ := yb_let_ex hf
  have hw : WX D cz _ (apn L z 5) S_21 Rf_22 s.heap I_23 J_24 H locs := yb_w5 (apn_s L z 4) eS_21 eRf_22 eI_23 eJ_24 hw
  have hz : H.size = z + 5 := hz
  have hS : S_21 t0 = (16, n0) := nS_up eS_21 (Nat.ne_of_lt (Nat.lt_of_lt_of_le hlt (Nat.le_add_right z 4))) hS
  refine x_putR X hK hw hz (apn_old ha 5) hS cpX9 4 (by decide) rfl rfl rfl rfl hin rfl tw_206 dX9_init_41 (fun H locs hw hz => ?_)
  obtain ⟨Rf_25, eRf_25, hf⟩ := yb_let_ex hf
  have hw := yb_wR eRf_25 hw
  refine lv_aload_n hx hb dX9_init_44 rfl (lv_at hl 0 rfl) ?_
  refine lv_bipush (v := (6 : Int32)) hx hb dX9_init_45 (by decide) ?_
  refine x_newa0 (z := (z + 5)) X hK hw hz (Or.inr (Nat.le_add_right z 5)) tw_175 (N := 6) (by decide) rfl (by decide) (Nat.le_of_ble_eq_true rfl) (Nat.le_of_ble_eq_true rfl) dX9_init_47 (fun H hw hz => ?_)
  obtain ⟨S_26, eS_26, hf⟩ := yb_let_ex hf
  obtain ⟨Rf_27, eRf_27, hf⟩ := yb_let_ex hf
  obtain ⟨I_28, eI_28, hf⟩ := yb_let_ex hf
  obtain ⟨J_29, eJ_29, hf⟩ := yb_let_ex hf
  have hw : WX D cz _ (apn L z 6) S_26 Rf_27 s.heap I_28 J_29 H locs := yb_w5 (apn_s L z 5) eS_26 eRf_27 eI_28 eJ_29 hw
  have hz : H.size = z + 6 := hz
  have hS : S_26 t0 = (16, n0) := nS_up eS_26 (Nat.ne_of_lt (Nat.lt_of_lt_of_le hlt (Nat.le_add_right z 5))) hS
  refine x_putR X hK hw hz (apn_old ha 6) hS cpX9 5 (by decide) rfl rfl rfl rfl hin rfl tw_210 dX9_init_49 (fun H locs hw hz => ?_)
  obtain ⟨Rf_30, eRf_30, hf⟩ := yb_let_ex hf
  have hw := yb_wR eRf_30 hw
  refine lv_aload_n hx hb dX9_init_52 rfl (lv_at hl 0 rfl) ?_
  refine lv_bipush (v := (6 : Int32)) hx hb dX9_init_53 (by decide) ?_
  refine x_newa0 (z := (z + 6)) X hK hw hz (Or.inr (Nat.le_add_right z 6)) tw_175 (N := 6) (by decide) rfl (by decide) (Nat.le_of_ble_eq_true rfl) (Nat.le_of_ble_eq_true rfl) dX9_init_55 (fun H hw hz => ?_)
  obtain ⟨S_31, eS_31, hf⟩ := yb_let_ex hf
  obtain ⟨Rf_32, eRf_32, hf⟩ := yb_let_ex hf
  obtain ⟨I_33, eI_33, hf⟩ := yb_let_ex hf
  obtain ⟨J_34, eJ_34, hf⟩ := yb_let_ex hf
  have hw : WX D cz _ (apn L z 7) S_31 Rf_32 s.heap I_33 J_34 H locs := yb_w5 (apn_s L z 6) eS_31 eRf_32 eI_33 eJ_34 hw
  have hz : H.size = z + 7 := hz
  have hS : S_31 t0 = (16, n0) := nS_up eS_31 (Nat.ne_of_lt (Nat.lt_of_lt_of_le hlt (Nat.le_add_right z 6))) hS
  refine x_putR X hK hw hz (apn_old ha 7) hS cpX9 6 (by decide) rfl rfl rfl rfl hin rfl tw_214 dX9_init_57 (fun H locs hw hz => ?_)
  obtain ⟨Rf_35, eRf_35, hf⟩ := yb_let_ex hf
  have hw := yb_wR eRf_35 hw
  refine lv_aload_n hx hb dX9_init_60 rfl (lv_at hl 0 rfl) ?_
  refine lv_bipush (v := (6 : Int32)) hx hb dX9_init_61 (by decide) ?_
  refine x_newa0 (z := (z + 7)) X hK hw hz (Or.inr (Nat.le_add_right z 7)) tw_175 (N := 6) (by decide) rfl (by decide) (Nat.le_of_ble_eq_true rfl) (Nat.le_of_ble_eq_true rfl) dX9_init_63 (fun H hw hz => ?_)
  obtain ⟨S_36, eS_36, hf⟩ := yb_let_ex hf
  obtain ⟨Rf_37, eRf_37, hf⟩ := yb_let_ex hf
  obtain ⟨I_38, eI_38, hf⟩ := yb_let_ex hf
  obtain ⟨J_39, eJ_39, hf⟩ := yb_let_ex hf
  have hw : WX D cz _ (apn L z 8) S_36 Rf_37 s.heap I_38 J_39 H locs := yb_w5 (apn_s L z 7) eS_36 eRf_37 eI_38 eJ_39 hw
  have hz : H.size = z + 8 := hz
  have hS : S_36 t0 = (16, n0) := nS_up eS_36 (Nat.ne_of_lt (Nat.lt_of_lt_of_le hlt (Nat.le_add_right z 7))) hS
  refine x_putR X hK hw hz (apn_old ha 8) hS cpX9 7 (by decide) rfl rfl rfl rfl hin rfl tw_219 dX9_init_65 (fun H locs hw hz => ?_)
  obtain ⟨Rf_40, eRf_40, hf⟩ := yb_let_ex hf
  have hw := yb_wR eRf_40 hw
  cases hf
  exact hfin _ _ _ _ hw hz dX9_init_68
def f8_init (t0 z : Nat) (S : ST) (Rf : RT) (I : IT) (J : JT) : ST × RT × IT × JT :=
  yb_let (va_up S z (16, 0)) fun S_1 =>
  yb_let (va_up Rf z (fun _ => none)) fun Rf_2 =>
  yb_let (va_up I z (fun _ => 0)) fun I_3 =>
  yb_let (va_up J z (fun _ => 0)) fun J_4 =>
  yb_let (f9_init z (z + 1) S_1 Rf_2 I_3 J_4) fun q_5 =>
  yb_let q_5.1 fun S_6 =>
  yb_let q_5.2.1 fun Rf_7 =>
  yb_let q_5.2.2.1 fun I_8 =>
  yb_let q_5.2.2.2 fun J_9 =>
  yb_let (up2R Rf_7 t0 0 (some z)) fun Rf_10 =>
  yb_let (va_up S_6 (z + 9) (7, 0)) fun S_11 =>
  yb_let (va_up Rf_10 (z + 9) (fun _ => none)) fun Rf_12 =>
  yb_let (va_up I_8 (z + 9) (fun _ => 0)) fun I_13 =>
  yb_let (va_up J_9 (z + 9) (fun _ => 0)) fun J_14 =>
  yb_let (f0_init (z + 9) (z + 10) S_11 Rf_12 I_13 J_14) fun q_15 =>
  yb_let q_15.1 fun S_16 =>
  yb_let q_15.2.1 fun Rf_17 =>
  yb_let q_15.2.2.1 fun I_18 =>
  yb_let q_15.2.2.2 fun J_19 =>
  yb_let (up2R Rf_17 t0 1 (some (z + 9))) fun Rf_20 =>
  yb_let (va_up S_16 (z + 19) (0, 10)) fun S_21 =>
  yb_let (va_up Rf_20 (z + 19) (fun _ => none)) fun Rf_22 =>
  yb_let (va_up I_18 (z + 19) (fun _ => 0)) fun I_23 =>
  yb_let (va_up J_19 (z + 19) (fun _ => 0)) fun J_24 =>
  yb_let (up2R Rf_22 t0 2 (some (z + 19))) fun Rf_25 =>
  yb_let (va_up S_21 (z + 20) (0, 10)) fun S_26 =>
  yb_let (va_up Rf_25 (z + 20) (fun _ => none)) fun Rf_27 =>
  yb_let (va_up I_23 (z + 20) (fun _ => 0)) fun I_28 =>
  yb_let (va_up J_24 (z + 20) (fun _ => 0)) fun J_29 =>
  yb_let (up2R Rf_27 t0 3 (some (z + 20))) fun Rf_30 =>
  yb_let (va_up S_26 (z + 21) (0, 10)) fun S_31 =>
  yb_let (va_up Rf_30 (z + 21) (fun _ => none)) fun Rf_32 =>
  yb_let (va_up I_28 (z + 21) (fun _ => 0)) fun I_33 =>
  yb_let (va_up J_29 (z + 21) (fun _ => 0)) fun J_34 =>
  yb_let (up2R Rf_32 t0 4 (some (z + 21))) fun Rf_35 =>
  yb_let (up2 I_33 t0 6 (-1 : Int32)) fun I_36 =>
  (S_31, Rf_35, I_36, J_34)
theorem fS8 {t0 z a : Nat} {S : ST} {Rf : RT} {I : IT} {J : JT} (h : a < z) : (f8_init t0 z S Rf I J).1 a = S a := by
  have hne : ∀ k, a ≠ z + k := fun k => by omega
  have hn0 : a ≠ z := by omega
  have hk1 : a < z + 1 := by omega
  have hk10 : a < z + 10 := by omega
  simp [f8_init, yb_let, va_up, up2R, up2, hn0, hne, fS0, fS9, hk1, hk10]
theorem fR8 {t0 z a : Nat} {S : ST} {Rf : RT} {I : IT} {J : JT} (h : a < z) (ht : a ≠ t0) : (f8_init t0 z S Rf I J).2.1 a = Rf a := by
  have hne : ∀ k, a ≠ z + k := fun k => by omega
  have hn0 : a ≠ z := by omega
  have hk1 : a < z + 1 := by omega
  have hk10 : a < z + 10 := by omega
  simp [f8_init, yb_let, va_up, up2R, up2, hn0, hne, ht, fR0, fR9, hk1, hk10]
theorem fI8 {t0 z a : Nat} {S : ST} {Rf : RT} {I : IT} {J : JT} (h : a < z) (ht : a ≠ t0) : (f8_init t0 z S Rf I J).2.2.1 a = I a := by
  have hne : ∀ k, a ≠ z + k := fun k => by omega
  have hn0 : a ≠ z := by omega
  have hk1 : a < z + 1 := by omega
  have hk10 : a < z + 10 := by omega
  simp [f8_init, yb_let, va_up, up2R, up2, hn0, hne, ht, fI0, fI9, hk1, hk10]
theorem fJ8 {t0 z a : Nat} {S : ST} {Rf : RT} {I : IT} {J : JT} (h : a < z) (ht : a ≠ t0) : (f8_init t0 z S Rf I J).2.2.2 a = J a := by
  have hne : ∀ k, a ≠ z + k := fun k => by omega
  have hn0 : a ≠ z := by omega
  have hk1 : a < z + 1 := by omega
  have hk10 : a < z + 10 := by omega
  simp [f8_init, yb_let, va_up, up2R, up2, hn0, hne, ht, fJ0, fJ9, hk1, hk10]
theorem fr8 {t0 z : Nat} {S : ST} {Rf : RT} {I : IT} {J : JT} (a : Nat) (h : a < z) : (f8_init t0 z S Rf I J).1 a = S a ∧ (a ≠ t0 → (f8_init t0 z S Rf I J).2.1 a = Rf a ∧ (f8_init t0 z S Rf I J).2.2.1 a = I a ∧ (f8_init t0 z S Rf I J).2.2.2 a = J a) := ⟨fS8 h, fun ht => ⟨fR8 h ht, fI8 h ht, fJ8 h ht⟩⟩
theorem nw_8_11 : (Cond.instanceMethod yX9_init ∈ gw ∧ Cond.initialized yX9_init.cls ∈ gw ∧ Cond.code yX9_init cX9_init 1 none ∈ gw) ∧ yX9_init.name = "<init>" ∧ (yX9_init.cls ≠ "java/lang/invoke/MethodHandle" ∧ yX9_init.cls ≠ "java/lang/invoke/VarHandle" ∧ (parseMethodDescriptor yX9_init.desc).map (fun d => d.parameters.length) = some 0) := ⟨⟨tw_187, tw_122, tw_188⟩, rfl, by decide +kernel⟩
theorem nw_8_20 : (Cond.instanceMethod yX0_init ∈ gw ∧ Cond.initialized yX0_init.cls ∈ gw ∧ Cond.code yX0_init cX0_init 1 none ∈ gw) ∧ yX0_init.name = "<init>" ∧ (yX0_init.cls ≠ "java/lang/invoke/MethodHandle" ∧ yX0_init.cls ≠ "java/lang/invoke/VarHandle" ∧ (parseMethodDescriptor yX0_init.desc).map (fun d => d.parameters.length) = some 0) := ⟨⟨tw_283, tw_123, tw_284⟩, rfl, by decide +kernel⟩
theorem dX8_init_0 : decode cX8_init 0 = .ok (.aload_n 0, 1) := by decide +kernel
theorem dX8_init_1 : decode cX8_init 1 = .ok (.invokespecial 3, 3) := by decide +kernel
theorem dX8_init_4 : decode cX8_init 4 = .ok (.aload_n 0, 1) := by decide +kernel
theorem dX8_init_5 : decode cX8_init 5 = .ok (.new 9, 3) := by decide +kernel
theorem dX8_init_8 : decode cX8_init 8 = .ok (.dup, 1) := by decide +kernel
theorem dX8_init_9 : decode cX8_init 9 = .ok (.invokespecial 11, 3) := by decide +kernel
theorem dX8_init_12 : decode cX8_init 12 = .ok (.putfield 12, 3) := by decide +kernel
theorem dX8_init_15 : decode cX8_init 15 = .ok (.aload_n 0, 1) := by decide +kernel
theorem dX8_init_16 : decode cX8_init 16 = .ok (.new 18, 3) := by decide +kernel
theorem dX8_init_19 : decode cX8_init 19 = .ok (.dup, 1) := by decide +kernel
theorem dX8_init_20 : decode cX8_init 20 = .ok (.invokespecial 20, 3) := by decide +kernel
theorem dX8_init_23 : decode cX8_init 23 = .ok (.putfield 21, 3) := by decide +kernel
theorem dX8_init_26 : decode cX8_init 26 = .ok (.aload_n 0, 1) := by decide +kernel
theorem dX8_init_27 : decode cX8_init 27 = .ok (.bipush 10, 2) := by decide +kernel
theorem dX8_init_29 : decode cX8_init 29 = .ok (.newarray .int, 2) := by decide +kernel
theorem dX8_init_31 : decode cX8_init 31 = .ok (.putfield 25, 3) := by decide +kernel
theorem dX8_init_34 : decode cX8_init 34 = .ok (.aload_n 0, 1) := by decide +kernel
theorem dX8_init_35 : decode cX8_init 35 = .ok (.bipush 10, 2) := by decide +kernel
theorem dX8_init_37 : decode cX8_init 37 = .ok (.newarray .int, 2) := by decide +kernel
theorem dX8_init_39 : decode cX8_init 39 = .ok (.putfield 29, 3) := by decide +kernel
theorem dX8_init_42 : decode cX8_init 42 = .ok (.aload_n 0, 1) := by decide +kernel
theorem dX8_init_43 : decode cX8_init 43 = .ok (.bipush 10, 2) := by decide +kernel
theorem dX8_init_45 : decode cX8_init 45 = .ok (.newarray .int, 2) := by decide +kernel
theorem dX8_init_47 : decode cX8_init 47 = .ok (.putfield 32, 3) := by decide +kernel
theorem dX8_init_50 : decode cX8_init 50 = .ok (.aload_n 0, 1) := by decide +kernel
theorem dX8_init_51 : decode cX8_init 51 = .ok (.iconst (-1), 1) := by decide +kernel
theorem dX8_init_52 : decode cX8_init 52 = .ok (.putfield 35, 3) := by decide +kernel
theorem dX8_init_55 : decode cX8_init 55 = .ok (.return_, 1) := by decide +kernel
set_option maxHeartbeats 4000000 in
set_option maxRecDepth 100000 in
theorem c8_init (l : Launch) (D : va_G) (cz : Nat → ClassId) (ev : Nat × Nat × Nat) {t0 z n0 : Nat} {L : List Nat} {S : ST} {Rf : RT} {I : IT} {J : JT} {S1 : ST} {Rf1 : RT} {I1 : IT} {J1 : JT} (ha : t0 ∈ L) (hS : S t0 = (15, n0)) (hf : f8_init t0 z S Rf I J = (S1, Rf1, I1, J1)) : MA l D cz ev yX8_init cX8_init 1 2 60 22 163 [.ref t0] z L S Rf I J S1 Rf1 I1 J1 := by
  unfold f8_init at hf
  refine MA_of (by decide) rfl (Nat.le_of_ble_eq_true rfl) ?_
  intro p e s m args below meth c Q ls X hK hz hin hw hl hfin
  have X : CallFix p m c cX8_init 1 s args gw RX8 := X
  have hx := X.1
  have hb := X.2.1
  have hlt : t0 < z := hz ▸ wx_lt hw ha
  have hw : WX D cz _ (apn L z 0) S Rf s.heap I J s.heap [] := hw
  have hz : s.heap.size = z + 0 := hz
  have hl : lv_has ls 1 [(0, .ref t0)] := hl
  refine lv_aload_n hx hb dX8_init_0 rfl (lv_at hl 0 rfl) ?_
  refine W.objInit hx hb X.2.2.2.1 (X.2.2.2.2 _ tw_183) (X.2.2.2.2 _ tw_146) (X.2.2.2.2 _ tw_147) rfl (by rw [X.2.2.1]; exact hl.1) rfl dX8_init_1 (Nat.le_of_ble_eq_true rfl) (Nat.le_of_ble_eq_true rfl) ?_
  refine lv_aload_n hx hb dX8_init_4 rfl (lv_at hl 0 rfl) ?_
  refine x_new (z := z) X hK hw hz (Or.inr (Nat.le_refl z)) cpX9 dfX9 tw_184 tw_185 tw_122 (Nat.le_of_ble_eq_true rfl) (Nat.le_of_ble_eq_true rfl) dX8_init_5 (fun H hw hz => ?_)
  obtain ⟨S_1, eS_1, hf⟩ := yb_let_ex hf
  obtain ⟨Rf_2, eRf_2, hf⟩ := yb_let_ex hf
  obtain ⟨I_3, eI_3, hf⟩ := yb_let_ex hf
  obtain ⟨J_4, eJ_4, hf⟩ := yb_let_ex hf
  have hw : WX D cz _ (apn L z 1) S_1 Rf_2 s.heap I_3 J_4 H [] := yb_w5 (apn_s L z 0) eS_1 eRf_2 eI_3 eJ_4 hw
  have hz : H.size = z + 1 := hz
  have hN0 : S_1 z = (16, 0) := nS_me eS_1
  have hS : S_1 t0 = (15, n0) := nS_up eS_1 (Nat.ne_of_lt hlt) hS
  refine lv_dup hx hb dX8_init_8 rfl ?_
  obtain ⟨q_5, eq_5, hf⟩ := yb_let_ex hf
  obtain ⟨S_6, eS_6, hf⟩ := yb_let_ex hf
  obtain ⟨Rf_7, eRf_7, hf⟩ := yb_let_ex hf
  obtain ⟨I_8, eI_8, hf⟩ := yb_let_ex hf
  obtain ⟨J_9, eJ_9, hf⟩ := yb_let_ex hf
  refine x_ctorN (z := (z + 1)) X hK hw hz (fun q hq => Or.inr (Nat.le_trans (Nat.le_add_right z 1) hq)) (c9_init l D cz ev (show z ∈ apn L z 1 from apn_new (j := 0) 1 (by decide)) hN0 eq_5.symm) ⟨hK.2.1.1.2.1, nw_8_11⟩ ⟨Nat.le_of_ble_eq_true rfl, Nat.le_of_ble_eq_true rfl⟩ rfl rfl (Nat.le_of_ble_eq_true rfl) hl.1 ⟨Nat.le_of_ble_eq_true rfl, Nat.le_of_ble_eq_true rfl⟩ dX8_init_9 (fun H locs hw hz => ?_)
  have hw : WX D cz _ (apn L z 9) S_6 Rf_7 s.heap I_8 J_9 H locs := yb_w5 (apn_apn (L := L) (z := z) (j := 1) 8).symm eS_6 eRf_7 eI_8 eJ_9 hw
  have hz : H.size = z + 9 := hz
  have hS : S_6 t0 = (15, n0) := nS_ca eS_6 eq_5 (fr9 _ (Nat.lt_of_lt_of_le hlt (Nat.le_add_right z 1))).1 hS
  refine x_putR X hK hw hz (apn_old ha 9) hS cpX8 0 (by decide) rfl rfl rfl rfl hin rfl tw_342 dX8_init_12 (fun H locs hw hz => ?_)
  obtain ⟨Rf_10, eRf_10, hf⟩ := yb_let_ex hf
  have hw := yb_wR eRf_10 hw
  refine lv_aload_n hx hb dX8_init_15 rfl (lv_at hl 0 rfl) ?_
  refine x_new (z := (z + 9)) X hK hw hz (Or.inr (Nat.le_add_right z 9)) cpX0 dfX0 tw_280 tw_281 tw_123 (Nat.le_of_ble_eq_true rfl) (Nat.le_of_ble_eq_true rfl) dX8_init_16 (fun H hw hz => ?_)
  obtain ⟨S_11, eS_11, hf⟩ := yb_let_ex hf
  obtain ⟨Rf_12, eRf_12, hf⟩ := yb_let_ex hf
  obtain ⟨I_13, eI_13, hf⟩ := yb_let_ex hf
  obtain ⟨J_14, eJ_14, hf⟩ := yb_let_ex hf
  have hw : WX D cz _ (apn L z 10) S_11 Rf_12 s.heap I_13 J_14 H locs := yb_w5 (apn_s L z 9) eS_11 eRf_12 eI_13 eJ_14 hw
  have hz : H.size = z + 10 := hz
  have hN9 : S_11 (z + 9) = (7, 0) := nS_me eS_11
  have hS : S_11 t0 = (15, n0) := nS_up eS_11 (Nat.ne_of_lt (Nat.lt_of_lt_of_le hlt (Nat.le_add_right z 9))) hS
  refine lv_dup hx hb dX8_init_19 rfl ?_
  obtain ⟨q_15, eq_15, hf⟩ := yb_let_ex hf
  obtain ⟨S_16, eS_16, hf⟩ := yb_let_ex hf
  obtain ⟨Rf_17, eRf_17, hf⟩ := yb_let_ex hf
  obtain ⟨I_18, eI_18, hf⟩ := yb_let_ex hf
  obtain ⟨J_19, eJ_19, hf⟩ := yb_let_ex hf
  refine x_ctorN (z := (z + 10)) X hK hw hz (fun q hq => Or.inr (Nat.le_trans (Nat.le_add_right z 10) hq)) (c0_init l D cz ev (show (z + 9) ∈ apn L z 10 from apn_new (j := 9) 10 (by decide)) hN9 eq_15.symm) ⟨hK.2.1.1.2.2.1, nw_8_20⟩ ⟨Nat.le_of_ble_eq_true rfl, Nat.le_of_ble_eq_true rfl⟩ rfl rfl (Nat.le_of_ble_eq_true rfl) hl.1 ⟨Nat.le_of_ble_eq_true rfl, Nat.le_of_ble_eq_true rfl⟩ dX8_init_20 (fun H locs hw hz => ?_)
  have hw : WX D cz _ (apn L z 19) S_16 Rf_17 s.heap I_18 J_19 H locs := yb_w5 (apn_apn (L := L) (z := z) (j := 10) 9).symm eS_16 eRf_17 eI_18 eJ_19 hw
  have hz : H.size = z + 19 := hz
  have hS : S_16 t0 = (15, n0) := nS_ca eS_16 eq_15 (fr0 _ (Nat.lt_of_lt_of_le hlt (Nat.le_add_right z 10))).1 hS
  refine x_putR X hK hw hz (apn_old ha 19) hS cpX8 1 (by decide) rfl rfl rfl rfl hin rfl tw_347 dX8_init_23 (fun H locs hw hz => ?_)
  obtain ⟨Rf_20, eRf_20, hf⟩ := yb_let_ex hf
  have hw := yb_wR eRf_20 hw
  refine lv_aload_n hx hb dX8_init_26 rfl (lv_at hl 0 rfl) ?_
  refine lv_bipush (v := (10 : Int32)) hx hb dX8_init_27 (by decide) ?_
  refine x_newa0 (z := (z + 19)) X hK hw hz (Or.inr (Nat.le_add_right z 19)) tw_175 (N := 10) (by decide) rfl (by decide) (Nat.le_of_ble_eq_true rfl) (Nat.le_of_ble_eq_true rfl) dX8_init_29 (fun H hw hz => ?_)
  obtain ⟨S_21, eS_21, hf⟩ := yb_let_ex hf
  obtain ⟨Rf_22, eRf_22, hf⟩ := yb_let_ex hf
  obtain ⟨I_23, eI_23, hf⟩ := yb_let_ex hf
  obtain ⟨J_24, eJ_24, hf⟩ := yb_let_ex hf
  have hw : WX D cz _ (apn L z 20) S_21 Rf_22 s.heap I_23 J_24 H locs := yb_w5 (apn_s L z 19) eS_21 eRf_22 eI_23 eJ_24 hw
  have hz : H.size = z + 20 := hz
  have hS : S_21 t0 = (15, n0) := nS_up eS_21 (Nat.ne_of_lt (Nat.lt_of_lt_of_le hlt (Nat.le_add_right z 19))) hS
  refine x_putR X hK hw hz (apn_old ha 20) hS cpX8 2 (by decide) rfl rfl rfl rfl hin rfl tw_352 dX8_init_31 (fun H locs hw hz => ?_)
  obtain ⟨Rf_25, eRf_25, hf⟩ := yb_let_ex hf
  have hw := yb_wR eRf_25 hw
  refine lv_aload_n hx hb dX8_init_34 rfl (lv_at hl 0 rfl) ?_
  refine lv_bipush (v := (10 : Int32)) hx hb dX8_init_35 (by decide) ?_
  refine x_newa0 (z := (z + 20)) X hK hw hz (Or.inr (Nat.le_add_right z 20)) tw_175 (N := 10) (by decide) rfl (by decide) (Nat.le_of_ble_eq_true rfl) (Nat.le_of_ble_eq_true rfl) dX8_init_37 (fun H hw hz => ?_)
  obtain ⟨S_26, eS_26, hf⟩ := yb_let_ex hf
  obtain ⟨Rf_27, eRf_27, hf⟩ := yb_let_ex hf
  obtain ⟨I_28, eI_28, hf⟩ := yb_let_ex hf
  obtain ⟨J_29, eJ_29, hf⟩ := yb_let_ex hf
  have hw : WX D cz _ (apn L z 21) S_26 Rf_27 s.heap I_28 J_29 H locs := yb_w5 (apn_s L z 20) eS_26 eRf_27 eI_28 eJ_29 hw
  have hz : H.size = z + 21 := hz
  have hS : S_26 t0 = (15, n0) := nS_up eS_26 (Nat.ne_of_lt (Nat.lt_of_lt_of_le hlt (Nat.le_add_right z 20))) hS
  refine x_putR X hK hw hz (apn_old ha 21) hS cpX8 3 (by decide) rfl rfl rfl rfl hin rfl tw_353 dX8_init_39 (fun H locs hw hz => ?_)
  obtain ⟨Rf_30, eRf_30, hf⟩ := yb_let_ex hf
  have hw := yb_wR eRf_30 hw
  refine lv_aload_n hx hb dX8_init_42 rfl (lv_at hl 0 rfl) ?_
  refine lv_bipush (v := (10 : Int32)) hx hb dX8_init_43 (by decide) ?_
  refine x_newa0 (z := (z + 21)) X hK hw hz (Or.inr (Nat.le_add_right z 21)) tw_175 (N := 10) (by decide) rfl (by decide) (Nat.le_of_ble_eq_true rfl) (Nat.le_of_ble_eq_true rfl) dX8_init_45 (fun H hw hz => ?_)
  obtain ⟨S_31, eS_31, hf⟩ := yb_let_ex hf
  obtain ⟨Rf_32, eRf_32, hf⟩ := yb_let_ex hf
  obtain ⟨I_33, eI_33, hf⟩ := yb_let_ex hf
  obtain ⟨J_34, eJ_34, hf⟩ := yb_let_ex hf
  have hw : WX D cz _ (apn L z 22) S_31 Rf_32 s.heap I_33 J_34 H locs := yb_w5 (apn_s L z 21) eS_31 eRf_32 eI_33 eJ_34 hw
  have hz : H.size = z + 22 := hz
  have hS : S_31 t0 = (15, n0) := nS_up eS_31 (Nat.ne_of_lt (Nat.lt_of_lt_of_le hlt (Nat.le_add_right z 21))) hS
  refine x_putR X hK hw hz (apn_old ha 22) hS cpX8 4 (by decide) rfl rfl rfl rfl hin rfl tw_354 dX8_init_47 (fun H locs hw hz => ?_)
  obtain ⟨Rf_35, eRf_35, hf⟩ := yb_let_ex hf
  have hw := yb_wR eRf_35 hw
  refine lv_aload_n hx hb dX8_init_50 rfl (lv_at hl 0 rfl) ?_
  refine lv_iconst (v := (-1 : Int32)) hx hb dX8_init_51 (by decide) ?_
  refine x_putIz X hK hw hz (apn_old ha 22) hS cpX8 6 (by decide) rfl rfl rfl tw_357 dX8_init_52 (fun H locs hw hz => ?_)
  obtain ⟨I_36, eI_36, hf⟩ := yb_let_ex hf
  have hw := yb_wI eI_36 hw
  cases hf
  exact hfin _ _ _ _ hw hz dX8_init_55
def f2_init (t0 z : Nat) (S : ST) (Rf : RT) (I : IT) (J : JT) : ST × RT × IT × JT :=
  yb_let (va_up S z (6, 20)) fun S_1 =>
  yb_let (va_up Rf z (fun _ => none)) fun Rf_2 =>
  yb_let (va_up I z (fun _ => 0)) fun I_3 =>
  yb_let (va_up J z (fun _ => 0)) fun J_4 =>
  yb_let (up2R Rf_2 t0 0 (some z)) fun Rf_5 =>
  (S_1, Rf_5, I_3, J_4)
theorem fS2 {t0 z a : Nat} {S : ST} {Rf : RT} {I : IT} {J : JT} (h : a < z) : (f2_init t0 z S Rf I J).1 a = S a := by
  have hne : ∀ k, a ≠ z + k := fun k => by omega
  have hn0 : a ≠ z := by omega
  simp [f2_init, yb_let, va_up, up2R, up2, hn0, hne]
theorem fR2 {t0 z a : Nat} {S : ST} {Rf : RT} {I : IT} {J : JT} (h : a < z) (ht : a ≠ t0) : (f2_init t0 z S Rf I J).2.1 a = Rf a := by
  have hne : ∀ k, a ≠ z + k := fun k => by omega
  have hn0 : a ≠ z := by omega
  simp [f2_init, yb_let, va_up, up2R, up2, hn0, hne, ht]
theorem fI2 {t0 z a : Nat} {S : ST} {Rf : RT} {I : IT} {J : JT} (h : a < z) (ht : a ≠ t0) : (f2_init t0 z S Rf I J).2.2.1 a = I a := by
  have hne : ∀ k, a ≠ z + k := fun k => by omega
  have hn0 : a ≠ z := by omega
  simp [f2_init, yb_let, va_up, up2R, up2, hn0, hne, ht]
theorem fJ2 {t0 z a : Nat} {S : ST} {Rf : RT} {I : IT} {J : JT} (h : a < z) (ht : a ≠ t0) : (f2_init t0 z S Rf I J).2.2.2 a = J a := by
  have hne : ∀ k, a ≠ z + k := fun k => by omega
  have hn0 : a ≠ z := by omega
  simp [f2_init, yb_let, va_up, up2R, up2, hn0, hne, ht]
theorem fr2 {t0 z : Nat} {S : ST} {Rf : RT} {I : IT} {J : JT} (a : Nat) (h : a < z) : (f2_init t0 z S Rf I J).1 a = S a ∧ (a ≠ t0 → (f2_init t0 z S Rf I J).2.1 a = Rf a ∧ (f2_init t0 z S Rf I J).2.2.1 a = I a ∧ (f2_init t0 z S Rf I J).2.2.2 a = J a) := ⟨fS2 h, fun ht => ⟨fR2 h ht, fI2 h ht, fJ2 h ht⟩⟩
theorem dX2_init_0 : decode cX2_init 0 = .ok (.aload_n 0, 1) := by decide +kernel
theorem dX2_init_1 : decode cX2_init 1 = .ok (.invokespecial 3, 3) := by decide +kernel
theorem dX2_init_4 : decode cX2_init 4 = .ok (.aload_n 0, 1) := by decide +kernel
theorem dX2_init_5 : decode cX2_init 5 = .ok (.bipush 20, 2) := by decide +kernel
theorem dX2_init_7 : decode cX2_init 7 = .ok (.anewarray 9, 3) := by decide +kernel
theorem dX2_init_10 : decode cX2_init 10 = .ok (.putfield 11, 3) := by decide +kernel
theorem dX2_init_13 : decode cX2_init 13 = .ok (.return_, 1) := by decide +kernel
set_option maxHeartbeats 4000000 in
set_option maxRecDepth 100000 in
theorem c2_init (l : Launch) (D : va_G) (cz : Nat → ClassId) (ev : Nat × Nat × Nat) {t0 z n0 : Nat} {L : List Nat} {S : ST} {Rf : RT} {I : IT} {J : JT} {S1 : ST} {Rf1 : RT} {I1 : IT} {J1 : JT} (ha : t0 ∈ L) (hS : S t0 = (9, n0)) (hf : f2_init t0 z S Rf I J = (S1, Rf1, I1, J1)) : MA l D cz ev yX2_init cX2_init 1 1 40 1 20 [.ref t0] z L S Rf I J S1 Rf1 I1 J1 := by
  unfold f2_init at hf
  refine MA_of (by decide) rfl (Nat.le_of_ble_eq_true rfl) ?_
  intro p e s m args below meth c Q ls X hK hz hin hw hl hfin
  have X : CallFix p m c cX2_init 1 s args gw RX2 := X
  have hx := X.1
  have hb := X.2.1
  have hlt : t0 < z := hz ▸ wx_lt hw ha
  have hw : WX D cz _ (apn L z 0) S Rf s.heap I J s.heap [] := hw
  have hz : s.heap.size = z + 0 := hz
  have hl : lv_has ls 1 [(0, .ref t0)] := hl
  refine lv_aload_n hx hb dX2_init_0 rfl (lv_at hl 0 rfl) ?_
  refine W.objInit hx hb X.2.2.2.1 (X.2.2.2.2 _ tw_385) (X.2.2.2.2 _ tw_146) (X.2.2.2.2 _ tw_147) rfl (by rw [X.2.2.1]; exact hl.1) rfl dX2_init_1 (Nat.le_of_ble_eq_true rfl) (Nat.le_of_ble_eq_true rfl) ?_
  refine lv_aload_n hx hb dX2_init_4 rfl (lv_at hl 0 rfl) ?_
  refine lv_bipush (v := (20 : Int32)) hx hb dX2_init_5 (by decide) ?_
  refine x_anew6 (z := z) X hK hw hz (Or.inr (Nat.le_refl z)) tw_386 (N := 20) (by decide) rfl (by decide) (Nat.le_of_ble_eq_true rfl) (Nat.le_of_ble_eq_true rfl) dX2_init_7 (fun H hw hz => ?_)
  obtain ⟨S_1, eS_1, hf⟩ := yb_let_ex hf
  obtain ⟨Rf_2, eRf_2, hf⟩ := yb_let_ex hf
  obtain ⟨I_3, eI_3, hf⟩ := yb_let_ex hf
  obtain ⟨J_4, eJ_4, hf⟩ := yb_let_ex hf
  have hw : WX D cz _ (apn L z 1) S_1 Rf_2 s.heap I_3 J_4 H [] := yb_w5 (apn_s L z 0) eS_1 eRf_2 eI_3 eJ_4 hw
  have hz : H.size = z + 1 := hz
  have hS : S_1 t0 = (9, n0) := nS_up eS_1 (Nat.ne_of_lt hlt) hS
  refine x_putR X hK hw hz (apn_old ha 1) hS cpX2 0 (by decide) rfl rfl rfl rfl hin rfl tw_388 dX2_init_10 (fun H locs hw hz => ?_)
  obtain ⟨Rf_5, eRf_5, hf⟩ := yb_let_ex hf
  have hw := yb_wR eRf_5 hw
  cases hf
  exact hfin _ _ _ _ hw hz dX2_init_13
def f1_init (t0 z : Nat) (x1 x2 : Nat) (S : ST) (Rf : RT) (I : IT) (J : JT) : ST × RT × IT × JT :=
  yb_let (va_up S z (3, 12)) fun S_1 =>
  yb_let (va_up Rf z (fun _ => none)) fun Rf_2 =>
  yb_let (va_up I z (fun _ => 0)) fun I_3 =>
  yb_let (va_up J z (fun _ => 0)) fun J_4 =>
  yb_let (up2R Rf_2 t0 2 (some z)) fun Rf_5 =>
  yb_let (va_up S_1 (z + 1) (3, 64)) fun S_6 =>
  yb_let (va_up Rf_5 (z + 1) (fun _ => none)) fun Rf_7 =>
  yb_let (va_up I_3 (z + 1) (fun _ => 0)) fun I_8 =>
  yb_let (va_up J_4 (z + 1) (fun _ => 0)) fun J_9 =>
  yb_let (up2R Rf_7 t0 3 (some (z + 1))) fun Rf_10 =>
  yb_let (up2R Rf_10 t0 0 (some x1)) fun Rf_11 =>
  yb_let (up2R Rf_11 t0 1 (some x2)) fun Rf_12 =>
  (S_6, Rf_12, I_8, J_9)
theorem fS1 {t0 z x1 x2 a : Nat} {S : ST} {Rf : RT} {I : IT} {J : JT} (h : a < z) : (f1_init t0 z x1 x2 S Rf I J).1 a = S a := by
  have hne : ∀ k, a ≠ z + k := fun k => by omega
  have hn0 : a ≠ z := by omega
  simp [f1_init, yb_let, va_up, up2R, up2, hn0, hne]
theorem fR1 {t0 z x1 x2 a : Nat} {S : ST} {Rf : RT} {I : IT} {J : JT} (h : a < z) (ht : a ≠ t0) : (f1_init t0 z x1 x2 S Rf I J).2.1 a = Rf a := by
  have hne : ∀ k, a ≠ z + k := fun k => by omega
  have hn0 : a ≠ z := by omega
  simp [f1_init, yb_let, va_up, up2R, up2, hn0, hne, ht]
theorem fI1 {t0 z x1 x2 a : Nat} {S : ST} {Rf : RT} {I : IT} {J : JT} (h : a < z) (ht : a ≠ t0) : (f1_init t0 z x1 x2 S Rf I J).2.2.1 a = I a := by
  have hne : ∀ k, a ≠ z + k := fun k => by omega
  have hn0 : a ≠ z := by omega
  simp [f1_init, yb_let, va_up, up2R, up2, hn0, hne, ht]
theorem fJ1 {t0 z x1 x2 a : Nat} {S : ST} {Rf : RT} {I : IT} {J : JT} (h : a < z) (ht : a ≠ t0) : (f1_init t0 z x1 x2 S Rf I J).2.2.2 a = J a := by
  have hne : ∀ k, a ≠ z + k := fun k => by omega
  have hn0 : a ≠ z := by omega
  simp [f1_init, yb_let, va_up, up2R, up2, hn0, hne, ht]
theorem fr1 {t0 z x1 x2 : Nat} {S : ST} {Rf : RT} {I : IT} {J : JT} (a : Nat) (h : a < z) : (f1_init t0 z x1 x2 S Rf I J).1 a = S a ∧ (a ≠ t0 → (f1_init t0 z x1 x2 S Rf I J).2.1 a = Rf a ∧ (f1_init t0 z x1 x2 S Rf I J).2.2.1 a = I a ∧ (f1_init t0 z x1 x2 S Rf I J).2.2.2 a = J a) := ⟨fS1 h, fun ht => ⟨fR1 h ht, fI1 h ht, fJ1 h ht⟩⟩
theorem dX1_init_0 : decode cX1_init 0 = .ok (.aload_n 0, 1) := by decide +kernel
theorem dX1_init_1 : decode cX1_init 1 = .ok (.invokespecial 3, 3) := by decide +kernel
theorem dX1_init_4 : decode cX1_init 4 = .ok (.aload_n 0, 1) := by decide +kernel
theorem dX1_init_5 : decode cX1_init 5 = .ok (.bipush 12, 2) := by decide +kernel
theorem dX1_init_7 : decode cX1_init 7 = .ok (.newarray .long, 2) := by decide +kernel
theorem dX1_init_9 : decode cX1_init 9 = .ok (.putfield 9, 3) := by decide +kernel
theorem dX1_init_12 : decode cX1_init 12 = .ok (.aload_n 0, 1) := by decide +kernel
theorem dX1_init_13 : decode cX1_init 13 = .ok (.bipush 64, 2) := by decide +kernel
theorem dX1_init_15 : decode cX1_init 15 = .ok (.newarray .long, 2) := by decide +kernel
theorem dX1_init_17 : decode cX1_init 17 = .ok (.putfield 15, 3) := by decide +kernel
theorem dX1_init_20 : decode cX1_init 20 = .ok (.aload_n 0, 1) := by decide +kernel
theorem dX1_init_21 : decode cX1_init 21 = .ok (.aload_n 1, 1) := by decide +kernel
theorem dX1_init_22 : decode cX1_init 22 = .ok (.putfield 18, 3) := by decide +kernel
theorem dX1_init_25 : decode cX1_init 25 = .ok (.aload_n 0, 1) := by decide +kernel
theorem dX1_init_26 : decode cX1_init 26 = .ok (.aload_n 2, 1) := by decide +kernel
theorem dX1_init_27 : decode cX1_init 27 = .ok (.putfield 22, 3) := by decide +kernel
theorem dX1_init_30 : decode cX1_init 30 = .ok (.return_, 1) := by decide +kernel
set_option maxHeartbeats 4000000 in
set_option maxRecDepth 100000 in
theorem c1_init (l : Launch) (D : va_G) (cz : Nat → ClassId) (ev : Nat × Nat × Nat) {t0 z n0 x1 x2 : Nat} {L : List Nat} {S : ST} {Rf : RT} {I : IT} {J : JT} {S1 : ST} {Rf1 : RT} {I1 : IT} {J1 : JT} (ha : t0 ∈ L) (hS : S t0 = (8, n0)) (hf : f1_init t0 z x1 x2 S Rf I J = (S1, Rf1, I1, J1)) : MA l D cz ev yX1_init cX1_init 3 1 40 2 76 [.ref t0, .ref x1, .ref x2] z L S Rf I J S1 Rf1 I1 J1 := by
  unfold f1_init at hf
  refine MA_of (by decide) rfl (Nat.le_of_ble_eq_true rfl) ?_
  intro p e s m args below meth c Q ls X hK hz hin hw hl hfin
  have X : CallFix p m c cX1_init 3 s args gw RX1 := X
  have hx := X.1
  have hb := X.2.1
  have hlt : t0 < z := hz ▸ wx_lt hw ha
  have hw : WX D cz _ (apn L z 0) S Rf s.heap I J s.heap [] := hw
  have hz : s.heap.size = z + 0 := hz
  have hl : lv_has ls 3 [(0, .ref t0), (1, .ref x1), (2, .ref x2)] := hl
  refine lv_aload_n hx hb dX1_init_0 rfl (lv_at hl 0 rfl) ?_
  refine W.objInit hx hb X.2.2.2.1 (X.2.2.2.2 _ tw_404) (X.2.2.2.2 _ tw_146) (X.2.2.2.2 _ tw_147) rfl (by rw [X.2.2.1]; exact hl.1) rfl dX1_init_1 (Nat.le_of_ble_eq_true rfl) (Nat.le_of_ble_eq_true rfl) ?_
  refine lv_aload_n hx hb dX1_init_4 rfl (lv_at hl 0 rfl) ?_
  refine lv_bipush (v := (12 : Int32)) hx hb dX1_init_5 (by decide) ?_
  refine x_newa3 (z := z) X hK hw hz (Or.inr (Nat.le_refl z)) tw_420 (N := 12) (by decide) rfl (by decide) (Nat.le_of_ble_eq_true rfl) (Nat.le_of_ble_eq_true rfl) dX1_init_7 (fun H hw hz => ?_)
  obtain ⟨S_1, eS_1, hf⟩ := yb_let_ex hf
  obtain ⟨Rf_2, eRf_2, hf⟩ := yb_let_ex hf
  obtain ⟨I_3, eI_3, hf⟩ := yb_let_ex hf
  obtain ⟨J_4, eJ_4, hf⟩ := yb_let_ex hf
  have hw : WX D cz _ (apn L z 1) S_1 Rf_2 s.heap I_3 J_4 H [] := yb_w5 (apn_s L z 0) eS_1 eRf_2 eI_3 eJ_4 hw
  have hz : H.size = z + 1 := hz
  have hS : S_1 t0 = (8, n0) := nS_up eS_1 (Nat.ne_of_lt hlt) hS
  refine x_putR X hK hw hz (apn_old ha 1) hS cpX1 2 (by decide) rfl rfl rfl rfl hin rfl tw_409 dX1_init_9 (fun H locs hw hz => ?_)
  obtain ⟨Rf_5, eRf_5, hf⟩ := yb_let_ex hf
  have hw := yb_wR eRf_5 hw
  refine lv_aload_n hx hb dX1_init_12 rfl (lv_at hl 0 rfl) ?_
  refine lv_bipush (v := (64 : Int32)) hx hb dX1_init_13 (by decide) ?_
  refine x_newa3 (z := (z + 1)) X hK hw hz (Or.inr (Nat.le_add_right z 1)) tw_420 (N := 64) (by decide) rfl (by decide) (Nat.le_of_ble_eq_true rfl) (Nat.le_of_ble_eq_true rfl) dX1_init_15 (fun H hw hz => ?_)
  obtain ⟨S_6, eS_6, hf⟩ := yb_let_ex hf
  obtain ⟨Rf_7, eRf_7, hf⟩ := yb_let_ex hf
  obtain ⟨I_8, eI_8, hf⟩ := yb_let_ex hf
  obtain ⟨J_9, eJ_9, hf⟩ := yb_let_ex hf
  have hw : WX D cz _ (apn L z 2) S_6 Rf_7 s.heap I_8 J_9 H locs := yb_w5 (apn_s L z 1) eS_6 eRf_7 eI_8 eJ_9 hw
  have hz : H.size = z + 2 := hz
  have hS : S_6 t0 = (8, n0) := nS_up eS_6 (Nat.ne_of_lt (Nat.lt_of_lt_of_le hlt (Nat.le_add_right z 1))) hS
  refine x_putR X hK hw hz (apn_old ha 2) hS cpX1 3 (by decide) rfl rfl rfl rfl hin rfl tw_410 dX1_init_17 (fun H locs hw hz => ?_)
  obtain ⟨Rf_10, eRf_10, hf⟩ := yb_let_ex hf
  have hw := yb_wR eRf_10 hw
  refine lv_aload_n hx hb dX1_init_20 rfl (lv_at hl 0 rfl) ?_
  refine lv_aload_n hx hb dX1_init_21 rfl (lv_at hl 1 rfl) ?_
  refine x_putR X hK hw hz (apn_old ha 2) hS cpX1 0 (by decide) rfl rfl rfl rfl hin rfl tw_405 dX1_init_22 (fun H locs hw hz => ?_)
  obtain ⟨Rf_11, eRf_11, hf⟩ := yb_let_ex hf
  have hw := yb_wR eRf_11 hw
  refine lv_aload_n hx hb dX1_init_25 rfl (lv_at hl 0 rfl) ?_
  refine lv_aload_n hx hb dX1_init_26 rfl (lv_at hl 2 rfl) ?_
  refine x_putR X hK hw hz (apn_old ha 2) hS cpX1 1 (by decide) rfl rfl rfl rfl hin rfl tw_408 dX1_init_27 (fun H locs hw hz => ?_)
  obtain ⟨Rf_12, eRf_12, hf⟩ := yb_let_ex hf
  have hw := yb_wR eRf_12 hw
  cases hf
  exact hfin _ _ _ _ hw hz dX1_init_30
def f7_init (t0 z : Nat) (x1 : Nat) (S : ST) (Rf : RT) (I : IT) (J : JT) : ST × RT × IT × JT :=
  yb_let (va_up S z (0, 7)) fun S_1 =>
  yb_let (va_up Rf z (fun _ => none)) fun Rf_2 =>
  yb_let (va_up I z (fun _ => 0)) fun I_3 =>
  yb_let (va_up J z (fun _ => 0)) fun J_4 =>
  yb_let (up2R Rf_2 t0 1 (some z)) fun Rf_5 =>
  yb_let (va_up S_1 (z + 1) (0, 61)) fun S_6 =>
  yb_let (va_up Rf_5 (z + 1) (fun _ => none)) fun Rf_7 =>
  yb_let (va_up I_3 (z + 1) (fun _ => 0)) fun I_8 =>
  yb_let (va_up J_4 (z + 1) (fun _ => 0)) fun J_9 =>
  yb_let (up2R Rf_7 t0 2 (some (z + 1))) fun Rf_10 =>
  yb_let (va_up S_6 (z + 2) (0, 101)) fun S_11 =>
  yb_let (va_up Rf_10 (z + 2) (fun _ => none)) fun Rf_12 =>
  yb_let (va_up I_8 (z + 2) (fun _ => 0)) fun I_13 =>
  yb_let (va_up J_9 (z + 2) (fun _ => 0)) fun J_14 =>
  yb_let (up2R Rf_12 t0 3 (some (z + 2))) fun Rf_15 =>
  yb_let (up2R Rf_15 t0 0 (some x1)) fun Rf_16 =>
  (S_11, Rf_16, I_13, J_14)
theorem fS7 {t0 z x1 a : Nat} {S : ST} {Rf : RT} {I : IT} {J : JT} (h : a < z) : (f7_init t0 z x1 S Rf I J).1 a = S a := by
  have hne : ∀ k, a ≠ z + k := fun k => by omega
  have hn0 : a ≠ z := by omega
  simp [f7_init, yb_let, va_up, up2R, up2, hn0, hne]
theorem fR7 {t0 z x1 a : Nat} {S : ST} {Rf : RT} {I : IT} {J : JT} (h : a < z) (ht : a ≠ t0) : (f7_init t0 z x1 S Rf I J).2.1 a = Rf a := by
  have hne : ∀ k, a ≠ z + k := fun k => by omega
  have hn0 : a ≠ z := by omega
  simp [f7_init, yb_let, va_up, up2R, up2, hn0, hne, ht]
theorem fI7 {t0 z x1 a : Nat} {S : ST} {Rf : RT} {I : IT} {J : JT} (h : a < z) (ht : a ≠ t0) : (f7_init t0 z x1 S Rf I J).2.2.1 a = I a := by
  have hne : ∀ k, a ≠ z + k := fun k => by omega
  have hn0 : a ≠ z := by omega
  simp [f7_init, yb_let, va_up, up2R, up2, hn0, hne, ht]
theorem fJ7 {t0 z x1 a : Nat} {S : ST} {Rf : RT} {I : IT} {J : JT} (h : a < z) (ht : a ≠ t0) : (f7_init t0 z x1 S Rf I J).2.2.2 a = J a := by
  have hne : ∀ k, a ≠ z + k := fun k => by omega
  have hn0 : a ≠ z := by omega
  simp [f7_init, yb_let, va_up, up2R, up2, hn0, hne, ht]
theorem fr7 {t0 z x1 : Nat} {S : ST} {Rf : RT} {I : IT} {J : JT} (a : Nat) (h : a < z) : (f7_init t0 z x1 S Rf I J).1 a = S a ∧ (a ≠ t0 → (f7_init t0 z x1 S Rf I J).2.1 a = Rf a ∧ (f7_init t0 z x1 S Rf I J).2.2.1 a = I a ∧ (f7_init t0 z x1 S Rf I J).2.2.2 a = J a) := ⟨fS7 h, fun ht => ⟨fR7 h ht, fI7 h ht, fJ7 h ht⟩⟩
theorem dX7_init_0 : decode cX7_init 0 = .ok (.aload_n 0, 1) := by decide +kernel
theorem dX7_init_1 : decode cX7_init 1 = .ok (.invokespecial 3, 3) := by decide +kernel
theorem dX7_init_4 : decode cX7_init 4 = .ok (.aload_n 0, 1) := by decide +kernel
theorem dX7_init_5 : decode cX7_init 5 = .ok (.bipush 7, 2) := by decide +kernel
theorem dX7_init_7 : decode cX7_init 7 = .ok (.newarray .int, 2) := by decide +kernel
theorem dX7_init_9 : decode cX7_init 9 = .ok (.putfield 9, 3) := by decide +kernel
theorem dX7_init_12 : decode cX7_init 12 = .ok (.aload_n 0, 1) := by decide +kernel
theorem dX7_init_13 : decode cX7_init 13 = .ok (.bipush 61, 2) := by decide +kernel
theorem dX7_init_15 : decode cX7_init 15 = .ok (.newarray .int, 2) := by decide +kernel
theorem dX7_init_17 : decode cX7_init 17 = .ok (.putfield 15, 3) := by decide +kernel
theorem dX7_init_20 : decode cX7_init 20 = .ok (.aload_n 0, 1) := by decide +kernel
theorem dX7_init_21 : decode cX7_init 21 = .ok (.bipush 101, 2) := by decide +kernel
theorem dX7_init_23 : decode cX7_init 23 = .ok (.newarray .int, 2) := by decide +kernel
theorem dX7_init_25 : decode cX7_init 25 = .ok (.putfield 18, 3) := by decide +kernel
theorem dX7_init_28 : decode cX7_init 28 = .ok (.aload_n 0, 1) := by decide +kernel
theorem dX7_init_29 : decode cX7_init 29 = .ok (.aload_n 1, 1) := by decide +kernel
theorem dX7_init_30 : decode cX7_init 30 = .ok (.putfield 21, 3) := by decide +kernel
theorem dX7_init_33 : decode cX7_init 33 = .ok (.return_, 1) := by decide +kernel
set_option maxHeartbeats 4000000 in
set_option maxRecDepth 100000 in
theorem c7_init (l : Launch) (D : va_G) (cz : Nat → ClassId) (ev : Nat × Nat × Nat) {t0 z n0 x1 : Nat} {L : List Nat} {S : ST} {Rf : RT} {I : IT} {J : JT} {S1 : ST} {Rf1 : RT} {I1 : IT} {J1 : JT} (ha : t0 ∈ L) (hS : S t0 = (14, n0)) (hf : f7_init t0 z x1 S Rf I J = (S1, Rf1, I1, J1)) : MA l D cz ev yX7_init cX7_init 2 1 40 3 169 [.ref t0, .ref x1] z L S Rf I J S1 Rf1 I1 J1 := by
  unfold f7_init at hf
  refine MA_of (by decide) rfl (Nat.le_of_ble_eq_true rfl) ?_
  intro p e s m args below meth c Q ls X hK hz hin hw hl hfin
  have X : CallFix p m c cX7_init 2 s args gw RX7 := X
  have hx := X.1
  have hb := X.2.1
  have hlt : t0 < z := hz ▸ wx_lt hw ha
  have hw : WX D cz _ (apn L z 0) S Rf s.heap I J s.heap [] := hw
  have hz : s.heap.size = z + 0 := hz
  have hl : lv_has ls 2 [(0, .ref t0), (1, .ref x1)] := hl
  refine lv_aload_n hx hb dX7_init_0 rfl (lv_at hl 0 rfl) ?_
  refine W.objInit hx hb X.2.2.2.1 (X.2.2.2.2 _ tw_484) (X.2.2.2.2 _ tw_146) (X.2.2.2.2 _ tw_147) rfl (by rw [X.2.2.1]; exact hl.1) rfl dX7_init_1 (Nat.le_of_ble_eq_true rfl) (Nat.le_of_ble_eq_true rfl) ?_
  refine lv_aload_n hx hb dX7_init_4 rfl (lv_at hl 0 rfl) ?_
  refine lv_bipush (v := (7 : Int32)) hx hb dX7_init_5 (by decide) ?_
  refine x_newa0 (z := z) X hK hw hz (Or.inr (Nat.le_refl z)) tw_175 (N := 7) (by decide) rfl (by decide) (Nat.le_of_ble_eq_true rfl) (Nat.le_of_ble_eq_true rfl) dX7_init_7 (fun H hw hz => ?_)
  obtain ⟨S_1, eS_1, hf⟩ := yb_let_ex hf
  obtain ⟨Rf_2, eRf_2, hf⟩ := yb_let_ex hf
  obtain ⟨I_3, eI_3, hf⟩ := yb_let_ex hf
  obtain ⟨J_4, eJ_4, hf⟩ := yb_let_ex hf
  have hw : WX D cz _ (apn L z 1) S_1 Rf_2 s.heap I_3 J_4 H [] := yb_w5 (apn_s L z 0) eS_1 eRf_2 eI_3 eJ_4 hw
  have hz : H.size = z + 1 := hz
  have hS : S_1 t0 = (14, n0) := nS_up eS_1 (Nat.ne_of_lt hlt) hS
  refine x_putR X hK hw hz (apn_old ha 1) hS cpX7 1 (by decide) rfl rfl rfl rfl hin rfl tw_486 dX7_init_9 (fun H locs hw hz => ?_)
  obtain ⟨Rf_5, eRf_5, hf⟩ := yb_let_ex hf
  have hw := yb_wR eRf_5 hw
  refine lv_aload_n hx hb dX7_init_12 rfl (lv_at hl 0 rfl) ?_
  refine lv_bipush (v := (61 : Int32)) hx hb dX7_init_13 (by decide) ?_
  refine x_newa0 (z := (z + 1)) X hK hw hz (Or.inr (Nat.le_add_right z 1)) tw_175 (N := 61) (by decide) rfl (by decide) (Nat.le_of_ble_eq_true rfl) (Nat.le_of_ble_eq_true rfl) dX7_init_15 (fun H hw hz => ?_)
  obtain ⟨S_6, eS_6, hf⟩ := yb_let_ex hf
  obtain ⟨Rf_7, eRf_7, hf⟩ := yb_let_ex hf
  obtain ⟨I_8, eI_8, hf⟩ := yb_let_ex hf
  obtain ⟨J_9, eJ_9, hf⟩ := yb_let_ex hf
  have hw : WX D cz _ (apn L z 2) S_6 Rf_7 s.heap I_8 J_9 H locs := yb_w5 (apn_s L z 1) eS_6 eRf_7 eI_8 eJ_9 hw
  have hz : H.size = z + 2 := hz
  have hS : S_6 t0 = (14, n0) := nS_up eS_6 (Nat.ne_of_lt (Nat.lt_of_lt_of_le hlt (Nat.le_add_right z 1))) hS
  refine x_putR X hK hw hz (apn_old ha 2) hS cpX7 2 (by decide) rfl rfl rfl rfl hin rfl tw_487 dX7_init_17 (fun H locs hw hz => ?_)
  obtain ⟨Rf_10, eRf_10, hf⟩ := yb_let_ex hf
  have hw := yb_wR eRf_10 hw
  refine lv_aload_n hx hb dX7_init_20 rfl (lv_at hl 0 rfl) ?_
  refine lv_bipush (v := (101 : Int32)) hx hb dX7_init_21 (by decide) ?_
  refine x_newa0 (z := (z + 2)) X hK hw hz (Or.inr (Nat.le_add_right z 2)) tw_175 (N := 101) (by decide) rfl (by decide) (Nat.le_of_ble_eq_true rfl) (Nat.le_of_ble_eq_true rfl) dX7_init_23 (fun H hw hz => ?_)
  obtain ⟨S_11, eS_11, hf⟩ := yb_let_ex hf
  obtain ⟨Rf_12, eRf_12, hf⟩ := yb_let_ex hf
  obtain ⟨I_13, eI_13, hf⟩ := yb_let_ex hf
  obtain ⟨J_14, eJ_14, hf⟩ := yb_let_ex hf
  have hw : WX D cz _ (apn L z 3) S_11 Rf_12 s.heap I_13 J_14 H locs := yb_w5 (apn_s L z 2) eS_11 eRf_12 eI_13 eJ_14 hw
  have hz : H.size = z + 3 := hz
  have hS : S_11 t0 = (14, n0) := nS_up eS_11 (Nat.ne_of_lt (Nat.lt_of_lt_of_le hlt (Nat.le_add_right z 2))) hS
  refine x_putR X hK hw hz (apn_old ha 3) hS cpX7 3 (by decide) rfl rfl rfl rfl hin rfl tw_488 dX7_init_25 (fun H locs hw hz => ?_)
  obtain ⟨Rf_15, eRf_15, hf⟩ := yb_let_ex hf
  have hw := yb_wR eRf_15 hw
  refine lv_aload_n hx hb dX7_init_28 rfl (lv_at hl 0 rfl) ?_
  refine lv_aload_n hx hb dX7_init_29 rfl (lv_at hl 1 rfl) ?_
  refine x_putR X hK hw hz (apn_old ha 3) hS cpX7 0 (by decide) rfl rfl rfl rfl hin rfl tw_485 dX7_init_30 (fun H locs hw hz => ?_)
  obtain ⟨Rf_16, eRf_16, hf⟩ := yb_let_ex hf
  have hw := yb_wR eRf_16 hw
  cases hf
  exact hfin _ _ _ _ hw hz dX7_init_33
def f10_init (t0 z : Nat) (x1 x2 : Nat) (S : ST) (Rf : RT) (I : IT) (J : JT) : ST × RT × IT × JT :=
  yb_let (up2R Rf t0 0 (some x1)) fun Rf_1 =>
  yb_let (up2R Rf_1 t0 1 (some x2)) fun Rf_2 =>
  (S, Rf_2, I, J)
theorem fS10 {t0 z x1 x2 a : Nat} {S : ST} {Rf : RT} {I : IT} {J : JT} (h : a < z) : (f10_init t0 z x1 x2 S Rf I J).1 a = S a := by
  have hne : ∀ k, a ≠ z + k := fun k => by omega
  have hn0 : a ≠ z := by omega
  simp [f10_init, yb_let, va_up, up2R, up2, hn0, hne]
theorem fR10 {t0 z x1 x2 a : Nat} {S : ST} {Rf : RT} {I : IT} {J : JT} (h : a < z) (ht : a ≠ t0) : (f10_init t0 z x1 x2 S Rf I J).2.1 a = Rf a := by
  have hne : ∀ k, a ≠ z + k := fun k => by omega
  have hn0 : a ≠ z := by omega
  simp [f10_init, yb_let, va_up, up2R, up2, hn0, hne, ht]
theorem fI10 {t0 z x1 x2 a : Nat} {S : ST} {Rf : RT} {I : IT} {J : JT} (h : a < z) (ht : a ≠ t0) : (f10_init t0 z x1 x2 S Rf I J).2.2.1 a = I a := by
  have hne : ∀ k, a ≠ z + k := fun k => by omega
  have hn0 : a ≠ z := by omega
  simp [f10_init, yb_let, va_up, up2R, up2, hn0, hne, ht]
theorem fJ10 {t0 z x1 x2 a : Nat} {S : ST} {Rf : RT} {I : IT} {J : JT} (h : a < z) (ht : a ≠ t0) : (f10_init t0 z x1 x2 S Rf I J).2.2.2 a = J a := by
  have hne : ∀ k, a ≠ z + k := fun k => by omega
  have hn0 : a ≠ z := by omega
  simp [f10_init, yb_let, va_up, up2R, up2, hn0, hne, ht]
theorem fr10 {t0 z x1 x2 : Nat} {S : ST} {Rf : RT} {I : IT} {J : JT} (a : Nat) (h : a < z) : (f10_init t0 z x1 x2 S Rf I J).1 a = S a ∧ (a ≠ t0 → (f10_init t0 z x1 x2 S Rf I J).2.1 a = Rf a ∧ (f10_init t0 z x1 x2 S Rf I J).2.2.1 a = I a ∧ (f10_init t0 z x1 x2 S Rf I J).2.2.2 a = J a) := ⟨fS10 h, fun ht => ⟨fR10 h ht, fI10 h ht, fJ10 h ht⟩⟩
theorem dX10_init_0 : decode cX10_init 0 = .ok (.aload_n 0, 1) := by decide +kernel
theorem dX10_init_1 : decode cX10_init 1 = .ok (.invokespecial 3, 3) := by decide +kernel
theorem dX10_init_4 : decode cX10_init 4 = .ok (.aload_n 0, 1) := by decide +kernel
theorem dX10_init_5 : decode cX10_init 5 = .ok (.aload_n 1, 1) := by decide +kernel
theorem dX10_init_6 : decode cX10_init 6 = .ok (.putfield 9, 3) := by decide +kernel
theorem dX10_init_9 : decode cX10_init 9 = .ok (.aload_n 0, 1) := by decide +kernel
theorem dX10_init_10 : decode cX10_init 10 = .ok (.aload_n 2, 1) := by decide +kernel
theorem dX10_init_11 : decode cX10_init 11 = .ok (.putfield 15, 3) := by decide +kernel
theorem dX10_init_14 : decode cX10_init 14 = .ok (.return_, 1) := by decide +kernel
set_option maxHeartbeats 4000000 in
set_option maxRecDepth 100000 in
theorem c10_init (l : Launch) (D : va_G) (cz : Nat → ClassId) (ev : Nat × Nat × Nat) {t0 z n0 x1 x2 : Nat} {L : List Nat} {S : ST} {Rf : RT} {I : IT} {J : JT} {S1 : ST} {Rf1 : RT} {I1 : IT} {J1 : JT} (ha : t0 ∈ L) (hS : S t0 = (17, n0)) (hf : f10_init t0 z x1 x2 S Rf I J = (S1, Rf1, I1, J1)) : MA l D cz ev yX10_init cX10_init 3 1 40 0 0 [.ref t0, .ref x1, .ref x2] z L S Rf I J S1 Rf1 I1 J1 := by
  unfold f10_init at hf
  refine MA_of (by decide) rfl (Nat.le_of_ble_eq_true rfl) ?_
  intro p e s m args below meth c Q ls X hK hz hin hw hl hfin
  have X : CallFix p m c cX10_init 3 s args gw RX10 := X
  have hx := X.1
  have hb := X.2.1
  have hlt : t0 < z := hz ▸ wx_lt hw ha
  have hw : WX D cz _ (apn L z 0) S Rf s.heap I J s.heap [] := hw
  have hz : s.heap.size = z + 0 := hz
  have hl : lv_has ls 3 [(0, .ref t0), (1, .ref x1), (2, .ref x2)] := hl
  refine lv_aload_n hx hb dX10_init_0 rfl (lv_at hl 0 rfl) ?_
  refine W.objInit hx hb X.2.2.2.1 (X.2.2.2.2 _ tw_521) (X.2.2.2.2 _ tw_146) (X.2.2.2.2 _ tw_147) rfl (by rw [X.2.2.1]; exact hl.1) rfl dX10_init_1 (Nat.le_of_ble_eq_true rfl) (Nat.le_of_ble_eq_true rfl) ?_
  refine lv_aload_n hx hb dX10_init_4 rfl (lv_at hl 0 rfl) ?_
  refine lv_aload_n hx hb dX10_init_5 rfl (lv_at hl 1 rfl) ?_
  refine x_putR X hK hw hz (apn_old ha 0) hS cpX10 0 (by decide) rfl rfl rfl rfl hin rfl tw_522 dX10_init_6 (fun H locs hw hz => ?_)
  obtain ⟨Rf_1, eRf_1, hf⟩ := yb_let_ex hf
  have hw := yb_wR eRf_1 hw
  refine lv_aload_n hx hb dX10_init_9 rfl (lv_at hl 0 rfl) ?_
  refine lv_aload_n hx hb dX10_init_10 rfl (lv_at hl 2 rfl) ?_
  refine x_putR X hK hw hz (apn_old ha 0) hS cpX10 1 (by decide) rfl rfl rfl rfl hin rfl tw_523 dX10_init_11 (fun H locs hw hz => ?_)
  obtain ⟨Rf_2, eRf_2, hf⟩ := yb_let_ex hf
  have hw := yb_wR eRf_2 hw
  cases hf
  exact hfin _ _ _ _ hw hz dX10_init_14
def f3_init (t0 z : Nat) (x1 : Nat) (S : ST) (Rf : RT) (I : IT) (J : JT) : ST × RT × IT × JT :=
  yb_let (up2R Rf t0 0 (some x1)) fun Rf_1 =>
  (S, Rf_1, I, J)
theorem fS3 {t0 z x1 a : Nat} {S : ST} {Rf : RT} {I : IT} {J : JT} (h : a < z) : (f3_init t0 z x1 S Rf I J).1 a = S a := by
  have hne : ∀ k, a ≠ z + k := fun k => by omega
  have hn0 : a ≠ z := by omega
  simp [f3_init, yb_let, va_up, up2R, up2, hn0, hne]
theorem fR3 {t0 z x1 a : Nat} {S : ST} {Rf : RT} {I : IT} {J : JT} (h : a < z) (ht : a ≠ t0) : (f3_init t0 z x1 S Rf I J).2.1 a = Rf a := by
  have hne : ∀ k, a ≠ z + k := fun k => by omega
  have hn0 : a ≠ z := by omega
  simp [f3_init, yb_let, va_up, up2R, up2, hn0, hne, ht]
theorem fI3 {t0 z x1 a : Nat} {S : ST} {Rf : RT} {I : IT} {J : JT} (h : a < z) (ht : a ≠ t0) : (f3_init t0 z x1 S Rf I J).2.2.1 a = I a := by
  have hne : ∀ k, a ≠ z + k := fun k => by omega
  have hn0 : a ≠ z := by omega
  simp [f3_init, yb_let, va_up, up2R, up2, hn0, hne, ht]
theorem fJ3 {t0 z x1 a : Nat} {S : ST} {Rf : RT} {I : IT} {J : JT} (h : a < z) (ht : a ≠ t0) : (f3_init t0 z x1 S Rf I J).2.2.2 a = J a := by
  have hne : ∀ k, a ≠ z + k := fun k => by omega
  have hn0 : a ≠ z := by omega
  simp [f3_init, yb_let, va_up, up2R, up2, hn0, hne, ht]
theorem fr3 {t0 z x1 : Nat} {S : ST} {Rf : RT} {I : IT} {J : JT} (a : Nat) (h : a < z) : (f3_init t0 z x1 S Rf I J).1 a = S a ∧ (a ≠ t0 → (f3_init t0 z x1 S Rf I J).2.1 a = Rf a ∧ (f3_init t0 z x1 S Rf I J).2.2.1 a = I a ∧ (f3_init t0 z x1 S Rf I J).2.2.2 a = J a) := ⟨fS3 h, fun ht => ⟨fR3 h ht, fI3 h ht, fJ3 h ht⟩⟩
theorem dX3_init_0 : decode cX3_init 0 = .ok (.aload_n 0, 1) := by decide +kernel
theorem dX3_init_1 : decode cX3_init 1 = .ok (.invokespecial 3, 3) := by decide +kernel
theorem dX3_init_4 : decode cX3_init 4 = .ok (.aload_n 0, 1) := by decide +kernel
theorem dX3_init_5 : decode cX3_init 5 = .ok (.aload_n 1, 1) := by decide +kernel
theorem dX3_init_6 : decode cX3_init 6 = .ok (.putfield 9, 3) := by decide +kernel
theorem dX3_init_9 : decode cX3_init 9 = .ok (.return_, 1) := by decide +kernel
set_option maxHeartbeats 4000000 in
set_option maxRecDepth 100000 in
theorem c3_init (l : Launch) (D : va_G) (cz : Nat → ClassId) (ev : Nat × Nat × Nat) {t0 z n0 x1 : Nat} {L : List Nat} {S : ST} {Rf : RT} {I : IT} {J : JT} {S1 : ST} {Rf1 : RT} {I1 : IT} {J1 : JT} (ha : t0 ∈ L) (hS : S t0 = (10, n0)) (hf : f3_init t0 z x1 S Rf I J = (S1, Rf1, I1, J1)) : MA l D cz ev yX3_init cX3_init 2 1 40 0 0 [.ref t0, .ref x1] z L S Rf I J S1 Rf1 I1 J1 := by
  unfold f3_init at hf
  refine MA_of (by decide) rfl (Nat.le_of_ble_eq_true rfl) ?_
  intro p e s m args below meth c Q ls X hK hz hin hw hl hfin
  have X : CallFix p m c cX3_init 2 s args gw RX3 := X
  have hx := X.1
  have hb := X.2.1
  have hlt : t0 < z := hz ▸ wx_lt hw ha
  have hw : WX D cz _ (apn L z 0) S Rf s.heap I J s.heap [] := hw
  have hz : s.heap.size = z + 0 := hz
  have hl : lv_has ls 2 [(0, .ref t0), (1, .ref x1)] := hl
  refine lv_aload_n hx hb dX3_init_0 rfl (lv_at hl 0 rfl) ?_
  refine W.objInit hx hb X.2.2.2.1 (X.2.2.2.2 _ tw_153) (X.2.2.2.2 _ tw_146) (X.2.2.2.2 _ tw_147) rfl (by rw [X.2.2.1]; exact hl.1) rfl dX3_init_1 (Nat.le_of_ble_eq_true rfl) (Nat.le_of_ble_eq_true rfl) ?_
  refine lv_aload_n hx hb dX3_init_4 rfl (lv_at hl 0 rfl) ?_
  refine lv_aload_n hx hb dX3_init_5 rfl (lv_at hl 1 rfl) ?_
  refine x_putR X hK hw hz (apn_old ha 0) hS cpX3 0 (by decide) rfl rfl rfl rfl hin rfl tw_154 dX3_init_6 (fun H locs hw hz => ?_)
  obtain ⟨Rf_1, eRf_1, hf⟩ := yb_let_ex hf
  have hw := yb_wR eRf_1 hw
  cases hf
  exact hfin _ _ _ _ hw hz dX3_init_9
def f6_init (t0 z : Nat) (x1 : Nat) (S : ST) (Rf : RT) (I : IT) (J : JT) : ST × RT × IT × JT :=
  yb_let (va_up S z (0, 400)) fun S_1 =>
  yb_let (va_up Rf z (fun _ => none)) fun Rf_2 =>
  yb_let (va_up I z (fun _ => 0)) fun I_3 =>
  yb_let (va_up J z (fun _ => 0)) fun J_4 =>
  yb_let (up2R Rf_2 t0 1 (some z)) fun Rf_5 =>
  yb_let (up2R Rf_5 t0 0 (some x1)) fun Rf_6 =>
  (S_1, Rf_6, I_3, J_4)
theorem fS6 {t0 z x1 a : Nat} {S : ST} {Rf : RT} {I : IT} {J : JT} (h : a < z) : (f6_init t0 z x1 S Rf I J).1 a = S a := by
  have hne : ∀ k, a ≠ z + k := fun k => by omega
  have hn0 : a ≠ z := by omega
  simp [f6_init, yb_let, va_up, up2R, up2, hn0, hne]
theorem fR6 {t0 z x1 a : Nat} {S : ST} {Rf : RT} {I : IT} {J : JT} (h : a < z) (ht : a ≠ t0) : (f6_init t0 z x1 S Rf I J).2.1 a = Rf a := by
  have hne : ∀ k, a ≠ z + k := fun k => by omega
  have hn0 : a ≠ z := by omega
  simp [f6_init, yb_let, va_up, up2R, up2, hn0, hne, ht]
theorem fI6 {t0 z x1 a : Nat} {S : ST} {Rf : RT} {I : IT} {J : JT} (h : a < z) (ht : a ≠ t0) : (f6_init t0 z x1 S Rf I J).2.2.1 a = I a := by
  have hne : ∀ k, a ≠ z + k := fun k => by omega
  have hn0 : a ≠ z := by omega
  simp [f6_init, yb_let, va_up, up2R, up2, hn0, hne, ht]
theorem fJ6 {t0 z x1 a : Nat} {S : ST} {Rf : RT} {I : IT} {J : JT} (h : a < z) (ht : a ≠ t0) : (f6_init t0 z x1 S Rf I J).2.2.2 a = J a := by
  have hne : ∀ k, a ≠ z + k := fun k => by omega
  have hn0 : a ≠ z := by omega
  simp [f6_init, yb_let, va_up, up2R, up2, hn0, hne, ht]
theorem fr6 {t0 z x1 : Nat} {S : ST} {Rf : RT} {I : IT} {J : JT} (a : Nat) (h : a < z) : (f6_init t0 z x1 S Rf I J).1 a = S a ∧ (a ≠ t0 → (f6_init t0 z x1 S Rf I J).2.1 a = Rf a ∧ (f6_init t0 z x1 S Rf I J).2.2.1 a = I a ∧ (f6_init t0 z x1 S Rf I J).2.2.2 a = J a) := ⟨fS6 h, fun ht => ⟨fR6 h ht, fI6 h ht, fJ6 h ht⟩⟩
theorem dX6_init_0 : decode cX6_init 0 = .ok (.aload_n 0, 1) := by decide +kernel
theorem dX6_init_1 : decode cX6_init 1 = .ok (.invokespecial 3, 3) := by decide +kernel
theorem dX6_init_4 : decode cX6_init 4 = .ok (.aload_n 0, 1) := by decide +kernel
theorem dX6_init_5 : decode cX6_init 5 = .ok (.sipush 400, 3) := by decide +kernel
theorem dX6_init_8 : decode cX6_init 8 = .ok (.newarray .int, 2) := by decide +kernel
theorem dX6_init_10 : decode cX6_init 10 = .ok (.putfield 9, 3) := by decide +kernel
theorem dX6_init_13 : decode cX6_init 13 = .ok (.aload_n 0, 1) := by decide +kernel
theorem dX6_init_14 : decode cX6_init 14 = .ok (.aload_n 1, 1) := by decide +kernel
theorem dX6_init_15 : decode cX6_init 15 = .ok (.putfield 15, 3) := by decide +kernel
theorem dX6_init_18 : decode cX6_init 18 = .ok (.return_, 1) := by decide +kernel
set_option maxHeartbeats 4000000 in
set_option maxRecDepth 100000 in
theorem c6_init (l : Launch) (D : va_G) (cz : Nat → ClassId) (ev : Nat × Nat × Nat) {t0 z n0 x1 : Nat} {L : List Nat} {S : ST} {Rf : RT} {I : IT} {J : JT} {S1 : ST} {Rf1 : RT} {I1 : IT} {J1 : JT} (ha : t0 ∈ L) (hS : S t0 = (13, n0)) (hf : f6_init t0 z x1 S Rf I J = (S1, Rf1, I1, J1)) : MA l D cz ev yX6_init cX6_init 2 1 40 1 400 [.ref t0, .ref x1] z L S Rf I J S1 Rf1 I1 J1 := by
  unfold f6_init at hf
  refine MA_of (by decide) rfl (Nat.le_of_ble_eq_true rfl) ?_
  intro p e s m args below meth c Q ls X hK hz hin hw hl hfin
  have X : CallFix p m c cX6_init 2 s args gw RX6 := X
  have hx := X.1
  have hb := X.2.1
  have hlt : t0 < z := hz ▸ wx_lt hw ha
  have hw : WX D cz _ (apn L z 0) S Rf s.heap I J s.heap [] := hw
  have hz : s.heap.size = z + 0 := hz
  have hl : lv_has ls 2 [(0, .ref t0), (1, .ref x1)] := hl
  refine lv_aload_n hx hb dX6_init_0 rfl (lv_at hl 0 rfl) ?_
  refine W.objInit hx hb X.2.2.2.1 (X.2.2.2.2 _ tw_543) (X.2.2.2.2 _ tw_146) (X.2.2.2.2 _ tw_147) rfl (by rw [X.2.2.1]; exact hl.1) rfl dX6_init_1 (Nat.le_of_ble_eq_true rfl) (Nat.le_of_ble_eq_true rfl) ?_
  refine lv_aload_n hx hb dX6_init_4 rfl (lv_at hl 0 rfl) ?_
  refine lv_sipush (v := (400 : Int32)) hx hb dX6_init_5 (by decide) ?_
  refine x_newa0 (z := z) X hK hw hz (Or.inr (Nat.le_refl z)) tw_175 (N := 400) (by decide) rfl (by decide) (Nat.le_of_ble_eq_true rfl) (Nat.le_of_ble_eq_true rfl) dX6_init_8 (fun H hw hz => ?_)
  obtain ⟨S_1, eS_1, hf⟩ := yb_let_ex hf
  obtain ⟨Rf_2, eRf_2, hf⟩ := yb_let_ex hf
  obtain ⟨I_3, eI_3, hf⟩ := yb_let_ex hf
  obtain ⟨J_4, eJ_4, hf⟩ := yb_let_ex hf
  have hw : WX D cz _ (apn L z 1) S_1 Rf_2 s.heap I_3 J_4 H [] := yb_w5 (apn_s L z 0) eS_1 eRf_2 eI_3 eJ_4 hw
  have hz : H.size = z + 1 := hz
  have hS : S_1 t0 = (13, n0) := nS_up eS_1 (Nat.ne_of_lt hlt) hS
  refine x_putR X hK hw hz (apn_old ha 1) hS cpX6 1 (by decide) rfl rfl rfl rfl hin rfl tw_545 dX6_init_10 (fun H locs hw hz => ?_)
  obtain ⟨Rf_5, eRf_5, hf⟩ := yb_let_ex hf
  have hw := yb_wR eRf_5 hw
  refine lv_aload_n hx hb dX6_init_13 rfl (lv_at hl 0 rfl) ?_
  refine lv_aload_n hx hb dX6_init_14 rfl (lv_at hl 1 rfl) ?_
  refine x_putR X hK hw hz (apn_old ha 1) hS cpX6 0 (by decide) rfl rfl rfl rfl hin rfl tw_544 dX6_init_15 (fun H locs hw hz => ?_)
  obtain ⟨Rf_6, eRf_6, hf⟩ := yb_let_ex hf
  have hw := yb_wR eRf_6 hw
  cases hf
  exact hfin _ _ _ _ hw hz dX6_init_18
def f5_init (t0 z : Nat) (x1 : Nat) (S : ST) (Rf : RT) (I : IT) (J : JT) : ST × RT × IT × JT :=
  yb_let (up2R Rf t0 0 (some x1)) fun Rf_1 =>
  (S, Rf_1, I, J)
theorem fS5 {t0 z x1 a : Nat} {S : ST} {Rf : RT} {I : IT} {J : JT} (h : a < z) : (f5_init t0 z x1 S Rf I J).1 a = S a := by
  have hne : ∀ k, a ≠ z + k := fun k => by omega
  have hn0 : a ≠ z := by omega
  simp [f5_init, yb_let, va_up, up2R, up2, hn0, hne]
theorem fR5 {t0 z x1 a : Nat} {S : ST} {Rf : RT} {I : IT} {J : JT} (h : a < z) (ht : a ≠ t0) : (f5_init t0 z x1 S Rf I J).2.1 a = Rf a := by
  have hne : ∀ k, a ≠ z + k := fun k => by omega
  have hn0 : a ≠ z := by omega
  simp [f5_init, yb_let, va_up, up2R, up2, hn0, hne, ht]
theorem fI5 {t0 z x1 a : Nat} {S : ST} {Rf : RT} {I : IT} {J : JT} (h : a < z) (ht : a ≠ t0) : (f5_init t0 z x1 S Rf I J).2.2.1 a = I a := by
  have hne : ∀ k, a ≠ z + k := fun k => by omega
  have hn0 : a ≠ z := by omega
  simp [f5_init, yb_let, va_up, up2R, up2, hn0, hne, ht]
theorem fJ5 {t0 z x1 a : Nat} {S : ST} {Rf : RT} {I : IT} {J : JT} (h : a < z) (ht : a ≠ t0) : (f5_init t0 z x1 S Rf I J).2.2.2 a = J a := by
  have hne : ∀ k, a ≠ z + k := fun k => by omega
  have hn0 : a ≠ z := by omega
  simp [f5_init, yb_let, va_up, up2R, up2, hn0, hne, ht]
theorem fr5 {t0 z x1 : Nat} {S : ST} {Rf : RT} {I : IT} {J : JT} (a : Nat) (h : a < z) : (f5_init t0 z x1 S Rf I J).1 a = S a ∧ (a ≠ t0 → (f5_init t0 z x1 S Rf I J).2.1 a = Rf a ∧ (f5_init t0 z x1 S Rf I J).2.2.1 a = I a ∧ (f5_init t0 z x1 S Rf I J).2.2.2 a = J a) := ⟨fS5 h, fun ht => ⟨fR5 h ht, fI5 h ht, fJ5 h ht⟩⟩
theorem dX5_init_0 : decode cX5_init 0 = .ok (.aload_n 0, 1) := by decide +kernel
theorem dX5_init_1 : decode cX5_init 1 = .ok (.invokespecial 3, 3) := by decide +kernel
theorem dX5_init_4 : decode cX5_init 4 = .ok (.aload_n 0, 1) := by decide +kernel
theorem dX5_init_5 : decode cX5_init 5 = .ok (.aload_n 1, 1) := by decide +kernel
theorem dX5_init_6 : decode cX5_init 6 = .ok (.putfield 9, 3) := by decide +kernel
theorem dX5_init_9 : decode cX5_init 9 = .ok (.return_, 1) := by decide +kernel
set_option maxHeartbeats 4000000 in
set_option maxRecDepth 100000 in
theorem c5_init (l : Launch) (D : va_G) (cz : Nat → ClassId) (ev : Nat × Nat × Nat) {t0 z n0 x1 : Nat} {L : List Nat} {S : ST} {Rf : RT} {I : IT} {J : JT} {S1 : ST} {Rf1 : RT} {I1 : IT} {J1 : JT} (ha : t0 ∈ L) (hS : S t0 = (12, n0)) (hf : f5_init t0 z x1 S Rf I J = (S1, Rf1, I1, J1)) : MA l D cz ev yX5_init cX5_init 2 1 40 0 0 [.ref t0, .ref x1] z L S Rf I J S1 Rf1 I1 J1 := by
  unfold f5_init at hf
  refine MA_of (by decide) rfl (Nat.le_of_ble_eq_true rfl) ?_
  intro p e s m args below meth c Q ls X hK hz hin hw hl hfin
  have X : CallFix p m c cX5_init 2 s args gw RX5 := X
  have hx := X.1
  have hb := X.2.1
  have hlt : t0 < z := hz ▸ wx_lt hw ha
  have hw : WX D cz _ (apn L z 0) S Rf s.heap I J s.heap [] := hw
  have hz : s.heap.size = z + 0 := hz
  have hl : lv_has ls 2 [(0, .ref t0), (1, .ref x1)] := hl
  refine lv_aload_n hx hb dX5_init_0 rfl (lv_at hl 0 rfl) ?_
  refine W.objInit hx hb X.2.2.2.1 (X.2.2.2.2 _ tw_873) (X.2.2.2.2 _ tw_146) (X.2.2.2.2 _ tw_147) rfl (by rw [X.2.2.1]; exact hl.1) rfl dX5_init_1 (Nat.le_of_ble_eq_true rfl) (Nat.le_of_ble_eq_true rfl) ?_
  refine lv_aload_n hx hb dX5_init_4 rfl (lv_at hl 0 rfl) ?_
  refine lv_aload_n hx hb dX5_init_5 rfl (lv_at hl 1 rfl) ?_
  refine x_putR X hK hw hz (apn_old ha 0) hS cpX5 0 (by decide) rfl rfl rfl rfl hin rfl tw_874 dX5_init_6 (fun H locs hw hz => ?_)
  obtain ⟨Rf_1, eRf_1, hf⟩ := yb_let_ex hf
  have hw := yb_wR eRf_1 hw
  cases hf
  exact hfin _ _ _ _ hw hz dX5_init_9
