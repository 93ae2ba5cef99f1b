/-- the references behind images[k] = new State() -/
def imR (b z : Nat) (x1 : Int32) (S : ST) (Rf : RT) (I : IT) (J : JT) : RT := up2R (nwS z S Rf I J).2.1 (b + 27) x1.toNatClampNeg (some z)
theorem im_ext {b z : Nat} {x1 : Int32} {L : List Nat} {S : ST} {Rf : RT} {I : IT} {J : JT} (hlt : ∀ a ∈ L, a < z) : Ext L (apn L z 23) S (nwS z S Rf I J).1 Rf (imR b z x1 S Rf I J) (b + 27) :=
  ⟨fun _ h => apn_old h 23, fun a h => nwS_S (hlt a h), fun a h hne => by unfold imR; rw [up2R_ne _ _ _ hne, nwS_R (hlt a h)]⟩
theorem im_cw {b z : Nat} {x1 : Int32} {L : List Nat} {S : ST} {Rf : RT} {I : IT} {J : JT} (hC : CW b L S Rf) (hlt : ∀ a ∈ L, a < z) : CW b (apn L z 23) (nwS z S Rf I J).1 (imR b z x1 S Rf I J) := by
  have h27 := hlt _ (cw_mem hC 27 (by decide))
  refine (im_ext hlt).cw hC (Or.inr (Or.inl rfl)) (k := x1.toNatClampNeg) (v := z) ?_ (fun h => by omega) (fun _ => ?_) (fun h => by omega)
  · unfold imR; rw [up2R_self, nwS_R h27]
  · have h := nwS_at (z := z) (S := S) (Rf := Rf) (I := I) (J := J) L
    have hR : ∀ a, z ≤ a → imR b z x1 S Rf I J a = (nwS z S Rf I J).2.1 a := fun a ha => by unfold imR; rw [up2R_ne _ _ _ (by omega)]
    refine ⟨h.1, ⟨by rw [hR _ (by omega)]; exact h.2.1.1, h.2.1.2.1, fun j hj => ⟨by rw [hR _ (by omega)]; exact (h.2.1.2.2 j hj).1, (h.2.1.2.2 j hj).2⟩⟩, ⟨by rw [hR _ (by omega)]; exact h.2.2.1.1, h.2.2.1.2.1, fun j hj => ⟨by rw [hR _ (by omega)]; exact (h.2.2.1.2.2 j hj).1, (h.2.2.1.2.2 j hj).2⟩⟩, fun j hj => ⟨by rw [hR _ (by omega)]; exact (h.2.2.2 j hj).1, (h.2.2.2 j hj).2⟩⟩
def f11_imageN (N b z : Nat) (S : ST) (Rf : RT) (x1 : Int32) (I : IT) (J : JT) : Option ((Int32 × ST × RT) × IT × JT) :=
  if x1 < 0 then
    none
  else
    if x1 < (4 : Int32) then
      yb_ck (inb x1 4) fun _ =>
      yb_op (Rf (b + 27) x1.toNatClampNeg) (fun _ =>
        yb_b3 (h11_image_B N b (nwS z S Rf I J).1 (imR b z x1 S Rf I J) x1 (nwS z S Rf I J).2.2.1 (nwS z S Rf I J).2.2.2) fun r3 I3 J3 =>
        some ((r3, (nwS z S Rf I J).1, (imR b z x1 S Rf I J)), I3, J3)) fun t_4 =>
      none
    else
      none
set_option maxHeartbeats 4000000 in
set_option maxRecDepth 100000 in
theorem c11_imageN (l : Launch) (D : va_G) (cz : Nat → ClassId) (ev : Nat × Nat × Nat) {b z N : Nat} {L : List Nat} {S : ST} {Rf : RT} (hC : CW b L S Rf) {x1 : Int32} {I : IT} {J : JT} {r : Int32} {S1 : ST} {Rf1 : RT} {I1 : IT} {J1 : JT} (hf : f11_imageN N b z S Rf x1 I J = some ((r, S1, Rf1), I1, J1)) : MBi l D cz ev yX11_image cX11_image 2 (some .int) 3 142 23 171 [.ref b, .int x1] z L S Rf I J r (apn L z 23) S1 Rf1 I1 J1 := by
  unfold f11_imageN at hf
  refine MBi_of (by decide) (Nat.le_of_ble_eq_true rfl) ?_
  intro p e s m args below meth c Q ls X hK hz hw hl hfin
  have X : CallFix p m c cX11_image 2 s args gw RX11 := X
  have hx := X.1
  have hb := X.2.1
  have hlt : ∀ a ∈ L, a < z := fun a ha => hz ▸ wx_lt hw ha
  have hl : lv_has ls 2 [(0, .ref b), (1, .int x1)] := hl
  refine lv_iload_n hx hb dX11_image_0 rfl (lv_at hl 1 rfl) ?_
  refine lv_if_lt (tgt := 9) hx hb dX11_image_1 (by decide) (fun c_1 => ?_) (fun c_1 => ?_)
  · have hf := yb_pos c_1 hf
    refine lv_iconst (v := (-1 : Int32)) hx hb dX11_image_9 (by decide) ?_
    cases hf
  · have hf := yb_neg c_1 hf
    refine lv_iload_n hx hb dX11_image_4 rfl (lv_at hl 1 rfl) ?_
    refine lv_iconst (v := (4 : Int32)) hx hb dX11_image_5 (by decide) ?_
    refine lv_icmp_lt (tgt := 11) hx hb dX11_image_6 (by decide) (fun c_2 => ?_) (fun c_2 => ?_)
    · have hf := yb_pos c_2 hf
      refine lv_aload_n hx hb dX11_image_11 rfl (lv_at hl 0 rfl) ?_
      refine x_getR X hK hw (cw_mem0 hC) (cw_S0 hC) cpX11 4 (by decide) rfl (cw_R hC 0 4 (by decide) rfl) tw_563 dX11_image_12 ?_
      refine lv_iload_n hx hb dX11_image_15 rfl (lv_at hl 1 rfl) ?_
      obtain ⟨hi_3, hf⟩ := yb_ck_some hf
      rcases ho_5 : Rf (b + 27) x1.toNatClampNeg with _ | t_4
      · rw [ho_5] at hf
        have hf := yb_op_n hf
        refine x_aaldN_5 X hK hw (cw_mem hC 27 (by decide)) (cw_S hC 27 rfl) hi_3 rfl ho_5 dX11_image_16 ?_
        refine lv_ifnonnullN hx hb dX11_image_17 ?_
        refine lv_aload_n hx hb dX11_image_20 rfl (lv_at hl 0 rfl) ?_
        refine x_getR X hK hw (cw_mem0 hC) (cw_S0 hC) cpX11 4 (by decide) rfl (cw_R hC 0 4 (by decide) rfl) tw_563 dX11_image_21 ?_
        refine lv_iload_n hx hb dX11_image_24 rfl (lv_at hl 1 rfl) ?_
        refine x_new (z := z) X hK hw hz (Or.inr (Nat.le_refl z)) cpX8 dfX8 tw_178 tw_179 tw_121 (Nat.le_of_ble_eq_true rfl) (Nat.le_of_ble_eq_true rfl) dX11_image_25 (fun H hw hz => ?_)
        refine lv_dup hx hb dX11_image_28 rfl ?_
        refine x_ctorN (z := z + 1) X hK hw hz (fun q hq => Or.inr (Nat.le_of_succ_le hq)) (c8_init l D cz ev (List.mem_append_right _ (List.mem_singleton.mpr rfl)) (va_up_self _ _ _) (show _ = ((nwS z S Rf I J).1, (nwS z S Rf I J).2.1, (nwS z S Rf I J).2.2.1, (nwS z S Rf I J).2.2.2) from rfl)) ⟨hK.2.1.1.1, nw_11_30⟩ ⟨Nat.le_of_ble_eq_true rfl, Nat.le_of_ble_eq_true rfl⟩ rfl rfl (Nat.le_of_ble_eq_true rfl) hl.1 ⟨Nat.le_of_ble_eq_true rfl, Nat.le_of_ble_eq_true rfl⟩ dX11_image_29 (fun H locs hw hz => ?_)
        have hw : WX D cz _ (apn L z 23) _ _ s.heap _ _ H locs := yb_w5 (apn_apn (L := L) (z := z) (j := 1) 22).symm rfl rfl rfl rfl hw
        have hb27 : b + 27 < z := hlt _ (cw_mem hC 27 (by decide))
        have hat := nwS_at (z := z) (S := S) (Rf := Rf) (I := I) (J := J) L
        refine x_aast5 X hK hw (apn_old (cw_mem hC 27 (by decide)) 23) (n := 4) ((nwS_S hb27).trans (cw_S hC 27 rfl)) hat.1.1 hat.1.2 hi_3 rfl dX11_image_32 (fun H locs hw => ?_)
        obtain ⟨r3, I3, J3, hq3, hf⟩ := yb_b3_some hf
        cases hf
        exact u11_image_B (im_cw hC hlt) X hK (Nat.le_of_ble_eq_true rfl) (Nat.le_of_ble_eq_true rfl) ⟨Nat.le_of_ble_eq_true rfl, Nat.le_of_ble_eq_true rfl⟩ hq3 hw (lv_sub hl [0, 1] rfl) hfin
      · rw [ho_5] at hf
        have hf := yb_op_s hf
        refine x_aaldS_5 X hK hw (cw_mem hC 27 (by decide)) (cw_S hC 27 rfl) hi_3 rfl ho_5 dX11_image_16 ?_
        cases hf
    · have hf := yb_neg c_2 hf
      refine lv_iconst (v := (-1 : Int32)) hx hb dX11_image_9 (by decide) ?_
      cases hf
