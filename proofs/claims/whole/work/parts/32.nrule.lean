theorem dJ7_copyOf_59c91_0 : decode cJ7_copyOf_59c91 0 = .ok (.iload_n 1, 1) := by decide +kernel
theorem dJ7_copyOf_59c91_1 : decode cJ7_copyOf_59c91 1 = .ok (.aload_n 0, 1) := by decide +kernel
theorem dJ7_copyOf_59c91_2 : decode cJ7_copyOf_59c91 2 = .ok (.arraylength, 1) := by decide +kernel
theorem dJ7_copyOf_59c91_3 : decode cJ7_copyOf_59c91 3 = .ok (.if_icmp .ne 11, 3) := by decide +kernel
theorem dJ7_copyOf_59c91_6 : decode cJ7_copyOf_59c91 6 = .ok (.aload_n 0, 1) := by decide +kernel
theorem dJ7_copyOf_59c91_7 : decode cJ7_copyOf_59c91 7 = .ok (.invokevirtual 316, 3) := by decide +kernel
theorem dJ7_copyOf_59c91_10 : decode cJ7_copyOf_59c91 10 = .ok (.checkcast 317, 3) := by decide +kernel
theorem dJ7_copyOf_59c91_13 : decode cJ7_copyOf_59c91 13 = .ok (.areturn, 1) := by decide +kernel
theorem dJ7_copyOf_59c91_14 : decode cJ7_copyOf_59c91 14 = .ok (.iload_n 1, 1) := by decide +kernel
theorem dJ7_copyOf_59c91_15 : decode cJ7_copyOf_59c91 15 = .ok (.newarray .int, 2) := by decide +kernel
theorem dJ7_copyOf_59c91_17 : decode cJ7_copyOf_59c91 17 = .ok (.astore_n 2, 1) := by decide +kernel
theorem dJ7_copyOf_59c91_18 : decode cJ7_copyOf_59c91 18 = .ok (.aload_n 0, 1) := by decide +kernel
theorem dJ7_copyOf_59c91_19 : decode cJ7_copyOf_59c91 19 = .ok (.iconst 0, 1) := by decide +kernel
theorem dJ7_copyOf_59c91_20 : decode cJ7_copyOf_59c91 20 = .ok (.aload_n 2, 1) := by decide +kernel
theorem dJ7_copyOf_59c91_21 : decode cJ7_copyOf_59c91 21 = .ok (.iconst 0, 1) := by decide +kernel
theorem dJ7_copyOf_59c91_22 : decode cJ7_copyOf_59c91 22 = .ok (.aload_n 0, 1) := by decide +kernel
theorem dJ7_copyOf_59c91_23 : decode cJ7_copyOf_59c91 23 = .ok (.arraylength, 1) := by decide +kernel
theorem dJ7_copyOf_59c91_24 : decode cJ7_copyOf_59c91 24 = .ok (.iload_n 1, 1) := by decide +kernel
theorem dJ7_copyOf_59c91_25 : decode cJ7_copyOf_59c91 25 = .ok (.invokestatic 304, 3) := by decide +kernel
theorem dJ7_copyOf_59c91_28 : decode cJ7_copyOf_59c91 28 = .ok (.invokestatic 150, 3) := by decide +kernel
theorem dJ7_copyOf_59c91_31 : decode cJ7_copyOf_59c91 31 = .ok (.aload_n 2, 1) := by decide +kernel
theorem dJ7_copyOf_59c91_32 : decode cJ7_copyOf_59c91 32 = .ok (.areturn, 1) := by decide +kernel
theorem dX6_made_0 : decode cX6_made 0 = .ok (.new 19, 3) := by decide +kernel
theorem dX6_made_3 : decode cX6_made 3 = .ok (.dup, 1) := by decide +kernel
theorem dX6_made_4 : decode cX6_made 4 = .ok (.aload_n 0, 1) := by decide +kernel
theorem dX6_made_5 : decode cX6_made 5 = .ok (.getfield 9, 3) := by decide +kernel
theorem dX6_made_8 : decode cX6_made 8 = .ok (.aload_n 0, 1) := by decide +kernel
theorem dX6_made_9 : decode cX6_made 9 = .ok (.getfield 21, 3) := by decide +kernel
theorem dX6_made_12 : decode cX6_made 12 = .ok (.invokestatic 25, 3) := by decide +kernel
theorem dX6_made_15 : decode cX6_made 15 = .ok (.invokespecial 31, 3) := by decide +kernel
theorem dX6_made_18 : decode cX6_made 18 = .ok (.areturn, 1) := by decide +kernel
def MBr (l : Launch) (D : va_G) (cz : Nat → ClassId) (ev : Nat × Nat × Nat) (y : MethodName) (b : ByteArray) (n : Nat) (ret : Option FieldType) (fr lo mc ms : Nat) (av : List Value) (z : Nat) (L : List Nat) (S : ST) (Rf : RT) (I : IT) (J : JT) (a0 : Nat) (L1 : List Nat) (S1 : ST) (Rf1 : RT) (I1 : IT) (J1 : JT) : Prop :=
  Met l y (.code y b n ret :: gw) { frames := fr, cells := mc, slots := ms, locals := lo } (va_Pc av (fun U => U.heap.size = z ∧ PE D cz ev L S Rf I J U ∧ ev.1 ≤ z)) (va_Qr (fun (_ : Unit) => True) (fun _ a t => a = a0 ∧ PX D cz L1 S1 Rf1 I1 J1 t) (fun q => q ∈ L ∨ z ≤ q)) mc ms (fun q => q ∈ L ∨ z ≤ q)
theorem MBr_of {l : Launch} {D : va_G} {cz : Nat → ClassId} {ev : Nat × Nat × Nat} {L L1 : List Nat} {S S1 : ST} {Rf Rf1 : RT} {I I1 : IT} {J J1 : JT} {y : MethodName} {b : ByteArray} {n fr lo mc ms z a0 : Nat} {av : List Value} {rt : FieldType} (hrt : (∃ n, rt = .object n) ∨ ∃ t, rt = .array t) (hy : plainName y.cls = true) (hav : (lg_sl av).length ≤ n)
    (body : ∀ (p : Program) (e : Env) (s : State) (m : MethodId) (args : Array Value) (below : List Frame) (meth : Method) (c : Code) (Q : State → Prop) (ls : Array Slot), CallFix p m c b n s args gw y.cls → KX D cz ev (fun q => q ∈ L ∨ z ≤ q) s → s.heap.size = z → WX D cz (fun q => q ∈ L ∨ z ≤ q) L S Rf s.heap I J s.heap [] → lv_has ls n (lv_args 0 av) →
      (∀ (H : Heap) (locs : List Loc) (ls : Array Slot) (pc : Nat), WX D cz (fun q => q ∈ L ∨ z ≤ q) L1 S1 Rf1 s.heap I1 J1 H locs → decode b pc = .ok (.areturn, 1) → W p l e { frames := fr, cells := mc, slots := ms, locals := lo } s m args below meth c H locs mc ms Q (F0 m pc ls [.ref a0])) →
      W p l e { frames := fr, cells := mc, slots := ms, locals := lo } s m args below meth c s.heap [] 0 0 Q (F0 m 0 ls [])) : MBr l D cz ev y b n (some rt) fr lo mc ms av z L S Rf I J a0 L1 S1 Rf1 I1 J1 := by
  refine Met.ofW (cc := b) (maxL := n) (ret := some rt) hy rfl ?_
  intro p e s m args below meth c s₁ B hml hv
  obtain ⟨rfl, hz, ⟨⟨hP, hK, hN⟩, hE, hB⟩, hev⟩ := hv
  have hlocks := B.notSynchronized
  have X : CallFix p m c b n s _ gw y.cls := ⟨B.exec, B.bytes, hml, findClass_of_methodNamed B.named, fun w hw => atoms_spec (ws := .code y b n (some rt) :: gw) B.pre w (List.mem_cons_of_mem _ hw)⟩
  rw [lg_entry_eq]
  refine body p e s m _ below meth c _ _ X ⟨hK, hE, fun q hq => hq.elim (hB q) (fun h => Nat.le_trans hev h)⟩ hz ⟨hP, pl_D hN (fun _ h => Or.inl h), va_S.rf⟩ (lv_entry av hav) (fun H locs ls pc hw hd => ?_)
  exact W.aret B.exec B.bytes B.returns hrt (Or.inr ⟨a0, rfl⟩) (fun t ht hW => ⟨⟨(), a0, rfl, trivial, rfl, by rw [ht]; exact hw.1, va_K.moved hW.alike hK, pl_nodup hw.2.1⟩, hw.2.2.F ht⟩) hw.2.2.2.2 hd
section XRB
variable {p : Program} {l : Launch} {e : Env} {R : Room} {s : State} {m : MethodId} {args : Array Value} {below : List Frame} {meth : Method} {c : Code} {H : Heap} {locs : List Loc} {cells slots : Nat} {Q : State → Prop}
variable {cc : ByteArray} {nL : Nat} {own : String} {pc : Nat} {ls : Array Slot} {rest : List Value}
variable {D : va_G} {cz : Nat → ClassId} {A : Nat → Prop} {ev : Nat × Nat × Nat} {L L1 : List Nat} {S S1 : ST} {Rf Rf1 : RT} {I I1 : IT} {J J1 : JT} {z a0 : Nat}
variable {y : MethodName} {b : ByteArray} {n fr lo mc ms idx np : Nat} {ret : Option FieldType}
theorem x_callrB (X : CallFix p m c cc nL s args gw own) (hK : KX D cz ev A s) (hw : WX D cz A L S Rf s.heap I J H locs) (hz : H.size = z) (hAz : ∀ q, z ≤ q → A q) {a ci k : Nat} {As : List Value} (hM : MBr l D cz ev y b n ret fr lo mc ms (.ref a :: As) z L S Rf I J a0 L1 S1 Rf1 I1 J1) (hL1 : ∀ a ∈ L1, a ∈ L ∨ z ≤ a) (ha : a ∈ L) (hS : S a = (ci + 7, k)) {T : u_T} {N : Nat} (hc : clsX[ci]? = some (y.cls, T, N)) (v : VW own idx y b n ret np) (hR : fr + 1 ≤ R.frames ∧ 8 + (n + 11) + lo ≤ R.locals) (hn : As.length = np) {st0 : List Value} (hst : st0 = As.reverse ++ .ref a :: rest) (hrm : (rest.map fun v => v.category).sum ≤ 8) (hls : ls.size = nL) (hcs : cells + mc ≤ R.cells ∧ slots + ms ≤ R.slots) (hdg : decode cc pc = .ok (.invokevirtual idx, 3))
    (kk : ∀ (H1 : Heap) (locs1 : List Loc), WX D cz A L1 S1 Rf1 s.heap I1 J1 H1 locs1 → W p l e R s m args below meth c H1 locs1 (cells + mc) (slots + ms) Q (F0 m (pc + 3) ls (.ref a0 :: rest))) : W p l e R s m args below meth c H locs cells slots Q (F0 m pc ls st0) := by
  have hAA : ∀ q, (q ∈ L ∨ z ≤ q) → A q := fun q h => h.elim (fun g => pl_A hw.2.1 g) (hAz q)
  obtain ⟨q0, hq⟩ := x_cell hw ha
  rw [EX_obj hS] at hq
  refine va_callr (va_runV (As := As) (rest := rest) X hM (x_cwB X v hR) ⟨pa_blind, va_recv hK.1 hw.1 hc hq, x_preA hw hK hz hAz⟩ rfl hn hls hst (lv_room hrm) hdg hcs) hw.2.2 (fun q _ h => hAA q h) (fun q h => hAA q h) (fun u ra t H1 locs1 ht hvm hp hB hzz hk hS1 => ?_)
  obtain ⟨hra, hP1, hK1, hN1⟩ := hB
  rw [ht] at hP1
  subst hra
  exact kk H1 locs1 ⟨hP1, pl_D hN1 (fun a h => hAA a (hL1 a h)), hS1⟩
theorem x_callsrB (X : CallFix p m c cc nL s args gw own) (hK : KX D cz ev A s) (hw : WX D cz A L S Rf s.heap I J H locs) (hz : H.size = z) (hAz : ∀ q, z ≤ q → A q) {As : List Value} (hM : MBr l D cz ev y b n ret fr lo mc ms As z L S Rf I J a0 L1 S1 Rf1 I1 J1) (hL1 : ∀ a ∈ L1, a ∈ L ∨ z ≤ a) (v : SW own idx y b n ret np) (hR : fr + 1 ≤ R.frames ∧ 8 + (n + 11) + lo ≤ R.locals) (hn : As.length = np) {st0 : List Value} (hst : st0 = As.reverse ++ rest) (hrm : (rest.map fun v => v.category).sum ≤ 8) (hls : ls.size = nL) (hcs : cells + mc ≤ R.cells ∧ slots + ms ≤ R.slots) (hdg : decode cc pc = .ok (.invokestatic idx, 3))
    (kk : ∀ (H1 : Heap) (locs1 : List Loc), WX D cz A L1 S1 Rf1 s.heap I1 J1 H1 locs1 → W p l e R s m args below meth c H1 locs1 (cells + mc) (slots + ms) Q (F0 m (pc + 3) ls (.ref a0 :: rest))) : W p l e R s m args below meth c H locs cells slots Q (F0 m pc ls st0) := by
  have hAA : ∀ q, (q ∈ L ∨ z ≤ q) → A q := fun q h => h.elim (fun g => pl_A hw.2.1 g) (hAz q)
  obtain ⟨⟨h1, h2, h4, h5⟩, hd⟩ := v
  refine va_callr (va_runS (As := As) (rest := rest) X hM ⟨callB_of np X.2.2.2.2 (gw_call h5) rfl rfl rfl (X.2.2.2.2 _ h4) (X.2.2.2.2 _ h1) hd hR, X.2.2.2.2 _ h2⟩ ⟨pa_blind, x_preA hw hK hz hAz⟩ rfl hn hls hst (lv_room hrm) hdg hcs) hw.2.2 (fun q _ h => hAA q h) (fun q h => hAA q h) (fun u ra t H1 locs1 ht hvm hp hB hzz hk hS1 => ?_)
  obtain ⟨hra, hP1, hK1, hN1⟩ := hB
  rw [ht] at hP1
  subst hra
  exact kk H1 locs1 ⟨hP1, pl_D hN1 (fun a h => hAA a (hL1 a h)), hS1⟩
end XRB
def mdok (v : Int32) : Bool := decide (¬ v < 0 ∧ v < 400)
set_option maxHeartbeats 4000000 in
theorem cJ_copyOf (l : Launch) (D : va_G) (cz : Nat → ClassId) (ev : Nat × Nat × Nat) {t0 z : Nat} {L : List Nat} {S : ST} {Rf : RT} {I : IT} {J : JT} {x1 : Int32} (ha : t0 ∈ L) (hS : S t0 = (0, 400)) (hx1 : mdok x1 = true) : MBr l D cz ev yJ7_copyOf_59c91 cJ7_copyOf_59c91 3 (some (.array .int)) 2 100 1 400 [.ref t0, .int x1] z L S Rf I J z (apn L z 1) (va_up S z (0, x1.toNatClampNeg)) (va_up Rf z (fun _ => none)) (cpy2 (va_up I z (fun _ => 0)) t0 z x1.toNatClampNeg) (va_up J z (fun _ => 0)) := by
  obtain ⟨h0, h4⟩ := of_decide_eq_true hx1
  have hne : ¬ x1 = nI 400 := fun g => by rw [g] at h4; exact absurd h4 (by decide)
  have hlt4 : x1 < nI 400 := h4
  obtain ⟨j, hj, ej⟩ := nI_of h0
  have hj4 : j < 400 := by
    rw [ej] at h4
    exact (nI_ltI hj (by decide)).mp h4
  have hn : x1.toNatClampNeg < 400 := by rw [ej, nI_clamp hj]; exact hj4
  refine MBr_of (Or.inr ⟨_, rfl⟩) (by decide) (Nat.le_of_ble_eq_true rfl) ?_
  intro p e s m args below meth c Q ls X hK hz hw hl hfin
  have X : CallFix p m c cJ7_copyOf_59c91 3 s args gw RJ7 := X
  have hx := X.1
  have hb := X.2.1
  have hlt : t0 < z := hz ▸ wx_lt hw ha
  have hl : lv_has ls 3 [(0, .ref t0), (1, .int x1)] := hl
  refine lv_iload_n hx hb dJ7_copyOf_59c91_0 rfl (lv_at hl 1 rfl) ?_
  refine lv_aload_n hx hb dJ7_copyOf_59c91_1 rfl (lv_at hl 0 rfl) ?_
  refine x_alen X hK hw ha hS dJ7_copyOf_59c91_2 ?_
  refine lv_icmp_ne (tgt := 14) hx hb dJ7_copyOf_59c91_3 (by decide) (fun _ => ?_) (fun g => absurd g hne)
  refine lv_iload_n hx hb dJ7_copyOf_59c91_14 rfl (lv_at hl 1 rfl) ?_
  refine x_newa0 (z := z) X hK hw hz (Or.inr (Nat.le_refl z)) tw_175 h0 rfl (by show x1.toNatClampNeg * 4 ≤ _; omega) (Nat.le_of_ble_eq_true rfl) (by show 0 + x1.toNatClampNeg ≤ 400; omega) dJ7_copyOf_59c91_15 (fun H hw hz => ?_)
  refine W.widen (k := 1) (n := 400) (Nat.le_of_ble_eq_true rfl) (by omega) ?_
  refine lv_astore_n (lv' := [(2, .ref z), (0, .ref t0), (1, .int x1)]) hx hb dJ7_copyOf_59c91_17 rfl hl (by decide) rfl (fun ls hl => ?_)
  refine lv_aload_n hx hb dJ7_copyOf_59c91_18 rfl (lv_at hl 1 rfl) ?_
  refine lv_iconst (v := 0) hx hb dJ7_copyOf_59c91_19 (by decide) ?_
  refine lv_aload_n hx hb dJ7_copyOf_59c91_20 rfl (lv_at hl 0 rfl) ?_
  refine lv_iconst (v := 0) hx hb dJ7_copyOf_59c91_21 (by decide) ?_
  refine lv_aload_n hx hb dJ7_copyOf_59c91_22 rfl (lv_at hl 1 rfl) ?_
  have hm0 : t0 ∈ L ++ [z] := List.mem_append_left _ ha
  have hS0 : va_up S z (0, x1.toNatClampNeg) t0 = (0, 400) := (va_up_ne _ _ (Nat.ne_of_lt hlt)).trans hS
  refine x_alen X hK hw hm0 hS0 dJ7_copyOf_59c91_23 ?_
  refine lv_iload_n hx hb dJ7_copyOf_59c91_24 rfl (lv_at hl 2 rfl) ?_
  refine va_mmin hx hb (X.2.2.1.trans hl.1.symm) X.2.2.2.1 (X.2.2.2.2 _ tw_868) (X.2.2.2.2 _ tw_633) (X.2.2.2.2 _ tw_131) (X.2.2.2.2 _ tw_634) (Nat.le_of_ble_eq_true rfl) (Nat.le_of_ble_eq_true rfl) (Nat.le_of_ble_eq_true rfl) (Nat.le_of_ble_eq_true rfl) dJ7_copyOf_59c91_25 ?_
  rw [if_pos hlt4]
  refine x_acopy X hK hw hm0 hS0 (List.mem_append_right _ (List.mem_singleton.mpr rfl)) (va_up_self _ _ _) (k := x1.toNatClampNeg) rfl h0 (Nat.le_of_lt hn) (Nat.le_refl _) (Nat.le_of_ble_eq_true rfl) (by decide) tw_869 hl.1 dJ7_copyOf_59c91_28 (fun H locs hw => ?_)
  refine lv_aload_n hx hb dJ7_copyOf_59c91_31 rfl (lv_at hl 0 rfl) ?_
  exact hfin _ _ _ _ hw dJ7_copyOf_59c91_32
theorem sw_X6_25 : SW RX6 25 yJ7_copyOf_59c91 cJ7_copyOf_59c91 3 (some (.array .int)) 2 := ⟨⟨tw_858, tw_859, tw_132, tw_860⟩, by decide +kernel⟩
theorem iw_6_31 : IW RX6 31 yX5_init cX5_init 2 1 := ⟨⟨tw_870, tw_871, tw_138, tw_872⟩, rfl, by decide +kernel⟩
/-- the tables behind new Rule(Arrays.copyOf(steps, many)) -/
def mdT (b z : Nat) (S : ST) (Rf : RT) (I : IT) (J : JT) : ST × RT × IT × JT :=
  f5_init z (z + 2) (z + 1) (va_up (va_up S z (12, 0)) (z + 1) (0, (I (b + 62) 2).toNatClampNeg)) (va_up (va_up Rf z (fun _ => none)) (z + 1) (fun _ => none)) (cpy2 (va_up (va_up I z (fun _ => 0)) (z + 1) (fun _ => 0)) (b + 63) (z + 1) (I (b + 62) 2).toNatClampNeg) (va_up (va_up J z (fun _ => 0)) (z + 1) (fun _ => 0))
set_option maxHeartbeats 4000000 in
theorem c6_made (l : Launch) (D : va_G) (cz : Nat → ClassId) (ev : Nat × Nat × Nat) {b z : Nat} {L : List Nat} {S : ST} {Rf : RT} (hC : CW b L S Rf) {I : IT} {J : JT} (hm : mdok (I (b + 62) 2) = true) : MBr l D cz ev yX6_made cX6_made 1 (some (.object "YoungerBench$Rule")) 3 122 2 401 [.ref (b + 62)] z L S Rf I J z (apn L z 2) (mdT b z S Rf I J).1 (mdT b z S Rf I J).2.1 (mdT b z S Rf I J).2.2.1 (mdT b z S Rf I J).2.2.2 := by
  refine MBr_of (Or.inl ⟨_, rfl⟩) (by decide) (Nat.le_of_ble_eq_true rfl) ?_
  intro p e s m args below meth c Q ls X hK hz hw hl hfin
  have X : CallFix p m c cX6_made 1 s args gw RX6 := X
  have hx := X.1
  have hb := X.2.1
  have hlt : ∀ a ∈ L, a < z := fun a ha => hz ▸ wx_lt hw ha
  have hl : lv_has ls 1 [(0, .ref (b + 62))] := hl
  have h62 := hlt _ (cw_mem hC 62 (by decide))
  have h63 := hlt _ (cw_mem hC 63 (by decide))
  have n62 : b + 62 ≠ z := Nat.ne_of_lt h62
  have n63 : b + 63 ≠ z := Nat.ne_of_lt h63
  have hz0 : s.heap.size = z := hz
  refine x_new (z := z) X hK hw hz (Or.inr (Nat.le_refl z)) cpX5 dfX5 tw_856 tw_857 tw_138 (Nat.le_of_ble_eq_true rfl) (Nat.le_of_ble_eq_true rfl) dX6_made_0 (fun H hw hz => ?_)
  refine lv_dup hx hb dX6_made_3 rfl ?_
  refine lv_aload_n hx hb dX6_made_4 rfl (lv_at hl 0 rfl) ?_
  have hS62 : va_up S z (5 + 7, 0) (b + 62) = (6 + 7, 0) := (va_up_ne _ _ n62).trans (cw_S hC 62 rfl)
  have hS63 : va_up S z (5 + 7, 0) (b + 63) = (0, 400) := (va_up_ne _ _ n63).trans (cw_S hC 63 rfl)
  have hm62 : b + 62 ∈ L ++ [z] := List.mem_append_left _ (cw_mem hC 62 (by decide))
  have hm63 : b + 63 ∈ L ++ [z] := List.mem_append_left _ (cw_mem hC 63 (by decide))
  have hR : va_up Rf z (fun _ => none) (b + 62) 1 = some (b + 63) := by rw [va_up_ne _ _ n62]; exact cw_R hC 62 1 (by decide) rfl
  refine x_getR X hK hw hm62 hS62 cpX6 1 (by decide) rfl hR tw_545 dX6_made_5 ?_
  refine lv_aload_n hx hb dX6_made_8 rfl (lv_at hl 0 rfl) ?_
  refine x_getI X hK hw hm62 hS62 cpX6 2 (by decide) rfl tw_546 dX6_made_9 ?_
  have hI : va_up I z (fun _ => 0) (b + 62) 2 = I (b + 62) 2 := by rw [va_up_ne _ _ n62]
  rw [hI]
  refine x_callsrB (z := z + 1) X hK hw hz (fun q hq => Or.inr (Nat.le_of_succ_le hq)) (cJ_copyOf l D cz ev hm63 hS63 hm) (fun a ha => (apn_mem 1 ha).imp id (fun g => g.1)) sw_X6_25 ⟨Nat.le_of_ble_eq_true rfl, Nat.le_of_ble_eq_true rfl⟩ rfl rfl (Nat.le_of_ble_eq_true rfl) hl.1 ⟨Nat.le_of_ble_eq_true rfl, Nat.le_of_ble_eq_true rfl⟩ dX6_made_12 (fun H locs hw => ?_)
  have hw : WX D cz _ (apn L z 2) _ _ s.heap _ _ H locs := yb_w5 (apn_apn (L := L) (z := z) (j := 1) 1).symm rfl rfl rfl rfl hw
  refine x_size (fun q1 q2 => ?_)
  have hz : H.size = z + 2 := Nat.le_antisymm (Nat.le_trans q2 (Nat.le_of_eq (congrArg (fun x => x + 2) hz0))) (wx_lt hw (apn_new (L := L) (z := z) (j := 1) 2 (by decide)))
  have hSz : va_up (va_up S z (5 + 7, 0)) (z + 1) (0, (I (b + 62) 2).toNatClampNeg) z = (5 + 7, 0) := by rw [va_up_ne _ _ (by omega), va_up_self]
  refine x_ctor (z := z + 2) X hK hw hz (fun q hq => Or.inr (Nat.le_of_succ_le (Nat.le_of_succ_le hq))) (c5_init l D cz ev (apn_new (L := L) (z := z) (j := 0) 2 (by decide)) hSz (show _ = ((mdT b z S Rf I J).1, (mdT b z S Rf I J).2.1, (mdT b z S Rf I J).2.2.1, (mdT b z S Rf I J).2.2.2) from rfl)) iw_6_31 ⟨Nat.le_of_ble_eq_true rfl, Nat.le_of_ble_eq_true rfl⟩ rfl rfl (Nat.le_of_ble_eq_true rfl) hl.1 ⟨Nat.le_of_ble_eq_true rfl, Nat.le_of_ble_eq_true rfl⟩ dX6_made_15 (fun H locs hw hz => ?_)
  exact hfin _ _ _ _ hw dX6_made_18
theorem md_S {b z a : Nat} {S : ST} {Rf : RT} {I : IT} {J : JT} (h : a < z) : (mdT b z S Rf I J).1 a = S a := by
  unfold mdT; rw [fS5 (by omega), va_up_ne _ _ (by omega), va_up_ne _ _ (by omega)]
theorem md_R {b z a : Nat} {S : ST} {Rf : RT} {I : IT} {J : JT} (h : a < z) : (mdT b z S Rf I J).2.1 a = Rf a := by
  unfold mdT; rw [fR5 (by omega) (by omega), va_up_ne _ _ (by omega), va_up_ne _ _ (by omega)]
theorem md_I {b z a : Nat} {S : ST} {Rf : RT} {I : IT} {J : JT} (h : a < z) : (mdT b z S Rf I J).2.2.1 a = I a := by
  unfold mdT; rw [fI5 (by omega) (by omega)]
  show (if a = z + 1 then _ else _) = _
  rw [if_neg (by omega), va_up_ne _ _ (by omega), va_up_ne _ _ (by omega)]
theorem md_J {b z a : Nat} {S : ST} {Rf : RT} {I : IT} {J : JT} (h : a < z) : (mdT b z S Rf I J).2.2.2 a = J a := by
  unfold mdT; rw [fJ5 (by omega) (by omega), va_up_ne _ _ (by omega), va_up_ne _ _ (by omega)]
theorem md_at {b z : Nat} (L : List Nat) {S : ST} {Rf : RT} {I : IT} {J : JT} : RuleAt (apn L z 2) (mdT b z S Rf I J).1 (mdT b z S Rf I J).2.1 z := by
  refine ⟨⟨apn_new (j := 0) 2 (by decide), ?_⟩, ?_, apn_new (j := 1) 2 (by decide), ?_⟩ <;> simp [mdT, f5_init, yb_let, va_up, up2R]
/-- the references behind rules[rulesTold] = made() -/
def ruR (b z : Nat) (S : ST) (Rf : RT) (I : IT) (J : JT) : RT := up2R (mdT b z S Rf I J).2.1 (b + 3) (I b 15).toNatClampNeg (some z)
theorem ru_ext {b z : Nat} {L : List Nat} {S : ST} {Rf : RT} {I : IT} {J : JT} (hlt : ∀ a ∈ L, a < z) : Ext L (apn L z 2) S (mdT b z S Rf I J).1 Rf (ruR b z S Rf I J) (b + 3) :=
  ⟨fun _ h => apn_old h 2, fun a h => md_S (hlt a h), fun a h hne => by unfold ruR; rw [up2R_ne _ _ _ hne, md_R (hlt a h)]⟩
theorem ru_cw {b z : Nat} {L : List Nat} {S : ST} {Rf : RT} {I : IT} {J : JT} (hC : CW b L S Rf) (hlt : ∀ a ∈ L, a < z) : CW b (apn L z 2) (mdT b z S Rf I J).1 (ruR b z S Rf I J) := by
  have h3 := hlt _ (cw_mem hC 3 (by decide))
  refine (ru_ext hlt).cw hC (Or.inl rfl) (k := (I b 15).toNatClampNeg) (v := z) ?_ (fun _ => ?_) (fun h => by omega) (fun h => by omega)
  · unfold ruR; rw [up2R_self, md_R h3]
  · have h := md_at (b := b) (z := z) (S := S) (Rf := Rf) (I := I) (J := J) L
    have hne : z ≠ b + 3 := by omega
    exact ⟨h.1, by unfold ruR; rw [up2R_ne _ _ _ hne]; exact h.2.1, h.2.2⟩
