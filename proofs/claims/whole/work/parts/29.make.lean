/-! METHODS THAT MAKE -/
def MBi (l : Launch) (D : va_G) (cz : Nat → ClassId) (ev : Nat × Nat × Nat) (y : MethodName) (b : ByteArray) (n : Nat) (ret : Option FieldType) (fr lo mc ms : Nat) (av : List Value) (z : Nat) (L : List Nat) (S : ST) (Rf : RT) (I : IT) (J : JT) (r : Int32) (L1 : List Nat) (S1 : ST) (Rf1 : RT) (I1 : IT) (J1 : JT) : Prop :=
  Met l y (.code y b n ret :: gw) { frames := fr, cells := mc, slots := ms, locals := lo } (va_Pc av (fun U => U.heap.size = z ∧ PE D cz ev L S Rf I J U ∧ ev.1 ≤ z)) (va_Qi (fun x (_ : Unit) => x = r) (fun _ t => PX D cz L1 S1 Rf1 I1 J1 t) (fun q => q ∈ L ∨ z ≤ q)) mc ms (fun q => q ∈ L ∨ z ≤ q)
def MBv (l : Launch) (D : va_G) (cz : Nat → ClassId) (ev : Nat × Nat × Nat) (y : MethodName) (b : ByteArray) (n : Nat) (ret : Option FieldType) (fr lo mc ms : Nat) (av : List Value) (z : Nat) (L : List Nat) (S : ST) (Rf : RT) (I : IT) (J : JT) (_r : Unit) (L1 : List Nat) (S1 : ST) (Rf1 : RT) (I1 : IT) (J1 : JT) : Prop :=
  Met l y (.code y b n ret :: gw) { frames := fr, cells := mc, slots := ms, locals := lo } (va_Pc av (fun U => U.heap.size = z ∧ PE D cz ev L S Rf I J U ∧ ev.1 ≤ z)) (va_Qv (fun (_ : Unit) => True) (fun _ t => PX D cz L1 S1 Rf1 I1 J1 t) (fun q => q ∈ L ∨ z ≤ q)) mc ms (fun q => q ∈ L ∨ z ≤ q)
section XENTERB
variable {l : Launch} {D : va_G} {cz : Nat → ClassId} {ev : Nat × Nat × Nat} {L L1 : List Nat} {S S1 : ST} {Rf Rf1 : RT} {I I1 : IT} {J J1 : JT} {y : MethodName} {b : ByteArray} {n fr lo mc ms z : Nat} {av : List Value}
theorem MBi_of {r : Int32} (hy : plainName y.cls = true) (hav : (lg_sl av).length ≤ n)
    (body : ∀ (p : Program) (e : Env) (s : State) (m : MethodId) (args : Array Value) (below : List Frame) (meth : Method) (c : Code) (Q : State → Prop) (ls : Array Slot), CallFix p m c b n s args gw y.cls → KX D cz ev (fun q => q ∈ L ∨ z ≤ q) s → s.heap.size = z → WX D cz (fun q => q ∈ L ∨ z ≤ q) L S Rf s.heap I J s.heap [] → lv_has ls n (lv_args 0 av) →
      (∀ (H : Heap) (locs : List Loc) (ls : Array Slot) (pc : Nat), WX D cz (fun q => q ∈ L ∨ z ≤ q) L1 S1 Rf1 s.heap I1 J1 H locs → decode b pc = .ok (.ireturn, 1) → W p l e { frames := fr, cells := mc, slots := ms, locals := lo } s m args below meth c H locs mc ms Q (F0 m pc ls [.int r])) →
      W p l e { frames := fr, cells := mc, slots := ms, locals := lo } s m args below meth c s.heap [] 0 0 Q (F0 m 0 ls [])) : MBi l D cz ev y b n (some .int) fr lo mc ms av z L S Rf I J r L1 S1 Rf1 I1 J1 := by
  refine Met.ofW (cc := b) (maxL := n) (ret := some .int) hy rfl ?_
  intro p e s m args below meth c s₁ B hml hv
  obtain ⟨rfl, hz, ⟨⟨hP, hK, hN⟩, hE, hB⟩, hev⟩ := hv
  have hlocks := B.notSynchronized
  have X : CallFix p m c b n s _ gw y.cls := ⟨B.exec, B.bytes, hml, findClass_of_methodNamed B.named, fun w hw => atoms_spec (ws := .code y b n (some .int) :: gw) B.pre w (List.mem_cons_of_mem _ hw)⟩
  rw [lg_entry_eq]
  refine body p e s m _ below meth c _ _ X ⟨hK, hE, fun q hq => hq.elim (hB q) (fun h => Nat.le_trans hev h)⟩ hz ⟨hP, pl_D hN (fun _ h => Or.inl h), va_S.rf⟩ (lv_entry av hav) (fun H locs ls pc hw hd => ?_)
  exact W.iret B.exec B.bytes B.returns (fun t ht hW => ⟨⟨r, (), rfl, rfl, by rw [ht]; exact hw.1, va_K.moved hW.alike hK, pl_nodup hw.2.1⟩, hw.2.2.F ht⟩) hw.2.2.2.2 hd
theorem MBv_of {r : Unit} (hy : plainName y.cls = true) (hav : (lg_sl av).length ≤ n)
    (body : ∀ (p : Program) (e : Env) (s : State) (m : MethodId) (args : Array Value) (below : List Frame) (meth : Method) (c : Code) (Q : State → Prop) (ls : Array Slot), CallFix p m c b n s args gw y.cls → KX D cz ev (fun q => q ∈ L ∨ z ≤ q) s → s.heap.size = z → WX D cz (fun q => q ∈ L ∨ z ≤ q) L S Rf s.heap I J s.heap [] → lv_has ls n (lv_args 0 av) →
      (∀ (H : Heap) (locs : List Loc) (ls : Array Slot) (pc : Nat), WX D cz (fun q => q ∈ L ∨ z ≤ q) L1 S1 Rf1 s.heap I1 J1 H locs → decode b pc = .ok (.return_, 1) → W p l e { frames := fr, cells := mc, slots := ms, locals := lo } s m args below meth c H locs mc ms Q (F0 m pc ls [])) →
      W p l e { frames := fr, cells := mc, slots := ms, locals := lo } s m args below meth c s.heap [] 0 0 Q (F0 m 0 ls [])) : MBv l D cz ev y b n (none) fr lo mc ms av z L S Rf I J r L1 S1 Rf1 I1 J1 := by
  refine Met.ofW (cc := b) (maxL := n) (ret := none) hy rfl ?_
  intro p e s m args below meth c s₁ B hml hv
  obtain ⟨rfl, hz, ⟨⟨hP, hK, hN⟩, hE, hB⟩, hev⟩ := hv
  have hlocks := B.notSynchronized
  have X : CallFix p m c b n s _ gw y.cls := ⟨B.exec, B.bytes, hml, findClass_of_methodNamed B.named, fun w hw => atoms_spec (ws := .code y b n (none) :: gw) B.pre w (List.mem_cons_of_mem _ hw)⟩
  rw [lg_entry_eq]
  refine body p e s m _ below meth c _ _ X ⟨hK, hE, fun q hq => hq.elim (hB q) (fun h => Nat.le_trans hev h)⟩ hz ⟨hP, pl_D hN (fun _ h => Or.inl h), va_S.rf⟩ (lv_entry av hav) (fun H locs ls pc hw hd => ?_)
  exact W.vret B.exec B.bytes B.returns (fun t ht hW => ⟨⟨(), rfl, trivial, by rw [ht]; exact hw.1, va_K.moved hW.alike hK, pl_nodup hw.2.1⟩, hw.2.2.F ht⟩) hw.2.2.2.2 hd
end XENTERB
section XAST
variable {p : Program} {l : Launch} {e : Env} {R : Room} {s : State} {m : MethodId} {args : Array Value} {below : List Frame} {meth : Method} {c : Code} {H : Heap} {locs : List Loc} {cells slots : Nat} {Q : State → Prop}
variable {cc : ByteArray} {nL : Nat} {own : String} {pc : Nat} {ls : Array Slot} {rest : List Value}
variable {D : va_G} {cz : Nat → ClassId} {A : Nat → Prop} {ev : Nat × Nat × Nat} {L L1 : List Nat} {S S1 : ST} {Rf Rf1 : RT} {H0 : Heap} {I I1 : IT} {J J1 : JT} {z : Nat}
theorem EX_upr4 {a n k v : Nat} (h : S a = (4, n)) : va_up (EX cz S Rf I J) a (.inl (cz 4, n, .inr (.inr (.inr (.inr (va_up (Rf a) k (some v))))))) = EX cz S (up2R Rf a k (some v)) I J :=
  EX_up (by rw [EX_r4 h, up2R_self]) (fun b hb => ⟨rfl, rfl, up2R_ne _ _ _ hb⟩)
theorem x_aast4 (X : CallFix p m c cc nL s args gw own) (hK : KX D cz ev A s) (hw : WX D cz A L S Rf H0 I J H locs) {a n : Nat} (ha : a ∈ L) (hS : S a = (4, n)) {v j : Nat} (hv : v ∈ L) (hSv : S v = (12, j)) {i : Int32} (hin : inb i n = true) {k : Nat} (hk : i.toNatClampNeg = k) (hdg : decode cc pc = .ok (.aastore, 1))
    (kk : ∀ (H1 : Heap) (locs1 : List Loc), WX D cz A L S (up2R Rf a k (some v)) H0 I J H1 locs1 → W p l e R s m args below meth c H1 locs1 cells slots Q (F0 m (pc + 1) ls rest)) : W p l e R s m args below meth c H locs cells slots Q (F0 m pc ls (.ref v :: .int i :: .ref a :: rest)) := by
  subst hk
  obtain ⟨q0, hq'⟩ := x_cell hw ha
  have hq := hq'
  rw [EX_r4 hS] at hq
  obtain ⟨q1, hq1⟩ := x_cell hw hv
  rw [EX_obj (ci := 5) hSv] at hq1
  refine va_astq X.1 X.2.1 hK.1 hw.1 hw.2.1 hw.2.2 q0 4 q1 5 hq (r := (RX5, TX5, 1)) rfl hq1 rfl (inb_vp hin) hdg (fun H1 locs1 h1 h2 h3 => ?_)
  have hset : (va_pl L (EX cz S Rf I J)).set q0 (a, .inl (cz 4, n, .inr (.inr (.inr (.inr (va_up (Rf a) i.toNatClampNeg (some v))))))) = va_pl L (va_up (EX cz S Rf I J) a _) := va_pl_set (X := []) hw.2.1 ha hq'
  rw [hset, EX_upr4 hS] at h1 h2
  exact kk H1 locs1 ⟨h1, h2, h3⟩
theorem EX_upr5 {a n k v : Nat} (h : S a = (5, n)) : va_up (EX cz S Rf I J) a (.inl (cz 5, n, .inr (.inr (.inr (.inr (va_up (Rf a) k (some v))))))) = EX cz S (up2R Rf a k (some v)) I J :=
  EX_up (by rw [EX_r5 h, up2R_self]) (fun b hb => ⟨rfl, rfl, up2R_ne _ _ _ hb⟩)
theorem x_aast5 (X : CallFix p m c cc nL s args gw own) (hK : KX D cz ev A s) (hw : WX D cz A L S Rf H0 I J H locs) {a n : Nat} (ha : a ∈ L) (hS : S a = (5, n)) {v j : Nat} (hv : v ∈ L) (hSv : S v = (15, j)) {i : Int32} (hin : inb i n = true) {k : Nat} (hk : i.toNatClampNeg = k) (hdg : decode cc pc = .ok (.aastore, 1))
    (kk : ∀ (H1 : Heap) (locs1 : List Loc), WX D cz A L S (up2R Rf a k (some v)) H0 I J H1 locs1 → W p l e R s m args below meth c H1 locs1 cells slots Q (F0 m (pc + 1) ls rest)) : W p l e R s m args below meth c H locs cells slots Q (F0 m pc ls (.ref v :: .int i :: .ref a :: rest)) := by
  subst hk
  obtain ⟨q0, hq'⟩ := x_cell hw ha
  have hq := hq'
  rw [EX_r5 hS] at hq
  obtain ⟨q1, hq1⟩ := x_cell hw hv
  rw [EX_obj (ci := 8) hSv] at hq1
  refine va_astq X.1 X.2.1 hK.1 hw.1 hw.2.1 hw.2.2 q0 5 q1 8 hq (r := (RX8, TX8, 8)) rfl hq1 rfl (inb_vp hin) hdg (fun H1 locs1 h1 h2 h3 => ?_)
  have hset : (va_pl L (EX cz S Rf I J)).set q0 (a, .inl (cz 5, n, .inr (.inr (.inr (.inr (va_up (Rf a) i.toNatClampNeg (some v))))))) = va_pl L (va_up (EX cz S Rf I J) a _) := va_pl_set (X := []) hw.2.1 ha hq'
  rw [hset, EX_upr5 hS] at h1 h2
  exact kk H1 locs1 ⟨h1, h2, h3⟩
theorem EX_upr6 {a n k v : Nat} (h : S a = (6, n)) : va_up (EX cz S Rf I J) a (.inl (cz 6, n, .inr (.inr (.inr (.inr (va_up (Rf a) k (some v))))))) = EX cz S (up2R Rf a k (some v)) I J :=
  EX_up (by rw [EX_r6 h, up2R_self]) (fun b hb => ⟨rfl, rfl, up2R_ne _ _ _ hb⟩)
theorem x_aast6 (X : CallFix p m c cc nL s args gw own) (hK : KX D cz ev A s) (hw : WX D cz A L S Rf H0 I J H locs) {a n : Nat} (ha : a ∈ L) (hS : S a = (6, n)) {v j : Nat} (hv : v ∈ L) (hSv : S v = (7, j)) {i : Int32} (hin : inb i n = true) {k : Nat} (hk : i.toNatClampNeg = k) (hdg : decode cc pc = .ok (.aastore, 1))
    (kk : ∀ (H1 : Heap) (locs1 : List Loc), WX D cz A L S (up2R Rf a k (some v)) H0 I J H1 locs1 → W p l e R s m args below meth c H1 locs1 cells slots Q (F0 m (pc + 1) ls rest)) : W p l e R s m args below meth c H locs cells slots Q (F0 m pc ls (.ref v :: .int i :: .ref a :: rest)) := by
  subst hk
  obtain ⟨q0, hq'⟩ := x_cell hw ha
  have hq := hq'
  rw [EX_r6 hS] at hq
  obtain ⟨q1, hq1⟩ := x_cell hw hv
  rw [EX_obj (ci := 0) hSv] at hq1
  refine va_astq X.1 X.2.1 hK.1 hw.1 hw.2.1 hw.2.2 q0 6 q1 0 hq (r := (RX0, TX0, 10)) rfl hq1 rfl (inb_vp hin) hdg (fun H1 locs1 h1 h2 h3 => ?_)
  have hset : (va_pl L (EX cz S Rf I J)).set q0 (a, .inl (cz 6, n, .inr (.inr (.inr (.inr (va_up (Rf a) i.toNatClampNeg (some v))))))) = va_pl L (va_up (EX cz S Rf I J) a _) := va_pl_set (X := []) hw.2.1 ha hq'
  rw [hset, EX_upr6 hS] at h1 h2
  exact kk H1 locs1 ⟨h1, h2, h3⟩
variable {y : MethodName} {b : ByteArray} {n fr lo mc ms idx np : Nat} {ret : Option FieldType}
theorem x_cwB (X : CallFix p m c cc nL s args gw own) (v : VW own idx y b n ret np) (hR : fr + 1 ≤ R.frames ∧ 8 + (n + 11) + lo ≤ R.locals) : CallW R s args own y.cls idx y b n ret (.code y b n ret :: gw) { frames := fr, cells := mc, slots := ms, locals := lo } mc ms np := by
  obtain ⟨hx, hb, hml, hown, hts⟩ := X
  obtain ⟨⟨h1, h2, h3, h4, h5⟩, hd⟩ := v
  refine cwV np hts ?_ rfl rfl rfl ⟨rfl, hd⟩ hR
  intro w hw
  rcases List.mem_append.mp hw with h | h
  · have : w ∈ gw := by
      simp only [List.mem_cons, List.not_mem_nil, or_false] at h
      rcases h with rfl | rfl | rfl | rfl <;> assumption
    exact ⟨this, gw_good _ this⟩
  · exact gw_call h5 w h
theorem x_callvB (X : CallFix p m c cc nL s args gw own) (hK : KX D cz ev A s) (hw : WX D cz A L S Rf s.heap I J H locs) (hz : H.size = z) (hAz : ∀ q, z ≤ q → A q) {a ci k : Nat} {As : List Value} {r : Unit} (hM : MBv l D cz ev y b n ret fr lo mc ms (.ref a :: As) z L S Rf I J r L1 S1 Rf1 I1 J1) (hL1 : ∀ a ∈ L1, a ∈ L ∨ z ≤ a) (ha : a ∈ L) (hS : S a = (ci + 7, k)) {T : u_T} {N : Nat} (hc : clsX[ci]? = some (y.cls, T, N)) (v : VW own idx y b n ret np) (hR : fr + 1 ≤ R.frames ∧ 8 + (n + 11) + lo ≤ R.locals) (hn : As.length = np) {st0 : List Value} (hst : st0 = As.reverse ++ .ref a :: rest) (hrm : (rest.map fun v => v.category).sum ≤ 8) (hls : ls.size = nL) (hcs : cells + mc ≤ R.cells ∧ slots + ms ≤ R.slots) (hdg : decode cc pc = .ok (.invokevirtual idx, 3))
    (kk : ∀ (H1 : Heap) (locs1 : List Loc), WX D cz A L1 S1 Rf1 s.heap I1 J1 H1 locs1 → W p l e R s m args below meth c H1 locs1 (cells + mc) (slots + ms) Q (F0 m (pc + 3) ls rest)) : W p l e R s m args below meth c H locs cells slots Q (F0 m pc ls st0) := by
  have hAA : ∀ q, (q ∈ L ∨ z ≤ q) → A q := fun q h => h.elim (fun g => pl_A hw.2.1 g) (hAz q)
  obtain ⟨q0, hq⟩ := x_cell hw ha
  rw [EX_obj hS] at hq
  refine va_callv (va_runV (As := As) (rest := rest) X hM (x_cwB X v hR) ⟨pa_blind, va_recv hK.1 hw.1 hc hq, x_preA hw hK hz hAz⟩ rfl hn hls hst (lv_room hrm) hdg hcs) hw.2.2 (fun q _ h => hAA q h) (fun q h => hAA q h) (fun u t H1 locs1 ht hvm hp hB hzz hk hS1 => ?_)
  obtain ⟨hP1, hK1, hN1⟩ := hB
  rw [ht] at hP1
  exact kk H1 locs1 ⟨hP1, pl_D hN1 (fun a h => hAA a (hL1 a h)), hS1⟩
theorem x_calliB (X : CallFix p m c cc nL s args gw own) (hK : KX D cz ev A s) (hw : WX D cz A L S Rf s.heap I J H locs) (hz : H.size = z) (hAz : ∀ q, z ≤ q → A q) {a ci k : Nat} {As : List Value} {r : Int32} (hM : MBi l D cz ev y b n ret fr lo mc ms (.ref a :: As) z L S Rf I J r L1 S1 Rf1 I1 J1) (hL1 : ∀ a ∈ L1, a ∈ L ∨ z ≤ a) (ha : a ∈ L) (hS : S a = (ci + 7, k)) {T : u_T} {N : Nat} (hc : clsX[ci]? = some (y.cls, T, N)) (v : VW own idx y b n ret np) (hR : fr + 1 ≤ R.frames ∧ 8 + (n + 11) + lo ≤ R.locals) (hn : As.length = np) {st0 : List Value} (hst : st0 = As.reverse ++ .ref a :: rest) (hrm : (rest.map fun v => v.category).sum ≤ 8) (hls : ls.size = nL) (hcs : cells + mc ≤ R.cells ∧ slots + ms ≤ R.slots) (hdg : decode cc pc = .ok (.invokevirtual idx, 3))
    (kk : ∀ (H1 : Heap) (locs1 : List Loc), WX D cz A L1 S1 Rf1 s.heap I1 J1 H1 locs1 → W p l e R s m args below meth c H1 locs1 (cells + mc) (slots + ms) Q (F0 m (pc + 3) ls (.int r :: rest))) : W p l e R s m args below meth c H locs cells slots Q (F0 m pc ls st0) := by
  have hAA : ∀ q, (q ∈ L ∨ z ≤ q) → A q := fun q h => h.elim (fun g => pl_A hw.2.1 g) (hAz q)
  obtain ⟨q0, hq⟩ := x_cell hw ha
  rw [EX_obj hS] at hq
  refine va_calli (va_runV (As := As) (rest := rest) X hM (x_cwB X v hR) ⟨pa_blind, va_recv hK.1 hw.1 hc hq, x_preA hw hK hz hAz⟩ rfl hn hls hst (lv_room hrm) hdg hcs) hw.2.2 (fun q _ h => hAA q h) (fun q h => hAA q h) (fun x u t H1 locs1 ht hvm hp hB hzz hk hS1 => ?_)
  obtain ⟨hP1, hK1, hN1⟩ := hB
  rw [ht] at hP1
  subst hp
  exact kk H1 locs1 ⟨hP1, pl_D hN1 (fun a h => hAA a (hL1 a h)), hS1⟩
end XAST
theorem nw_2_24 : (Cond.instanceMethod yX0_init ∈ gw ∧ Cond.initialized yX0_init.cls ∈ gw ∧ Cond.code yX0_init cX0_init 1 none ∈ gw) ∧ yX0_init.name = "<init>" ∧ (yX0_init.cls ≠ "java/lang/invoke/MethodHandle" ∧ yX0_init.cls ≠ "java/lang/invoke/VarHandle" ∧ (parseMethodDescriptor yX0_init.desc).map (fun d => d.parameters.length) = some 0) := ⟨⟨tw_283, tw_123, tw_284⟩, rfl, by decide +kernel⟩
/-- the tables behind ring[next] = new Course() -/
def kpR (b z : Nat) (S : ST) (Rf : RT) (I : IT) (J : JT) : RT := up2R (nwC z S Rf I J).2.1 (b + 29) (I (b + 28) 1).toNatClampNeg (some z)
theorem kp_ext {b z : Nat} {L : List Nat} {S : ST} {Rf : RT} {I : IT} {J : JT} (hlt : ∀ a ∈ L, a < z) : Ext L (apn L z 10) S (nwC z S Rf I J).1 Rf (kpR b z S Rf I J) (b + 29) :=
  ⟨fun _ h => apn_old h 10, fun a h => nwC_S (hlt a h), fun a h hne => by unfold kpR; rw [up2R_ne _ _ _ hne, nwC_R (hlt a h)]⟩
theorem kp_cw {b z : Nat} {L : List Nat} {S : ST} {Rf : RT} {I : IT} {J : JT} (hC : CW b L S Rf) (hlt : ∀ a ∈ L, a < z) : CW b (apn L z 10) (nwC z S Rf I J).1 (kpR b z S Rf I J) := by
  have h29 := hlt _ (cw_mem hC 29 (by decide))
  refine (kp_ext hlt).cw hC (Or.inr (Or.inr rfl)) (k := (I (b + 28) 1).toNatClampNeg) (v := z) ?_ (fun h => by omega) (fun h => by omega) (fun _ => ?_)
  · unfold kpR; rw [up2R_self, nwC_R h29]
  · have h := nwC_at (z := z) (S := S) (Rf := Rf) (I := I) (J := J) L
    have hne : z ≠ b + 29 := by omega
    exact ⟨h.1, fun j hj => ⟨by unfold kpR; rw [up2R_ne _ _ _ hne]; exact (h.2 j hj).1, (h.2 j hj).2⟩⟩
set_option maxHeartbeats 4000000 in
theorem c2_keepN (l : Launch) (D : va_G) (cz : Nat → ClassId) (ev : Nat × Nat × Nat) {b z t1 N : Nat} {L : List Nat} {S : ST} {Rf : RT} (hC : CW b L S Rf) (h1 : CourseAt L S Rf t1) {I : IT} {J : JT} {r : Unit} {I1 : IT} {J1 : JT} (hi : inb (I (b + 28) 1) 20 = true) (hn : Rf (b + 29) (I (b + 28) 1).toNatClampNeg = none) (hf : h2_keep_B N b (nwC z S Rf I J).1 (kpR b z S Rf I J) t1 (nwC z S Rf I J).2.2.1 (nwC z S Rf I J).2.2.2 = some (r, I1, J1)) : MBv l D cz ev yX2_keep cX2_keep 2 none 2 121 10 66 [.ref (b + 28), .ref t1] z L S Rf I J r (apn L z 10) (nwC z S Rf I J).1 (kpR b z S Rf I J) I1 J1 := by
  refine MBv_of (by decide) (Nat.le_of_ble_eq_true rfl) ?_
  intro p e s m args below meth c Q ls X hK hz hw hl hfin
  have X : CallFix p m c cX2_keep 2 s args gw RX2 := X
  have hx := X.1
  have hb := X.2.1
  have hlt : ∀ a ∈ L, a < z := fun a ha => hz ▸ wx_lt hw ha
  have hC1 := kp_cw (I := I) (J := J) hC hlt
  have h11 : CourseAt (apn L z 10) (nwC z S Rf I J).1 (kpR b z S Rf I J) t1 := (kp_ext hlt).course (cw_x hC (Or.inr (Or.inr rfl))).1 h1
  have hl : lv_has ls 2 [(0, .ref (b + 28)), (1, .ref t1)] := hl
  refine lv_aload_n hx hb dX2_keep_0 rfl (lv_at hl 0 rfl) ?_
  refine x_getR X hK hw (cw_mem hC 28 (by decide)) (cw_S hC 28 rfl) cpX2 0 (by decide) rfl (cw_R hC 28 0 (by decide) rfl) tw_388 dX2_keep_1 ?_
  refine lv_aload_n hx hb dX2_keep_4 rfl (lv_at hl 0 rfl) ?_
  refine x_getI X hK hw (cw_mem hC 28 (by decide)) (cw_S hC 28 rfl) cpX2 1 (by decide) rfl tw_389 dX2_keep_5 ?_
  refine x_aaldN_6 X hK hw (cw_mem hC 29 (by decide)) (cw_S hC 29 rfl) hi rfl hn dX2_keep_8 ?_
  refine lv_ifnonnullN hx hb dX2_keep_9 ?_
  refine lv_aload_n hx hb dX2_keep_12 rfl (lv_at hl 0 rfl) ?_
  refine x_getR X hK hw (cw_mem hC 28 (by decide)) (cw_S hC 28 rfl) cpX2 0 (by decide) rfl (cw_R hC 28 0 (by decide) rfl) tw_388 dX2_keep_13 ?_
  refine lv_aload_n hx hb dX2_keep_16 rfl (lv_at hl 0 rfl) ?_
  refine x_getI X hK hw (cw_mem hC 28 (by decide)) (cw_S hC 28 rfl) cpX2 1 (by decide) rfl tw_389 dX2_keep_17 ?_
  refine x_new (z := z) X hK hw hz (Or.inr (Nat.le_refl z)) cpX0 dfX0 tw_386 tw_281 tw_123 (Nat.le_of_ble_eq_true rfl) (Nat.le_of_ble_eq_true rfl) dX2_keep_20 (fun H hw hz => ?_)
  refine lv_dup hx hb dX2_keep_23 rfl ?_
  refine x_ctorN (z := z + 1) X hK hw hz (fun q hq => Or.inr (Nat.le_of_succ_le hq)) (c0_init l D cz ev (List.mem_append_right _ (List.mem_singleton.mpr rfl)) (va_up_self _ _ _) (show _ = ((nwC z S Rf I J).1, (nwC z S Rf I J).2.1, (nwC z S Rf I J).2.2.1, (nwC z S Rf I J).2.2.2) from rfl)) ⟨hK.2.1.1.2.2.2.2.2.2, nw_2_24⟩ ⟨Nat.le_of_ble_eq_true rfl, Nat.le_of_ble_eq_true rfl⟩ rfl rfl (Nat.le_of_ble_eq_true rfl) hl.1 ⟨Nat.le_of_ble_eq_true rfl, Nat.le_of_ble_eq_true rfl⟩ dX2_keep_24 (fun H locs hw hz => ?_)
  have hw : WX D cz _ (apn L z 10) _ _ s.heap _ _ H locs := yb_w5 (apn_apn (L := L) (z := z) (j := 1) 9).symm rfl rfl rfl rfl hw
  have hat := nwC_at (z := z) (S := S) (Rf := Rf) (I := I) (J := J) L
  have hb29 : b + 29 < z := hlt _ (cw_mem hC 29 (by decide))
  refine x_aast6 X hK hw (apn_old (cw_mem hC 29 (by decide)) 10) (n := 20) ((nwC_S hb29).trans (cw_S hC 29 rfl)) hat.1.1 hat.1.2 hi rfl dX2_keep_27 (fun H locs hw => ?_)
  exact u2_keep_B hC1 h11 X hK (Nat.le_of_ble_eq_true rfl) (Nat.le_of_ble_eq_true rfl) ⟨Nat.le_of_ble_eq_true rfl, Nat.le_of_ble_eq_true rfl⟩ hf hw hl hfin
