def R_law : String := "YoungerBenchLaw"
def lw_P (b : Addr) (xs : List Int32) (args : Array Value) (s : State) : Prop := args = #[.ref b] ∧ s.IntsAt b xs ∧ xs.length ≤ 3072 ∧ (Jvm.Cond.and given_1 narrow_1).before args s = true
def lw_Q (_ : Array Value) (s : State) (o : Outcome) (t : State) : Prop := o = .returned (some (.int 1)) ∧ Framed s o t [] 600000 room_1.slots
def lw_Z (below : List Frame) (a : Array Value) (s : State) : State → Prop := fun t => ∃ o, t.status = .running ∧ Ended t below o ∧ lw_Q a s o t
/-- the law's own end, with 1 on the stack, nothing written that was there before, its room as the claim has it -/
theorem lw_ret {p : Program} {l : Launch} {e : Env} {s : State} {m : MethodId} {below : List Frame} {meth : Method} {c : Code} {b : Nat} (hx : p.tables.exec = Jvm.exec) (hb : c.code = code) (hr : meth.sig.returnType = ret) (hlocks : meth.locks = false) {pc : Nat} {H : Heap} {ls : Array Slot} (hdg : decode code pc = .ok (.ireturn, 1)) : W p l e room_1 s m #[Value.ref b] below meth c H [] 600000 room_1.slots (lw_Z below #[Value.ref b] s) (F0 m pc ls [.int 1]) := by
  intro T hT X
  obtain ⟨fs, hret, hrun, hended, hW, hframe⟩ := X.leave (v := some (.int 1)) (hlocks := hlocks) (fun h => by rw [hr] at h; cases h)
  have hmeth' : T.vm.method? m = some meth := X.method'
  refine ⟨T.setFrames fs, ?_, .returned (some (.int 1)), hrun, hended, rfl, ⟨_, rfl⟩, hW, hframe⟩
  jvm_step X.here [X.here.top, hx, hb, hdg, hmeth', hr, ret, narrow_b1]
  (try refine ⟨rfl, ?_⟩); (try refine ⟨rfl, ?_⟩)
  first | (intro acts; rw [hret _ acts rfl rfl rfl]) | rw [hret _ _ rfl rfl rfl]
  exact Steps.refl _
/-- what holds at the law's entry: the machine, the code, the tables' words (any of lw_tbl by 'hts w (by decide +kernel)'), the script of L ints xs at the cell b, what the Statement gives of the start (any of its parts by flat_of_before) -/
def lw_At (p : Program) (s : State) (m : MethodId) (meth : Method) (c : Code) (b L : Nat) (xs : Nat → Int32) : Prop :=
  p.tables.exec = Jvm.exec ∧ c.code = code ∧ meth.sig.returnType = ret ∧ c.maxLocals = 4 ∧ s.vm.findClass R_law = some m.cls ∧ (∀ w ∈ lw_tbl, w.before #[Value.ref b] s = true) ∧ va_X b L xs s s.heap ∧ b < s.heap.size ∧ meth.locks = false ∧ (Jvm.Cond.and given_1 narrow_1).before #[Value.ref b] s = true
/-! THE LAW'S TWO REGIONS: the class's cells and the reference's -/
abbrev AL (s : State) : Nat → Prop := fun q => s.heap.size ≤ q
def LWd (D : va_G) (cz : Nat → ClassId) (s : State) (L : List Nat) (S : ST) (Rf : RT) (I : IT) (J : JT) (mb : Nat) (I' : IT) (J' : JT) (H : Heap) (locs : List Loc) : Prop :=
  WX D cz (AL s) L S Rf s.heap I J H locs ∧ WX D cz (AL s) (mlL mb) (mlS mb) (mlR mb) s.heap I' J' H locs ∧ ∀ a ∈ L, a ∉ mlL mb
theorem wx_keep {D : va_G} {cz : Nat → ClassId} {A : Nat → Prop} {L : List Nat} {S : ST} {Rf : RT} {H0 H H1 : Heap} {I : IT} {J : JT} {locs locs1 : List Loc} (hw : WX D cz A L S Rf H0 I J H locs) (hk : ∀ a ∈ L, H1[a]? = H[a]?) (hS : va_S A H0 H1 locs1) : WX D cz A L S Rf H0 I J H1 locs1 := by
  refine ⟨pl_P (fun a ha => ?_), hw.2.1, hS⟩
  obtain ⟨k, hq⟩ := x_cell hw ha
  exact (hw.1 k _ hq).kept (hk a ha)
section YLAW
variable {p : Program} {l : Launch} {e : Env} {R : Room} {s : State} {m : MethodId} {args : Array Value} {below : List Frame} {meth : Method} {c : Code} {H : Heap} {locs : List Loc} {cells slots : Nat} {Q : State → Prop}
variable {cc : ByteArray} {nL : Nat} {own : String} {pc : Nat} {ls : Array Slot} {rest : List Value}
variable {D : va_G} {cz : Nat → ClassId} {ev : Nat × Nat × Nat} {L L1 : List Nat} {S S1 : ST} {Rf Rf1 : RT} {I I1 : IT} {J J1 : JT} {mb : Nat} {I' I1' : IT} {J' J1' : JT} {z : Nat}
variable {y : MethodName} {b : ByteArray} {n fr lo mc ms idx np : Nat} {ret : Option FieldType}
theorem y_cls (X : CallFix p m c cc nL s args gw own) (hK : KX D cz ev (AL s) s) (hw : LWd D cz s L S Rf I J mb I' J' H locs) {a ci k : Nat} {As : List Value} {r : Int32} (hM : MTi l D cz ev y b n ret fr lo (.ref a :: As) L S Rf I J r I1 J1) (ha : a ∈ L) (hS : S a = (ci + 7, k)) {T : u_T} {N : Nat} (hc : clsX[ci]? = some (y.cls, T, N)) (v : VW own idx y b n ret np) (hR : fr + 1 ≤ R.frames ∧ 8 + (n + 11) + lo ≤ R.locals) (hn : As.length = np) {st0 : List Value} (hst : st0 = As.reverse ++ .ref a :: rest) (hrm : (rest.map fun v => v.category).sum ≤ 8) (hls : ls.size = nL) (hcs : cells ≤ R.cells ∧ slots ≤ R.slots) (hdg : decode cc pc = .ok (.invokevirtual idx, 3))
    (kk : ∀ (H1 : Heap) (locs1 : List Loc), LWd D cz s L S Rf I1 J1 mb I' J' H1 locs1 → W p l e R s m args below meth c H1 locs1 cells slots Q (F0 m (pc + 3) ls (.int r :: rest))) : W p l e R s m args below meth c H locs cells slots Q (F0 m pc ls st0) := by
  obtain ⟨hw1, hw2, hd⟩ := hw
  obtain ⟨q0, hq⟩ := x_cell hw1 ha
  rw [EX_obj hS] at hq
  refine va_calli (va_runV (As := As) (rest := rest) X hM (x_cw X v hR) ⟨px_blind, va_recv hK.1 hw1.1 hc hq, x_pre hw1 hK⟩ rfl hn hls hst (lv_room hrm) hdg hcs) hw1.2.2 (fun q _ h => pl_A hw1.2.1 h) (fun q h => pl_A hw1.2.1 h) (fun x u t H1 locs1 ht hvm hp hB hz hk hS1 => ?_)
  obtain ⟨hP1, hK1, hN1⟩ := hB
  rw [ht] at hP1
  subst hp
  exact kk H1 locs1 ⟨⟨hP1, pl_D hN1 (fun a h => pl_A hw1.2.1 h), hS1⟩, wx_keep hw2 (fun a h => hk a (wx_lt hw2 h) (fun g => hd a g h)) hS1, hd⟩
theorem y_ref (X : CallFix p m c cc nL s args gw own) (hK : KX D cz ev (AL s) s) (hw : LWd D cz s L S Rf I J mb I' J' H locs) {As : List Value} {r : Int32} (hM : MTi l D cz ev y b n ret fr lo (.ref mb :: As) (mlL mb) (mlS mb) (mlR mb) I' J' r I1' J1') {T : u_T} {N : Nat} (hc : clsX[12]? = some (y.cls, T, N)) (v : VW own idx y b n ret np) (hR : fr + 1 ≤ R.frames ∧ 8 + (n + 11) + lo ≤ R.locals) (hn : As.length = np) {st0 : List Value} (hst : st0 = As.reverse ++ .ref mb :: rest) (hrm : (rest.map fun v => v.category).sum ≤ 8) (hls : ls.size = nL) (hcs : cells ≤ R.cells ∧ slots ≤ R.slots) (hdg : decode cc pc = .ok (.invokevirtual idx, 3))
    (kk : ∀ (H1 : Heap) (locs1 : List Loc), LWd D cz s L S Rf I J mb I1' J1' H1 locs1 → W p l e R s m args below meth c H1 locs1 cells slots Q (F0 m (pc + 3) ls (.int r :: rest))) : W p l e R s m args below meth c H locs cells slots Q (F0 m pc ls st0) := by
  obtain ⟨hw1, hw2, hd⟩ := hw
  obtain ⟨q0, hq⟩ := x_cell hw2 (ml_mem0 mb)
  rw [EX_obj (ci := 12) (ml_S0 mb)] at hq
  refine va_calli (va_runV (As := As) (rest := rest) X hM (x_cw X v hR) ⟨px_blind, va_recv hK.1 hw2.1 hc hq, x_pre hw2 hK⟩ rfl hn hls hst (lv_room hrm) hdg hcs) hw2.2.2 (fun q _ h => pl_A hw2.2.1 h) (fun q h => pl_A hw2.2.1 h) (fun x u t H1 locs1 ht hvm hp hB hz hk hS1 => ?_)
  obtain ⟨hP1, hK1, hN1⟩ := hB
  rw [ht] at hP1
  subst hp
  exact kk H1 locs1 ⟨wx_keep hw1 (fun a h => hk a (wx_lt hw1 h) (fun g => hd a h g)) hS1, ⟨hP1, pl_D hN1 (fun a h => pl_A hw2.2.1 h), hS1⟩, hd⟩
theorem y_mak (X : CallFix p m c cc nL s args gw own) (hK : KX D cz ev (AL s) s) (hw : LWd D cz s L S Rf I J mb I' J' H locs) (hz : H.size = z) {a ci k : Nat} {As : List Value} {r : Int32} (hM : MBi l D cz ev y b n ret fr lo mc ms (.ref a :: As) z L S Rf I J r L1 S1 Rf1 I1 J1) (hL1 : ∀ a ∈ L1, a ∈ L ∨ z ≤ a) (ha : a ∈ L) (hS : S a = (ci + 7, k)) {T : u_T} {N : Nat} (hc : clsX[ci]? = some (y.cls, T, N)) (v : VW own idx y b n ret np) (hR : fr + 1 ≤ R.frames ∧ 8 + (n + 11) + lo ≤ R.locals) (hn : As.length = np) {st0 : List Value} (hst : st0 = As.reverse ++ .ref a :: rest) (hrm : (rest.map fun v => v.category).sum ≤ 8) (hls : ls.size = nL) (hcs : cells + mc ≤ R.cells ∧ slots + ms ≤ R.slots) (hdg : decode cc pc = .ok (.invokevirtual idx, 3))
    (kk : ∀ (H1 : Heap) (locs1 : List Loc), LWd D cz s L1 S1 Rf1 I1 J1 mb I' J' H1 locs1 → W p l e R s m args below meth c H1 locs1 (cells + mc) (slots + ms) Q (F0 m (pc + 3) ls (.int r :: rest))) : W p l e R s m args below meth c H locs cells slots Q (F0 m pc ls st0) := by
  obtain ⟨hw1, hw2, hd⟩ := hw
  have hAz : ∀ q, z ≤ q → AL s q := fun q h => Nat.le_trans hw1.2.2.1 (hz ▸ h)
  have hAA : ∀ q, (q ∈ L ∨ z ≤ q) → AL s q := fun q h => h.elim (fun g => pl_A hw1.2.1 g) (hAz q)
  have hd1 : ∀ a ∈ L1, a ∉ mlL mb := fun a h g => (hL1 a h).elim (fun q => hd a q g) (fun q => absurd (wx_lt hw2 g) (Nat.not_lt.mpr (hz ▸ q)))
  obtain ⟨q0, hq⟩ := x_cell hw1 ha
  rw [EX_obj hS] at hq
  refine va_calli (va_runV (As := As) (rest := rest) X hM (x_cwB X v hR) ⟨pa_blind, va_recv hK.1 hw1.1 hc hq, x_preA hw1 hK hz hAz⟩ rfl hn hls hst (lv_room hrm) hdg hcs) hw1.2.2 (fun q _ h => hAA q h) (fun q h => hAA q h) (fun x u t H1 locs1 ht hvm hp hB hzz hk hS1 => ?_)
  obtain ⟨hP1, hK1, hN1⟩ := hB
  rw [ht] at hP1
  subst hp
  exact kk H1 locs1 ⟨⟨hP1, pl_D hN1 (fun a h => hAA a (hL1 a h)), hS1⟩, wx_keep hw2 (fun a h => hk a (wx_lt hw2 h) (fun g => g.elim (fun q => hd a q h) (fun q => absurd (wx_lt hw2 h) (Nat.not_lt.mpr (hz ▸ q))))) hS1, hd1⟩
end YLAW
abbrev RelT : Type := Nat → Nat → List Nat → ST → RT → IT → JT → IT → JT → Prop
/-- one call of feed on both sides -/
def Gd_feed (N : Nat) (Rel : RelT) : Prop := ∀ (b mb : Nat) (L : List Nat) (S : ST) (Rf : RT) (I : IT) (J : JT) (I' : IT) (J' : JT) (x1 x2 x3 x4 x5 : Int32), Rel b mb L S Rf I J I' J' → ∃ (r : Int32) (I1 : IT) (J1 : JT) (I1' : IT) (J1' : JT), f11_feed N b S Rf x1 x2 x3 x4 x5 I J = some (r, I1, J1) ∧ f12_feed N mb x1 x2 x3 x4 x5 I' J' = some (r, I1', J1') ∧ Rel b mb L S Rf I1 J1 I1' J1'
/-- one call of end on both sides -/
def Gd_end (N : Nat) (Rel : RelT) : Prop := ∀ (b mb : Nat) (L : List Nat) (S : ST) (Rf : RT) (I : IT) (J : JT) (I' : IT) (J' : JT) (x1 : Int32), Rel b mb L S Rf I J I' J' → ∃ (r : Int32) (I1 : IT) (J1 : JT) (I1' : IT) (J1' : JT), f11_end b S Rf x1 I J = some (r, I1, J1) ∧ f12_end mb x1 I' J' = some (r, I1', J1') ∧ Rel b mb L S Rf I1 J1 I1' J1'
/-- one call of town on both sides -/
def Gd_town (N : Nat) (Rel : RelT) : Prop := ∀ (b mb : Nat) (L : List Nat) (S : ST) (Rf : RT) (I : IT) (J : JT) (I' : IT) (J' : JT), Rel b mb L S Rf I J I' J' → ∃ (r : Int32) (I1 : IT) (J1 : JT) (I1' : IT) (J1' : JT), f11_town N b S Rf I J = some (r, I1, J1) ∧ f12_town N mb I' J' = some (r, I1', J1') ∧ Rel b mb L S Rf I1 J1 I1' J1'
/-- one call of rule on both sides -/
def Gd_rule (N : Nat) (Rel : RelT) : Prop := ∀ (b mb : Nat) (L : List Nat) (S : ST) (Rf : RT) (I : IT) (J : JT) (I' : IT) (J' : JT), Rel b mb L S Rf I J I' J' → (∃ (r : Int32) (I1 : IT) (J1 : JT) (I1' : IT) (J1' : JT), f11_rule N b S Rf I J = some (r, I1, J1) ∧ f12_rule N mb I' J' = some (r, I1', J1') ∧ Rel b mb L S Rf I1 J1 I1' J1') ∨ ∀ z : Nat, (∀ a ∈ L, a < z) → (∀ a ∈ mlL mb, a < z) → ∃ (r : Int32) (S1 : ST) (Rf1 : RT) (I1 : IT) (J1 : JT) (I1' : IT) (J1' : JT), f11_ruleN N b z S Rf I J = some ((r, S1, Rf1), I1, J1) ∧ f12_rule N mb I' J' = some (r, I1', J1') ∧ Rel b mb (apn L z 2) S1 Rf1 I1 J1 I1' J1'
/-- one call of force on both sides -/
def Gd_force (N : Nat) (Rel : RelT) : Prop := ∀ (b mb : Nat) (L : List Nat) (S : ST) (Rf : RT) (I : IT) (J : JT) (I' : IT) (J' : JT) (x1 : Int32), Rel b mb L S Rf I J I' J' → ∃ (r : Int32) (I1 : IT) (J1 : JT) (I1' : IT) (J1' : JT), f11_force b S Rf x1 I J = some (r, I1, J1) ∧ f12_force mb x1 I' J' = some (r, I1', J1') ∧ Rel b mb L S Rf I1 J1 I1' J1'
/-- one call of person on both sides -/
def Gd_person (N : Nat) (Rel : RelT) : Prop := ∀ (b mb : Nat) (L : List Nat) (S : ST) (Rf : RT) (I : IT) (J : JT) (I' : IT) (J' : JT) (x1 x2 : Int32), Rel b mb L S Rf I J I' J' → ∃ (r : Int32) (I1 : IT) (J1 : JT) (I1' : IT) (J1' : JT), f11_person N b S Rf x1 x2 I J = some (r, I1, J1) ∧ f12_person N mb x1 x2 I' J' = some (r, I1', J1') ∧ Rel b mb L S Rf I1 J1 I1' J1'
/-- one call of trial on both sides -/
def Gd_trial (N : Nat) (Rel : RelT) : Prop := ∀ (b mb : Nat) (L : List Nat) (S : ST) (Rf : RT) (I : IT) (J : JT) (I' : IT) (J' : JT) (x1 x2 : Int32), Rel b mb L S Rf I J I' J' → ∃ (r : Int32) (I1 : IT) (J1 : JT) (I1' : IT) (J1' : JT), f11_trial b S Rf x1 x2 I J = some (r, I1, J1) ∧ f12_trial mb x1 x2 I' J' = some (r, I1', J1') ∧ Rel b mb L S Rf I1 J1 I1' J1'
/-- one call of can on both sides -/
def Gd_can (N : Nat) (Rel : RelT) : Prop := ∀ (b mb : Nat) (L : List Nat) (S : ST) (Rf : RT) (I : IT) (J : JT) (I' : IT) (J' : JT) (x1 x2 x3 : Int32), Rel b mb L S Rf I J I' J' → ∃ (r : Int32) (I1 : IT) (J1 : JT) (I1' : IT) (J1' : JT), f11_can b S Rf x1 x2 x3 I J = some (r, I1, J1) ∧ f12_can N mb x1 x2 x3 I' J' = some (r, I1', J1') ∧ Rel b mb L S Rf I1 J1 I1' J1'
/-- one call of right on both sides -/
def Gd_right (N : Nat) (Rel : RelT) : Prop := ∀ (b mb : Nat) (L : List Nat) (S : ST) (Rf : RT) (I : IT) (J : JT) (I' : IT) (J' : JT) (x1 x2 : Int32), Rel b mb L S Rf I J I' J' → ∃ (r : Int32) (I1 : IT) (J1 : JT) (I1' : IT) (J1' : JT), f11_right N b S Rf x1 x2 I J = some (r, I1, J1) ∧ f12_right N mb x1 x2 I' J' = some (r, I1', J1') ∧ Rel b mb L S Rf I1 J1 I1' J1'
/-- one call of day on both sides -/
def Gd_day (N : Nat) (Rel : RelT) : Prop := ∀ (b mb : Nat) (L : List Nat) (S : ST) (Rf : RT) (I : IT) (J : JT) (I' : IT) (J' : JT), Rel b mb L S Rf I J I' J' → (∃ (r : Int32) (I1 : IT) (J1 : JT) (I1' : IT) (J1' : JT), f11_day N b S Rf I J = some (r, I1, J1) ∧ f12_day N mb I' J' = some (r, I1', J1') ∧ Rel b mb L S Rf I1 J1 I1' J1') ∨ ∀ z : Nat, (∀ a ∈ L, a < z) → (∀ a ∈ mlL mb, a < z) → ∃ (r : Int32) (S1 : ST) (Rf1 : RT) (I1 : IT) (J1 : JT) (I1' : IT) (J1' : JT), f11_dayN N b z S Rf I J = some ((r, S1, Rf1), I1, J1) ∧ f12_day N mb I' J' = some (r, I1', J1') ∧ Rel b mb (apn L z 10) S1 Rf1 I1 J1 I1' J1'
/-- one call of hear on both sides -/
def Gd_hear (N : Nat) (Rel : RelT) : Prop := ∀ (b mb : Nat) (L : List Nat) (S : ST) (Rf : RT) (I : IT) (J : JT) (I' : IT) (J' : JT) (x1 x2 : Int32), Rel b mb L S Rf I J I' J' → (∃ (r : Int32) (I1 : IT) (J1 : JT) (I1' : IT) (J1' : JT), f11_hear N b S Rf x1 x2 I J = some (r, I1, J1) ∧ f12_hear N mb x1 x2 I' J' = some (r, I1', J1') ∧ Rel b mb L S Rf I1 J1 I1' J1') ∨ ∀ z : Nat, (∀ a ∈ L, a < z) → (∀ a ∈ mlL mb, a < z) → ∃ (r : Int32) (S1 : ST) (Rf1 : RT) (I1 : IT) (J1 : JT) (I1' : IT) (J1' : JT), f11_hearN N b z S Rf x1 x2 I J = some ((r, S1, Rf1), I1, J1) ∧ f12_hear N mb x1 x2 I' J' = some (r, I1', J1') ∧ Rel b mb (apn L z 10) S1 Rf1 I1 J1 I1' J1'
/-- one call of teach on both sides -/
def Gd_teach (N : Nat) (Rel : RelT) : Prop := ∀ (b mb : Nat) (L : List Nat) (S : ST) (Rf : RT) (I : IT) (J : JT) (I' : IT) (J' : JT) (x1 : Int32), Rel b mb L S Rf I J I' J' → (∃ (r : Int32) (I1 : IT) (J1 : JT) (I1' : IT) (J1' : JT), f11_teach b S Rf x1 I J = some (r, I1, J1) ∧ f12_teach N mb x1 I' J' = some (r, I1', J1') ∧ Rel b mb L S Rf I1 J1 I1' J1') ∨ ∀ z : Nat, (∀ a ∈ L, a < z) → (∀ a ∈ mlL mb, a < z) → ∃ (r : Int32) (S1 : ST) (Rf1 : RT) (I1 : IT) (J1 : JT) (I1' : IT) (J1' : JT), f11_teachN N b z S Rf x1 I J = some ((r, S1, Rf1), I1, J1) ∧ f12_teach N mb x1 I' J' = some (r, I1', J1') ∧ Rel b mb (apn L z 10) S1 Rf1 I1 J1 I1' J1'
/-- one call of undo on both sides -/
def Gd_undo (N : Nat) (Rel : RelT) : Prop := ∀ (b mb : Nat) (L : List Nat) (S : ST) (Rf : RT) (I : IT) (J : JT) (I' : IT) (J' : JT), Rel b mb L S Rf I J I' J' → ∃ (r : Int32) (I1 : IT) (J1 : JT) (I1' : IT) (J1' : JT), f11_undo b S Rf I J = some (r, I1, J1) ∧ f12_undo N mb I' J' = some (r, I1', J1') ∧ Rel b mb L S Rf I1 J1 I1' J1'
/-- one call of soonest on both sides -/
def Gd_soonest (N : Nat) (Rel : RelT) : Prop := ∀ (b mb : Nat) (L : List Nat) (S : ST) (Rf : RT) (I : IT) (J : JT) (I' : IT) (J' : JT) (x1 x2 : Int32), Rel b mb L S Rf I J I' J' → ∃ (r : Int32) (I1 : IT) (J1 : JT) (I1' : IT) (J1' : JT), f11_soonest N b S Rf x1 x2 I J = some (r, I1, J1) ∧ f12_soonest N mb x1 x2 I' J' = some (r, I1', J1') ∧ Rel b mb L S Rf I1 J1 I1' J1'
/-- one call of benches on both sides -/
def Gd_benches (N : Nat) (Rel : RelT) : Prop := ∀ (b mb : Nat) (L : List Nat) (S : ST) (Rf : RT) (I : IT) (J : JT) (I' : IT) (J' : JT) (x1 : Int32), Rel b mb L S Rf I J I' J' → ∃ (r : Int32) (I1 : IT) (J1 : JT) (I1' : IT) (J1' : JT), f11_benches N b S Rf x1 I J = some (r, I1, J1) ∧ f12_benches N mb x1 I' J' = some (r, I1', J1') ∧ Rel b mb L S Rf I1 J1 I1' J1'
/-- one call of down on both sides -/
def Gd_down (N : Nat) (Rel : RelT) : Prop := ∀ (b mb : Nat) (L : List Nat) (S : ST) (Rf : RT) (I : IT) (J : JT) (I' : IT) (J' : JT) (x1 x2 : Int32), Rel b mb L S Rf I J I' J' → ∃ (r : Int32) (I1 : IT) (J1 : JT) (I1' : IT) (J1' : JT), f11_down N b S Rf x1 x2 I J = some (r, I1, J1) ∧ f12_down N mb x1 x2 I' J' = some (r, I1', J1') ∧ Rel b mb L S Rf I1 J1 I1' J1'
/-- one call of commit on both sides -/
def Gd_commit (N : Nat) (Rel : RelT) : Prop := ∀ (b mb : Nat) (L : List Nat) (S : ST) (Rf : RT) (I : IT) (J : JT) (I' : IT) (J' : JT) (x1 x2 x3 x4 x5 : Int32), Rel b mb L S Rf I J I' J' → ∃ (r : Int32) (I1 : IT) (J1 : JT) (I1' : IT) (J1' : JT), f11_commit N b S Rf x1 x2 x3 x4 x5 I J = some (r, I1, J1) ∧ f12_commit N mb x1 x2 x3 x4 x5 I' J' = some (r, I1', J1') ∧ Rel b mb L S Rf I1 J1 I1' J1'
/-- one call of above on both sides -/
def Gd_above (N : Nat) (Rel : RelT) : Prop := ∀ (b mb : Nat) (L : List Nat) (S : ST) (Rf : RT) (I : IT) (J : JT) (I' : IT) (J' : JT) (x1 : Int32), Rel b mb L S Rf I J I' J' → ∃ (r : Int32) (I1 : IT) (J1 : JT) (I1' : IT) (J1' : JT), f11_above N b S Rf x1 I J = some (r, I1, J1) ∧ f12_above N mb x1 I' J' = some (r, I1', J1') ∧ Rel b mb L S Rf I1 J1 I1' J1'
/-- one call of lesson on both sides -/
def Gd_lesson (N : Nat) (Rel : RelT) : Prop := ∀ (b mb : Nat) (L : List Nat) (S : ST) (Rf : RT) (I : IT) (J : JT) (I' : IT) (J' : JT) (x1 : Int32), Rel b mb L S Rf I J I' J' → ∃ (r : Int32) (I1 : IT) (J1 : JT) (I1' : IT) (J1' : JT), f11_lesson N b S Rf x1 I J = some (r, I1, J1) ∧ f12_lesson N mb x1 I' J' = some (r, I1', J1') ∧ Rel b mb L S Rf I1 J1 I1' J1'
/-- one call of clement on both sides -/
def Gd_clement (N : Nat) (Rel : RelT) : Prop := ∀ (b mb : Nat) (L : List Nat) (S : ST) (Rf : RT) (I : IT) (J : JT) (I' : IT) (J' : JT) (x1 x2 : Int32), Rel b mb L S Rf I J I' J' → ∃ (r : Int32) (I1 : IT) (J1 : JT) (I1' : IT) (J1' : JT), f11_clement N b S Rf x1 x2 I J = some (r, I1, J1) ∧ f12_clement N mb x1 x2 I' J' = some (r, I1', J1') ∧ Rel b mb L S Rf I1 J1 I1' J1'
/-- one call of fact on both sides -/
def Gd_fact (N : Nat) (Rel : RelT) : Prop := ∀ (b mb : Nat) (L : List Nat) (S : ST) (Rf : RT) (I : IT) (J : JT) (I' : IT) (J' : JT) (x1 x2 x3 : Int32), Rel b mb L S Rf I J I' J' → ∃ (r : Int32) (I1 : IT) (J1 : JT) (I1' : IT) (J1' : JT), f11_fact b S Rf x1 x2 x3 I J = some (r, I1, J1) ∧ f12_fact_ mb x1 x2 x3 I' J' = some (r, I1', J1') ∧ Rel b mb L S Rf I1 J1 I1' J1'
/-- one call of who on both sides -/
def Gd_who (N : Nat) (Rel : RelT) : Prop := ∀ (b mb : Nat) (L : List Nat) (S : ST) (Rf : RT) (I : IT) (J : JT) (I' : IT) (J' : JT) (x1 x2 : Int32), Rel b mb L S Rf I J I' J' → ∃ (r : Int32) (I1 : IT) (J1 : JT) (I1' : IT) (J1' : JT), f11_who N b S Rf x1 x2 I J = some (r, I1, J1) ∧ f12_who N mb x1 x2 I' J' = some (r, I1', J1') ∧ Rel b mb L S Rf I1 J1 I1' J1'
/-- one call of look on both sides -/
def Gd_look (N : Nat) (Rel : RelT) : Prop := ∀ (b mb : Nat) (L : List Nat) (S : ST) (Rf : RT) (I : IT) (J : JT) (I' : IT) (J' : JT) (x1 x2 : Int32), Rel b mb L S Rf I J I' J' → ∃ (r : Int32) (I1 : IT) (J1 : JT) (I1' : IT) (J1' : JT), f11_look N b S Rf x1 x2 I J = some (r, I1, J1) ∧ f12_look N mb x1 x2 I' J' = some (r, I1', J1') ∧ Rel b mb L S Rf I1 J1 I1' J1'
/-- one call of seed on both sides -/
def Gd_seed (N : Nat) (Rel : RelT) : Prop := ∀ (b mb : Nat) (L : List Nat) (S : ST) (Rf : RT) (I : IT) (J : JT) (I' : IT) (J' : JT) (x1 : Int32), Rel b mb L S Rf I J I' J' → ∃ (r : Int32) (I1 : IT) (J1 : JT) (I1' : IT) (J1' : JT), f11_seed b S Rf x1 I J = some (r, I1, J1) ∧ f12_seed mb x1 I' J' = some (r, I1', J1') ∧ Rel b mb L S Rf I1 J1 I1' J1'
/-- one call of years on both sides -/
def Gd_years (N : Nat) (Rel : RelT) : Prop := ∀ (b mb : Nat) (L : List Nat) (S : ST) (Rf : RT) (I : IT) (J : JT) (I' : IT) (J' : JT) (x1 x2 x3 : Int32), Rel b mb L S Rf I J I' J' → ∃ (r : Int32) (I1 : IT) (J1 : JT) (I1' : IT) (J1' : JT), f11_years N b S Rf x1 x2 x3 I J = some (r, I1, J1) ∧ f12_years N mb x1 x2 x3 I' J' = some (r, I1', J1') ∧ Rel b mb L S Rf I1 J1 I1' J1'
/-- one call of count on both sides -/
def Gd_count (N : Nat) (Rel : RelT) : Prop := ∀ (b mb : Nat) (L : List Nat) (S : ST) (Rf : RT) (I : IT) (J : JT) (I' : IT) (J' : JT) (x1 : Int32), Rel b mb L S Rf I J I' J' → ∃ (r : Int32) (I1 : IT) (J1 : JT) (I1' : IT) (J1' : JT), f11_count N b S Rf x1 I J = some (r, I1, J1) ∧ f12_count N mb x1 I' J' = some (r, I1', J1') ∧ Rel b mb L S Rf I1 J1 I1' J1'
/-- one call of image on both sides -/
def Gd_image (N : Nat) (Rel : RelT) : Prop := ∀ (b mb : Nat) (L : List Nat) (S : ST) (Rf : RT) (I : IT) (J : JT) (I' : IT) (J' : JT) (x1 : Int32), Rel b mb L S Rf I J I' J' → (∃ (r : Int32) (I1 : IT) (J1 : JT) (I1' : IT) (J1' : JT), f11_image b S Rf x1 I J = some (r, I1, J1) ∧ f12_image N mb x1 I' J' = some (r, I1', J1') ∧ Rel b mb L S Rf I1 J1 I1' J1') ∨ ∀ z : Nat, (∀ a ∈ L, a < z) → (∀ a ∈ mlL mb, a < z) → ∃ (r : Int32) (S1 : ST) (Rf1 : RT) (I1 : IT) (J1 : JT) (I1' : IT) (J1' : JT), f11_imageN N b z S Rf x1 I J = some ((r, S1, Rf1), I1, J1) ∧ f12_image N mb x1 I' J' = some (r, I1', J1') ∧ Rel b mb (apn L z 23) S1 Rf1 I1 J1 I1' J1'
/-- one call of back on both sides -/
def Gd_back (N : Nat) (Rel : RelT) : Prop := ∀ (b mb : Nat) (L : List Nat) (S : ST) (Rf : RT) (I : IT) (J : JT) (I' : IT) (J' : JT) (x1 : Int32), Rel b mb L S Rf I J I' J' → ∃ (r : Int32) (I1 : IT) (J1 : JT) (I1' : IT) (J1' : JT), f11_back b S Rf x1 I J = some (r, I1, J1) ∧ f12_back N mb x1 I' J' = some (r, I1', J1') ∧ Rel b mb L S Rf I1 J1 I1' J1'
def Good (N : Nat) (Rel : RelT) : Prop := (∀ b mb L S Rf I J I' J', Rel b mb L S Rf I J I' J' → CW b L S Rf) ∧ Gd_feed N Rel ∧ Gd_end N Rel ∧ Gd_town N Rel ∧ Gd_rule N Rel ∧ Gd_force N Rel ∧ Gd_person N Rel ∧ Gd_trial N Rel ∧ Gd_can N Rel ∧ Gd_right N Rel ∧ Gd_day N Rel ∧ Gd_hear N Rel ∧ Gd_teach N Rel ∧ Gd_undo N Rel ∧ Gd_soonest N Rel ∧ Gd_benches N Rel ∧ Gd_down N Rel ∧ Gd_commit N Rel ∧ Gd_above N Rel ∧ Gd_lesson N Rel ∧ Gd_clement N Rel ∧ Gd_fact N Rel ∧ Gd_who N Rel ∧ Gd_look N Rel ∧ Gd_seed N Rel ∧ Gd_years N Rel ∧ Gd_count N Rel ∧ Gd_image N Rel ∧ Gd_back N Rel
