/-! WHAT STAYS AS IT IS: words of the tables that no call takes along, the text of the words, String's one static; all below the address ev.1 -/
def wtx : String := "judge wit age sweets accused gravity length older day ruled appeal birthday right if or and not town bench person twins case "
def wby : List Int32 := [106, 117, 100, 103, 101, 32, 119, 105, 116, 32, 97, 103, 101, 32, 115, 119, 101, 101, 116, 115, 32, 97, 99, 99, 117, 115, 101, 100, 32, 103, 114, 97, 118, 105, 116, 121, 32, 108, 101, 110, 103, 116, 104, 32, 111, 108, 100, 101, 114, 32, 100, 97, 121, 32, 114, 117, 108, 101, 100, 32, 97, 112, 112, 101, 97, 108, 32, 98, 105, 114, 116, 104, 100, 97, 121, 32, 114, 105, 103, 104, 116, 32, 105, 102, 32, 111, 114, 32, 97, 110, 100, 32, 110, 111, 116, 32, 116, 111, 119, 110, 32, 98, 101, 110, 99, 104, 32, 112, 101, 114, 115, 111, 110, 32, 116, 119, 105, 110, 115, 32, 99, 97, 115, 101, 32]
def EN (ev : Nat × Nat × Nat) (U : State) : Prop :=
  (va_Nw (Jvm.Cond.methodLinkNest "YoungerBench" (30 : Nat) ({ cls := "YoungerBench$State", name := "<init>", desc := "()V" } : Jvm.MethodName) "YoungerBench") U ∧ va_Nw (Jvm.Cond.methodLinkNest "YoungerBench$State" (11 : Nat) ({ cls := "YoungerBench$Town", name := "<init>", desc := "()V" } : Jvm.MethodName) "YoungerBench") U ∧ va_Nw (Jvm.Cond.methodLinkNest "YoungerBench$State" (20 : Nat) ({ cls := "YoungerBench$Course", name := "<init>", desc := "()V" } : Jvm.MethodName) "YoungerBench") U ∧ va_Nw (Jvm.Cond.methodLinkNest "YoungerBench" (41 : Nat) ({ cls := "YoungerBench$Past", name := "<init>", desc := "()V" } : Jvm.MethodName) "YoungerBench") U ∧ va_Nw (Jvm.Cond.methodLinkNest "YoungerBench" (73 : Nat) ({ cls := "YoungerBench$Town", name := "<init>", desc := "()V" } : Jvm.MethodName) "YoungerBench") U ∧ va_Nw (Jvm.Cond.methodLinkNest "YoungerBench" (98 : Nat) ({ cls := "YoungerBench$Course", name := "<init>", desc := "()V" } : Jvm.MethodName) "YoungerBench") U ∧ va_Nw (Jvm.Cond.methodLinkNest "YoungerBench$Past" (24 : Nat) ({ cls := "YoungerBench$Course", name := "<init>", desc := "()V" } : Jvm.MethodName) "YoungerBench") U) ∧
  (va_AO "YoungerBench$Rule" U ∧ va_AO "YoungerBench$State" U ∧ va_AO "YoungerBench$Course" U) ∧
  vk_R "YoungerBench$Reader" 46 wtx ev.2.1 U ∧ vk_S 1 [125] [wby] (fun _ => ev.2.1) (fun _ => ev.2.2) (fun q => ev.1 ≤ q) U U.heap ∧
  va_Z "java/lang/String" "COMPACT_STRINGS" "Z" (.int 1) (fun q => ev.1 ≤ q) U U.heap ∧
  va_Zq "jdk/internal/util/Preconditions" "SIOOBE_FORMATTER" "Ljava/util/function/BiFunction;" (fun q => ev.1 ≤ q) U U.heap
theorem EN.same {ev : Nat × Nat × Nat} {u U : State} (hv : U.vm = u.vm) (hh : U.heap = u.heap) (h : EN ev u) : EN ev U := by
  obtain ⟨hn, ⟨a1, a2, a3⟩, h1, h2, h3, h4⟩ := h
  have hal : u.vm.Alike U.vm := by rw [hv]; exact Vm.Alike.refl _
  refine ⟨?_, ⟨va_AO.moved hal a1, va_AO.moved hal a2, va_AO.moved hal a3⟩, vk_R.same hv h1, ?_, ?_, ?_⟩
  · obtain ⟨n0, n1, n2, n3, n4, n5, n6⟩ := hn
    exact ⟨va_Nw.same rfl hv.symm n0, va_Nw.same rfl hv.symm n1, va_Nw.same rfl hv.symm n2, va_Nw.same rfl hv.symm n3, va_Nw.same rfl hv.symm n4, va_Nw.same rfl hv.symm n5, va_Nw.same rfl hv.symm n6⟩
  · rw [hh]; exact vk_S.moved hal h2
  · rw [hh]; exact va_Z.moved hal h3
  · rw [hh]; exact va_Zq.moved hal h4
theorem EN.go {ev : Nat × Nat × Nat} {A : Nat → Prop} {s U : State} {H : Heap} {locs : List Loc} (h : EN ev s) (hS : va_S A s.heap H locs) (hA : ∀ q, A q → ev.1 ≤ q) (hU : U.heap = H) (hW : s.WarmedH U.vm) : EN ev U := by
  obtain ⟨hn, ⟨a1, a2, a3⟩, h1, h2, h3, h4⟩ := h
  have hk : ∀ a : Nat, a < s.heap.size → ¬ ev.1 ≤ a → U.heap[a]? = s.heap[a]? := fun a ha hq => by rw [hU]; exact hS.2.1 a ha (fun z => hq (hA a z))
  refine ⟨?_, ⟨va_AO.moved hW.alike a1, va_AO.moved hW.alike a2, va_AO.moved hW.alike a3⟩, vk_R.warm hW h1, (vk_S.moved hW.alike h2).kept hk, (va_Z.moved hW.alike h3).kept hk, (va_Zq.moved hW.alike h4).kept hk⟩
  obtain ⟨n0, n1, n2, n3, n4, n5, n6⟩ := hn
  exact ⟨va_Nw.warmM hW n0, va_Nw.warmM hW n1, va_Nw.warmM hW n2, va_Nw.warmM hW n3, va_Nw.warmM hW n4, va_Nw.warmM hW n5, va_Nw.warmM hW n6⟩
/-- what a walk holds of the state at its entry -/
def KX (D : va_G) (cz : Nat → ClassId) (ev : Nat × Nat × Nat) (A : Nat → Prop) (s : State) : Prop := va_K D clsX (tysX cz) s ∧ EN ev s ∧ ∀ q, A q → ev.1 ≤ q
section XROWS
variable {p : Program} {l : Launch} {e : Env} {R : Room} {s : State} {m : MethodId} {args : Array Value} {below : List Frame} {meth : Method} {c : Code} {H : Heap} {locs : List Loc} {cells slots : Nat} {Q : State → Prop}
variable {cc : ByteArray} {nL : Nat} {own : String} {pc : Nat} {ls : Array Slot} {rest : List Value}
variable {D : va_G} {cz : Nat → ClassId} {A : Nat → Prop} {ev : Nat × Nat × Nat} {L : List Nat} {S : ST} {Rf : RT} {H0 : Heap} {I : IT} {J : JT}
theorem x_cell (hw : WX D cz A L S Rf H0 I J H locs) {a : Nat} (ha : a ∈ L) : ∃ k : Nat, (va_pl L (EX cz S Rf I J))[k]? = some (a, EX cz S Rf I J a) := va_pl_get (X := []) ha
theorem x_get0 (X : CallFix p m c cc nL s args gw own) (hK : KX D cz ev A s) (hw : WX D cz A L S Rf H0 I J H locs) {a ci n : Nat} (ha : a ∈ L) (hS : S a = (ci + 7, n)) {C : String} {T : u_T} {N : Nat} {ty : Nat → FieldType} (cp : CP ci C T N ty) (k : Nat) (hk : k < N) {v : Value} (hv : fldv ((layX ci).getD k 0) I J Rf a k = v) {index : Nat} (hlink : Cond.fieldLink own index (T k).1 (T k).2.1 (T k).2.2.1 ∈ gw) (hdg : decode cc pc = .ok (.getfield index, 3))
    (kk : W p l e R s m args below meth c H locs cells slots Q (F0 m (pc + 3) ls (v :: rest))) : W p l e R s m args below meth c H locs cells slots Q (F0 m pc ls (.ref a :: rest)) := by
  obtain ⟨hx, hb, hml, hown, hts⟩ := X
  obtain ⟨hc, hin, hlen, hty, hnm⟩ := cp
  obtain ⟨q0, hq⟩ := x_cell hw ha
  rw [EX_obj hS] at hq
  exact va_get (D := D) (cl := clsX) hx hb hts hin hown hK.1 hw.1 q0 hq hc k hk (hts _ hlink) (fun _ h => h) (by rw [flds_get (by rw [hlen]; exact hk), hv]) hdg kk
theorem x_getI (X : CallFix p m c cc nL s args gw own) (hK : KX D cz ev A s) (hw : WX D cz A L S Rf H0 I J H locs) {a ci n : Nat} (ha : a ∈ L) (hS : S a = (ci + 7, n)) {C : String} {T : u_T} {N : Nat} {ty : Nat → FieldType} (cp : CP ci C T N ty) (k : Nat) (hk : k < N) (hv : (layX ci).getD k 0 = 0) {index : Nat} (hlink : Cond.fieldLink own index (T k).1 (T k).2.1 (T k).2.2.1 ∈ gw) (hdg : decode cc pc = .ok (.getfield index, 3))
    (kk : W p l e R s m args below meth c H locs cells slots Q (F0 m (pc + 3) ls (.int (I a k) :: rest))) : W p l e R s m args below meth c H locs cells slots Q (F0 m pc ls (.ref a :: rest)) :=
  x_get0 X hK hw ha hS cp k hk (by rw [hv]; rfl) hlink hdg kk
theorem x_getJ (X : CallFix p m c cc nL s args gw own) (hK : KX D cz ev A s) (hw : WX D cz A L S Rf H0 I J H locs) {a ci n : Nat} (ha : a ∈ L) (hS : S a = (ci + 7, n)) {C : String} {T : u_T} {N : Nat} {ty : Nat → FieldType} (cp : CP ci C T N ty) (k : Nat) (hk : k < N) (hv : (layX ci).getD k 0 = 1) {index : Nat} (hlink : Cond.fieldLink own index (T k).1 (T k).2.1 (T k).2.2.1 ∈ gw) (hdg : decode cc pc = .ok (.getfield index, 3))
    (kk : W p l e R s m args below meth c H locs cells slots Q (F0 m (pc + 3) ls (.long (J a k) :: rest))) : W p l e R s m args below meth c H locs cells slots Q (F0 m pc ls (.ref a :: rest)) :=
  x_get0 X hK hw ha hS cp k hk (by rw [hv]; rfl) hlink hdg kk
theorem x_getR (X : CallFix p m c cc nL s args gw own) (hK : KX D cz ev A s) (hw : WX D cz A L S Rf H0 I J H locs) {a ci n : Nat} (ha : a ∈ L) (hS : S a = (ci + 7, n)) {C : String} {T : u_T} {N : Nat} {ty : Nat → FieldType} (cp : CP ci C T N ty) (k : Nat) (hk : k < N) (hv : (layX ci).getD k 0 = 2) {q : Nat} (hR : Rf a k = some q) {index : Nat} (hlink : Cond.fieldLink own index (T k).1 (T k).2.1 (T k).2.2.1 ∈ gw) (hdg : decode cc pc = .ok (.getfield index, 3))
    (kk : W p l e R s m args below meth c H locs cells slots Q (F0 m (pc + 3) ls (.ref q :: rest))) : W p l e R s m args below meth c H locs cells slots Q (F0 m pc ls (.ref a :: rest)) :=
  x_get0 X hK hw ha hS cp k hk (by rw [hv]; show va_rf (Rf a k) = _; rw [hR]; rfl) hlink hdg kk
theorem x_put0 (X : CallFix p m c cc nL s args gw own) (hK : KX D cz ev A s) (hw : WX D cz A L S Rf H0 I J H locs) {a ci n : Nat} (ha : a ∈ L) (hS : S a = (ci + 7, n)) {C : String} {T : u_T} {N : Nat} {ty : Nat → FieldType} (cp : CP ci C T N ty) (k : Nat) (hk : k < N) {v : Value} (hn : narrow (ty k) v = v) (hfit : fits (ty k) v = true) (hfin : (T k).2.2.2 = false) {I' : IT} {J' : JT} (hup : va_up (EX cz S Rf I J) a (.inr (ci, (flds (layX ci) I J Rf a).set k v)) = EX cz S Rf I' J') {index : Nat} (hlink : Cond.fieldLink own index (T k).1 (T k).2.1 (T k).2.2.1 ∈ gw) (hdg : decode cc pc = .ok (.putfield index, 3))
    (kk : ∀ (H1 : Heap) (locs1 : List Loc), WX D cz A L S Rf H0 I' J' H1 locs1 → W p l e R s m args below meth c H1 locs1 cells slots Q (F0 m (pc + 3) ls rest)) : W p l e R s m args below meth c H locs cells slots Q (F0 m pc ls (v :: .ref a :: rest)) := by
  obtain ⟨hx, hb, hml, hown, hts⟩ := X
  obtain ⟨hc, hin, hlen, hty, hnm⟩ := cp
  obtain ⟨q0, hq⟩ := x_cell hw ha
  have hq' := hq
  rw [EX_obj hS] at hq
  refine va_put (D := D) (cl := clsX) hx hb hts hin ty hty hnm hown hK.1 hw.1 hw.2.1 hw.2.2 q0 hq hc k hk (hts _ hlink) (fun _ h => h) hfin (hty k hk) hn hfit (by rw [flds_len, hlen]; exact hk) hdg (fun H1 locs1 h1 h2 h3 => ?_)
  have hset := va_pl_set (X := []) (e := .inr (ci, (flds (layX ci) I J Rf a).set k v)) hw.2.1 ha hq'
  rw [hup] at hset
  have hset : (va_pl L (EX cz S Rf I J)).set q0 (a, .inr (ci, (flds (layX ci) I J Rf a).set k v)) = va_pl L (EX cz S Rf I' J') := hset
  rw [hset] at h1 h2
  exact kk H1 locs1 ⟨h1, h2, h3⟩
theorem x_putI (X : CallFix p m c cc nL s args gw own) (hK : KX D cz ev A s) (hw : WX D cz A L S Rf H0 I J H locs) {a ci n : Nat} (ha : a ∈ L) (hS : S a = (ci + 7, n)) {C : String} {T : u_T} {N : Nat} {ty : Nat → FieldType} (cp : CP ci C T N ty) (k : Nat) (hk : k < N) {v : Int32} (hv : (layX ci).getD k 0 = 0) (hty : ty k = .int) (hfin : (T k).2.2.2 = false) {index : Nat} (hlink : Cond.fieldLink own index (T k).1 (T k).2.1 (T k).2.2.1 ∈ gw) (hdg : decode cc pc = .ok (.putfield index, 3))
    (kk : ∀ (H1 : Heap) (locs1 : List Loc), WX D cz A L S Rf H0 (up2 I a k v) J H1 locs1 → W p l e R s m args below meth c H1 locs1 cells slots Q (F0 m (pc + 3) ls rest)) : W p l e R s m args below meth c H locs cells slots Q (F0 m pc ls (.int v :: .ref a :: rest)) :=
  x_put0 X hK hw ha hS cp k hk (by rw [hty]; rfl) (by rw [hty]; rfl) hfin (EX_upF hS (by rw [cp.2.2.1]; exact hk) hv) hlink hdg kk
theorem x_putZ (X : CallFix p m c cc nL s args gw own) (hK : KX D cz ev A s) (hw : WX D cz A L S Rf H0 I J H locs) {a ci n : Nat} (ha : a ∈ L) (hS : S a = (ci + 7, n)) {C : String} {T : u_T} {N : Nat} {ty : Nat → FieldType} (cp : CP ci C T N ty) (k : Nat) (hk : k < N) {v : Int32} (hb : bz v = true) (hv : (layX ci).getD k 0 = 0) (hty : ty k = .boolean) (hfin : (T k).2.2.2 = false) {index : Nat} (hlink : Cond.fieldLink own index (T k).1 (T k).2.1 (T k).2.2.1 ∈ gw) (hdg : decode cc pc = .ok (.putfield index, 3))
    (kk : ∀ (H1 : Heap) (locs1 : List Loc), WX D cz A L S Rf H0 (up2 I a k v) J H1 locs1 → W p l e R s m args below meth c H1 locs1 cells slots Q (F0 m (pc + 3) ls rest)) : W p l e R s m args below meth c H locs cells slots Q (F0 m pc ls (.int v :: .ref a :: rest)) :=
  x_put0 X hK hw ha hS cp k hk (by rw [hty]; exact (bz_nar hb).1) (by rw [hty]; exact (bz_nar hb).2) hfin (EX_upF hS (by rw [cp.2.2.1]; exact hk) hv) hlink hdg kk
theorem x_putJ (X : CallFix p m c cc nL s args gw own) (hK : KX D cz ev A s) (hw : WX D cz A L S Rf H0 I J H locs) {a ci n : Nat} (ha : a ∈ L) (hS : S a = (ci + 7, n)) {C : String} {T : u_T} {N : Nat} {ty : Nat → FieldType} (cp : CP ci C T N ty) (k : Nat) (hk : k < N) {v : Int64} (hv : (layX ci).getD k 0 = 1) (hty : ty k = .long) (hfin : (T k).2.2.2 = false) {index : Nat} (hlink : Cond.fieldLink own index (T k).1 (T k).2.1 (T k).2.2.1 ∈ gw) (hdg : decode cc pc = .ok (.putfield index, 3))
    (kk : ∀ (H1 : Heap) (locs1 : List Loc), WX D cz A L S Rf H0 I (up2J J a k v) H1 locs1 → W p l e R s m args below meth c H1 locs1 cells slots Q (F0 m (pc + 3) ls rest)) : W p l e R s m args below meth c H locs cells slots Q (F0 m pc ls (.long v :: .ref a :: rest)) :=
  x_put0 X hK hw ha hS cp k hk (by rw [hty]; rfl) (by rw [hty]; rfl) hfin (EX_upFJ hS (by rw [cp.2.2.1]; exact hk) hv) hlink hdg kk
theorem x_iald (X : CallFix p m c cc nL s args gw own) (hK : KX D cz ev A s) (hw : WX D cz A L S Rf H0 I J H locs) {a n : Nat} (ha : a ∈ L) (hS : S a = (0, n)) {i : Int32} (hin : inb i n = true) {k : Nat} (hk : i.toNatClampNeg = k) (hdg : decode cc pc = .ok (.iaload, 1))
    (kk : W p l e R s m args below meth c H locs cells slots Q (F0 m (pc + 1) ls (.int (I a k) :: rest))) : W p l e R s m args below meth c H locs cells slots Q (F0 m pc ls (.int i :: .ref a :: rest)) := by
  subst hk
  obtain ⟨q0, hq⟩ := x_cell hw ha
  rw [EX_i hS] at hq
  exact va_iald X.1 X.2.1 hK.1 hw.1 q0 0 hq rfl (inb_vp hin) hdg kk
theorem x_bald (X : CallFix p m c cc nL s args gw own) (hK : KX D cz ev A s) (hw : WX D cz A L S Rf H0 I J H locs) {a n : Nat} (ha : a ∈ L) (hS : S a = (1, n)) {i : Int32} (hin : inb i n = true) {k : Nat} (hk : i.toNatClampNeg = k) (hdg : decode cc pc = .ok (.baload, 1))
    (kk : W p l e R s m args below meth c H locs cells slots Q (F0 m (pc + 1) ls (.int (I a k) :: rest))) : W p l e R s m args below meth c H locs cells slots Q (F0 m pc ls (.int i :: .ref a :: rest)) := by
  subst hk
  obtain ⟨q0, hq⟩ := x_cell hw ha
  rw [EX_b hS] at hq
  exact va_bald X.1 X.2.1 hK.1 hw.1 q0 1 hq rfl (inb_vp hin) hdg kk
theorem x_zald (X : CallFix p m c cc nL s args gw own) (hK : KX D cz ev A s) (hw : WX D cz A L S Rf H0 I J H locs) {a n : Nat} (ha : a ∈ L) (hS : S a = (2, n)) {i : Int32} (hin : inb i n = true) {k : Nat} (hk : i.toNatClampNeg = k) (hdg : decode cc pc = .ok (.baload, 1))
    (kk : W p l e R s m args below meth c H locs cells slots Q (F0 m (pc + 1) ls (.int (I a k) :: rest))) : W p l e R s m args below meth c H locs cells slots Q (F0 m pc ls (.int i :: .ref a :: rest)) := by
  subst hk
  obtain ⟨q0, hq⟩ := x_cell hw ha
  rw [EX_z hS] at hq
  exact va_zald X.1 X.2.1 hK.1 hw.1 q0 2 hq rfl (inb_vp hin) hdg kk
theorem x_lald (X : CallFix p m c cc nL s args gw own) (hK : KX D cz ev A s) (hw : WX D cz A L S Rf H0 I J H locs) {a n : Nat} (ha : a ∈ L) (hS : S a = (3, n)) {i : Int32} (hin : inb i n = true) {k : Nat} (hk : i.toNatClampNeg = k) (hdg : decode cc pc = .ok (.laload, 1))
    (kk : W p l e R s m args below meth c H locs cells slots Q (F0 m (pc + 1) ls (.long (J a k) :: rest))) : W p l e R s m args below meth c H locs cells slots Q (F0 m pc ls (.int i :: .ref a :: rest)) := by
  subst hk
  obtain ⟨q0, hq⟩ := x_cell hw ha
  rw [EX_l hS] at hq
  exact va_lald X.1 X.2.1 hK.1 hw.1 q0 3 hq rfl (inb_vp hin) hdg kk
theorem x_iast (X : CallFix p m c cc nL s args gw own) (hK : KX D cz ev A s) (hw : WX D cz A L S Rf H0 I J H locs) {a n : Nat} (ha : a ∈ L) (hS : S a = (0, n)) {i x : Int32} (hin : inb i n = true) {k : Nat} (hk : i.toNatClampNeg = k) (hdg : decode cc pc = .ok (.iastore, 1))
    (kk : ∀ (H1 : Heap) (locs1 : List Loc), WX D cz A L S Rf H0 (up2 I a k x) J H1 locs1 → W p l e R s m args below meth c H1 locs1 cells slots Q (F0 m (pc + 1) ls rest)) : W p l e R s m args below meth c H locs cells slots Q (F0 m pc ls (.int x :: .int i :: .ref a :: rest)) := by
  subst hk
  obtain ⟨q0, hq'⟩ := x_cell hw ha
  have hq := hq'
  rw [EX_i hS] at hq
  refine va_iast X.1 X.2.1 hK.1 hw.1 hw.2.1 hw.2.2 q0 0 hq rfl (inb_vp hin) hdg (fun H1 locs1 h1 h2 h3 => ?_)
  have hset : (va_pl L (EX cz S Rf I J)).set q0 (a, .inl (cz 0, n, .inl (upd (I a) i.toNatClampNeg x))) = va_pl L (va_up (EX cz S Rf I J) a _) := va_pl_set (X := []) hw.2.1 ha hq'
  rw [hset, EX_upi hS] at h1 h2
  exact kk H1 locs1 ⟨h1, h2, h3⟩
theorem x_bast (X : CallFix p m c cc nL s args gw own) (hK : KX D cz ev A s) (hw : WX D cz A L S Rf H0 I J H locs) {a n : Nat} (ha : a ∈ L) (hS : S a = (1, n)) {i x : Int32} (hin : inb i n = true) {k : Nat} (hk : i.toNatClampNeg = k) (hdg : decode cc pc = .ok (.bastore, 1))
    (kk : ∀ (H1 : Heap) (locs1 : List Loc), WX D cz A L S Rf H0 (up2 I a k (vp_nar .byte x)) J H1 locs1 → W p l e R s m args below meth c H1 locs1 cells slots Q (F0 m (pc + 1) ls rest)) : W p l e R s m args below meth c H locs cells slots Q (F0 m pc ls (.int x :: .int i :: .ref a :: rest)) := by
  subst hk
  obtain ⟨q0, hq'⟩ := x_cell hw ha
  have hq := hq'
  rw [EX_b hS] at hq
  refine va_bast X.1 X.2.1 hK.1 hw.1 hw.2.1 hw.2.2 q0 1 hq rfl (inb_vp hin) hdg (fun H1 locs1 h1 h2 h3 => ?_)
  have hset : (va_pl L (EX cz S Rf I J)).set q0 (a, .inl (cz 1, n, .inl (upd (I a) i.toNatClampNeg (vp_nar .byte x)))) = va_pl L (va_up (EX cz S Rf I J) a _) := va_pl_set (X := []) hw.2.1 ha hq'
  rw [hset, EX_upb hS] at h1 h2
  exact kk H1 locs1 ⟨h1, h2, h3⟩
theorem x_zast (X : CallFix p m c cc nL s args gw own) (hK : KX D cz ev A s) (hw : WX D cz A L S Rf H0 I J H locs) {a n : Nat} (ha : a ∈ L) (hS : S a = (2, n)) {i x : Int32} (hin : inb i n = true) {k : Nat} (hk : i.toNatClampNeg = k) (hdg : decode cc pc = .ok (.bastore, 1))
    (kk : ∀ (H1 : Heap) (locs1 : List Loc), WX D cz A L S Rf H0 (up2 I a k (vp_nar .boolean x)) J H1 locs1 → W p l e R s m args below meth c H1 locs1 cells slots Q (F0 m (pc + 1) ls rest)) : W p l e R s m args below meth c H locs cells slots Q (F0 m pc ls (.int x :: .int i :: .ref a :: rest)) := by
  subst hk
  obtain ⟨q0, hq'⟩ := x_cell hw ha
  have hq := hq'
  rw [EX_z hS] at hq
  refine va_zast X.1 X.2.1 hK.1 hw.1 hw.2.1 hw.2.2 q0 2 hq rfl (inb_vp hin) hdg (fun H1 locs1 h1 h2 h3 => ?_)
  have hset : (va_pl L (EX cz S Rf I J)).set q0 (a, .inl (cz 2, n, .inl (upd (I a) i.toNatClampNeg (vp_nar .boolean x)))) = va_pl L (va_up (EX cz S Rf I J) a _) := va_pl_set (X := []) hw.2.1 ha hq'
  rw [hset, EX_upz hS] at h1 h2
  exact kk H1 locs1 ⟨h1, h2, h3⟩
theorem x_last (X : CallFix p m c cc nL s args gw own) (hK : KX D cz ev A s) (hw : WX D cz A L S Rf H0 I J H locs) {a n : Nat} (ha : a ∈ L) (hS : S a = (3, n)) {i : Int32} {x : Int64} (hin : inb i n = true) {k : Nat} (hk : i.toNatClampNeg = k) (hdg : decode cc pc = .ok (.lastore, 1))
    (kk : ∀ (H1 : Heap) (locs1 : List Loc), WX D cz A L S Rf H0 I (up2J J a k x) H1 locs1 → W p l e R s m args below meth c H1 locs1 cells slots Q (F0 m (pc + 1) ls rest)) : W p l e R s m args below meth c H locs cells slots Q (F0 m pc ls (.long x :: .int i :: .ref a :: rest)) := by
  subst hk
  obtain ⟨q0, hq'⟩ := x_cell hw ha
  have hq := hq'
  rw [EX_l hS] at hq
  refine va_last X.1 X.2.1 hK.1 hw.1 hw.2.1 hw.2.2 q0 3 hq rfl (inb_vp hin) hdg (fun H1 locs1 h1 h2 h3 => ?_)
  have hset : (va_pl L (EX cz S Rf I J)).set q0 (a, .inl (cz 3, n, .inr (.inl (vp_updL (J a) i.toNatClampNeg x)))) = va_pl L (va_up (EX cz S Rf I J) a _) := va_pl_set (X := []) hw.2.1 ha hq'
  rw [hset, EX_upl hS] at h1 h2
  exact kk H1 locs1 ⟨h1, h2, h3⟩
theorem x_alen (X : CallFix p m c cc nL s args gw own) (hK : KX D cz ev A s) (hw : WX D cz A L S Rf H0 I J H locs) {a n : Nat} (ha : a ∈ L) (hS : S a = (0, n)) (hdg : decode cc pc = .ok (.arraylength, 1))
    (kk : W p l e R s m args below meth c H locs cells slots Q (F0 m (pc + 1) ls (.int (nI n) :: rest))) : W p l e R s m args below meth c H locs cells slots Q (F0 m pc ls (.ref a :: rest)) := by
  obtain ⟨q0, hq⟩ := x_cell hw ha
  rw [EX_i hS] at hq
  exact va_alen X.1 X.2.1 hK.1 hw.1 q0 0 hq rfl rfl hdg kk
theorem x_alenl (X : CallFix p m c cc nL s args gw own) (hK : KX D cz ev A s) (hw : WX D cz A L S Rf H0 I J H locs) {a n : Nat} (ha : a ∈ L) (hS : S a = (3, n)) (hdg : decode cc pc = .ok (.arraylength, 1))
    (kk : W p l e R s m args below meth c H locs cells slots Q (F0 m (pc + 1) ls (.int (nI n) :: rest))) : W p l e R s m args below meth c H locs cells slots Q (F0 m pc ls (.ref a :: rest)) := by
  obtain ⟨q0, hq⟩ := x_cell hw ha
  rw [EX_l hS] at hq
  exact va_alen X.1 X.2.1 hK.1 hw.1 q0 3 hq rfl rfl hdg kk
end XROWS
/-! CONTRACTS: a method with the region before and behind it; r its answer, I1 J1 the tables behind -/
def PX (D : va_G) (cz : Nat → ClassId) (L : List Nat) (S : ST) (Rf : RT) (I : IT) (J : JT) (U : State) : Prop := va_P D clsX (va_pl L (EX cz S Rf I J)) U.heap ∧ va_K D clsX (tysX cz) U ∧ L.Nodup
def PE (D : va_G) (cz : Nat → ClassId) (ev : Nat × Nat × Nat) (L : List Nat) (S : ST) (Rf : RT) (I : IT) (J : JT) (U : State) : Prop := PX D cz L S Rf I J U ∧ EN ev U ∧ ∀ a ∈ L, ev.1 ≤ a
abbrev rmX (fr lo : Nat) : Room := { frames := fr, cells := 0, slots := 0, locals := lo }
def MTi (l : Launch) (D : va_G) (cz : Nat → ClassId) (ev : Nat × Nat × Nat) (y : MethodName) (b : ByteArray) (n : Nat) (ret : Option FieldType) (fr lo : Nat) (av : List Value) (L : List Nat) (S : ST) (Rf : RT) (I : IT) (J : JT) (r : Int32) (I1 : IT) (J1 : JT) : Prop :=
  Met l y (.code y b n ret :: gw) (rmX fr lo) (va_Pc av (PE D cz ev L S Rf I J)) (va_Qi (fun x (_ : Unit) => x = r) (fun _ t => PX D cz L S Rf I1 J1 t) (fun q => q ∈ L)) 0 0 (fun q => q ∈ L)
def MTl (l : Launch) (D : va_G) (cz : Nat → ClassId) (ev : Nat × Nat × Nat) (y : MethodName) (b : ByteArray) (n : Nat) (ret : Option FieldType) (fr lo : Nat) (av : List Value) (L : List Nat) (S : ST) (Rf : RT) (I : IT) (J : JT) (r : Int64) (I1 : IT) (J1 : JT) : Prop :=
  Met l y (.code y b n ret :: gw) (rmX fr lo) (va_Pc av (PE D cz ev L S Rf I J)) (va_Ql (fun x (_ : Unit) => x = r) (fun _ t => PX D cz L S Rf I1 J1 t) (fun q => q ∈ L)) 0 0 (fun q => q ∈ L)
def MTv (l : Launch) (D : va_G) (cz : Nat → ClassId) (ev : Nat × Nat × Nat) (y : MethodName) (b : ByteArray) (n : Nat) (ret : Option FieldType) (fr lo : Nat) (av : List Value) (L : List Nat) (S : ST) (Rf : RT) (I : IT) (J : JT) (_r : Unit) (I1 : IT) (J1 : JT) : Prop :=
  Met l y (.code y b n ret :: gw) (rmX fr lo) (va_Pc av (PE D cz ev L S Rf I J)) (va_Qv (fun (_ : Unit) => True) (fun _ t => PX D cz L S Rf I1 J1 t) (fun q => q ∈ L)) 0 0 (fun q => q ∈ L)
theorem px_blind {D : va_G} {cz : Nat → ClassId} {ev : Nat × Nat × Nat} {L : List Nat} {S : ST} {Rf : RT} {I : IT} {J : JT} {av : List Value} : FrameBlind (va_Pc av (PE D cz ev L S Rf I J)) := by
  intro a U g mk q
  obtain ⟨q0, ⟨qP, qK, qD⟩, qE, qB⟩ := q
  exact ⟨q0, ⟨qP, va_K.moved (u := U) (U := U.calling g mk a) (Vm.Alike.refl U.vm) qK, qD⟩, EN.same (u := U) (U := U.calling g mk a) rfl rfl qE, qB⟩
theorem pl_nodup {L : List Nat} {A : Nat → Prop} {f : Nat → va_E} (h : va_D A (va_pl L f)) : L.Nodup := by
  refine List.pairwise_iff_getElem.mpr (fun i j hi hj hij e2 => ?_)
  have h1 : (va_pl L f)[i]? = some (L[i], f L[i]) := by simp [va_pl, hi]
  have h2 : (va_pl L f)[j]? = some (L[j], f L[j]) := by simp [va_pl, hj]
  have := h.1 i j _ _ h1 h2 e2
  omega
/-- the words that a call of an instance method needs -/
def VW (own : String) (idx : Nat) (y : MethodName) (b : ByteArray) (n : Nat) (ret : Option FieldType) (np : Nat) : Prop :=
  (Cond.methodLink own idx y ∈ gw ∧ Cond.instanceMethod y ∈ gw ∧ Cond.selects y.cls y y ∈ gw ∧ Cond.initialized y.cls ∈ gw ∧ Cond.code y b n ret ∈ gw) ∧ (y.cls ≠ "java/lang/invoke/MethodHandle" ∧ y.cls ≠ "java/lang/invoke/VarHandle" ∧ (parseMethodDescriptor y.desc).map (fun d => d.parameters.length) = some np)
/-- of a static one, of its own class or another -/
def SW (own : String) (idx : Nat) (y : MethodName) (b : ByteArray) (n : Nat) (ret : Option FieldType) (np : Nat) : Prop :=
  (Cond.methodLink own idx y ∈ gw ∧ Cond.static y ∈ gw ∧ Cond.initialized y.cls ∈ gw ∧ Cond.code y b n ret ∈ gw) ∧ (y.cls ≠ "java/lang/invoke/MethodHandle" ∧ y.cls ≠ "java/lang/invoke/VarHandle" ∧ (parseMethodDescriptor y.desc).map (fun d => d.parameters.length) = some np)
theorem gw_call {y : MethodName} {b : ByteArray} {n : Nat} {ret : Option FieldType} (h : Cond.code y b n ret ∈ gw) : GoodIn gw (.code y b n ret :: gw) := by
  intro w hw
  rcases List.mem_cons.mp hw with rfl | h2
  · exact ⟨h, gw_good _ h⟩
  · exact ⟨h2, gw_good _ h2⟩
section XCALL
variable {p : Program} {l : Launch} {e : Env} {R : Room} {s : State} {m : MethodId} {args : Array Value} {below : List Frame} {meth : Method} {c : Code} {H : Heap} {locs : List Loc} {cells slots : Nat} {Q : State → Prop}
variable {cc : ByteArray} {nL : Nat} {own : String} {pc : Nat} {ls : Array Slot} {rest : List Value}
variable {D : va_G} {cz : Nat → ClassId} {A : Nat → Prop} {ev : Nat × Nat × Nat} {L : List Nat} {S : ST} {Rf : RT} {H0 : Heap} {I I1 : IT} {J J1 : JT}
variable {y : MethodName} {b : ByteArray} {n fr lo idx np : Nat} {ret : Option FieldType}
theorem x_cw (X : CallFix p m c cc nL s args gw own) (v : VW own idx y b n ret np) (hR : fr + 1 ≤ R.frames ∧ 8 + (n + 11) + lo ≤ R.locals) : CallW R s args own y.cls idx y b n ret (.code y b n ret :: gw) (rmX fr lo) 0 0 np := by
  obtain ⟨hx, hb, hml, hown, hts⟩ := X
  obtain ⟨⟨h1, h2, h3, h4, h5⟩, hd⟩ := v
  refine cwV np hts ?_ rfl rfl rfl ⟨rfl, hd⟩ hR
  intro w hw
  rcases List.mem_append.mp hw with h | h
  · have : w ∈ gw := by
      simp only [List.mem_cons, List.not_mem_nil, or_false] at h
      rcases h with rfl | rfl | rfl | rfl <;> assumption
    exact ⟨this, gw_good _ this⟩
  · exact gw_call h5 w h
theorem x_cs (X : CallFix p m c cc nL s args gw own) (v : SW own idx y b n ret np) (hR : fr + 1 ≤ R.frames ∧ 8 + (n + 11) + lo ≤ R.locals) : CallB R s args own idx y b n ret (.code y b n ret :: gw) (rmX fr lo) 0 0 np ∧ (Cond.static y).before args s = true := by
  obtain ⟨hx, hb, hml, hown, hts⟩ := X
  obtain ⟨⟨h1, h2, h4, h5⟩, hd⟩ := v
  exact ⟨callB_of np hts (gw_call h5) rfl rfl rfl (hts _ h4) (hts _ h1) hd hR, hts _ h2⟩
theorem x_pre (hw : WX D cz A L S Rf s.heap I J H locs) (hK : KX D cz ev A s) {As : List Value} : ∀ U : State, U.heap = H → s.WarmedH U.vm → va_Pc As (PE D cz ev L S Rf I J) As.toArray U := fun U hU hW => ⟨rfl, ⟨by rw [hU]; exact hw.1, va_K.moved hW.alike hK.1, pl_nodup hw.2.1⟩, hK.2.1.go hw.2.2 hK.2.2 hU hW, fun a ha => hK.2.2 a (pl_A hw.2.1 ha)⟩
theorem x_calli (X : CallFix p m c cc nL s args gw own) (hK : KX D cz ev A s) (hw : WX D cz A L S Rf s.heap I J H locs) {a ci k : Nat} {As : List Value} {r : Int32} (hM : MTi l D cz ev y b n ret fr lo (.ref a :: As) L S Rf I J r I1 J1) (ha : a ∈ L) (hS : S a = (ci + 7, k)) {T : u_T} {N : Nat} (hc : clsX[ci]? = some (y.cls, T, N)) (v : VW own idx y b n ret np) (hR : fr + 1 ≤ R.frames ∧ 8 + (n + 11) + lo ≤ R.locals) (hn : As.length = np) {st0 : List Value} (hst : st0 = As.reverse ++ .ref a :: rest) (hrm : (rest.map fun v => v.category).sum ≤ 8) (hls : ls.size = nL) (hcs : cells ≤ R.cells ∧ slots ≤ R.slots) (hdg : decode cc pc = .ok (.invokevirtual idx, 3))
    (kk : ∀ (H1 : Heap) (locs1 : List Loc), WX D cz A L S Rf s.heap I1 J1 H1 locs1 → W p l e R s m args below meth c H1 locs1 cells slots Q (F0 m (pc + 3) ls (.int r :: rest))) : W p l e R s m args below meth c H locs cells slots Q (F0 m pc ls st0) := by
  obtain ⟨q0, hq⟩ := x_cell hw ha
  rw [EX_obj hS] at hq
  refine va_calli (va_runV (As := As) (rest := rest) X hM (x_cw X v hR) ⟨px_blind, va_recv hK.1 hw.1 hc hq, x_pre hw hK⟩ rfl hn hls hst (lv_room hrm) hdg hcs) hw.2.2 (fun q _ h => pl_A hw.2.1 h) (fun q h => pl_A hw.2.1 h) (fun x u t H1 locs1 ht hvm hp hB hz hk hS1 => ?_)
  obtain ⟨hP1, hK1, hN1⟩ := hB
  rw [ht] at hP1
  subst hp
  exact kk H1 locs1 ⟨hP1, pl_D hN1 (fun a h => pl_A hw.2.1 h), hS1⟩
theorem x_calll (X : CallFix p m c cc nL s args gw own) (hK : KX D cz ev A s) (hw : WX D cz A L S Rf s.heap I J H locs) {a ci k : Nat} {As : List Value} {r : Int64} (hM : MTl l D cz ev y b n ret fr lo (.ref a :: As) L S Rf I J r I1 J1) (ha : a ∈ L) (hS : S a = (ci + 7, k)) {T : u_T} {N : Nat} (hc : clsX[ci]? = some (y.cls, T, N)) (v : VW own idx y b n ret np) (hR : fr + 1 ≤ R.frames ∧ 8 + (n + 11) + lo ≤ R.locals) (hn : As.length = np) {st0 : List Value} (hst : st0 = As.reverse ++ .ref a :: rest) (hrm : (rest.map fun v => v.category).sum ≤ 8) (hls : ls.size = nL) (hcs : cells ≤ R.cells ∧ slots ≤ R.slots) (hdg : decode cc pc = .ok (.invokevirtual idx, 3))
    (kk : ∀ (H1 : Heap) (locs1 : List Loc), WX D cz A L S Rf s.heap I1 J1 H1 locs1 → W p l e R s m args below meth c H1 locs1 cells slots Q (F0 m (pc + 3) ls (.long r :: rest))) : W p l e R s m args below meth c H locs cells slots Q (F0 m pc ls st0) := by
  obtain ⟨q0, hq⟩ := x_cell hw ha
  rw [EX_obj hS] at hq
  refine va_calll (va_runV (As := As) (rest := rest) X hM (x_cw X v hR) ⟨px_blind, va_recv hK.1 hw.1 hc hq, x_pre hw hK⟩ rfl hn hls hst (lv_room hrm) hdg hcs) hw.2.2 (fun q _ h => pl_A hw.2.1 h) (fun q h => pl_A hw.2.1 h) (fun x u t H1 locs1 ht hvm hp hB hz hk hS1 => ?_)
  obtain ⟨hP1, hK1, hN1⟩ := hB
  rw [ht] at hP1
  subst hp
  exact kk H1 locs1 ⟨hP1, pl_D hN1 (fun a h => pl_A hw.2.1 h), hS1⟩
theorem x_callv (X : CallFix p m c cc nL s args gw own) (hK : KX D cz ev A s) (hw : WX D cz A L S Rf s.heap I J H locs) {a ci k : Nat} {As : List Value} {r : Unit} (hM : MTv l D cz ev y b n ret fr lo (.ref a :: As) L S Rf I J r I1 J1) (ha : a ∈ L) (hS : S a = (ci + 7, k)) {T : u_T} {N : Nat} (hc : clsX[ci]? = some (y.cls, T, N)) (v : VW own idx y b n ret np) (hR : fr + 1 ≤ R.frames ∧ 8 + (n + 11) + lo ≤ R.locals) (hn : As.length = np) {st0 : List Value} (hst : st0 = As.reverse ++ .ref a :: rest) (hrm : (rest.map fun v => v.category).sum ≤ 8) (hls : ls.size = nL) (hcs : cells ≤ R.cells ∧ slots ≤ R.slots) (hdg : decode cc pc = .ok (.invokevirtual idx, 3))
    (kk : ∀ (H1 : Heap) (locs1 : List Loc), WX D cz A L S Rf s.heap I1 J1 H1 locs1 → W p l e R s m args below meth c H1 locs1 cells slots Q (F0 m (pc + 3) ls rest)) : W p l e R s m args below meth c H locs cells slots Q (F0 m pc ls st0) := by
  obtain ⟨q0, hq⟩ := x_cell hw ha
  rw [EX_obj hS] at hq
  refine va_callv (va_runV (As := As) (rest := rest) X hM (x_cw X v hR) ⟨px_blind, va_recv hK.1 hw.1 hc hq, x_pre hw hK⟩ rfl hn hls hst (lv_room hrm) hdg hcs) hw.2.2 (fun q _ h => pl_A hw.2.1 h) (fun q h => pl_A hw.2.1 h) (fun u t H1 locs1 ht hvm hp hB hz hk hS1 => ?_)
  obtain ⟨hP1, hK1, hN1⟩ := hB
  rw [ht] at hP1
  exact kk H1 locs1 ⟨hP1, pl_D hN1 (fun a h => pl_A hw.2.1 h), hS1⟩
theorem x_callsi (X : CallFix p m c cc nL s args gw own) (hK : KX D cz ev A s) (hw : WX D cz A L S Rf s.heap I J H locs) {As : List Value} {r : Int32} (hM : MTi l D cz ev y b n ret fr lo As L S Rf I J r I1 J1) (v : SW own idx y b n ret np) (hR : fr + 1 ≤ R.frames ∧ 8 + (n + 11) + lo ≤ R.locals) (hn : As.length = np) {st0 : List Value} (hst : st0 = As.reverse ++ rest) (hrm : (rest.map fun v => v.category).sum ≤ 8) (hls : ls.size = nL) (hcs : cells ≤ R.cells ∧ slots ≤ R.slots) (hdg : decode cc pc = .ok (.invokestatic idx, 3))
    (kk : ∀ (H1 : Heap) (locs1 : List Loc), WX D cz A L S Rf s.heap I1 J1 H1 locs1 → W p l e R s m args below meth c H1 locs1 cells slots Q (F0 m (pc + 3) ls (.int r :: rest))) : W p l e R s m args below meth c H locs cells slots Q (F0 m pc ls st0) := by
  refine va_calli (va_runS (As := As) (rest := rest) X hM (x_cs X v hR) ⟨px_blind, x_pre hw hK⟩ rfl hn hls hst (lv_room hrm) hdg hcs) hw.2.2 (fun q _ h => pl_A hw.2.1 h) (fun q h => pl_A hw.2.1 h) (fun x u t H1 locs1 ht hvm hp hB hz hk hS1 => ?_)
  obtain ⟨hP1, hK1, hN1⟩ := hB
  rw [ht] at hP1
  subst hp
  exact kk H1 locs1 ⟨hP1, pl_D hN1 (fun a h => pl_A hw.2.1 h), hS1⟩
theorem x_callsl (X : CallFix p m c cc nL s args gw own) (hK : KX D cz ev A s) (hw : WX D cz A L S Rf s.heap I J H locs) {As : List Value} {r : Int64} (hM : MTl l D cz ev y b n ret fr lo As L S Rf I J r I1 J1) (v : SW own idx y b n ret np) (hR : fr + 1 ≤ R.frames ∧ 8 + (n + 11) + lo ≤ R.locals) (hn : As.length = np) {st0 : List Value} (hst : st0 = As.reverse ++ rest) (hrm : (rest.map fun v => v.category).sum ≤ 8) (hls : ls.size = nL) (hcs : cells ≤ R.cells ∧ slots ≤ R.slots) (hdg : decode cc pc = .ok (.invokestatic idx, 3))
    (kk : ∀ (H1 : Heap) (locs1 : List Loc), WX D cz A L S Rf s.heap I1 J1 H1 locs1 → W p l e R s m args below meth c H1 locs1 cells slots Q (F0 m (pc + 3) ls (.long r :: rest))) : W p l e R s m args below meth c H locs cells slots Q (F0 m pc ls st0) := by
  refine va_calll (va_runS (As := As) (rest := rest) X hM (x_cs X v hR) ⟨px_blind, x_pre hw hK⟩ rfl hn hls hst (lv_room hrm) hdg hcs) hw.2.2 (fun q _ h => pl_A hw.2.1 h) (fun q h => pl_A hw.2.1 h) (fun x u t H1 locs1 ht hvm hp hB hz hk hS1 => ?_)
  obtain ⟨hP1, hK1, hN1⟩ := hB
  rw [ht] at hP1
  subst hp
  exact kk H1 locs1 ⟨hP1, pl_D hN1 (fun a h => pl_A hw.2.1 h), hS1⟩
theorem x_callsv (X : CallFix p m c cc nL s args gw own) (hK : KX D cz ev A s) (hw : WX D cz A L S Rf s.heap I J H locs) {As : List Value} {r : Unit} (hM : MTv l D cz ev y b n ret fr lo As L S Rf I J r I1 J1) (v : SW own idx y b n ret np) (hR : fr + 1 ≤ R.frames ∧ 8 + (n + 11) + lo ≤ R.locals) (hn : As.length = np) {st0 : List Value} (hst : st0 = As.reverse ++ rest) (hrm : (rest.map fun v => v.category).sum ≤ 8) (hls : ls.size = nL) (hcs : cells ≤ R.cells ∧ slots ≤ R.slots) (hdg : decode cc pc = .ok (.invokestatic idx, 3))
    (kk : ∀ (H1 : Heap) (locs1 : List Loc), WX D cz A L S Rf s.heap I1 J1 H1 locs1 → W p l e R s m args below meth c H1 locs1 cells slots Q (F0 m (pc + 3) ls rest)) : W p l e R s m args below meth c H locs cells slots Q (F0 m pc ls st0) := by
  refine va_callv (va_runS (As := As) (rest := rest) X hM (x_cs X v hR) ⟨px_blind, x_pre hw hK⟩ rfl hn hls hst (lv_room hrm) hdg hcs) hw.2.2 (fun q _ h => pl_A hw.2.1 h) (fun q h => pl_A hw.2.1 h) (fun u t H1 locs1 ht hvm hp hB hz hk hS1 => ?_)
  obtain ⟨hP1, hK1, hN1⟩ := hB
  rw [ht] at hP1
  exact kk H1 locs1 ⟨hP1, pl_D hN1 (fun a h => pl_A hw.2.1 h), hS1⟩
end XCALL
section XENTER
variable {l : Launch} {D : va_G} {cz : Nat → ClassId} {ev : Nat × Nat × Nat} {L : List Nat} {S : ST} {Rf : RT} {I I1 : IT} {J J1 : JT} {y : MethodName} {b : ByteArray} {n fr lo : Nat} {av : List Value}
theorem x_enter {p : Program} {s : State} {m : MethodId} {args : Array Value} {below : List Frame} {meth : Method} {c : Code} {s1 : State} {e : Env} {ret : Option FieldType} (B : BodyLoose p l y (headSpec (.code y b n ret :: gw) (rmX fr lo)) b n ret e s m args below meth c s1) (hml : c.maxLocals = n) : CallFix p m c b n s args gw y.cls :=
  ⟨B.exec, B.bytes, hml, findClass_of_methodNamed B.named, fun w hw => atoms_spec (ws := .code y b n ret :: gw) B.pre w (List.mem_cons_of_mem _ hw)⟩
theorem MTi_of {r : Int32} (hy : plainName y.cls = true) (hav : (lg_sl av).length ≤ n)
    (body : ∀ (p : Program) (e : Env) (s : State) (m : MethodId) (args : Array Value) (below : List Frame) (meth : Method) (c : Code) (Q : State → Prop) (ls : Array Slot), CallFix p m c b n s args gw y.cls → KX D cz ev (fun q => q ∈ L) s → WX D cz (fun q => q ∈ L) L S Rf s.heap I J s.heap [] → lv_has ls n (lv_args 0 av) →
      (∀ (H : Heap) (locs : List Loc) (ls : Array Slot) (pc : Nat), WX D cz (fun q => q ∈ L) L S Rf s.heap I1 J1 H locs → decode b pc = .ok (.ireturn, 1) → W p l e (rmX fr lo) s m args below meth c H locs 0 0 Q (F0 m pc ls [.int r])) →
      W p l e (rmX fr lo) s m args below meth c s.heap [] 0 0 Q (F0 m 0 ls [])) : MTi l D cz ev y b n (some .int) fr lo av L S Rf I J r I1 J1 := by
  refine Met.ofW (cc := b) (maxL := n) (ret := some .int) hy rfl ?_
  intro p e s m args below meth c s₁ B hml hv
  obtain ⟨rfl, ⟨hP, hK, hN⟩, hE, hB⟩ := hv
  have hlocks := B.notSynchronized
  rw [lg_entry_eq]
  refine body p e s m _ below meth c _ _ (x_enter B hml) ⟨hK, hE, hB⟩ ⟨hP, pl_D hN (fun _ h => h), va_S.rf⟩ (lv_entry av hav) (fun H locs ls pc hw hd => ?_)
  exact W.iret B.exec B.bytes B.returns (fun t ht hW => ⟨⟨r, (), rfl, rfl, by rw [ht]; exact hw.1, va_K.moved hW.alike hK, hN⟩, hw.2.2.F ht⟩) hw.2.2.2.2 hd
theorem MTz_of {r : Int32} (hy : plainName y.cls = true) (hav : (lg_sl av).length ≤ n)
    (body : ∀ (p : Program) (e : Env) (s : State) (m : MethodId) (args : Array Value) (below : List Frame) (meth : Method) (c : Code) (Q : State → Prop) (ls : Array Slot), CallFix p m c b n s args gw y.cls → KX D cz ev (fun q => q ∈ L) s → WX D cz (fun q => q ∈ L) L S Rf s.heap I J s.heap [] → lv_has ls n (lv_args 0 av) →
      (∀ (H : Heap) (locs : List Loc) (ls : Array Slot) (pc : Nat), bz r = true → WX D cz (fun q => q ∈ L) L S Rf s.heap I1 J1 H locs → decode b pc = .ok (.ireturn, 1) → W p l e (rmX fr lo) s m args below meth c H locs 0 0 Q (F0 m pc ls [.int r])) →
      W p l e (rmX fr lo) s m args below meth c s.heap [] 0 0 Q (F0 m 0 ls [])) : MTi l D cz ev y b n (some .boolean) fr lo av L S Rf I J r I1 J1 := by
  refine Met.ofW (cc := b) (maxL := n) (ret := some .boolean) hy rfl ?_
  intro p e s m args below meth c s₁ B hml hv
  obtain ⟨rfl, ⟨hP, hK, hN⟩, hE, hB⟩ := hv
  have hlocks := B.notSynchronized
  rw [lg_entry_eq]
  refine body p e s m _ below meth c _ _ (x_enter B hml) ⟨hK, hE, hB⟩ ⟨hP, pl_D hN (fun _ h => h), va_S.rf⟩ (lv_entry av hav) (fun H locs ls pc hbz hw hd => ?_)
  exact W.zret B.exec B.bytes B.returns (bz_nar hbz).1 (fun t ht hW => ⟨⟨r, (), rfl, rfl, by rw [ht]; exact hw.1, va_K.moved hW.alike hK, hN⟩, hw.2.2.F ht⟩) hw.2.2.2.2 hd
theorem MTn_of {r : Int32} {ty : FieldType} (hn : narrow ty (.int r) = .int r) (hy : plainName y.cls = true) (hav : (lg_sl av).length ≤ n)
    (body : ∀ (p : Program) (e : Env) (s : State) (m : MethodId) (args : Array Value) (below : List Frame) (meth : Method) (c : Code) (Q : State → Prop) (ls : Array Slot), CallFix p m c b n s args gw y.cls → KX D cz ev (fun q => q ∈ L) s → WX D cz (fun q => q ∈ L) L S Rf s.heap I J s.heap [] → lv_has ls n (lv_args 0 av) →
      (∀ (H : Heap) (locs : List Loc) (ls : Array Slot) (pc : Nat), WX D cz (fun q => q ∈ L) L S Rf s.heap I1 J1 H locs → decode b pc = .ok (.ireturn, 1) → W p l e (rmX fr lo) s m args below meth c H locs 0 0 Q (F0 m pc ls [.int r])) →
      W p l e (rmX fr lo) s m args below meth c s.heap [] 0 0 Q (F0 m 0 ls [])) : MTi l D cz ev y b n (some ty) fr lo av L S Rf I J r I1 J1 := by
  refine Met.ofW (cc := b) (maxL := n) (ret := some ty) hy rfl ?_
  intro p e s m args below meth c s₁ B hml hv
  obtain ⟨rfl, ⟨hP, hK, hN⟩, hE, hB⟩ := hv
  have hlocks := B.notSynchronized
  rw [lg_entry_eq]
  refine body p e s m _ below meth c _ _ (x_enter B hml) ⟨hK, hE, hB⟩ ⟨hP, pl_D hN (fun _ h => h), va_S.rf⟩ (lv_entry av hav) (fun H locs ls pc hw hd => ?_)
  exact W.zret B.exec B.bytes B.returns hn (fun t ht hW => ⟨⟨r, (), rfl, rfl, by rw [ht]; exact hw.1, va_K.moved hW.alike hK, hN⟩, hw.2.2.F ht⟩) hw.2.2.2.2 hd
theorem MTl_of {r : Int64} (hy : plainName y.cls = true) (hav : (lg_sl av).length ≤ n)
    (body : ∀ (p : Program) (e : Env) (s : State) (m : MethodId) (args : Array Value) (below : List Frame) (meth : Method) (c : Code) (Q : State → Prop) (ls : Array Slot), CallFix p m c b n s args gw y.cls → KX D cz ev (fun q => q ∈ L) s → WX D cz (fun q => q ∈ L) L S Rf s.heap I J s.heap [] → lv_has ls n (lv_args 0 av) →
      (∀ (H : Heap) (locs : List Loc) (ls : Array Slot) (pc : Nat), WX D cz (fun q => q ∈ L) L S Rf s.heap I1 J1 H locs → decode b pc = .ok (.lreturn, 1) → W p l e (rmX fr lo) s m args below meth c H locs 0 0 Q (F0 m pc ls [.long r])) →
      W p l e (rmX fr lo) s m args below meth c s.heap [] 0 0 Q (F0 m 0 ls [])) : MTl l D cz ev y b n (some .long) fr lo av L S Rf I J r I1 J1 := by
  refine Met.ofW (cc := b) (maxL := n) (ret := some .long) hy rfl ?_
  intro p e s m args below meth c s₁ B hml hv
  obtain ⟨rfl, ⟨hP, hK, hN⟩, hE, hB⟩ := hv
  have hlocks := B.notSynchronized
  rw [lg_entry_eq]
  refine body p e s m _ below meth c _ _ (x_enter B hml) ⟨hK, hE, hB⟩ ⟨hP, pl_D hN (fun _ h => h), va_S.rf⟩ (lv_entry av hav) (fun H locs ls pc hw hd => ?_)
  exact W.lret B.exec B.bytes B.returns (fun t ht hW => ⟨⟨r, (), rfl, rfl, by rw [ht]; exact hw.1, va_K.moved hW.alike hK, hN⟩, hw.2.2.F ht⟩) hw.2.2.2.2 hd
theorem MTv_of {r : Unit} (hy : plainName y.cls = true) (hav : (lg_sl av).length ≤ n)
    (body : ∀ (p : Program) (e : Env) (s : State) (m : MethodId) (args : Array Value) (below : List Frame) (meth : Method) (c : Code) (Q : State → Prop) (ls : Array Slot), CallFix p m c b n s args gw y.cls → KX D cz ev (fun q => q ∈ L) s → WX D cz (fun q => q ∈ L) L S Rf s.heap I J s.heap [] → lv_has ls n (lv_args 0 av) →
      (∀ (H : Heap) (locs : List Loc) (ls : Array Slot) (pc : Nat), WX D cz (fun q => q ∈ L) L S Rf s.heap I1 J1 H locs → decode b pc = .ok (.return_, 1) → W p l e (rmX fr lo) s m args below meth c H locs 0 0 Q (F0 m pc ls [])) →
      W p l e (rmX fr lo) s m args below meth c s.heap [] 0 0 Q (F0 m 0 ls [])) : MTv l D cz ev y b n none fr lo av L S Rf I J r I1 J1 := by
  refine Met.ofW (cc := b) (maxL := n) (ret := none) hy rfl ?_
  intro p e s m args below meth c s₁ B hml hv
  obtain ⟨rfl, ⟨hP, hK, hN⟩, hE, hB⟩ := hv
  have hlocks := B.notSynchronized
  rw [lg_entry_eq]
  refine body p e s m _ below meth c _ _ (x_enter B hml) ⟨hK, hE, hB⟩ ⟨hP, pl_D hN (fun _ h => h), va_S.rf⟩ (lv_entry av hav) (fun H locs ls pc hw hd => ?_)
  exact W.vret B.exec B.bytes B.returns (fun t ht hW => ⟨⟨(), rfl, trivial, by rw [ht]; exact hw.1, va_K.moved hW.alike hK, hN⟩, hw.2.2.F ht⟩) hw.2.2.2.2 hd
end XENTER
def yb_ck {α : Type} (b : Bool) (k : Unit → Option α) : Option α := if b = true then k () else none
theorem yb_ck_some {α : Type} {b : Bool} {k : Unit → Option α} {r : α} (h : yb_ck b k = some r) : b = true ∧ k () = some r := yb_ite h
theorem yb_pos {α : Type} {q : Prop} {_ : Decidable q} {a b z : α} (c : q) (h : (if q then a else b) = z) : a = z := by rw [if_pos c] at h; exact h
theorem yb_neg {α : Type} {q : Prop} {_ : Decidable q} {a b z : α} (c : ¬ q) (h : (if q then a else b) = z) : b = z := by rw [if_neg c] at h; exact h
theorem yb_inj {α : Type} {a q : α} {I I1 : IT} {J J1 : JT} (h : some (a, I, J) = some (q, I1, J1)) : q = a ∧ I1 = I ∧ J1 = J := by cases h; exact ⟨rfl, rfl, rfl⟩
theorem yb_inl {α β : Type} {v : α} {q : α ⊕ β} {r : α} {I I1 IM : IT} {J J1 JM : JT} (hret : ∀ v, q = .inl v → some (v, I1, J1) = some (r, IM, JM)) (h : some (Sum.inl v, I, J) = some (q, I1, J1)) : some (v, I, J) = some (r, IM, JM) := by
  cases h; exact hret v rfl
theorem yb_sw {x : Int32} {k : Int} (kI : Int32) (h : x.toInt = k) (hk : kI.toInt = k) : x = kI := Int32.toInt_inj.mp (h.trans hk.symm)
section XRET
variable {p : Program} {l : Launch} {e : Env} {R : Room} {s : State} {m : MethodId} {args : Array Value} {below : List Frame} {meth : Method} {c : Code} {H : Heap} {locs : List Loc} {Q : State → Prop}
variable {cc : ByteArray} {pc : Nat} {ls : Array Slot} {D : va_G} {cz : Nat → ClassId} {A : Nat → Prop} {ev : Nat × Nat × Nat} {L : List Nat} {S : ST} {Rf : RT} {H0 : Heap} {I I1 I2 : IT} {J J1 J2 : JT}
theorem yb_wI (e : I2 = I1) (h : WX D cz A L S Rf H0 I1 J H locs) : WX D cz A L S Rf H0 I2 J H locs := by subst e; exact h
theorem yb_wJ (e : J2 = J1) (h : WX D cz A L S Rf H0 I J1 H locs) : WX D cz A L S Rf H0 I J2 H locs := by subst e; exact h
theorem yb_reti {r v : Int32} (hfin : ∀ (H : Heap) (locs : List Loc) (ls : Array Slot) (pc : Nat), WX D cz A L S Rf H0 I1 J1 H locs → decode cc pc = .ok (.ireturn, 1) → W p l e R s m args below meth c H locs 0 0 Q (F0 m pc ls [.int r])) (hf : some (v, I, J) = some (r, I1, J1)) (hw : WX D cz A L S Rf H0 I J H locs) (hd : decode cc pc = .ok (.ireturn, 1)) : W p l e R s m args below meth c H locs 0 0 Q (F0 m pc ls [.int v]) := by
  cases hf; exact hfin H locs ls pc hw hd
theorem yb_retz {r v : Int32} (hfin : ∀ (H : Heap) (locs : List Loc) (ls : Array Slot) (pc : Nat), bz r = true → WX D cz A L S Rf H0 I1 J1 H locs → decode cc pc = .ok (.ireturn, 1) → W p l e R s m args below meth c H locs 0 0 Q (F0 m pc ls [.int r])) (hz : bz v = true) (hf : some (v, I, J) = some (r, I1, J1)) (hw : WX D cz A L S Rf H0 I J H locs) (hd : decode cc pc = .ok (.ireturn, 1)) : W p l e R s m args below meth c H locs 0 0 Q (F0 m pc ls [.int v]) := by
  cases hf; exact hfin H locs ls pc hz hw hd
theorem yb_retl {r v : Int64} (hfin : ∀ (H : Heap) (locs : List Loc) (ls : Array Slot) (pc : Nat), WX D cz A L S Rf H0 I1 J1 H locs → decode cc pc = .ok (.lreturn, 1) → W p l e R s m args below meth c H locs 0 0 Q (F0 m pc ls [.long r])) (hf : some (v, I, J) = some (r, I1, J1)) (hw : WX D cz A L S Rf H0 I J H locs) (hd : decode cc pc = .ok (.lreturn, 1)) : W p l e R s m args below meth c H locs 0 0 Q (F0 m pc ls [.long v]) := by
  cases hf; exact hfin H locs ls pc hw hd
theorem yb_retv {r v : Unit} (hfin : ∀ (H : Heap) (locs : List Loc) (ls : Array Slot) (pc : Nat), WX D cz A L S Rf H0 I1 J1 H locs → decode cc pc = .ok (.return_, 1) → W p l e R s m args below meth c H locs 0 0 Q (F0 m pc ls [])) (hf : some (v, I, J) = some (r, I1, J1)) (hw : WX D cz A L S Rf H0 I J H locs) (hd : decode cc pc = .ok (.return_, 1)) : W p l e R s m args below meth c H locs 0 0 Q (F0 m pc ls []) := by
  cases hf; exact hfin H locs ls pc hw hd
end XRET
