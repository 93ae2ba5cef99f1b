/-! THE CLASS'S CELLS: the object at b, what its constructor makes behind it; TOWNs, COURSEs, STATEs and RULEs wherever they lie -/
def clT : List (Nat × Nat) := [(18, 0), (0, 400), (10, 0), (4, 6), (15, 0), (16, 0), (0, 7), (0, 7), (0, 7), (0, 7), (0, 6), (0, 6), (0, 6), (0, 6), (7, 0), (0, 7), (0, 7), (0, 6), (0, 6), (0, 6), (0, 6), (0, 6), (0, 6), (0, 6), (0, 10), (0, 10), (0, 10), (5, 4), (9, 0), (6, 20), (8, 0), (3, 12), (3, 64), (11, 0), (0, 260), (0, 65), (0, 65), (0, 455), (0, 455), (0, 4), (0, 4), (0, 4), (0, 4), (0, 7), (0, 4), (0, 4), (0, 4), (0, 65), (14, 0), (0, 7), (0, 61), (0, 101), (16, 0), (0, 7), (0, 7), (0, 7), (0, 7), (0, 6), (0, 6), (0, 6), (0, 6), (17, 0), (13, 0), (0, 400), (7, 0), (0, 7), (0, 7), (0, 6), (0, 6), (0, 6), (0, 6), (0, 6), (0, 6), (0, 6), (0, 7)]
def clF : List (List Nat) := [[1, 2, 3, 4, 27, 28, 30, 33, 48, 52, 61, 62, 64, 74, 0, 0], [], [1, 0, 0, 0, 0], [], [5, 14, 24, 25, 26, 0, 0, 0], [6, 7, 8, 9, 10, 11, 12, 13, 0, 0, 0, 0, 0, 0, 0], [], [], [], [], [], [], [], [], [15, 16, 17, 18, 19, 20, 21, 22, 23, 0], [], [], [], [], [], [], [], [], [], [], [], [], [], [29, 0, 0], [], [4, 3, 31, 32], [], [], [30, 34, 35, 36, 37, 38, 39, 40, 41, 42, 43, 44, 45, 46, 0, 0, 0], [], [], [], [], [], [], [], [], [], [], [], [], [], [], [30, 49, 50, 51, 0, 0, 0, 0], [], [], [], [53, 54, 55, 56, 57, 58, 59, 60, 0, 0, 0, 0, 0, 0, 0], [], [], [], [], [], [], [], [], [2, 52, 0, 0, 0], [2, 63, 0, 0], [], [65, 66, 67, 68, 69, 70, 71, 72, 73, 0], [], [], [], [], [], [], [], [], [], []]
def TownAt (L : List Nat) (S : ST) (Rf : RT) (t : Nat) : Prop := (t ∈ L ∧ S t = (16, 0)) ∧ ∀ j, j < 8 → Rf t j = some (t + (1 + j)) ∧ t + (1 + j) ∈ L ∧ S (t + (1 + j)) = (0, [7, 7, 7, 7, 6, 6, 6, 6].getD j 0)
def CourseAt (L : List Nat) (S : ST) (Rf : RT) (t : Nat) : Prop := (t ∈ L ∧ S t = (7, 0)) ∧ ∀ j, j < 9 → Rf t j = some (t + (1 + j)) ∧ t + (1 + j) ∈ L ∧ S (t + (1 + j)) = (0, [7, 7, 6, 6, 6, 6, 6, 6, 6].getD j 0)
def StateAt (L : List Nat) (S : ST) (Rf : RT) (t : Nat) : Prop := (t ∈ L ∧ S t = (15, 0)) ∧ (Rf t 0 = some (t + 1) ∧ TownAt L S Rf (t + 1)) ∧ (Rf t 1 = some (t + 10) ∧ CourseAt L S Rf (t + 10)) ∧ ∀ j, j < 3 → Rf t (2 + j) = some (t + (20 + j)) ∧ t + (20 + j) ∈ L ∧ S (t + (20 + j)) = (0, 10)
def RuleAt (L : List Nat) (S : ST) (Rf : RT) (t : Nat) : Prop := (t ∈ L ∧ S t = (12, 0)) ∧ Rf t 0 = some (t + 1) ∧ t + 1 ∈ L ∧ (S (t + 1)).1 = 0
def IArr (L : List Nat) (S : ST) (_ : RT) (t n : Nat) : Prop := t ∈ L ∧ S t = (0, n)
def CWf (b : Nat) (L : List Nat) (S : ST) (Rf : RT) : Prop := (∀ k, k < 75 → b + k ∈ L ∧ S (b + k) = clT.getD k (0, 0)) ∧ ∀ k j, k < 75 → (clF.getD k []).getD j 0 ≠ 0 → Rf (b + k) j = some (b + (clF.getD k []).getD j 0)
def CW (b : Nat) (L : List Nat) (S : ST) (Rf : RT) : Prop := CWf b L S Rf ∧ (∀ k q, Rf (b + 3) k = some q → RuleAt L S Rf q) ∧ (∀ k q, Rf (b + 27) k = some q → StateAt L S Rf q) ∧ (∀ k q, Rf (b + 29) k = some q → CourseAt L S Rf q)
section CWROWS
variable {b t : Nat} {L : List Nat} {S : ST} {Rf : RT}
theorem ta_R (h : TownAt L S Rf t) (j : Nat) (hj : j < 8) : Rf t j = some (t + (1 + j)) := (h.2 j hj).1
theorem ta_mem (h : TownAt L S Rf t) (j : Nat) (hj : j < 8) : t + (1 + j) ∈ L := (h.2 j hj).2.1
theorem ta_S (h : TownAt L S Rf t) (j : Nat) {n : Nat} (hn : (if j < 8 then [7, 7, 7, 7, 6, 6, 6, 6].getD j 0 else n + 1) = n) : S (t + (1 + j)) = (0, n) := by
  by_cases hj : j < 8
  · rw [if_pos hj] at hn; rw [(h.2 j hj).2.2, hn]
  · rw [if_neg hj] at hn; omega
theorem ca_R (h : CourseAt L S Rf t) (j : Nat) (hj : j < 9) : Rf t j = some (t + (1 + j)) := (h.2 j hj).1
theorem ca_mem (h : CourseAt L S Rf t) (j : Nat) (hj : j < 9) : t + (1 + j) ∈ L := (h.2 j hj).2.1
theorem ca_S (h : CourseAt L S Rf t) (j : Nat) {n : Nat} (hn : (if j < 9 then [7, 7, 6, 6, 6, 6, 6, 6, 6].getD j 0 else n + 1) = n) : S (t + (1 + j)) = (0, n) := by
  by_cases hj : j < 9
  · rw [if_pos hj] at hn; rw [(h.2 j hj).2.2, hn]
  · rw [if_neg hj] at hn; omega
theorem st_town (h : StateAt L S Rf t) : TownAt L S Rf (t + 1) := h.2.1.2
theorem st_course (h : StateAt L S Rf t) : CourseAt L S Rf (t + 10) := h.2.2.1.2
theorem st_R (h : StateAt L S Rf t) (j : Nat) (hj : j < 3) : Rf t (2 + j) = some (t + (20 + j)) := (h.2.2.2 j hj).1
theorem st_mem (h : StateAt L S Rf t) (j : Nat) (hj : j < 3) : t + (20 + j) ∈ L := (h.2.2.2 j hj).2.1
theorem st_S (h : StateAt L S Rf t) (j : Nat) (hj : j < 3) : S (t + (20 + j)) = (0, 10) := (h.2.2.2 j hj).2.2
theorem ru_S (h : RuleAt L S Rf t) : S (t + 1) = (0, (S (t + 1)).2) := by rw [← h.2.2.2]
theorem cw_mem (hC : CW b L S Rf) (k : Nat) (hk : k < 75) : b + k ∈ L := (hC.1.1 k hk).1
theorem cw_mem0 (hC : CW b L S Rf) : b ∈ L := cw_mem hC 0 (by decide)
theorem cw_S (hC : CW b L S Rf) (k : Nat) {q : Nat × Nat} (hq : (if k < 75 then clT.getD k (0, 0) else (q.1 + 1, 0)) = q) : S (b + k) = q := by
  by_cases hk : k < 75
  · rw [if_pos hk] at hq; rw [(hC.1.1 k hk).2, hq]
  · rw [if_neg hk] at hq; have := congrArg Prod.fst hq; simp at this
theorem cw_S0 (hC : CW b L S Rf) : S b = (18, 0) := cw_S hC 0 rfl
theorem cw_R (hC : CW b L S Rf) (k j : Nat) (hk : k < 75) {o : Nat} (ho : (if (clF.getD k []).getD j 0 = 0 then o + 1 else (clF.getD k []).getD j 0) = o) : Rf (b + k) j = some (b + o) := by
  by_cases h0 : (clF.getD k []).getD j 0 = 0
  · rw [if_pos h0] at ho; omega
  · rw [if_neg h0] at ho; rw [hC.1.2 k j hk h0, ho]
theorem cw_rule (hC : CW b L S Rf) {k q : Nat} (h : Rf (b + 3) k = some q) : RuleAt L S Rf q := hC.2.1 k q h
theorem cw_image (hC : CW b L S Rf) {k q : Nat} (h : Rf (b + 27) k = some q) : StateAt L S Rf q := hC.2.2.1 k q h
theorem cw_ring (hC : CW b L S Rf) {k q : Nat} (h : Rf (b + 29) k = some q) : CourseAt L S Rf q := hC.2.2.2 k q h
theorem cw_town (hC : CW b L S Rf) (o : Nat) (ho : o < 66) (h0 : clT.getD o (0, 0) = (16, 0)) (h1 : ∀ j, j < 8 → clT.getD (o + (1 + j)) (0, 0) = (0, [7, 7, 7, 7, 6, 6, 6, 6].getD j 0)) (h2 : ∀ j, j < 8 → (clF.getD o []).getD j 0 = o + (1 + j)) : TownAt L S Rf (b + o) := by
  refine ⟨⟨cw_mem hC o (by omega), by rw [(hC.1.1 o (by omega)).2, h0]⟩, fun j hj => ⟨?_, ?_, ?_⟩⟩
  · rw [hC.1.2 o j (by omega) (by rw [h2 j hj]; omega), h2 j hj, Nat.add_assoc]
  · rw [Nat.add_assoc]; exact cw_mem hC _ (by omega)
  · rw [Nat.add_assoc, (hC.1.1 _ (by omega)).2, h1 j hj]
theorem cw_course (hC : CW b L S Rf) (o : Nat) (ho : o < 65) (h0 : clT.getD o (0, 0) = (7, 0)) (h1 : ∀ j, j < 9 → clT.getD (o + (1 + j)) (0, 0) = (0, [7, 7, 6, 6, 6, 6, 6, 6, 6].getD j 0)) (h2 : ∀ j, j < 9 → (clF.getD o []).getD j 0 = o + (1 + j)) : CourseAt L S Rf (b + o) := by
  refine ⟨⟨cw_mem hC o (by omega), by rw [(hC.1.1 o (by omega)).2, h0]⟩, fun j hj => ⟨?_, ?_, ?_⟩⟩
  · rw [hC.1.2 o j (by omega) (by rw [h2 j hj]; omega), h2 j hj, Nat.add_assoc]
  · rw [Nat.add_assoc]; exact cw_mem hC _ (by omega)
  · rw [Nat.add_assoc, (hC.1.1 _ (by omega)).2, h1 j hj]
theorem cw_draft (hC : CW b L S Rf) : TownAt L S Rf (b + 52) := cw_town hC 52 (by decide) (by decide) (by decide) (by decide)
theorem cw_kept (hC : CW b L S Rf) : CourseAt L S Rf (b + 64) := cw_course hC 64 (by decide) (by decide) (by decide) (by decide)
theorem cw_now (hC : CW b L S Rf) : StateAt L S Rf (b + 4) := by
  refine ⟨⟨cw_mem hC 4 (by decide), cw_S hC 4 rfl⟩, ⟨cw_R hC 4 0 (by decide) rfl, cw_town hC 5 (by decide) (by decide) (by decide) (by decide)⟩, ⟨cw_R hC 4 1 (by decide) rfl, cw_course hC 14 (by decide) (by decide) (by decide) (by decide)⟩, fun j hj => ?_⟩
  rw [Nat.add_assoc]
  refine ⟨?_, cw_mem hC _ (by omega), ?_⟩
  · have h2 : ∀ j, j < 3 → (clF.getD 4 []).getD (2 + j) 0 = 4 + (20 + j) := by decide
    rw [hC.1.2 4 (2 + j) (by decide) (by rw [h2 j hj]; omega), h2 j hj]
  · have h1 : ∀ j, j < 3 → clT.getD (4 + (20 + j)) (0, 0) = (0, 10) := by decide
    rw [(hC.1.1 _ (by omega)).2, h1 j hj]
end CWROWS
def yb_op {β : Type} (o : Option Nat) (f : Unit → Option β) (g : Nat → Option β) : Option β := match o with
  | none => f ()
  | some q => g q
theorem yb_op_n {β : Type} {f : Unit → Option β} {g : Nat → Option β} {z : Option β} (h : yb_op none f g = z) : f () = z := h
theorem yb_op_s {β : Type} {q : Nat} {f : Unit → Option β} {g : Nat → Option β} {z : Option β} (h : yb_op (some q) f g = z) : g q = z := h
def cpy2 (I : IT) (a d n : Nat) : IT := fun q => if q = d then va_cpy (I a) (I d) 0 0 n else I q
section XMORE
variable {p : Program} {l : Launch} {e : Env} {R : Room} {s : State} {m : MethodId} {args : Array Value} {below : List Frame} {meth : Method} {c : Code} {H : Heap} {locs : List Loc} {cells slots : Nat} {Q : State → Prop}
variable {cc : ByteArray} {nL : Nat} {own : String} {pc : Nat} {ls : Array Slot} {rest : List Value}
variable {D : va_G} {cz : Nat → ClassId} {A : Nat → Prop} {ev : Nat × Nat × Nat} {L : List Nat} {S : ST} {Rf : RT} {H0 : Heap} {I : IT} {J : JT}
theorem EX_r4 {a n : Nat} (h : S a = (4, n)) : EX cz S Rf I J a = .inl (cz 4, n, .inr (.inr (.inr (.inr (Rf a))))) := by unfold EX; rw [h]
theorem x_aaldS_4 (X : CallFix p m c cc nL s args gw own) (hK : KX D cz ev A s) (hw : WX D cz A L S Rf H0 I J H locs) {a n : Nat} (ha : a ∈ L) (hS : S a = (4, n)) {i : Int32} (hin : inb i n = true) {k : Nat} (hk : i.toNatClampNeg = k) {q : Nat} (hR : Rf a k = some q) (hdg : decode cc pc = .ok (.aaload, 1))
    (kk : W p l e R s m args below meth c H locs cells slots Q (F0 m (pc + 1) ls (.ref q :: rest))) : W p l e R s m args below meth c H locs cells slots Q (F0 m pc ls (.int i :: .ref a :: rest)) := by
  subst hk
  obtain ⟨q0, hq⟩ := x_cell hw ha
  rw [EX_r4 hS] at hq
  refine va_aldq X.1 X.2.1 hK.1 hw.1 q0 4 hq rfl (inb_vp hin) hdg ?_
  rw [hR]
  exact kk
theorem x_aaldN_4 (X : CallFix p m c cc nL s args gw own) (hK : KX D cz ev A s) (hw : WX D cz A L S Rf H0 I J H locs) {a n : Nat} (ha : a ∈ L) (hS : S a = (4, n)) {i : Int32} (hin : inb i n = true) {k : Nat} (hk : i.toNatClampNeg = k) (hR : Rf a k = none) (hdg : decode cc pc = .ok (.aaload, 1))
    (kk : W p l e R s m args below meth c H locs cells slots Q (F0 m (pc + 1) ls (.null :: rest))) : W p l e R s m args below meth c H locs cells slots Q (F0 m pc ls (.int i :: .ref a :: rest)) := by
  subst hk
  obtain ⟨q0, hq⟩ := x_cell hw ha
  rw [EX_r4 hS] at hq
  refine va_aldq X.1 X.2.1 hK.1 hw.1 q0 4 hq rfl (inb_vp hin) hdg ?_
  rw [hR]
  exact kk
theorem EX_r5 {a n : Nat} (h : S a = (5, n)) : EX cz S Rf I J a = .inl (cz 5, n, .inr (.inr (.inr (.inr (Rf a))))) := by unfold EX; rw [h]
theorem x_aaldS_5 (X : CallFix p m c cc nL s args gw own) (hK : KX D cz ev A s) (hw : WX D cz A L S Rf H0 I J H locs) {a n : Nat} (ha : a ∈ L) (hS : S a = (5, n)) {i : Int32} (hin : inb i n = true) {k : Nat} (hk : i.toNatClampNeg = k) {q : Nat} (hR : Rf a k = some q) (hdg : decode cc pc = .ok (.aaload, 1))
    (kk : W p l e R s m args below meth c H locs cells slots Q (F0 m (pc + 1) ls (.ref q :: rest))) : W p l e R s m args below meth c H locs cells slots Q (F0 m pc ls (.int i :: .ref a :: rest)) := by
  subst hk
  obtain ⟨q0, hq⟩ := x_cell hw ha
  rw [EX_r5 hS] at hq
  refine va_aldq X.1 X.2.1 hK.1 hw.1 q0 5 hq rfl (inb_vp hin) hdg ?_
  rw [hR]
  exact kk
theorem x_aaldN_5 (X : CallFix p m c cc nL s args gw own) (hK : KX D cz ev A s) (hw : WX D cz A L S Rf H0 I J H locs) {a n : Nat} (ha : a ∈ L) (hS : S a = (5, n)) {i : Int32} (hin : inb i n = true) {k : Nat} (hk : i.toNatClampNeg = k) (hR : Rf a k = none) (hdg : decode cc pc = .ok (.aaload, 1))
    (kk : W p l e R s m args below meth c H locs cells slots Q (F0 m (pc + 1) ls (.null :: rest))) : W p l e R s m args below meth c H locs cells slots Q (F0 m pc ls (.int i :: .ref a :: rest)) := by
  subst hk
  obtain ⟨q0, hq⟩ := x_cell hw ha
  rw [EX_r5 hS] at hq
  refine va_aldq X.1 X.2.1 hK.1 hw.1 q0 5 hq rfl (inb_vp hin) hdg ?_
  rw [hR]
  exact kk
theorem EX_r6 {a n : Nat} (h : S a = (6, n)) : EX cz S Rf I J a = .inl (cz 6, n, .inr (.inr (.inr (.inr (Rf a))))) := by unfold EX; rw [h]
theorem x_aaldS_6 (X : CallFix p m c cc nL s args gw own) (hK : KX D cz ev A s) (hw : WX D cz A L S Rf H0 I J H locs) {a n : Nat} (ha : a ∈ L) (hS : S a = (6, n)) {i : Int32} (hin : inb i n = true) {k : Nat} (hk : i.toNatClampNeg = k) {q : Nat} (hR : Rf a k = some q) (hdg : decode cc pc = .ok (.aaload, 1))
    (kk : W p l e R s m args below meth c H locs cells slots Q (F0 m (pc + 1) ls (.ref q :: rest))) : W p l e R s m args below meth c H locs cells slots Q (F0 m pc ls (.int i :: .ref a :: rest)) := by
  subst hk
  obtain ⟨q0, hq⟩ := x_cell hw ha
  rw [EX_r6 hS] at hq
  refine va_aldq X.1 X.2.1 hK.1 hw.1 q0 6 hq rfl (inb_vp hin) hdg ?_
  rw [hR]
  exact kk
theorem x_aaldN_6 (X : CallFix p m c cc nL s args gw own) (hK : KX D cz ev A s) (hw : WX D cz A L S Rf H0 I J H locs) {a n : Nat} (ha : a ∈ L) (hS : S a = (6, n)) {i : Int32} (hin : inb i n = true) {k : Nat} (hk : i.toNatClampNeg = k) (hR : Rf a k = none) (hdg : decode cc pc = .ok (.aaload, 1))
    (kk : W p l e R s m args below meth c H locs cells slots Q (F0 m (pc + 1) ls (.null :: rest))) : W p l e R s m args below meth c H locs cells slots Q (F0 m pc ls (.int i :: .ref a :: rest)) := by
  subst hk
  obtain ⟨q0, hq⟩ := x_cell hw ha
  rw [EX_r6 hS] at hq
  refine va_aldq X.1 X.2.1 hK.1 hw.1 q0 6 hq rfl (inb_vp hin) hdg ?_
  rw [hR]
  exact kk
theorem EX_upc {a0 a n k : Nat} (h : S a = (0, n)) : va_up (EX cz S Rf I J) a (.inl (cz 0, n, .inl (va_cpy (I a0) (I a) 0 0 k))) = EX cz S Rf (cpy2 I a0 a k) J :=
  EX_up (by rw [EX_i h]; simp [cpy2]) (fun b hb => ⟨if_neg hb, rfl, rfl⟩)
theorem x_acopy (X : CallFix p m c cc nL s args gw own) (hK : KX D cz ev A s) (hw : WX D cz A L S Rf H0 I J H locs) {a0 a n0 n1 : Nat} (ha0 : a0 ∈ L) (hS0 : S a0 = (0, n0)) (ha : a ∈ L) (hS1 : S a = (0, n1)) {n : Int32} {k : Nat} (hk : n.toNatClampNeg = k) (hn : ¬ n < 0) (h4 : k ≤ n0) (h5 : k ≤ n1) (hfr : 1 ≤ R.frames) (hlo : (rest.map fun v => v.category).sum + (nativeFrameWords "java/lang/System" "arraycopy" 5 + 11) ≤ R.locals) {index : Nat} (hlink : Cond.methodLink own index arraycopyName ∈ gw) (hls : ls.size = nL) (hdg : decode cc pc = .ok (.invokestatic index, 3))
    (kk : ∀ (H1 : Heap) (locs1 : List Loc), WX D cz A L S Rf H0 (cpy2 I a0 a k) J H1 locs1 → W p l e R s m args below meth c H1 locs1 cells slots Q (F0 m (pc + 3) ls rest)) : W p l e R s m args below meth c H locs cells slots Q (F0 m pc ls (.int n :: .int 0 :: .ref a :: .int 0 :: .ref a0 :: rest)) := by
  subst hk
  obtain ⟨hx, hb, hml, hown, hts⟩ := X
  obtain ⟨q0, hq0⟩ := x_cell hw ha0
  rw [EX_i hS0] at hq0
  obtain ⟨q1, hq1'⟩ := x_cell hw ha
  have hq1 := hq1'
  rw [EX_i hS1] at hq1
  have e0 : (0 : Int32).toNatClampNeg = 0 := rfl
  refine va_copyi hx hb (hml.trans hls.symm) hown (hts _ hlink) (hts _ tw_766) (hts _ tw_765) (hts _ tw_137) hK.1 hw.1 hw.2.1 hw.2.2 q0 q1 0 0 hq0 hq1 rfl rfl rfl (by decide) (by decide) hn (by rw [e0]; omega) (by rw [e0]; omega) (fun _ _ => rfl) hfr hlo hdg (fun H1 locs1 h1 h2 h3 => ?_)
  rw [e0] at h1 h2
  have hset : (va_pl L (EX cz S Rf I J)).set q1 (a, .inl (cz 0, n1, .inl (va_cpy (I a0) (I a) 0 0 n.toNatClampNeg))) = va_pl L (va_up (EX cz S Rf I J) a _) := va_pl_set (X := []) hw.2.1 ha hq1'
  rw [hset, EX_upc hS1] at h1 h2
  exact kk H1 locs1 ⟨h1, h2, h3⟩
end XMORE
theorem sw_X0_52 : SW RX0 52 yJ7_fill_53178 cJ7_fill_53178 4 (none) 2 := ⟨⟨tw_772, tw_648, tw_132, tw_649⟩, by decide +kernel⟩
theorem vw_X0_61 : VW RX0 61 yX0_settleCase cX0_settleCase 4 (none) 2 := ⟨⟨tw_1005, tw_1007, tw_20, tw_123, tw_1008⟩, by decide +kernel⟩
theorem vw_X1_32 : VW RX1 32 yX9_isYounger cX9_isYounger 3 (some .boolean) 2 := ⟨⟨tw_926, tw_927, tw_928, tw_122, tw_929⟩, by decide +kernel⟩
theorem vw_X1_38 : VW RX1 38 yX9_areTwins cX9_areTwins 3 (some .boolean) 2 := ⟨⟨tw_930, tw_931, tw_932, tw_122, tw_933⟩, by decide +kernel⟩
theorem vw_X1_45 : VW RX1 45 yX9_tillBirthday cX9_tillBirthday 2 (some .int) 1 := ⟨⟨tw_934, tw_891, tw_892, tw_122, tw_893⟩, by decide +kernel⟩
theorem vw_X1_49 : VW RX1 49 yX9_sits cX9_sits 2 (some .boolean) 1 := ⟨⟨tw_935, tw_899, tw_900, tw_122, tw_901⟩, by decide +kernel⟩
theorem vw_X1_66 : VW RX1 66 yX1_canSit cX1_canSit 8 (some .boolean) 4 := ⟨⟨tw_922, tw_923, tw_924, tw_125, tw_925⟩, by decide +kernel⟩
theorem vw_X1_79 : VW RX1 79 yX0_heardBy cX0_heardBy 3 (some .int) 1 := ⟨⟨tw_1023, tw_895, tw_896, tw_123, tw_897⟩, by decide +kernel⟩
theorem vw_X1_85 : VW RX1 85 yX1_canHear cX1_canHear 5 (some .boolean) 3 := ⟨⟨tw_1024, tw_919, tw_920, tw_125, tw_921⟩, by decide +kernel⟩
theorem vw_X1_105 : VW RX1 105 yX1_charge cX1_charge 5 (none) 4 := ⟨⟨tw_948, tw_949, tw_950, tw_125, tw_951⟩, by decide +kernel⟩
theorem vw_X1_161 : VW RX1 161 yX9_hasPerson cX9_hasPerson 2 (some .boolean) 1 := ⟨⟨tw_964, tw_887, tw_888, tw_122, tw_889⟩, by decide +kernel⟩
theorem sw_X5_14 : SW RX5 14 yX5_valueOf cX5_valueOf 3 (some .long) 2 := ⟨⟨tw_970, tw_971, tw_138, tw_972⟩, by decide +kernel⟩
theorem sw_X5_19 : SW RX5 19 yX5_joined cX5_joined 5 (some .long) 3 := ⟨⟨tw_975, tw_976, tw_138, tw_977⟩, by decide +kernel⟩
theorem vw_X1_140 : VW RX1 140 yX1_nameJudge cX1_nameJudge 7 (none) 3 := ⟨⟨tw_960, tw_962, tw_19, tw_125, tw_963⟩, by decide +kernel⟩
theorem vw_X1_144 : VW RX1 144 yX5_sum cX5_sum 6 (some .long) 2 := ⟨⟨tw_965, tw_966, tw_967, tw_138, tw_968⟩, by decide +kernel⟩
theorem vw_X1_112 : VW RX1 112 yX1_chargeOf cX1_chargeOf 4 (none) 2 := ⟨⟨tw_944, tw_945, tw_946, tw_125, tw_947⟩, by decide +kernel⟩
theorem vw_X1_119 : VW RX1 119 yX1_rightOf cX1_rightOf 9 (some .int) 3 := ⟨⟨tw_952, tw_953, tw_954, tw_125, tw_955⟩, by decide +kernel⟩
theorem vw_X1_95 : VW RX1 95 yX1_rightNow cX1_rightNow 3 (some .int) 2 := ⟨⟨tw_1029, tw_941, tw_942, tw_125, tw_943⟩, by decide +kernel⟩
theorem vw_X2_25 : VW RX2 25 yX0_copy cX0_copy 2 (none) 1 := ⟨⟨tw_996, tw_997, tw_998, tw_123, tw_999⟩, by decide +kernel⟩
theorem vw_X3_28 : VW RX3 28 yX3_moveTo cX3_moveTo 2 (none) 1 := ⟨⟨tw_635, tw_636, tw_637, tw_120, tw_638⟩, by decide +kernel⟩
theorem vw_X3_38 : VW RX3 38 yX3_failAt cX3_failAt 3 (some .boolean) 2 := ⟨⟨tw_711, tw_712, tw_713, tw_120, tw_714⟩, by decide +kernel⟩
theorem vw_X3_42 : VW RX3 42 yX3_sign cX3_sign 1 (some .int) 0 := ⟨⟨tw_801, tw_749, tw_750, tw_120, tw_751⟩, by decide +kernel⟩
theorem vw_X3_48 : VW RX3 48 yJ0_length_8abf5 cJ0_length_8abf5 1 (some .int) 0 := ⟨⟨tw_659, tw_660, tw_661, tw_133, tw_662⟩, by decide +kernel⟩
theorem vw_X3_52 : VW RX3 52 yJ0_charAt_5068e cJ0_charAt_5068e 2 ((Option.some Jvm.ClassFile.FieldType.char)) 1 := ⟨⟨tw_669, tw_670, tw_671, tw_133, tw_672⟩, by decide +kernel⟩
theorem vw_X4_117 : VW RX4 117 yX0_heardBy cX0_heardBy 3 (some .int) 1 := ⟨⟨tw_1066, tw_895, tw_896, tw_123, tw_897⟩, by decide +kernel⟩
theorem vw_X4_127 : VW RX4 127 yX1_canHear cX1_canHear 5 (some .boolean) 3 := ⟨⟨tw_1067, tw_919, tw_920, tw_125, tw_921⟩, by decide +kernel⟩
theorem vw_X4_134 : VW RX4 134 yX4_isFree cX4_isFree 9 (some .boolean) 4 := ⟨⟨tw_1068, tw_1070, tw_24, tw_126, tw_1071⟩, by decide +kernel⟩
theorem vw_X4_141 : VW RX4 141 yX1_chargeOf cX1_chargeOf 4 (none) 2 := ⟨⟨tw_1076, tw_945, tw_946, tw_125, tw_947⟩, by decide +kernel⟩
theorem vw_X4_145 : VW RX4 145 yX1_rightOf cX1_rightOf 9 (some .int) 3 := ⟨⟨tw_1077, tw_953, tw_954, tw_125, tw_955⟩, by decide +kernel⟩
theorem vw_X4_100 : VW RX4 100 yX4_weigh cX4_weigh 5 (none) 1 := ⟨⟨tw_1072, tw_1074, tw_25, tw_126, tw_1075⟩, by decide +kernel⟩
theorem vw_X4_113 : VW RX4 113 yX4_firstDay cX4_firstDay 10 (some .int) 2 := ⟨⟨tw_1062, tw_1064, tw_23, tw_126, tw_1065⟩, by decide +kernel⟩
theorem vw_X6_37 : VW RX6 37 yX3_word cX3_word 6 (some .int) 0 := ⟨⟨tw_786, tw_655, tw_656, tw_120, tw_657⟩, by decide +kernel⟩
theorem vw_X6_43 : VW RX6 43 yX3_fail cX3_fail 2 (some .boolean) 1 := ⟨⟨tw_787, tw_708, tw_709, tw_120, tw_710⟩, by decide +kernel⟩
theorem vw_X6_47 : VW RX6 47 yX3_passWord cX3_passWord 1 (none) 0 := ⟨⟨tw_788, tw_720, tw_721, tw_120, tw_722⟩, by decide +kernel⟩
theorem vw_X6_59 : VW RX6 59 yX6_put cX6_put 2 (none) 1 := ⟨⟨tw_806, tw_808, tw_11, tw_129, tw_809⟩, by decide +kernel⟩
theorem vw_X6_112 : VW RX6 112 yX3_atDigit cX3_atDigit 1 (some .boolean) 0 := ⟨⟨tw_797, tw_798, tw_799, tw_120, tw_800⟩, by decide +kernel⟩
theorem vw_X6_116 : VW RX6 116 yX3_number cX3_number 5 (some .int) 2 := ⟨⟨tw_803, tw_728, tw_729, tw_120, tw_730⟩, by decide +kernel⟩
theorem vw_X6_121 : VW RX6 121 yX3_failAt cX3_failAt 3 (some .boolean) 2 := ⟨⟨tw_805, tw_712, tw_713, tw_120, tw_714⟩, by decide +kernel⟩
theorem vw_X6_63 : VW RX6 63 yX3_sign cX3_sign 1 (some .int) 0 := ⟨⟨tw_814, tw_749, tw_750, tw_120, tw_751⟩, by decide +kernel⟩
theorem vw_X6_66 : VW RX6 66 yX3_passSign cX3_passSign 1 (none) 0 := ⟨⟨tw_824, tw_753, tw_754, tw_120, tw_755⟩, by decide +kernel⟩
theorem vw_X6_98 : VW RX6 98 yX6_readsValue cX6_readsValue 4 (some .boolean) 0 := ⟨⟨tw_793, tw_795, tw_10, tw_129, tw_796⟩, by decide +kernel⟩
theorem vw_X6_101 : VW RX6 101 yX6_timesOrBy cX6_timesOrBy 1 (some .int) 0 := ⟨⟨tw_810, tw_812, tw_12, tw_129, tw_813⟩, by decide +kernel⟩
theorem vw_X6_104 : VW RX6 104 yX6_plusOrMinus cX6_plusOrMinus 1 (some .int) 0 := ⟨⟨tw_818, tw_820, tw_13, tw_129, tw_821⟩, by decide +kernel⟩
theorem vw_X6_78 : VW RX6 78 yX6_comparison cX6_comparison 3 (some .int) 0 := ⟨⟨tw_837, tw_839, tw_17, tw_129, tw_840⟩, by decide +kernel⟩
theorem vw_X6_86 : VW RX6 86 yX3_moveTo cX3_moveTo 2 (none) 1 := ⟨⟨tw_846, tw_636, tw_637, tw_120, tw_638⟩, by decide +kernel⟩
theorem vw_X7_73 : VW RX7 73 yX1_rightOf cX1_rightOf 9 (some .int) 3 := ⟨⟨tw_1177, tw_953, tw_954, tw_125, tw_955⟩, by decide +kernel⟩
theorem vw_X7_89 : VW RX7 89 yX8_factsAllow cX8_factsAllow 10 (some .boolean) 5 := ⟨⟨tw_1178, tw_1179, tw_1180, tw_121, tw_1181⟩, by decide +kernel⟩
theorem sw_X7_38 : SW RX7 38 yJ7_fill_53178 cJ7_fill_53178 4 (none) 2 := ⟨⟨tw_1170, tw_648, tw_132, tw_649⟩, by decide +kernel⟩
theorem vw_X7_44 : VW RX7 44 yX1_chargeOf cX1_chargeOf 4 (none) 2 := ⟨⟨tw_1171, tw_945, tw_946, tw_125, tw_947⟩, by decide +kernel⟩
theorem vw_X7_65 : VW RX7 65 yX1_canHear cX1_canHear 5 (some .boolean) 3 := ⟨⟨tw_1172, tw_919, tw_920, tw_125, tw_921⟩, by decide +kernel⟩
theorem vw_X7_69 : VW RX7 69 yX7_weigh cX7_weigh 6 (none) 3 := ⟨⟨tw_1173, tw_1175, tw_36, tw_127, tw_1176⟩, by decide +kernel⟩
theorem sw_X7_93 : SW RX7 93 yX7_most cX7_most 3 (some .int) 1 := ⟨⟨tw_1190, tw_1191, tw_127, tw_1192⟩, by decide +kernel⟩
theorem vw_X8_39 : VW RX8 39 yX9_copy cX9_copy 2 (none) 1 := ⟨⟨tw_760, tw_761, tw_762, tw_122, tw_763⟩, by decide +kernel⟩
theorem vw_X8_43 : VW RX8 43 yX0_copy cX0_copy 2 (none) 1 := ⟨⟨tw_1239, tw_997, tw_998, tw_123, tw_999⟩, by decide +kernel⟩
theorem vw_X8_58 : VW RX8 58 yX0_start cX0_start 2 (none) 1 := ⟨⟨tw_767, tw_768, tw_769, tw_123, tw_770⟩, by decide +kernel⟩
theorem sw_X9_59 : SW RX9 59 yJ7_fill_53178 cJ7_fill_53178 4 (none) 2 := ⟨⟨tw_647, tw_648, tw_132, tw_649⟩, by decide +kernel⟩
theorem vw_X10_85 : VW RX10 85 yX3_number cX3_number 5 (some .int) 2 := ⟨⟨tw_727, tw_728, tw_729, tw_120, tw_730⟩, by decide +kernel⟩
theorem vw_X10_114 : VW RX10 114 yX3_failAt cX3_failAt 3 (some .boolean) 2 := ⟨⟨tw_743, tw_712, tw_713, tw_120, tw_714⟩, by decide +kernel⟩
theorem vw_X10_45 : VW RX10 45 yX3_fail cX3_fail 2 (some .boolean) 1 := ⟨⟨tw_707, tw_708, tw_709, tw_120, tw_710⟩, by decide +kernel⟩
theorem vw_X10_52 : VW RX10 52 yX3_word cX3_word 6 (some .int) 0 := ⟨⟨tw_654, tw_655, tw_656, tw_120, tw_657⟩, by decide +kernel⟩
theorem vw_X10_55 : VW RX10 55 yX10_isOneTooMany cX10_isOneTooMany 2 (some .boolean) 1 := ⟨⟨tw_715, tw_717, tw_3, tw_128, tw_718⟩, by decide +kernel⟩
theorem vw_X10_58 : VW RX10 58 yX3_passWord cX3_passWord 1 (none) 0 := ⟨⟨tw_719, tw_720, tw_721, tw_120, tw_722⟩, by decide +kernel⟩
theorem vw_X10_61 : VW RX10 61 yX10_readsTown cX10_readsTown 1 (some .boolean) 0 := ⟨⟨tw_723, tw_725, tw_4, tw_128, tw_726⟩, by decide +kernel⟩
theorem vw_X10_64 : VW RX10 64 yX10_readsBench cX10_readsBench 1 (some .boolean) 0 := ⟨⟨tw_731, tw_733, tw_5, tw_128, tw_734⟩, by decide +kernel⟩
theorem vw_X10_67 : VW RX10 67 yX10_readsPerson cX10_readsPerson 4 (some .boolean) 0 := ⟨⟨tw_735, tw_737, tw_6, tw_128, tw_738⟩, by decide +kernel⟩
theorem vw_X10_70 : VW RX10 70 yX10_readsTwins cX10_readsTwins 4 (some .boolean) 0 := ⟨⟨tw_739, tw_741, tw_7, tw_128, tw_742⟩, by decide +kernel⟩
theorem vw_X10_73 : VW RX10 73 yX10_readsCase cX10_readsCase 5 (some .boolean) 0 := ⟨⟨tw_744, tw_746, tw_8, tw_128, tw_747⟩, by decide +kernel⟩
theorem vw_X10_19 : VW RX10 19 yX9_clear cX9_clear 1 (none) 0 := ⟨⟨tw_643, tw_644, tw_645, tw_122, tw_646⟩, by decide +kernel⟩
theorem vw_X10_35 : VW RX10 35 yX10_readsClause cX10_readsClause 2 (some .boolean) 0 := ⟨⟨tw_650, tw_652, tw_2, tw_128, tw_653⟩, by decide +kernel⟩
theorem vw_X10_39 : VW RX10 39 yX3_sign cX3_sign 1 (some .int) 0 := ⟨⟨tw_748, tw_749, tw_750, tw_120, tw_751⟩, by decide +kernel⟩
theorem vw_X10_49 : VW RX10 49 yX3_passSign cX3_passSign 1 (none) 0 := ⟨⟨tw_752, tw_753, tw_754, tw_120, tw_755⟩, by decide +kernel⟩
theorem vw_X11_113 : VW RX11 113 yX11_putBytes cX11_putBytes 3 (none) 1 := ⟨⟨tw_612, tw_614, tw_0, tw_119, tw_615⟩, by decide +kernel⟩
theorem vw_X11_140 : VW RX11 140 yX3_open cX3_open 2 (none) 1 := ⟨⟨tw_628, tw_629, tw_630, tw_120, tw_631⟩, by decide +kernel⟩
theorem vw_X11_117 : VW RX11 117 yX11_openTape cX11_openTape 1 (none) 0 := ⟨⟨tw_624, tw_626, tw_1, tw_119, tw_627⟩, by decide +kernel⟩
theorem vw_X11_120 : VW RX11 120 yX10_reads cX10_reads 1 (some .boolean) 0 := ⟨⟨tw_639, tw_640, tw_641, tw_128, tw_642⟩, by decide +kernel⟩
theorem vw_X11_127 : VW RX11 127 yX8_settle cX8_settle 2 (none) 1 := ⟨⟨tw_756, tw_757, tw_758, tw_121, tw_759⟩, by decide +kernel⟩
theorem vw_X11_131 : VW RX11 131 yX2_forget cX2_forget 1 (none) 0 := ⟨⟨tw_773, tw_774, tw_775, tw_124, tw_776⟩, by decide +kernel⟩
theorem vw_X11_151 : VW RX11 151 yX9_hasPerson cX9_hasPerson 2 (some .boolean) 1 := ⟨⟨tw_886, tw_887, tw_888, tw_122, tw_889⟩, by decide +kernel⟩
theorem vw_X11_173 : VW RX11 173 yX9_tillBirthday cX9_tillBirthday 2 (some .int) 1 := ⟨⟨tw_890, tw_891, tw_892, tw_122, tw_893⟩, by decide +kernel⟩
theorem vw_X11_177 : VW RX11 177 yX0_heardBy cX0_heardBy 3 (some .int) 1 := ⟨⟨tw_894, tw_895, tw_896, tw_123, tw_897⟩, by decide +kernel⟩
theorem vw_X11_183 : VW RX11 183 yX9_sits cX9_sits 2 (some .boolean) 1 := ⟨⟨tw_898, tw_899, tw_900, tw_122, tw_901⟩, by decide +kernel⟩
theorem vw_X11_186 : VW RX11 186 yX9_hasCase cX9_hasCase 2 (some .boolean) 1 := ⟨⟨tw_906, tw_907, tw_908, tw_122, tw_909⟩, by decide +kernel⟩
theorem vw_X11_219 : VW RX11 219 yX11_hasBoth cX11_hasBoth 3 (some .boolean) 2 := ⟨⟨tw_914, tw_916, tw_18, tw_119, tw_917⟩, by decide +kernel⟩
theorem vw_X11_223 : VW RX11 223 yX1_canHear cX1_canHear 5 (some .boolean) 3 := ⟨⟨tw_918, tw_919, tw_920, tw_125, tw_921⟩, by decide +kernel⟩
theorem vw_X11_227 : VW RX11 227 yX1_rightNow cX1_rightNow 3 (some .int) 2 := ⟨⟨tw_940, tw_941, tw_942, tw_125, tw_943⟩, by decide +kernel⟩
theorem vw_X11_258 : VW RX11 258 yX2_takeBack cX2_takeBack 3 (some .boolean) 1 := ⟨⟨tw_1038, tw_1039, tw_1040, tw_124, tw_1041⟩, by decide +kernel⟩
theorem vw_X11_285 : VW RX11 285 yX9_isYounger cX9_isYounger 3 (some .boolean) 2 := ⟨⟨tw_1114, tw_927, tw_928, tw_122, tw_929⟩, by decide +kernel⟩
theorem vw_X11_277 : VW RX11 277 yX11_isBelow cX11_isBelow 3 (some .boolean) 2 := ⟨⟨tw_1110, tw_1112, tw_32, tw_119, tw_1113⟩, by decide +kernel⟩
theorem vw_X11_271 : VW RX11 271 yX11_longestBelow cX11_longestBelow 4 (some .int) 1 := ⟨⟨tw_1106, tw_1108, tw_31, tw_119, tw_1109⟩, by decide +kernel⟩
theorem vw_X11_268 : VW RX11 268 yX11_measureChains cX11_measureChains 5 (none) 1 := ⟨⟨tw_1102, tw_1104, tw_30, tw_119, tw_1105⟩, by decide +kernel⟩
theorem vw_X11_274 : VW RX11 274 yX11_firstBelow cX11_firstBelow 4 (some .int) 2 := ⟨⟨tw_1116, tw_1118, tw_33, tw_119, tw_1119⟩, by decide +kernel⟩
theorem vw_X11_299 : VW RX11 299 yX1_canSit cX1_canSit 8 (some .boolean) 4 := ⟨⟨tw_1132, tw_923, tw_924, tw_125, tw_925⟩, by decide +kernel⟩
theorem vw_X11_303 : VW RX11 303 yX1_rightOf cX1_rightOf 9 (some .int) 3 := ⟨⟨tw_1133, tw_953, tw_954, tw_125, tw_955⟩, by decide +kernel⟩
theorem sw_X11_288 : SW RX11 288 yX11_isDigit cX11_isDigit 1 (some .boolean) 1 := ⟨⟨tw_1124, tw_1125, tw_119, tw_1126⟩, by decide +kernel⟩
theorem vw_X11_291 : VW RX11 291 yX1_charge cX1_charge 5 (none) 4 := ⟨⟨tw_1127, tw_949, tw_950, tw_125, tw_951⟩, by decide +kernel⟩
theorem vw_X11_295 : VW RX11 295 yX11_mostRight cX11_mostRight 6 (some .int) 3 := ⟨⟨tw_1128, tw_1130, tw_34, tw_119, tw_1131⟩, by decide +kernel⟩
theorem vw_X11_306 : VW RX11 306 yX11_isTriable cX11_isTriable 6 (some .boolean) 2 := ⟨⟨tw_1138, tw_1140, tw_35, tw_119, tw_1141⟩, by decide +kernel⟩
theorem vw_X11_316 : VW RX11 316 yX8_addFact cX8_addFact 4 (none) 3 := ⟨⟨tw_1158, tw_1159, tw_1160, tw_121, tw_1161⟩, by decide +kernel⟩
theorem vw_X11_320 : VW RX11 320 yX7_sift cX7_sift 4 (none) 1 := ⟨⟨tw_1166, tw_1167, tw_1168, tw_127, tw_1169⟩, by decide +kernel⟩
theorem vw_X11_330 : VW RX11 330 yX7_part cX7_part 4 (some .int) 1 := ⟨⟨tw_1186, tw_1187, tw_1188, tw_127, tw_1189⟩, by decide +kernel⟩
theorem vw_X11_248 : VW RX11 248 yX1_mayHear cX1_mayHear 5 (some .boolean) 2 := ⟨⟨tw_1019, tw_1020, tw_1021, tw_125, tw_1022⟩, by decide +kernel⟩
theorem vw_X11_251 : VW RX11 251 yX1_begin cX1_begin 4 (none) 2 := ⟨⟨tw_1025, tw_1026, tw_1027, tw_125, tw_1028⟩, by decide +kernel⟩
theorem vw_X11_345 : VW RX11 345 yX8_draw cX8_draw 1 (some .int) 0 := ⟨⟨tw_1207, tw_1208, tw_1209, tw_121, tw_1210⟩, by decide +kernel⟩
theorem vw_X11_239 : VW RX11 239 yX0_pass cX0_pass 4 (some .int) 1 := ⟨⟨tw_1001, tw_1002, tw_1003, tw_123, tw_1004⟩, by decide +kernel⟩
theorem sw_X11_243 : SW RX11 243 yJ6_bitCount_0f7a4 cJ6_bitCount_0f7a4 1 (some .int) 1 := ⟨⟨tw_1009, tw_1010, tw_139, tw_1011⟩, by decide +kernel⟩
theorem vw_X11_336 : VW RX11 336 yX0_copy cX0_copy 2 (none) 1 := ⟨⟨tw_1202, tw_997, tw_998, tw_123, tw_999⟩, by decide +kernel⟩
theorem vw_X11_339 : VW RX11 339 yX11_hearByDraw cX11_hearByDraw 4 (none) 0 := ⟨⟨tw_1203, tw_1205, tw_37, tw_119, tw_1206⟩, by decide +kernel⟩
theorem vw_X11_342 : VW RX11 342 yX11_ruledRightly cX11_ruledRightly 4 (some .int) 1 := ⟨⟨tw_1215, tw_1217, tw_38, tw_119, tw_1218⟩, by decide +kernel⟩
theorem vw_X11_358 : VW RX11 358 yX0_heardBits cX0_heardBits 4 (some .int) 1 := ⟨⟨tw_1223, tw_1224, tw_1225, tw_123, tw_1226⟩, by decide +kernel⟩
theorem vw_X11_361 : VW RX11 361 yX0_ruledBits cX0_ruledBits 4 (some .int) 1 := ⟨⟨tw_1227, tw_1228, tw_1229, tw_123, tw_1230⟩, by decide +kernel⟩
theorem vw_X11_370 : VW RX11 370 yX8_copy cX8_copy 2 (none) 1 := ⟨⟨tw_1235, tw_1236, tw_1237, tw_121, tw_1238⟩, by decide +kernel⟩
theorem vw_X4_158 : VW RX4 158 yX4_tryJudges cX4_tryJudges 13 (none) 3 := ⟨⟨tw_1087, tw_1089, tw_28, tw_126, tw_1090⟩, by decide +kernel⟩
theorem vw_X4_162 : VW RX4 162 yX4_keepIfBetter cX4_keepIfBetter 4 (none) 2 := ⟨⟨tw_1091, tw_1093, tw_29, tw_126, tw_1094⟩, by decide +kernel⟩
theorem vw_X4_155 : VW RX4 155 yX4_tryRows cX4_tryRows 4 (none) 2 := ⟨⟨tw_1083, tw_1085, tw_27, tw_126, tw_1086⟩, by decide +kernel⟩
theorem vw_X6_69 : VW RX6 69 yX6_readsFact cX6_readsFact 5 (some .boolean) 1 := ⟨⟨tw_829, tw_831, tw_15, tw_129, tw_832⟩, by decide +kernel⟩
theorem vw_X6_50 : VW RX6 50 yX6_readsSum cX6_readsSum 4 (some .boolean) 0 := ⟨⟨tw_789, tw_791, tw_9, tw_129, tw_792⟩, by decide +kernel⟩
theorem vw_X6_54 : VW RX6 54 yX6_readsTest cX6_readsTest 6 (some .boolean) 1 := ⟨⟨tw_825, tw_827, tw_14, tw_129, tw_828⟩, by decide +kernel⟩
theorem vw_X6_74 : VW RX6 74 yX6_readsComparison cX6_readsComparison 3 (some .int) 0 := ⟨⟨tw_833, tw_835, tw_16, tw_129, tw_836⟩, by decide +kernel⟩
theorem sw_X4_149 : SW RX4 149 yJ7_fill_53178 cJ7_fill_53178 4 (none) 2 := ⟨⟨tw_1082, tw_648, tw_132, tw_649⟩, by decide +kernel⟩
theorem vw_X4_55 : VW RX4 55 yX4_gatherOpen cX4_gatherOpen 3 (none) 0 := ⟨⟨tw_1054, tw_1056, tw_21, tw_126, tw_1057⟩, by decide +kernel⟩
theorem vw_X4_62 : VW RX4 62 yX4_placeAll cX4_placeAll 3 (none) 0 := ⟨⟨tw_1058, tw_1060, tw_22, tw_126, tw_1061⟩, by decide +kernel⟩
theorem vw_X4_65 : VW RX4 65 yX4_search cX4_search 1 (none) 0 := ⟨⟨tw_1078, tw_1080, tw_26, tw_126, tw_1081⟩, by decide +kernel⟩
theorem vw_X11_265 : VW RX11 265 yX4_answer cX4_answer 3 (some .int) 1 := ⟨⟨tw_1050, tw_1051, tw_1052, tw_126, tw_1053⟩, by decide +kernel⟩
theorem vw_X11_309 : VW RX11 309 yX4_bestPupil cX4_bestPupil 6 (some .int) 1 := ⟨⟨tw_1146, tw_1147, tw_1148, tw_126, tw_1149⟩, by decide +kernel⟩
