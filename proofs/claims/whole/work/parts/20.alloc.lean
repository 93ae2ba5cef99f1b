/-! MAKING: a new cell lies at the heap's end; the tables grow there -/
def apn (L : List Nat) (z : Nat) : Nat → List Nat
  | 0 => L
  | k + 1 => apn L z k ++ [z + k]
theorem apn_old {L : List Nat} {z a : Nat} (h : a ∈ L) : ∀ k, a ∈ apn L z k
  | 0 => h
  | k + 1 => List.mem_append_left _ (apn_old h k)
theorem apn_new {L : List Nat} {z j : Nat} : ∀ k, j < k → z + j ∈ apn L z k
  | 0, h => absurd h (Nat.not_lt_zero _)
  | k + 1, h => by
    rcases Nat.lt_or_ge j k with g | g
    · exact List.mem_append_left _ (apn_new k g)
    · have : j = k := by omega
      subst this
      exact List.mem_append_right _ (List.mem_singleton.mpr rfl)
theorem apn_apn {L : List Nat} {z j : Nat} : ∀ k, apn (apn L z j) (z + j) k = apn L z (j + k)
  | 0 => rfl
  | k + 1 => by show apn (apn L z j) (z + j) k ++ [z + j + k] = apn L z (j + k) ++ [z + (j + k)]; rw [apn_apn k, Nat.add_assoc]
theorem apn_mem {L : List Nat} {z a : Nat} : ∀ k, a ∈ apn L z k → a ∈ L ∨ (z ≤ a ∧ a < z + k)
  | 0, h => Or.inl h
  | k + 1, h => by
    rcases List.mem_append.mp h with g | g
    · rcases apn_mem k g with g | g
      · exact Or.inl g
      · exact Or.inr ⟨g.1, by omega⟩
    · rw [List.mem_singleton] at g
      subst g
      exact Or.inr ⟨by omega, by omega⟩
theorem pl_P {D : va_G} {cl : List vw_C} {L : List Nat} {f : Nat → va_E} {H : Heap} (h : ∀ a ∈ L, va_at D cl (a, f a) H) : va_P D cl (va_pl L f) H := by
  intro k q hk
  simp only [va_pl, List.getElem?_map, Option.map_eq_some_iff] at hk
  obtain ⟨x, hx, rfl⟩ := hk
  exact h x (List.mem_of_getElem? hx)
theorem EX_congrS {cz : Nat → ClassId} {S S' : ST} {Rf Rf' : RT} {I I' : IT} {J J' : JT} {b : Nat} (h0 : S' b = S b) (h1 : I' b = I b) (h2 : J' b = J b) (h3 : Rf' b = Rf b) : EX cz S' Rf' I' J' b = EX cz S Rf I J b := by
  rw [← EX_congr (cz := cz) (S := S) h1 h2 h3]
  unfold EX
  rw [h0]
section XALLOC
variable {p : Program} {l : Launch} {e : Env} {R : Room} {s : State} {m : MethodId} {args : Array Value} {below : List Frame} {meth : Method} {c : Code} {H H1 : Heap} {locs : List Loc} {cells slots : Nat} {Q : State → Prop}
variable {cc : ByteArray} {nL : Nat} {own : String} {pc : Nat} {ls : Array Slot} {rest : List Value}
variable {D : va_G} {cz : Nat → ClassId} {A : Nat → Prop} {ev : Nat × Nat × Nat} {L : List Nat} {S S' : ST} {Rf Rf' : RT} {H0 : Heap} {I I' : IT} {J J' : JT} {z : Nat}
theorem x_size {g : JFrame} (kk : s.heap.size ≤ H.size → H.size ≤ s.heap.size + cells → W p l e R s m args below meth c H locs cells slots Q g) : W p l e R s m args below meth c H locs cells slots Q g := by
  intro T hT X
  have h := X.same
  have h1 : s.heap.size ≤ H.size := by rw [← hT]; exact h.2.1
  have h2 : H.size ≤ s.heap.size + cells := by rw [← hT]; exact h.2.2.1
  exact kk h1 h2 T hT X
theorem wx_lt (hw : WX D cz A L S Rf H0 I J H locs) {a : Nat} (ha : a ∈ L) : a < H.size := by
  obtain ⟨k, hk⟩ := x_cell hw ha
  exact (hw.1 k _ hk).lt
theorem wx_push (hw : WX D cz A L S Rf H0 I J H locs) (hz : H.size = z) (hAz : A z) (e1 : va_at D clsX (z, EX cz S' Rf' I' J' z) H1) (z1 : H1.size = z + 1) (o1 : ∀ q, q < z → H1[q]? = H[q]?) (ho : ∀ b, b ≠ z → S' b = S b ∧ I' b = I b ∧ J' b = J b ∧ Rf' b = Rf b) : WX D cz A (L ++ [z]) S' Rf' H0 I' J' H1 locs := by
  have hlt : ∀ a ∈ L, a < z := fun a ha => hz ▸ wx_lt hw ha
  refine ⟨pl_P (fun a ha => ?_), pl_D ?_ ?_, ?_⟩
  · rcases List.mem_append.mp ha with h | h
    · obtain ⟨k, hk⟩ := x_cell hw h
      have hne : a ≠ z := Nat.ne_of_lt (hlt a h)
      obtain ⟨g0, g1, g2, g3⟩ := ho a hne
      rw [EX_congrS g0 g1 g2 g3]
      exact (hw.1 k _ hk).kept (o1 a (hlt a h))
    · rw [List.mem_singleton] at h
      subst h
      exact e1
  · rw [List.nodup_append]
    refine ⟨pl_nodup hw.2.1, List.pairwise_singleton _ _, fun a ha b hb => ?_⟩
    rw [List.mem_singleton] at hb
    subst hb
    exact Nat.ne_of_lt (hlt a ha)
  · intro a ha
    rcases List.mem_append.mp ha with h | h
    · exact pl_A hw.2.1 h
    · rw [List.mem_singleton] at h
      subst h
      exact hAz
  · exact ⟨Nat.le_trans hw.2.2.1 (by omega), fun q h1 h2 => (o1 q (by have := hw.2.2.1; omega)).trans (hw.2.2.2.1 q h1 h2), hw.2.2.2.2⟩
theorem x_newa0 (X : CallFix p m c cc nL s args gw own) (hK : KX D cz ev A s) (hw : WX D cz A L S Rf s.heap I J H locs) (hz : H.size = z) (hAz : A z) (harr : Cond.arrayClass .int ∈ gw) {n : Int32} {N : Nat} (hn : ¬ n < 0) (hN : n.toNatClampNeg = N) (hbytes : N * componentBytes .int ≤ 536870912) (hcells : cells + 1 ≤ R.cells) (hslots : slots + N ≤ R.slots) (hdg : decode cc pc = .ok (.newarray .int, 2))
    (kk : ∀ H1 : Heap, WX D cz A (L ++ [z]) (va_up S z (0, N)) (va_up Rf z (fun _ => none)) s.heap (va_up I z (fun _ => 0)) (va_up J z (fun _ => 0)) H1 locs → H1.size = z + 1 → W p l e R s m args below meth c H1 locs (cells + 1) (slots + N) Q (F0 m (pc + 2) ls (.ref z :: rest))) : W p l e R s m args below meth c H locs cells slots Q (F0 m pc ls (.int n :: rest)) := by
  refine va_newaK (atype := .int) X.1 X.2.1 (X.2.2.2.2 _ harr) rfl hdg rfl hn hN hbytes hcells hslots hz (fun H1 cA e1 z1 o1 hAr hNm => ?_)
  refine kk H1 (wx_push hw hz hAz ?_ z1 (fun q hq => o1 q hq) (fun b hb => ⟨va_up_ne _ _ hb, va_up_ne _ _ hb, va_up_ne _ _ hb, va_up_ne _ _ hb⟩)) z1
  have hcA : cA = cz 0 := by
    have h2 : s.vm.findClass _ = some (cz 0) := (hK.1.2 0 _ rfl).2
    exact Option.some.inj (hNm.symm.trans h2)
  subst hcA
  rw [EX_i (n := N) (va_up_self S z (0, N)), va_up_self]
  exact e1
theorem x_newa1 (X : CallFix p m c cc nL s args gw own) (hK : KX D cz ev A s) (hw : WX D cz A L S Rf s.heap I J H locs) (hz : H.size = z) (hAz : A z) (harr : Cond.arrayClass .byte ∈ gw) {n : Int32} {N : Nat} (hn : ¬ n < 0) (hN : n.toNatClampNeg = N) (hbytes : N * componentBytes .byte ≤ 536870912) (hcells : cells + 1 ≤ R.cells) (hslots : slots + N ≤ R.slots) (hdg : decode cc pc = .ok (.newarray .byte, 2))
    (kk : ∀ H1 : Heap, WX D cz A (L ++ [z]) (va_up S z (1, N)) (va_up Rf z (fun _ => none)) s.heap (va_up I z (fun _ => 0)) (va_up J z (fun _ => 0)) H1 locs → H1.size = z + 1 → W p l e R s m args below meth c H1 locs (cells + 1) (slots + N) Q (F0 m (pc + 2) ls (.ref z :: rest))) : W p l e R s m args below meth c H locs cells slots Q (F0 m pc ls (.int n :: rest)) := by
  refine va_newaK (atype := .byte) X.1 X.2.1 (X.2.2.2.2 _ harr) rfl hdg rfl hn hN hbytes hcells hslots hz (fun H1 cA e1 z1 o1 hAr hNm => ?_)
  refine kk H1 (wx_push hw hz hAz ?_ z1 (fun q hq => o1 q hq) (fun b hb => ⟨va_up_ne _ _ hb, va_up_ne _ _ hb, va_up_ne _ _ hb, va_up_ne _ _ hb⟩)) z1
  have hcA : cA = cz 1 := by
    have h2 : s.vm.findClass _ = some (cz 1) := (hK.1.2 1 _ rfl).2
    exact Option.some.inj (hNm.symm.trans h2)
  subst hcA
  rw [EX_b (n := N) (va_up_self S z (1, N)), va_up_self]
  exact e1
theorem x_newa2 (X : CallFix p m c cc nL s args gw own) (hK : KX D cz ev A s) (hw : WX D cz A L S Rf s.heap I J H locs) (hz : H.size = z) (hAz : A z) (harr : Cond.arrayClass .boolean ∈ gw) {n : Int32} {N : Nat} (hn : ¬ n < 0) (hN : n.toNatClampNeg = N) (hbytes : N * componentBytes .boolean ≤ 536870912) (hcells : cells + 1 ≤ R.cells) (hslots : slots + N ≤ R.slots) (hdg : decode cc pc = .ok (.newarray .boolean, 2))
    (kk : ∀ H1 : Heap, WX D cz A (L ++ [z]) (va_up S z (2, N)) (va_up Rf z (fun _ => none)) s.heap (va_up I z (fun _ => 0)) (va_up J z (fun _ => 0)) H1 locs → H1.size = z + 1 → W p l e R s m args below meth c H1 locs (cells + 1) (slots + N) Q (F0 m (pc + 2) ls (.ref z :: rest))) : W p l e R s m args below meth c H locs cells slots Q (F0 m pc ls (.int n :: rest)) := by
  refine va_newaK (atype := .boolean) X.1 X.2.1 (X.2.2.2.2 _ harr) rfl hdg rfl hn hN hbytes hcells hslots hz (fun H1 cA e1 z1 o1 hAr hNm => ?_)
  refine kk H1 (wx_push hw hz hAz ?_ z1 (fun q hq => o1 q hq) (fun b hb => ⟨va_up_ne _ _ hb, va_up_ne _ _ hb, va_up_ne _ _ hb, va_up_ne _ _ hb⟩)) z1
  have hcA : cA = cz 2 := by
    have h2 : s.vm.findClass _ = some (cz 2) := (hK.1.2 2 _ rfl).2
    exact Option.some.inj (hNm.symm.trans h2)
  subst hcA
  rw [EX_z (n := N) (va_up_self S z (2, N)), va_up_self]
  exact e1
theorem x_newa3 (X : CallFix p m c cc nL s args gw own) (hK : KX D cz ev A s) (hw : WX D cz A L S Rf s.heap I J H locs) (hz : H.size = z) (hAz : A z) (harr : Cond.arrayClass .long ∈ gw) {n : Int32} {N : Nat} (hn : ¬ n < 0) (hN : n.toNatClampNeg = N) (hbytes : N * componentBytes .long ≤ 536870912) (hcells : cells + 1 ≤ R.cells) (hslots : slots + N ≤ R.slots) (hdg : decode cc pc = .ok (.newarray .long, 2))
    (kk : ∀ H1 : Heap, WX D cz A (L ++ [z]) (va_up S z (3, N)) (va_up Rf z (fun _ => none)) s.heap (va_up I z (fun _ => 0)) (va_up J z (fun _ => 0)) H1 locs → H1.size = z + 1 → W p l e R s m args below meth c H1 locs (cells + 1) (slots + N) Q (F0 m (pc + 2) ls (.ref z :: rest))) : W p l e R s m args below meth c H locs cells slots Q (F0 m pc ls (.int n :: rest)) := by
  refine va_newaK (atype := .long) X.1 X.2.1 (X.2.2.2.2 _ harr) rfl hdg rfl hn hN hbytes hcells hslots hz (fun H1 cA e1 z1 o1 hAr hNm => ?_)
  refine kk H1 (wx_push hw hz hAz ?_ z1 (fun q hq => o1 q hq) (fun b hb => ⟨va_up_ne _ _ hb, va_up_ne _ _ hb, va_up_ne _ _ hb, va_up_ne _ _ hb⟩)) z1
  have hcA : cA = cz 3 := by
    have h2 : s.vm.findClass _ = some (cz 3) := (hK.1.2 3 _ rfl).2
    exact Option.some.inj (hNm.symm.trans h2)
  subst hcA
  rw [EX_l (n := N) (va_up_self S z (3, N)), va_up_self]
  exact e1
theorem x_anew4 (X : CallFix p m c cc nL s args gw own) (hK : KX D cz ev A s) (hw : WX D cz A L S Rf s.heap I J H locs) (hz : H.size = z) (hAz : A z) {index : Nat} (hclink : Cond.classLink own index "YoungerBench$Rule" ∈ gw) {n : Int32} {N : Nat} (hn : ¬ n < 0) (hN : n.toNatClampNeg = N) (hbytes : N * 4 ≤ 536870912) (hcells : cells + 1 ≤ R.cells) (hslots : slots + N ≤ R.slots) (hdg : decode cc pc = .ok (.anewarray index, 3))
    (kk : ∀ H1 : Heap, WX D cz A (L ++ [z]) (va_up S z (4, N)) (va_up Rf z (fun _ => none)) s.heap (va_up I z (fun _ => 0)) (va_up J z (fun _ => 0)) H1 locs → H1.size = z + 1 → W p l e R s m args below meth c H1 locs (cells + 1) (slots + N) Q (F0 m (pc + 3) ls (.ref z :: rest))) : W p l e R s m args below meth c H locs cells slots Q (F0 m pc ls (.int n :: rest)) := by
  subst hN
  subst hz
  refine W.anew X.1 X.2.1 X.2.2.2.1 (X.2.2.2.2 _ hclink) (va_AO.use hK.2.1.2.1.1) rfl hdg rfl hn hbytes hcells hslots (fun cA kA comp f1 f2 f3 f4 => ?_)
  have hcA : cA = cz 4 := by
    obtain ⟨kA2, comp2, g1, g2, g3, g4⟩ := (hK.1.2 4 _ rfl).2
    exact Option.some.inj (f1.symm.trans g4)
  subst hcA
  refine kk _ (wx_push hw rfl hAz ?_ (by rw [Array.size_push]) (fun q hq => by rw [Array.getElem?_push, if_neg (Nat.ne_of_lt hq)]) (fun b hb => ⟨va_up_ne _ _ hb, va_up_ne _ _ hb, va_up_ne _ _ hb, va_up_ne _ _ hb⟩)) (by rw [Array.size_push])
  rw [EX_r4 (n := n.toNatClampNeg) (va_up_self S H.size (4, n.toNatClampNeg)), va_up_self]
  show (H.push _)[H.size]? = some (vp_cell _ _)
  rw [Array.getElem?_push_size, vp_cell_q, ← arrV_new]
  rfl
theorem x_anew5 (X : CallFix p m c cc nL s args gw own) (hK : KX D cz ev A s) (hw : WX D cz A L S Rf s.heap I J H locs) (hz : H.size = z) (hAz : A z) {index : Nat} (hclink : Cond.classLink own index "YoungerBench$State" ∈ gw) {n : Int32} {N : Nat} (hn : ¬ n < 0) (hN : n.toNatClampNeg = N) (hbytes : N * 4 ≤ 536870912) (hcells : cells + 1 ≤ R.cells) (hslots : slots + N ≤ R.slots) (hdg : decode cc pc = .ok (.anewarray index, 3))
    (kk : ∀ H1 : Heap, WX D cz A (L ++ [z]) (va_up S z (5, N)) (va_up Rf z (fun _ => none)) s.heap (va_up I z (fun _ => 0)) (va_up J z (fun _ => 0)) H1 locs → H1.size = z + 1 → W p l e R s m args below meth c H1 locs (cells + 1) (slots + N) Q (F0 m (pc + 3) ls (.ref z :: rest))) : W p l e R s m args below meth c H locs cells slots Q (F0 m pc ls (.int n :: rest)) := by
  subst hN
  subst hz
  refine W.anew X.1 X.2.1 X.2.2.2.1 (X.2.2.2.2 _ hclink) (va_AO.use hK.2.1.2.1.2.1) rfl hdg rfl hn hbytes hcells hslots (fun cA kA comp f1 f2 f3 f4 => ?_)
  have hcA : cA = cz 5 := by
    obtain ⟨kA2, comp2, g1, g2, g3, g4⟩ := (hK.1.2 5 _ rfl).2
    exact Option.some.inj (f1.symm.trans g4)
  subst hcA
  refine kk _ (wx_push hw rfl hAz ?_ (by rw [Array.size_push]) (fun q hq => by rw [Array.getElem?_push, if_neg (Nat.ne_of_lt hq)]) (fun b hb => ⟨va_up_ne _ _ hb, va_up_ne _ _ hb, va_up_ne _ _ hb, va_up_ne _ _ hb⟩)) (by rw [Array.size_push])
  rw [EX_r5 (n := n.toNatClampNeg) (va_up_self S H.size (5, n.toNatClampNeg)), va_up_self]
  show (H.push _)[H.size]? = some (vp_cell _ _)
  rw [Array.getElem?_push_size, vp_cell_q, ← arrV_new]
  rfl
theorem x_anew6 (X : CallFix p m c cc nL s args gw own) (hK : KX D cz ev A s) (hw : WX D cz A L S Rf s.heap I J H locs) (hz : H.size = z) (hAz : A z) {index : Nat} (hclink : Cond.classLink own index "YoungerBench$Course" ∈ gw) {n : Int32} {N : Nat} (hn : ¬ n < 0) (hN : n.toNatClampNeg = N) (hbytes : N * 4 ≤ 536870912) (hcells : cells + 1 ≤ R.cells) (hslots : slots + N ≤ R.slots) (hdg : decode cc pc = .ok (.anewarray index, 3))
    (kk : ∀ H1 : Heap, WX D cz A (L ++ [z]) (va_up S z (6, N)) (va_up Rf z (fun _ => none)) s.heap (va_up I z (fun _ => 0)) (va_up J z (fun _ => 0)) H1 locs → H1.size = z + 1 → W p l e R s m args below meth c H1 locs (cells + 1) (slots + N) Q (F0 m (pc + 3) ls (.ref z :: rest))) : W p l e R s m args below meth c H locs cells slots Q (F0 m pc ls (.int n :: rest)) := by
  subst hN
  subst hz
  refine W.anew X.1 X.2.1 X.2.2.2.1 (X.2.2.2.2 _ hclink) (va_AO.use hK.2.1.2.1.2.2) rfl hdg rfl hn hbytes hcells hslots (fun cA kA comp f1 f2 f3 f4 => ?_)
  have hcA : cA = cz 6 := by
    obtain ⟨kA2, comp2, g1, g2, g3, g4⟩ := (hK.1.2 6 _ rfl).2
    exact Option.some.inj (f1.symm.trans g4)
  subst hcA
  refine kk _ (wx_push hw rfl hAz ?_ (by rw [Array.size_push]) (fun q hq => by rw [Array.getElem?_push, if_neg (Nat.ne_of_lt hq)]) (fun b hb => ⟨va_up_ne _ _ hb, va_up_ne _ _ hb, va_up_ne _ _ hb, va_up_ne _ _ hb⟩)) (by rw [Array.size_push])
  rw [EX_r6 (n := n.toNatClampNeg) (va_up_self S H.size (6, n.toNatClampNeg)), va_up_self]
  show (H.push _)[H.size]? = some (vp_cell _ _)
  rw [Array.getElem?_push_size, vp_cell_q, ← arrV_new]
  rfl
def dvX (k : Nat) : Value := match k with
  | 0 => .int 0
  | 1 => .long 0
  | _ => .null
theorem x_new (X : CallFix p m c cc nL s args gw own) (hK : KX D cz ev A s) (hw : WX D cz A L S Rf s.heap I J H locs) (hz : H.size = z) (hAz : A z) {ci : Nat} {C : String} {T : u_T} {N : Nat} {ty : Nat → FieldType} (cp : CP ci C T N ty) (hdf : ∀ j, j < N → defaultValue (ty j) = dvX ((layX ci).getD j 0)) {index : Nat} (hclink : Cond.classLink own index C ∈ gw) (hins : Cond.instantiable C N ∈ gw) (hini : Cond.initialized C ∈ gw) (hcells : cells + 1 ≤ R.cells) (hslots : slots + N ≤ R.slots) (hdg : decode cc pc = .ok (.new index, 3))
    (kk : ∀ H1 : Heap, WX D cz A (L ++ [z]) (va_up S z (ci + 7, 0)) (va_up Rf z (fun _ => none)) s.heap (va_up I z (fun _ => 0)) (va_up J z (fun _ => 0)) H1 locs → H1.size = z + 1 → W p l e R s m args below meth c H1 locs (cells + 1) (slots + N) Q (F0 m (pc + 3) ls (.ref z :: rest))) : W p l e R s m args below meth c H locs cells slots Q (F0 m pc ls rest) := by
  obtain ⟨hc, hin, hlen, hty, hnm⟩ := cp
  have hKn := hK.1.1 ci _ hc
  refine W.newcK X.1 X.2.1 X.2.2.2.1 (X.2.2.2.2 _ hclink) (X.2.2.2.2 _ hins) (X.2.2.2.2 _ hini) rfl hdg hcells hslots hKn.2.1 hz (fun H1 kC hkC e1 z1 o1 => ?_)
  refine kk H1 (wx_push hw hz hAz ?_ z1 (fun q hq => o1 q hq) (fun b hb => ⟨va_up_ne _ _ hb, va_up_ne _ _ hb, va_up_ne _ _ hb, va_up_ne _ _ hb⟩)) z1
  rw [EX_obj (n := 0) (va_up_self S z (ci + 7, 0))]
  refine ⟨_, hc, (u_born ty X.2.2.2.2 hin hKn hkC e1 hty).to (fun j hj => ?_)⟩
  have hj' : j < (layX ci).length := by rw [hlen]; exact hj
  show defaultValue (ty j) = vp_V _ j
  unfold vp_V
  rw [List.getD_eq_getElem?_getD, flds_get hj', hdf j hj]
  show dvX _ = fldv _ _ _ _ _ _
  generalize (layX ci).getD j 0 = k
  match k with
  | 0 => simp [dvX, fldv, va_up_self]
  | 1 => simp [dvX, fldv, va_up_self]
  | _ + 2 => simp [dvX, fldv, va_up_self, va_rf]
theorem up2R_self (Rf : RT) (a k : Nat) (v : Option Nat) : up2R Rf a k v a = va_up (Rf a) k v := if_pos rfl
theorem up2R_ne (Rf : RT) {a b : Nat} (k : Nat) (v : Option Nat) (h : b ≠ a) : up2R Rf a k v b = Rf b := if_neg h
theorem EX_upFR {a n ci k : Nat} {q : Nat} (h : S a = (ci + 7, n)) (hk : k < (layX ci).length) (hty : (layX ci).getD k 0 = 2) : va_up (EX cz S Rf I J) a (.inr (ci, (flds (layX ci) I J Rf a).set k (.ref q))) = EX cz S (up2R Rf a k (some q)) I J := by
  refine EX_up ?_ (fun b hb => ⟨rfl, rfl, up2R_ne _ _ _ hb⟩)
  rw [EX_obj h]
  congr 2
  refine (flds_set hk ?_ (fun j hj => ⟨rfl, rfl, ?_⟩)).symm
  · rw [hty]; simp [fldv, up2R_self, va_up, va_rf]
  · rw [up2R_self]; simp [va_up, hj]
theorem x_putR (X : CallFix p m c cc nL s args gw own) (hK : KX D cz ev A s) (hw : WX D cz A L S Rf H0 I J H locs) (hz : H.size = z) {a ci n : Nat} (ha : a ∈ L) (hS : S a = (ci + 7, n)) {C : String} {T : u_T} {N : Nat} {ty : Nat → FieldType} (cp : CP ci C T N ty) (k : Nat) (hk : k < N) {q : Nat} (hv : (layX ci).getD k 0 = 2) (hn : narrow (ty k) (.ref q) = .ref q) (hfit : fits (ty k) (.ref q) = true) (hfin : (T k).2.2.2 = true) (hin2 : meth.name = "<init>") (hdecl : (T k).1 = own) {index : Nat} (hlink : Cond.fieldLink own index (T k).1 (T k).2.1 (T k).2.2.1 ∈ gw) (hdg : decode cc pc = .ok (.putfield index, 3))
    (kk : ∀ (H1 : Heap) (locs1 : List Loc), WX D cz A L S (up2R Rf a k (some q)) H0 I J H1 locs1 → H1.size = z → W p l e R s m args below meth c H1 locs1 cells slots Q (F0 m (pc + 3) ls rest)) : W p l e R s m args below meth c H locs cells slots Q (F0 m pc ls (.ref q :: .ref a :: rest)) := by
  obtain ⟨hx, hb, hml, hown, hts⟩ := X
  obtain ⟨hc, hin, hlen, hty, hnm⟩ := cp
  obtain ⟨q0, hq'⟩ := x_cell hw ha
  have hq := hq'
  rw [EX_obj hS] at hq
  have hap := va_apart (own := own) hts hin ty hty hnm hK.1 hc
  obtain ⟨r, h1, cell, q1, q2, q3, q4⟩ := hw.1 q0 _ hq
  have hr : r = (C, T, N) := Option.some.inj (h1.symm.trans hc)
  subst hr
  obtain ⟨hS', hfc, kC, hkC, hkind⟩ := hK.1.1 ci _ hc
  obtain ⟨cf, kf, fi, f, hi, hsl⟩ := hS' k hk
  have hlay := hts _ (hin _ (u_in_lay hk))
  unfold u_lay at hlay
  rw [if_pos hfin] at hlay
  have hst := (u_facts hfc hkC (u_lays hts hin hk) hi).1
  have hcf : m.cls = cf := by
    obtain ⟨_, _, c', _, _, _, -, -, hf', -, -, -, hown2, -⟩ := Cond.laysFinal_spec hlay
    have e1 : c' = cf := by have := hi.symm.trans hf'; simp at this; exact this.1.symm
    rw [hdecl] at hown2
    rw [← e1]; exact Option.some.inj (hown.symm.trans hown2)
  have h6 := u_fits hfc hkC hkind (Or.inr hlay) hi (hty k hk) hn hfit
  refine W.putFinK hx hb hown (hts _ hlink) hi hst hcf hin2 (by rw [q2]; exact h6) q1 q3 (by rw [hsl]; exact k2_hasslot (q4 k hk)) rfl rfl hdg fun H' e1 e2 e3 => ?_
  rw [hsl] at e1 ⊢
  have hset : (va_pl L (EX cz S Rf I J)).set q0 (a, .inr (ci, (flds (layX ci) I J Rf a).set k (.ref q))) = va_pl L (va_up (EX cz S Rf I J) a _) := va_pl_set (X := []) hw.2.1 ha hq'
  rw [EX_upFR hS (by rw [hlen]; exact hk) hv] at hset
  have hPn : va_P D clsX ((va_pl L (EX cz S Rf I J)).set q0 (a, .inr (ci, (flds (layX ci) I J Rf a).set k (.ref q)))) H' := hw.1.set hw.2.1 hq ⟨_, hc, t_OB.to (V := updV (vp_V (flds (layX ci) I J Rf a)) k (.ref q)) ⟨_, e1, q2, q3, t_set q4 hap hk (.ref q)⟩ (fun j _ => vp_updV_set (by rw [flds_len, hlen]; exact hk) (.ref q) j)⟩ e3
  have hDn := hw.2.1.set hq (e := .inr (ci, (flds (layX ci) I J Rf a).set k (.ref q)))
  rw [hset] at hPn hDn
  exact kk H' _ ⟨hPn, hDn, hw.2.2.put e2 e3 (hw.2.1.2 q0 _ hq)⟩ (e2.trans hz)
theorem x_putIz (X : CallFix p m c cc nL s args gw own) (hK : KX D cz ev A s) (hw : WX D cz A L S Rf H0 I J H locs) (hz : H.size = z) {a ci n : Nat} (ha : a ∈ L) (hS : S a = (ci + 7, n)) {C : String} {T : u_T} {N : Nat} {ty : Nat → FieldType} (cp : CP ci C T N ty) (k : Nat) (hk : k < N) {v : Int32} (hv : (layX ci).getD k 0 = 0) (htk : ty k = .int) (hfin : (T k).2.2.2 = false) {index : Nat} (hlink : Cond.fieldLink own index (T k).1 (T k).2.1 (T k).2.2.1 ∈ gw) (hdg : decode cc pc = .ok (.putfield index, 3))
    (kk : ∀ (H1 : Heap) (locs1 : List Loc), WX D cz A L S Rf H0 (up2 I a k v) J H1 locs1 → H1.size = z → W p l e R s m args below meth c H1 locs1 cells slots Q (F0 m (pc + 3) ls rest)) : W p l e R s m args below meth c H locs cells slots Q (F0 m pc ls (.int v :: .ref a :: rest)) := by
  obtain ⟨hx, hb, hml, hown, hts⟩ := X
  obtain ⟨hc, hin, hlen, hty, hnm⟩ := cp
  obtain ⟨q0, hq'⟩ := x_cell hw ha
  have hq := hq'
  rw [EX_obj hS] at hq
  have hap := va_apart (own := own) hts hin ty hty hnm hK.1 hc
  obtain ⟨r, h1, cell, q1, q2, q3, q4⟩ := hw.1 q0 _ hq
  have hr : r = (C, T, N) := Option.some.inj (h1.symm.trans hc)
  subst hr
  obtain ⟨hS', hfc, kC, hkC, hkind⟩ := hK.1.1 ci _ hc
  obtain ⟨cf, kf, fi, f, hi, hsl⟩ := hS' k hk
  have hlay := hts _ (hin _ (u_in_lay hk))
  unfold u_lay at hlay
  rw [if_neg (by rw [hfin]; decide)] at hlay
  have hst := (u_facts hfc hkC (u_lays hts hin hk) hi).1
  have h6 := u_store hfc hkC hkind hlay hi (hty k hk) (v := .int v) (by rw [htk]; rfl) (by rw [htk]; rfl)
  refine W.putK hx hb (f := f) ⟨hown, hts _ hlink, ⟨_, _, _, hi⟩, hst⟩ (by rw [q2]; exact h6) q1 q3 (by rw [hsl]; exact k2_hasslot (q4 k hk)) rfl rfl hdg fun H' e1 e2 e3 => ?_
  rw [hsl] at e1 ⊢
  have hset : (va_pl L (EX cz S Rf I J)).set q0 (a, .inr (ci, (flds (layX ci) I J Rf a).set k (.int v))) = va_pl L (va_up (EX cz S Rf I J) a _) := va_pl_set (X := []) hw.2.1 ha hq'
  rw [EX_upF hS (by rw [hlen]; exact hk) hv] at hset
  have hPn : va_P D clsX ((va_pl L (EX cz S Rf I J)).set q0 (a, .inr (ci, (flds (layX ci) I J Rf a).set k (.int v)))) H' := hw.1.set hw.2.1 hq ⟨_, hc, t_OB.to (V := updV (vp_V (flds (layX ci) I J Rf a)) k (.int v)) ⟨_, e1, q2, q3, t_set q4 hap hk (.int v)⟩ (fun j _ => vp_updV_set (by rw [flds_len, hlen]; exact hk) (.int v) j)⟩ e3
  have hDn := hw.2.1.set hq (e := .inr (ci, (flds (layX ci) I J Rf a).set k (.int v)))
  rw [hset] at hPn hDn
  exact kk H' _ ⟨hPn, hDn, hw.2.2.put e2 e3 (hw.2.1.2 q0 _ hq)⟩ (e2.trans hz)
end XALLOC
/-- a constructor's contract: z the heap's size ahead of it, mc cells come -/
def MA (l : Launch) (D : va_G) (cz : Nat → ClassId) (ev : Nat × Nat × Nat) (y : MethodName) (b : ByteArray) (n fr lo mc ms : Nat) (av : List Value) (z : Nat) (L : List Nat) (S : ST) (Rf : RT) (I : IT) (J : JT) (S1 : ST) (Rf1 : RT) (I1 : IT) (J1 : JT) : Prop :=
  Met l y (.code y b n none :: gw) { frames := fr, cells := mc, slots := ms, locals := lo } (va_Pc av (fun U => U.heap.size = z ∧ PE D cz ev L S Rf I J U ∧ ev.1 ≤ z)) (va_Qv (fun (_ : Unit) => True) (fun _ t => PX D cz (apn L z mc) S1 Rf1 I1 J1 t ∧ t.heap.size = z + mc) (fun q => q ∈ L ∨ z ≤ q)) mc ms (fun q => q ∈ L ∨ z ≤ q)
theorem pa_blind {D : va_G} {cz : Nat → ClassId} {ev : Nat × Nat × Nat} {z : Nat} {L : List Nat} {S : ST} {Rf : RT} {I : IT} {J : JT} {av : List Value} : FrameBlind (va_Pc av (fun U => U.heap.size = z ∧ PE D cz ev L S Rf I J U ∧ ev.1 ≤ z)) := by
  intro a U g mk q
  obtain ⟨q0, qz, ⟨⟨qP, qK, qD⟩, qE, qB⟩, qe⟩ := q
  exact ⟨q0, qz, ⟨⟨qP, va_K.moved (u := U) (U := U.calling g mk a) (Vm.Alike.refl U.vm) qK, qD⟩, EN.same (u := U) (U := U.calling g mk a) rfl rfl qE, qB⟩, qe⟩
theorem MA_of {l : Launch} {D : va_G} {cz : Nat → ClassId} {ev : Nat × Nat × Nat} {L : List Nat} {S S1 : ST} {Rf Rf1 : RT} {I I1 : IT} {J J1 : JT} {y : MethodName} {b : ByteArray} {n fr lo mc ms z : Nat} {av : List Value} (hy : plainName y.cls = true) (hy1 : y.name = "<init>") (hav : (lg_sl av).length ≤ n)
    (body : ∀ (p : Program) (e : Env) (s : State) (m : MethodId) (args : Array Value) (below : List Frame) (meth : Method) (c : Code) (Q : State → Prop) (ls : Array Slot), CallFix p m c b n s args gw y.cls → KX D cz ev (fun q => q ∈ L ∨ z ≤ q) s → s.heap.size = z → meth.name = "<init>" → WX D cz (fun q => q ∈ L ∨ z ≤ q) L S Rf s.heap I J s.heap [] → lv_has ls n (lv_args 0 av) →
      (∀ (H : Heap) (locs : List Loc) (ls : Array Slot) (pc : Nat), WX D cz (fun q => q ∈ L ∨ z ≤ q) (apn L z mc) S1 Rf1 s.heap I1 J1 H locs → H.size = z + mc → decode b pc = .ok (.return_, 1) → W p l e { frames := fr, cells := mc, slots := ms, locals := lo } s m args below meth c H locs mc ms Q (F0 m pc ls [])) →
      W p l e { frames := fr, cells := mc, slots := ms, locals := lo } s m args below meth c s.heap [] 0 0 Q (F0 m 0 ls [])) : MA l D cz ev y b n fr lo mc ms av z L S Rf I J S1 Rf1 I1 J1 := by
  refine Met.ofW (cc := b) (maxL := n) (ret := none) hy rfl ?_
  intro p e s m args below meth c s₁ B hml hv
  obtain ⟨rfl, hz, ⟨⟨hP, hK, hN⟩, hE, hB⟩, hev⟩ := hv
  have hlocks := B.notSynchronized
  have X : CallFix p m c b n s _ gw y.cls := ⟨B.exec, B.bytes, hml, findClass_of_methodNamed B.named, fun w hw => atoms_spec (ws := .code y b n none :: gw) B.pre w (List.mem_cons_of_mem _ hw)⟩
  have hin : meth.name = "<init>" := (name_of_methodNamed B.named B.method).1.trans hy1
  rw [lg_entry_eq]
  refine body p e s m _ below meth c _ _ X ⟨hK, hE, fun q hq => hq.elim (hB q) (fun h => Nat.le_trans hev h)⟩ hz hin ⟨hP, pl_D hN (fun _ h => Or.inl h), va_S.rf⟩ (lv_entry av hav) (fun H locs ls pc hw hs hd => ?_)
  exact W.vret B.exec B.bytes B.returns (fun t ht hW => ⟨⟨(), rfl, trivial, ⟨by rw [ht]; exact hw.1, va_K.moved hW.alike hK, pl_nodup hw.2.1⟩, by rw [ht]; exact hs⟩, hw.2.2.F ht⟩) hw.2.2.2.2 hd
/-- the words of a constructor's call -/
def IW (own : String) (idx : Nat) (y : MethodName) (b : ByteArray) (n np : Nat) : Prop :=
  (Cond.methodLink own idx y ∈ gw ∧ Cond.instanceMethod y ∈ gw ∧ Cond.initialized y.cls ∈ gw ∧ Cond.code y b n none ∈ gw) ∧ y.name = "<init>" ∧ (y.cls ≠ "java/lang/invoke/MethodHandle" ∧ y.cls ≠ "java/lang/invoke/VarHandle" ∧ (parseMethodDescriptor y.desc).map (fun d => d.parameters.length) = some np)
def NW (own : String) (idx : Nat) (y : MethodName) (host : String) (b : ByteArray) (n np : Nat) (s : State) : Prop :=
  va_Nw (.methodLinkNest own idx y host) s ∧ (Cond.instanceMethod y ∈ gw ∧ Cond.initialized y.cls ∈ gw ∧ Cond.code y b n none ∈ gw) ∧ y.name = "<init>" ∧ (y.cls ≠ "java/lang/invoke/MethodHandle" ∧ y.cls ≠ "java/lang/invoke/VarHandle" ∧ (parseMethodDescriptor y.desc).map (fun d => d.parameters.length) = some np)
section XCTOR
variable {p : Program} {l : Launch} {e : Env} {R : Room} {s : State} {m : MethodId} {args : Array Value} {below : List Frame} {meth : Method} {c : Code} {H : Heap} {locs : List Loc} {cells slots : Nat} {Q : State → Prop}
variable {cc : ByteArray} {nL : Nat} {own : String} {pc : Nat} {ls : Array Slot} {rest : List Value}
variable {D : va_G} {cz : Nat → ClassId} {A : Nat → Prop} {ev : Nat × Nat × Nat} {L : List Nat} {S S1 : ST} {Rf Rf1 : RT} {I I1 : IT} {J J1 : JT} {z : Nat}
variable {y : MethodName} {b : ByteArray} {n fr lo mc ms idx np : Nat}
theorem x_preA (hw : WX D cz A L S Rf s.heap I J H locs) (hK : KX D cz ev A s) (hz : H.size = z) (hAz : ∀ q, z ≤ q → A q) {As : List Value} : ∀ U : State, U.heap = H → s.WarmedH U.vm → va_Pc As (fun U => U.heap.size = z ∧ PE D cz ev L S Rf I J U ∧ ev.1 ≤ z) As.toArray U := fun U hU hW => ⟨rfl, by rw [hU]; exact hz, (x_pre hw hK (As := As) U hU hW).2, hK.2.2 z (hAz z (Nat.le_refl _))⟩
theorem x_ctor (X : CallFix p m c cc nL s args gw own) (hK : KX D cz ev A s) (hw : WX D cz A L S Rf s.heap I J H locs) (hz : H.size = z) (hAz : ∀ q, z ≤ q → A q) {a : Nat} {As : List Value} (hM : MA l D cz ev y b n fr lo mc ms (.ref a :: As) z L S Rf I J S1 Rf1 I1 J1) (v : IW own idx y b n np) (hR : fr + 1 ≤ R.frames ∧ 8 + (n + 11) + lo ≤ R.locals) (hn : As.length = np) {st0 : List Value} (hst : st0 = As.reverse ++ .ref a :: rest) (hrm : (rest.map fun v => v.category).sum ≤ 8) (hls : ls.size = nL) (hcs : cells + mc ≤ R.cells ∧ slots + ms ≤ R.slots) (hdg : decode cc pc = .ok (.invokespecial idx, 3))
    (kk : ∀ (H1 : Heap) (locs1 : List Loc), WX D cz A (apn L z mc) S1 Rf1 s.heap I1 J1 H1 locs1 → H1.size = z + mc → W p l e R s m args below meth c H1 locs1 (cells + mc) (slots + ms) Q (F0 m (pc + 3) ls rest)) : W p l e R s m args below meth c H locs cells slots Q (F0 m pc ls st0) := by
  have hAA : ∀ q, (q ∈ L ∨ z ≤ q) → A q := fun q h => h.elim (fun g => pl_A hw.2.1 g) (hAz q)
  obtain ⟨⟨h1, h2, h3, h4⟩, hy, hd⟩ := v
  refine va_callv (va_runI (As := As) (rest := rest) X hM ⟨callB_of np X.2.2.2.2 (gw_call h4) rfl rfl rfl (X.2.2.2.2 _ h3) (X.2.2.2.2 _ h1) hd hR, hy, X.2.2.2.2 _ h2⟩ ⟨pa_blind, x_preA hw hK hz hAz⟩ rfl hn hls hst (lv_room hrm) hdg hcs) hw.2.2 (fun q _ h => hAA q h) (fun q h => hAA q h) (fun u t H1 locs1 ht hvm hp hB hzz hk hS1 => ?_)
  obtain ⟨⟨hP1, hK1, hN1⟩, hs1⟩ := hB
  rw [ht] at hP1 hs1
  exact kk H1 locs1 ⟨hP1, pl_D hN1 (fun a h => hAA a ((apn_mem mc h).imp id (fun g => g.1))), hS1⟩ hs1
theorem x_ctorN {host : String} (X : CallFix p m c cc nL s args gw own) (hK : KX D cz ev A s) (hw : WX D cz A L S Rf s.heap I J H locs) (hz : H.size = z) (hAz : ∀ q, z ≤ q → A q) {a : Nat} {As : List Value} (hM : MA l D cz ev y b n fr lo mc ms (.ref a :: As) z L S Rf I J S1 Rf1 I1 J1) (v : NW own idx y host b n np s) (hR : fr + 1 ≤ R.frames ∧ 8 + (n + 11) + lo ≤ R.locals) (hn : As.length = np) {st0 : List Value} (hst : st0 = As.reverse ++ .ref a :: rest) (hrm : (rest.map fun v => v.category).sum ≤ 8) (hls : ls.size = nL) (hcs : cells + mc ≤ R.cells ∧ slots + ms ≤ R.slots) (hdg : decode cc pc = .ok (.invokespecial idx, 3))
    (kk : ∀ (H1 : Heap) (locs1 : List Loc), WX D cz A (apn L z mc) S1 Rf1 s.heap I1 J1 H1 locs1 → H1.size = z + mc → W p l e R s m args below meth c H1 locs1 (cells + mc) (slots + ms) Q (F0 m (pc + 3) ls rest)) : W p l e R s m args below meth c H locs cells slots Q (F0 m pc ls st0) := by
  have hAA : ∀ q, (q ∈ L ∨ z ≤ q) → A q := fun q h => h.elim (fun g => pl_A hw.2.1 g) (hAz q)
  obtain ⟨h1, ⟨h2, h3, h4⟩, hy, hd⟩ := v
  refine va_callv (va_runIN (As := As) (rest := rest) X hM ⟨va_cnB np X.2.2.2.2 (gw_call h4) rfl rfl rfl h1 (X.2.2.2.2 _ h3) hd hR, hy, X.2.2.2.2 _ h2⟩ ⟨pa_blind, x_preA hw hK hz hAz⟩ rfl hn hls hst (lv_room hrm) hdg hcs) hw.2.2 (fun q _ h => hAA q h) (fun q h => hAA q h) (fun u t H1 locs1 ht hvm hp hB hzz hk hS1 => ?_)
  obtain ⟨⟨hP1, hK1, hN1⟩, hs1⟩ := hB
  rw [ht] at hP1 hs1
  exact kk H1 locs1 ⟨hP1, pl_D hN1 (fun a h => hAA a ((apn_mem mc h).imp id (fun g => g.1))), hS1⟩ hs1
end XCTOR
