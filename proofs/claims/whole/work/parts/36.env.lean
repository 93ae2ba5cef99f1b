theorem wt_mem {w : Cond} {l : List Cond} {i : Nat} (h : l[i]? = some w) : w ∈ l := List.mem_of_getElem? h
theorem tt_180 : (Jvm.Cond.methodLinkNest "YoungerBench" (30 : Nat) ({ cls := "YoungerBench$State", name := "<init>", desc := "()V" } : Jvm.MethodName) "YoungerBench") ∈ lw_tbl := by
  have h : (Jvm.Cond.methodLinkNest "YoungerBench" (30 : Nat) ({ cls := "YoungerBench$State", name := "<init>", desc := "()V" } : Jvm.MethodName) "YoungerBench") ∈ tables_1_1 := List.mem_of_getElem? (i := 62) rfl
  exact List.mem_append_right _ (show _ ∈ tables_1 from List.mem_append_left _ h)
theorem tt_186 : (Jvm.Cond.methodLinkNest "YoungerBench$State" (11 : Nat) ({ cls := "YoungerBench$Town", name := "<init>", desc := "()V" } : Jvm.MethodName) "YoungerBench") ∈ lw_tbl := by
  have h : (Jvm.Cond.methodLinkNest "YoungerBench$State" (11 : Nat) ({ cls := "YoungerBench$Town", name := "<init>", desc := "()V" } : Jvm.MethodName) "YoungerBench") ∈ tables_1_1 := List.mem_of_getElem? (i := 68) rfl
  exact List.mem_append_right _ (show _ ∈ tables_1 from List.mem_append_left _ h)
theorem tt_282 : (Jvm.Cond.methodLinkNest "YoungerBench$State" (20 : Nat) ({ cls := "YoungerBench$Course", name := "<init>", desc := "()V" } : Jvm.MethodName) "YoungerBench") ∈ lw_tbl := by
  have h : (Jvm.Cond.methodLinkNest "YoungerBench$State" (20 : Nat) ({ cls := "YoungerBench$Course", name := "<init>", desc := "()V" } : Jvm.MethodName) "YoungerBench") ∈ tables_1_1 := List.mem_of_getElem? (i := 164) rfl
  exact List.mem_append_right _ (show _ ∈ tables_1 from List.mem_append_left _ h)
theorem tt_382 : (Jvm.Cond.methodLinkNest "YoungerBench" (41 : Nat) ({ cls := "YoungerBench$Past", name := "<init>", desc := "()V" } : Jvm.MethodName) "YoungerBench") ∈ lw_tbl := by
  have h : (Jvm.Cond.methodLinkNest "YoungerBench" (41 : Nat) ({ cls := "YoungerBench$Past", name := "<init>", desc := "()V" } : Jvm.MethodName) "YoungerBench") ∈ tables_1_2 := List.mem_of_getElem? (i := 24) rfl
  exact List.mem_append_right _ (show _ ∈ tables_1 from List.mem_append_right _ (List.mem_append_left _ h))
theorem tt_515 : (Jvm.Cond.methodLinkNest "YoungerBench" (73 : Nat) ({ cls := "YoungerBench$Town", name := "<init>", desc := "()V" } : Jvm.MethodName) "YoungerBench") ∈ lw_tbl := by
  have h : (Jvm.Cond.methodLinkNest "YoungerBench" (73 : Nat) ({ cls := "YoungerBench$Town", name := "<init>", desc := "()V" } : Jvm.MethodName) "YoungerBench") ∈ tables_1_2 := List.mem_of_getElem? (i := 157) rfl
  exact List.mem_append_right _ (show _ ∈ tables_1 from List.mem_append_right _ (List.mem_append_left _ h))
theorem tt_558 : (Jvm.Cond.methodLinkNest "YoungerBench" (98 : Nat) ({ cls := "YoungerBench$Course", name := "<init>", desc := "()V" } : Jvm.MethodName) "YoungerBench") ∈ lw_tbl := by
  have h : (Jvm.Cond.methodLinkNest "YoungerBench" (98 : Nat) ({ cls := "YoungerBench$Course", name := "<init>", desc := "()V" } : Jvm.MethodName) "YoungerBench") ∈ tables_1_2 := List.mem_of_getElem? (i := 200) rfl
  exact List.mem_append_right _ (show _ ∈ tables_1 from List.mem_append_right _ (List.mem_append_left _ h))
theorem tt_995 : (Jvm.Cond.methodLinkNest "YoungerBench$Past" (24 : Nat) ({ cls := "YoungerBench$Course", name := "<init>", desc := "()V" } : Jvm.MethodName) "YoungerBench") ∈ lw_tbl := by
  have h : (Jvm.Cond.methodLinkNest "YoungerBench$Past" (24 : Nat) ({ cls := "YoungerBench$Course", name := "<init>", desc := "()V" } : Jvm.MethodName) "YoungerBench") ∈ tables_1_4 := List.mem_of_getElem? (i := 157) rfl
  exact List.mem_append_right _ (show _ ∈ tables_1 from List.mem_append_right _ (List.mem_append_right _ (List.mem_append_right _ (List.mem_append_left _ h))))
theorem tt_177 : (Jvm.Cond.arrayOver (Jvm.ClassFile.FieldType.object "YoungerBench$Rule")) ∈ lw_tbl := by
  have h : (Jvm.Cond.arrayOver (Jvm.ClassFile.FieldType.object "YoungerBench$Rule")) ∈ tables_1_1 := List.mem_of_getElem? (i := 59) rfl
  exact List.mem_append_right _ (show _ ∈ tables_1 from List.mem_append_left _ h)
theorem tt_379 : (Jvm.Cond.arrayOver (Jvm.ClassFile.FieldType.object "YoungerBench$State")) ∈ lw_tbl := by
  have h : (Jvm.Cond.arrayOver (Jvm.ClassFile.FieldType.object "YoungerBench$State")) ∈ tables_1_2 := List.mem_of_getElem? (i := 21) rfl
  exact List.mem_append_right _ (show _ ∈ tables_1 from List.mem_append_right _ (List.mem_append_left _ h))
theorem tt_387 : (Jvm.Cond.arrayOver (Jvm.ClassFile.FieldType.object "YoungerBench$Course")) ∈ lw_tbl := by
  have h : (Jvm.Cond.arrayOver (Jvm.ClassFile.FieldType.object "YoungerBench$Course")) ∈ tables_1_2 := List.mem_of_getElem? (i := 29) rfl
  exact List.mem_append_right _ (show _ ∈ tables_1 from List.mem_append_right _ (List.mem_append_left _ h))
theorem tt_658 : (Jvm.Cond.stringRef "YoungerBench$Reader" (46 : Nat) "judge wit age sweets accused gravity length older day ruled appeal birthday right if or and not town bench person twins case ") ∈ lw_tbl := by
  have h : (Jvm.Cond.stringRef "YoungerBench$Reader" (46 : Nat) "judge wit age sweets accused gravity length older day ruled appeal birthday right if or and not town bench person twins case ") ∈ tables_1_3 := List.mem_of_getElem? (i := 60) rfl
  exact List.mem_append_right _ (show _ ∈ tables_1 from List.mem_append_right _ (List.mem_append_right _ (List.mem_append_left _ h)))
theorem tt_668 : (Jvm.Cond.laysStatic "java/lang/String" "COMPACT_STRINGS" "Z") ∈ lw_tbl := by
  have h : (Jvm.Cond.laysStatic "java/lang/String" "COMPACT_STRINGS" "Z") ∈ tables_1_3 := List.mem_of_getElem? (i := 70) rfl
  exact List.mem_append_right _ (show _ ∈ tables_1 from List.mem_append_right _ (List.mem_append_right _ (List.mem_append_left _ h)))
theorem tt_684 : (Jvm.Cond.laysStatic "jdk/internal/util/Preconditions" "SIOOBE_FORMATTER" "Ljava/util/function/BiFunction;") ∈ lw_tbl := by
  have h : (Jvm.Cond.laysStatic "jdk/internal/util/Preconditions" "SIOOBE_FORMATTER" "Ljava/util/function/BiFunction;") ∈ tables_1_3 := List.mem_of_getElem? (i := 86) rfl
  exact List.mem_append_right _ (show _ ∈ tables_1 from List.mem_append_right _ (List.mem_append_right _ (List.mem_append_left _ h)))
theorem st_elems : ∀ j, j < 125 → Cond.eq (.elem (.field (.string "YoungerBench$Reader" 46) "java/lang/String" "value" "[B") (.int (Int32.ofNat j))) (.int (wby.getD j 0)) ∈ flatC (Jvm.Cond.and given_1 narrow_1) := by decide +kernel
theorem st_arrP {args : Array Value} {s : State} {ty : FieldType} (h : (Cond.arrayClass ty).before args s = true) : ∃ cA : ClassId, ArrOfT s cA ty ∧ s.vm.findClass ("[" ++ ty.toString) = some cA := by
  obtain ⟨c, k, comp, h1, h2, h3⟩ := Cond.arrayClass_spec h
  exact ⟨c, fun n z => ⟨fun q g => (by cases g), k, h2, comp, h3⟩, h1⟩
theorem st_arrO {args : Array Value} {s : State} {C : String} (h : (Cond.arrayOver (.object C)).before args s = true) : ∃ cA : ClassId, ArrOfT s cA (.object C) ∧ va_RA s cA (.object C) := by
  obtain ⟨comp, c, k, h1, h2, h3, h4, h5⟩ := Cond.arrayOver_spec h
  exact ⟨c, fun n z => ⟨fun q g => (by cases g), k, h3, comp, h4⟩, k, comp, h3, h4, h1, h5⟩
theorem st_env {p : Program} {s : State} {m : MethodId} {meth : Method} {c : Code} {b Lx : Nat} {xs : Nat → Int32} (C0 : lw_At p s m meth c b Lx xs) : ∃ (D : va_G) (cz : Nat → ClassId) (ev : Nat × Nat × Nat), KX D cz ev (AL s) s := by
  obtain ⟨hx, hb, hr, hml, hown, hts, hX, hbl, hlocks, hgv⟩ := C0
  have hg := flat_of_before _ hgv
  have hA : ∀ a : Nat, a < s.heap.size → ¬ (fun q => s.heap.size ≤ q) a := fun a h => Nat.not_le.mpr h
  obtain ⟨adK, adV, hS, hev⟩ := vk_Sof (args := #[Value.ref b]) (s := s) (N := 1) (tm := fun _ => .string "YoungerBench$Reader" 46) (len := [125]) (byt := [wby]) (A := fun q => s.heap.size ≤ q)
    (fun i hi => by rw [show i = 0 by omega]; decide) (fun i _ => hg _ (by decide +kernel)) (fun i _ => hg _ (by decide +kernel)) (fun i _ => hg _ (by decide +kernel))
    (fun i hi => by rw [show i = 0 by omega]; exact hg _ (by decide +kernel))
    (fun i hi j hj => by
      have hi0 : i = 0 := by omega
      subst hi0
      exact hg _ (st_elems j hj))
    (fun i j hi hj hne => absurd (show i = j by omega) hne) hA
  have hk0 : ∀ i : Nat, i < 1 → adK i = adK 0 := fun i hi => by rw [show i = 0 by omega]
  have hSz : vk_S 1 [125] [wby] (fun _ => adK 0) (fun _ => adV 0) (fun q => s.heap.size ≤ q) s s.heap := by
    refine ⟨fun i hi => ?_, fun i j hi hj _ => by omega⟩
    have h := hS.1 i hi
    rw [show i = 0 by omega] at h ⊢
    exact h
  obtain ⟨c0, iS0, hKn0⟩ := u_known (C := RX0) (T := TX0) (N := 10) (n := 10) hts inX0 (hts _ (gw_tbl _ tw_281))
  obtain ⟨c1, iS1, hKn1⟩ := u_known (C := RX1) (T := TX1) (N := 4) (n := 4) hts inX1 (hts _ (gw_tbl _ tw_400))
  obtain ⟨c2, iS2, hKn2⟩ := u_known (C := RX2) (T := TX2) (N := 3) (n := 3) hts inX2 (hts _ (gw_tbl _ tw_381))
  obtain ⟨c3, iS3, hKn3⟩ := u_known (C := RX3) (T := TX3) (N := 5) (n := 5) hts inX3 (hts _ (gw_tbl _ tw_149))
  obtain ⟨c4, iS4, hKn4⟩ := u_known (C := RX4) (T := TX4) (N := 17) (n := 17) hts inX4 (hts _ (gw_tbl _ tw_422))
  obtain ⟨c5, iS5, hKn5⟩ := u_known (C := RX5) (T := TX5) (N := 1) (n := 1) hts inX5 (hts _ (gw_tbl _ tw_857))
  obtain ⟨c6, iS6, hKn6⟩ := u_known (C := RX6) (T := TX6) (N := 4) (n := 4) hts inX6 (hts _ (gw_tbl _ tw_539))
  obtain ⟨c7, iS7, hKn7⟩ := u_known (C := RX7) (T := TX7) (N := 8) (n := 8) hts inX7 (hts _ (gw_tbl _ tw_480))
  obtain ⟨c8, iS8, hKn8⟩ := u_known (C := RX8) (T := TX8) (N := 8) (n := 8) hts inX8 (hts _ (gw_tbl _ tw_179))
  obtain ⟨c9, iS9, hKn9⟩ := u_known (C := RX9) (T := TX9) (N := 15) (n := 15) hts inX9 (hts _ (gw_tbl _ tw_185))
  obtain ⟨c10, iS10, hKn10⟩ := u_known (C := RX10) (T := TX10) (N := 5) (n := 5) hts inX10 (hts _ (gw_tbl _ tw_517))
  obtain ⟨c11, iS11, hKn11⟩ := u_known (C := RX11) (T := TX11) (N := 16) (n := 16) hts inX11 (hts _ (gw_tbl _ tw_141))
  obtain ⟨c12, iS12, hKn12⟩ := u_known (C := RX12) (T := TX12) (N := 48) (n := 48) hts inX12 (hts _ (gw_tbl _ tw_1246))
  obtain ⟨z0, hz0, hn0⟩ := st_arrP (hts _ (gw_tbl _ tw_175))
  obtain ⟨z1, hz1, hn1⟩ := st_arrP (hts _ (gw_tbl _ tw_777))
  obtain ⟨z2, hz2, hn2⟩ := st_arrP (hts _ (gw_tbl _ tw_1396))
  obtain ⟨z3, hz3, hn3⟩ := st_arrP (hts _ (gw_tbl _ tw_420))
  obtain ⟨z4, hz4, hn4⟩ := st_arrO (hts _ tt_177)
  obtain ⟨z5, hz5, hn5⟩ := st_arrO (hts _ tt_379)
  obtain ⟨z6, hz6, hn6⟩ := st_arrO (hts _ tt_387)
  refine ⟨(fun k => [c0, c1, c2, c3, c4, c5, c6, c7, c8, c9, c10, c11, c12].getD k c0, fun k => [iS0, iS1, iS2, iS3, iS4, iS5, iS6, iS7, iS8, iS9, iS10, iS11, iS12].getD k iS0), fun k => [z0, z1, z2, z3, z4, z5, z6].getD k z0, (s.heap.size, adK 0, adV 0), ⟨?_, ?_⟩, ?_, fun q h => h⟩
  · intro k q hq
    match k, hq with
    | 0, hq => cases hq; exact hKn0
    | 1, hq => cases hq; exact hKn1
    | 2, hq => cases hq; exact hKn2
    | 3, hq => cases hq; exact hKn3
    | 4, hq => cases hq; exact hKn4
    | 5, hq => cases hq; exact hKn5
    | 6, hq => cases hq; exact hKn6
    | 7, hq => cases hq; exact hKn7
    | 8, hq => cases hq; exact hKn8
    | 9, hq => cases hq; exact hKn9
    | 10, hq => cases hq; exact hKn10
    | 11, hq => cases hq; exact hKn11
    | 12, hq => cases hq; exact hKn12
    | k + 13, hq => simp [clsX] at hq
  · intro k q hq
    match k, hq with
    | 0, hq => cases hq; exact ⟨hz0, hn0⟩
    | 1, hq => cases hq; exact ⟨hz1, hn1⟩
    | 2, hq => cases hq; exact ⟨hz2, hn2⟩
    | 3, hq => cases hq; exact ⟨hz3, hn3⟩
    | 4, hq => cases hq; exact ⟨hz4, hn4⟩
    | 5, hq => cases hq; exact ⟨hz5, hn5⟩
    | 6, hq => cases hq; exact ⟨hz6, hn6⟩
    | k + 7, hq => simp [tysX] at hq
  · refine ⟨⟨va_Nw.of rfl (hts _ tt_180), va_Nw.of rfl (hts _ tt_186), va_Nw.of rfl (hts _ tt_282), va_Nw.of rfl (hts _ tt_382), va_Nw.of rfl (hts _ tt_515), va_Nw.of rfl (hts _ tt_558), va_Nw.of rfl (hts _ tt_995)⟩, ⟨va_AO.of (hts _ tt_177), va_AO.of (hts _ tt_379), va_AO.of (hts _ tt_387)⟩, ⟨?_, hev 0 (by decide)⟩, hSz, ?_, ?_⟩
    · exact hts _ tt_658
    · exact va_Zof (hts _ tt_668) (hts _ (gw_tbl _ tw_133)) (va_eqi (hg _ (by decide +kernel))) hA
    · exact va_Zqof (hts _ tt_684) (hts _ (gw_tbl _ tw_135)) (hg _ (by decide +kernel)) hA
