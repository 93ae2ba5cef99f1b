/-! THE WORLD AS FOUR TABLES: what the cells of a region hold, by address and place: I the ints (fields of kind int and boolean, elements of int, byte and boolean arrays), J the longs, Rf the references, S the shape of each cell -/
abbrev IT : Type := Nat → Nat → Int32
abbrev JT : Type := Nat → Nat → Int64
abbrev RT : Type := Nat → Nat → Option Nat
abbrev ST : Type := Nat → Nat × Nat
def yb_let {α β : Type} (a : α) (k : α → β) : β := k a
theorem yb_let_to {α β : Type} {a x : α} {k : α → β} {z : β} (e : x = a) (h : yb_let a k = z) : k x = z := by subst e; exact h
theorem yb_let_ex {α β : Type} {a : α} {k : α → β} {z : β} (h : yb_let a k = z) : ∃ x, x = a ∧ k x = z := ⟨a, rfl, h⟩
def yb_b3 {α β : Type} (o : Option (α × IT × JT)) (k : α → IT → JT → Option β) : Option β := match o with
  | none => none
  | some q => k q.1 q.2.1 q.2.2
theorem yb_b3_some {α β : Type} {o : Option (α × IT × JT)} {k : α → IT → JT → Option β} {r : β} (h : yb_b3 o k = some r) : ∃ a I J, o = some (a, I, J) ∧ k a I J = some r := by
  cases o with
  | none => cases h
  | some q => exact ⟨q.1, q.2.1, q.2.2, rfl, h⟩
def yb_sm {α β γ : Type} (q : α ⊕ β) (f : α → γ) (g : β → γ) : γ := match q with
  | .inl a => f a
  | .inr b => g b
theorem yb_sm_l {α β γ : Type} {a : α} {f : α → γ} {g : β → γ} {z : γ} (h : yb_sm (.inl a) f g = z) : f a = z := h
theorem yb_sm_r {α β γ : Type} {b : β} {f : α → γ} {g : β → γ} {z : γ} (h : yb_sm (.inr b) f g = z) : g b = z := h
def inb (i : Int32) (n : Nat) : Bool := decide (¬ (i < 0 ∨ n ≤ i.toNatClampNeg))
theorem inb_vp {i : Int32} {n : Nat} (h : inb i n = true) : vp_in i n := of_decide_eq_true (p := ¬ (i < 0 ∨ n ≤ i.toNatClampNeg)) h
theorem vp_inb {i : Int32} {n : Nat} (h : vp_in i n) : inb i n = true := decide_eq_true (p := ¬ (i < 0 ∨ n ≤ i.toNatClampNeg)) h
theorem yb_ite {α : Type} {b : Bool} {a : Option α} {r : α} (h : (if b = true then a else none) = some r) : b = true ∧ a = some r := by
  cases b with
  | false => cases h
  | true => exact ⟨rfl, h⟩
theorem yb_nz {α : Type} {y : Int32} {a : Option α} {r : α} (h : (if y = 0 then none else a) = some r) : ¬ y = 0 ∧ a = some r := by
  by_cases hy : y = 0
  · rw [if_pos hy] at h; cases h
  · rw [if_neg hy] at h; exact ⟨hy, h⟩
theorem yb_nzl {α : Type} {y : Int64} {a : Option α} {r : α} (h : (if y = 0 then none else a) = some r) : ¬ y = 0 ∧ a = some r := by
  by_cases hy : y = 0
  · rw [if_pos hy] at h; cases h
  · rw [if_neg hy] at h; exact ⟨hy, h⟩
def bz (v : Int32) : Bool := decide (v = 0 ∨ v = 1)
theorem bz_nar {v : Int32} (h : bz v = true) : narrow .boolean (.int v) = .int v ∧ fits .boolean (.int v) = true := by
  rcases of_decide_eq_true h with rfl | rfl <;> exact ⟨rfl, rfl⟩
def up2 (I : IT) (a k : Nat) (v : Int32) : IT := fun b => if b = a then upd (I b) k v else I b
def up2J (J : JT) (a k : Nat) (v : Int64) : JT := fun b => if b = a then vp_updL (J b) k v else J b
def up2R (Rf : RT) (a k : Nat) (v : Option Nat) : RT := fun b => if b = a then va_up (Rf b) k v else Rf b
theorem up2_self (I : IT) (a k : Nat) (v : Int32) : up2 I a k v a = upd (I a) k v := if_pos rfl
theorem up2_ne (I : IT) {a b : Nat} (k : Nat) (v : Int32) (h : b ≠ a) : up2 I a k v b = I b := if_neg h
theorem up2J_self (J : JT) (a k : Nat) (v : Int64) : up2J J a k v a = vp_updL (J a) k v := if_pos rfl
theorem up2J_ne (J : JT) {a b : Nat} (k : Nat) (v : Int64) (h : b ≠ a) : up2J J a k v b = J b := if_neg h
def fldv (ty : Nat) (I : IT) (J : JT) (Rf : RT) (a k : Nat) : Value := match ty with
  | 0 => .int (I a k)
  | 1 => .long (J a k)
  | _ => va_rf (Rf a k)
def flds (lay : List Nat) (I : IT) (J : JT) (Rf : RT) (a : Nat) : List Value := (List.range lay.length).map (fun k => fldv (lay.getD k 0) I J Rf a k)
theorem flds_len (lay : List Nat) (I : IT) (J : JT) (Rf : RT) (a : Nat) : (flds lay I J Rf a).length = lay.length := by simp [flds]
theorem flds_get {lay : List Nat} {I : IT} {J : JT} {Rf : RT} {a k : Nat} (h : k < lay.length) : (flds lay I J Rf a)[k]? = some (fldv (lay.getD k 0) I J Rf a k) := by
  simp [flds, h]
theorem fldv_congr {ty : Nat} {I I' : IT} {J J' : JT} {Rf Rf' : RT} {a k : Nat} (h1 : I a k = I' a k) (h2 : J a k = J' a k) (h3 : Rf a k = Rf' a k) : fldv ty I J Rf a k = fldv ty I' J' Rf' a k := by
  match ty with
  | 0 => simp [fldv, h1]
  | 1 => simp [fldv, h2]
  | _ + 2 => simp [fldv, h3]
theorem flds_set {lay : List Nat} {I I' : IT} {J J' : JT} {Rf Rf' : RT} {a k : Nat} {v : Value} (hk : k < lay.length) (hv : fldv (lay.getD k 0) I' J' Rf' a k = v) (h : ∀ j, j ≠ k → I' a j = I a j ∧ J' a j = J a j ∧ Rf' a j = Rf a j) : (flds lay I J Rf a).set k v = flds lay I' J' Rf' a := by
  apply List.ext_getElem?
  intro j
  by_cases hj : j = k
  · subst hj
    rw [List.getElem?_set_self (by rw [flds_len]; exact hk), flds_get hk, hv]
  · rw [List.getElem?_set_ne (Ne.symm hj)]
    by_cases hl : j < lay.length
    · rw [flds_get hl, flds_get hl]
      obtain ⟨e1, e2, e3⟩ := h j hj
      rw [fldv_congr e1 e2 e3]
    · rw [List.getElem?_eq_none (by rw [flds_len]; omega), List.getElem?_eq_none (by rw [flds_len]; omega)]
def layX (ci : Nat) : List Nat := match ci with
  | 0 => [2, 2, 2, 2, 2, 2, 2, 2, 2, 0]
  | 1 => [2, 2, 2, 2]
  | 2 => [2, 0, 0]
  | 3 => [2, 0, 0, 0, 0]
  | 4 => [2, 2, 2, 2, 2, 2, 2, 2, 2, 2, 2, 2, 2, 2, 0, 0, 0]
  | 5 => [2]
  | 6 => [2, 2, 0, 0]
  | 7 => [2, 2, 2, 2, 0, 0, 0, 0]
  | 8 => [2, 2, 2, 2, 2, 0, 0, 0]
  | 9 => [2, 2, 2, 2, 2, 2, 2, 2, 0, 0, 0, 0, 0, 0, 0]
  | 10 => [2, 2, 0, 0, 0]
  | 11 => [2, 2, 2, 2, 2, 2, 2, 2, 2, 2, 2, 2, 2, 2, 0, 0]
  | _ => [2, 0, 0, 2, 2, 2, 2, 2, 0, 0, 0, 0, 0, 0, 0, 2, 0, 2, 0, 2, 2, 0, 0, 2, 0, 0, 2, 2, 2, 2, 2, 2, 2, 2, 2, 0, 0, 2, 0, 2, 2, 2, 2, 1, 2, 2, 2, 2]
def EX (cz : Nat → ClassId) (S : ST) (Rf : RT) (I : IT) (J : JT) (a : Nat) : va_E := match (S a).1 with
  | 0 => .inl (cz 0, (S a).2, .inl (I a))
  | 1 => .inl (cz 1, (S a).2, .inl (I a))
  | 2 => .inl (cz 2, (S a).2, .inl (I a))
  | 3 => .inl (cz 3, (S a).2, .inr (.inl (J a)))
  | 4 => .inl (cz 4, (S a).2, .inr (.inr (.inr (.inr (Rf a)))))
  | 5 => .inl (cz 5, (S a).2, .inr (.inr (.inr (.inr (Rf a)))))
  | 6 => .inl (cz 6, (S a).2, .inr (.inr (.inr (.inr (Rf a)))))
  | ci + 7 => .inr (ci, flds (layX ci) I J Rf a)
abbrev tysX (cz : Nat → ClassId) : List (ClassId × FieldType) := [(cz 0, .int), (cz 1, .byte), (cz 2, .boolean), (cz 3, .long), (cz 4, .object "YoungerBench$Rule"), (cz 5, .object "YoungerBench$State"), (cz 6, .object "YoungerBench$Course")]
section EXROWS
variable {cz : Nat → ClassId} {S : ST} {Rf : RT} {I : IT} {J : JT} {a n ci : Nat}
theorem EX_obj (h : S a = (ci + 7, n)) : EX cz S Rf I J a = .inr (ci, flds (layX ci) I J Rf a) := by unfold EX; rw [h]
theorem EX_i (h : S a = (0, n)) : EX cz S Rf I J a = .inl (cz 0, n, .inl (I a)) := by unfold EX; rw [h]
theorem EX_b (h : S a = (1, n)) : EX cz S Rf I J a = .inl (cz 1, n, .inl (I a)) := by unfold EX; rw [h]
theorem EX_z (h : S a = (2, n)) : EX cz S Rf I J a = .inl (cz 2, n, .inl (I a)) := by unfold EX; rw [h]
theorem EX_l (h : S a = (3, n)) : EX cz S Rf I J a = .inl (cz 3, n, .inr (.inl (J a))) := by unfold EX; rw [h]
theorem EX_congr {I' : IT} {J' : JT} {Rf' : RT} {b : Nat} (h1 : I' b = I b) (h2 : J' b = J b) (h3 : Rf' b = Rf b) : EX cz S Rf' I' J' b = EX cz S Rf I J b := by
  unfold EX
  rw [h1, h2, h3]
  split <;> try rfl
  congr 2
  unfold flds
  apply List.map_congr_left
  intro k _
  exact fldv_congr (congrFun h1 k) (congrFun h2 k) (congrFun h3 k)
theorem EX_up {I' : IT} {J' : JT} {Rf' : RT} {e : va_E} (he : EX cz S Rf' I' J' a = e) (h : ∀ b, b ≠ a → I' b = I b ∧ J' b = J b ∧ Rf' b = Rf b) : va_up (EX cz S Rf I J) a e = EX cz S Rf' I' J' := by
  funext b
  by_cases hb : b = a
  · subst hb; rw [va_up_self, he]
  · rw [va_up_ne _ _ hb]
    obtain ⟨e1, e2, e3⟩ := h b hb
    exact (EX_congr e1 e2 e3).symm
theorem EX_upF {k : Nat} {v : Int32} (h : S a = (ci + 7, n)) (hk : k < (layX ci).length) (hty : (layX ci).getD k 0 = 0) : va_up (EX cz S Rf I J) a (.inr (ci, (flds (layX ci) I J Rf a).set k (.int v))) = EX cz S Rf (up2 I a k v) J := by
  refine EX_up ?_ (fun b hb => ⟨up2_ne _ _ _ hb, rfl, rfl⟩)
  rw [EX_obj h]
  congr 2
  refine (flds_set hk ?_ (fun j hj => ⟨?_, rfl, rfl⟩)).symm
  · rw [hty]; simp [fldv, up2_self, upd]
  · rw [up2_self]; simp [upd, hj]
theorem EX_upFJ {k : Nat} {v : Int64} (h : S a = (ci + 7, n)) (hk : k < (layX ci).length) (hty : (layX ci).getD k 0 = 1) : va_up (EX cz S Rf I J) a (.inr (ci, (flds (layX ci) I J Rf a).set k (.long v))) = EX cz S Rf I (up2J J a k v) := by
  refine EX_up ?_ (fun b hb => ⟨rfl, up2J_ne _ _ _ hb, rfl⟩)
  rw [EX_obj h]
  congr 2
  refine (flds_set hk ?_ (fun j hj => ⟨rfl, ?_, rfl⟩)).symm
  · rw [hty]; simp [fldv, up2J_self, vp_updL]
  · rw [up2J_self]; simp [vp_updL, hj]
theorem EX_upi {k : Nat} {v : Int32} (h : S a = (0, n)) : va_up (EX cz S Rf I J) a (.inl (cz 0, n, .inl (upd (I a) k v))) = EX cz S Rf (up2 I a k v) J :=
  EX_up (by rw [EX_i h, up2_self]) (fun b hb => ⟨up2_ne _ _ _ hb, rfl, rfl⟩)
theorem EX_upb {k : Nat} {v : Int32} (h : S a = (1, n)) : va_up (EX cz S Rf I J) a (.inl (cz 1, n, .inl (upd (I a) k v))) = EX cz S Rf (up2 I a k v) J :=
  EX_up (by rw [EX_b h, up2_self]) (fun b hb => ⟨up2_ne _ _ _ hb, rfl, rfl⟩)
theorem EX_upz {k : Nat} {v : Int32} (h : S a = (2, n)) : va_up (EX cz S Rf I J) a (.inl (cz 2, n, .inl (upd (I a) k v))) = EX cz S Rf (up2 I a k v) J :=
  EX_up (by rw [EX_z h, up2_self]) (fun b hb => ⟨up2_ne _ _ _ hb, rfl, rfl⟩)
theorem EX_upl {k : Nat} {v : Int64} (h : S a = (3, n)) : va_up (EX cz S Rf I J) a (.inl (cz 3, n, .inr (.inl (vp_updL (J a) k v)))) = EX cz S Rf I (up2J J a k v) :=
  EX_up (by rw [EX_l h, up2J_self]) (fun b hb => ⟨rfl, up2J_ne _ _ _ hb, rfl⟩)
end EXROWS
/-- a region's cells, apart, as the tables say; since H0 nothing outside A has changed -/
def WX (D : va_G) (cz : Nat → ClassId) (A : Nat → Prop) (L : List Nat) (S : ST) (Rf : RT) (H0 : Heap) (I : IT) (J : JT) (H : Heap) (locs : List Loc) : Prop :=
  va_P D clsX (va_pl L (EX cz S Rf I J)) H ∧ va_D A (va_pl L (EX cz S Rf I J)) ∧ va_S A H0 H locs
theorem pl_D {L : List Nat} {A : Nat → Prop} {f : Nat → va_E} (hn : L.Nodup) (hA : ∀ a ∈ L, A a) : va_D A (va_pl L f) := by
  refine ⟨fun i j p q hp hq e => ?_, fun k q hk => ?_⟩
  · simp only [va_pl, List.getElem?_map, Option.map_eq_some_iff] at hp hq
    obtain ⟨x, hx, rfl⟩ := hp
    obtain ⟨y, hy, rfl⟩ := hq
    dsimp only at e
    subst e
    exact (List.getElem?_inj (List.getElem?_eq_some_iff.mp hx).1 hn).mp (hx.trans hy.symm)
  · simp only [va_pl, List.getElem?_map, Option.map_eq_some_iff] at hk
    obtain ⟨x, hx, rfl⟩ := hk
    exact hA x (List.mem_of_getElem? hx)
theorem pl_A {L : List Nat} {A : Nat → Prop} {f : Nat → va_E} (h : va_D A (va_pl L f)) {a : Nat} (ha : a ∈ L) : A a := by
  obtain ⟨k, hk⟩ := va_pl_get (X := []) (f := f) ha
  exact h.2 k _ hk
def CP (ci : Nat) (C : String) (T : u_T) (N : Nat) (ty : Nat → FieldType) : Prop := clsX[ci]? = some (C, T, N) ∧ (∀ w ∈ u_ws C T N, w ∈ gw) ∧ (layX ci).length = N ∧ (∀ k, k < N → parseFieldDescriptor (T k).2.2.1 = some (ty k)) ∧ (∀ a, a < N → ∀ b, b < N → a ≠ b → (T a).2.1 ≠ (T b).2.1)
theorem cpX0 : CP 0 RX0 TX0 10 tyX0 := ⟨rfl, igX0, rfl, tyX0_ok, nmX0⟩
theorem cpX1 : CP 1 RX1 TX1 4 tyX1 := ⟨rfl, igX1, rfl, tyX1_ok, nmX1⟩
theorem cpX2 : CP 2 RX2 TX2 3 tyX2 := ⟨rfl, igX2, rfl, tyX2_ok, nmX2⟩
theorem cpX3 : CP 3 RX3 TX3 5 tyX3 := ⟨rfl, igX3, rfl, tyX3_ok, nmX3⟩
theorem cpX4 : CP 4 RX4 TX4 17 tyX4 := ⟨rfl, igX4, rfl, tyX4_ok, nmX4⟩
theorem cpX5 : CP 5 RX5 TX5 1 tyX5 := ⟨rfl, igX5, rfl, tyX5_ok, nmX5⟩
theorem cpX6 : CP 6 RX6 TX6 4 tyX6 := ⟨rfl, igX6, rfl, tyX6_ok, nmX6⟩
theorem cpX7 : CP 7 RX7 TX7 8 tyX7 := ⟨rfl, igX7, rfl, tyX7_ok, nmX7⟩
theorem cpX8 : CP 8 RX8 TX8 8 tyX8 := ⟨rfl, igX8, rfl, tyX8_ok, nmX8⟩
theorem cpX9 : CP 9 RX9 TX9 15 tyX9 := ⟨rfl, igX9, rfl, tyX9_ok, nmX9⟩
theorem cpX10 : CP 10 RX10 TX10 5 tyX10 := ⟨rfl, igX10, rfl, tyX10_ok, nmX10⟩
theorem cpX11 : CP 11 RX11 TX11 16 tyX11 := ⟨rfl, igX11, rfl, tyX11_ok, nmX11⟩
theorem cpX12 : CP 12 RX12 TX12 48 tyX12 := ⟨rfl, igX12, rfl, tyX12_ok, nmX12⟩
