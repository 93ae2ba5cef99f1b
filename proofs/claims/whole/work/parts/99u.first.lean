/-! THE FIRST RELATION: both just made (printed by wip/whole/gen/first.py) -/
abbrev Qd : Type := ST × RT × IT × JT
def qmk (q : Qd) (a : Nat) (s : Nat × Nat) : Qd := (va_up q.1 a s, va_up q.2.1 a (fun _ => none), va_up q.2.2.1 a (fun _ => 0), va_up q.2.2.2 a (fun _ => 0))
def qpt (q : Qd) (t j v : Nat) : Qd := (q.1, up2R q.2.1 t j (some v), q.2.2.1, q.2.2.2)
def qca (f : ST → RT → IT → JT → Qd) (q : Qd) : Qd := f q.1 q.2.1 q.2.2.1 q.2.2.2
def qid (S : ST) (Rf : RT) (I : IT) (J : JT) : Qd := (S, Rf, I, J)
def qfn (t : Nat) (q : Qd) : Qd := (q.1, q.2.1, up2 (up2 q.2.2.1 t 14 0) t 15 0, q.2.2.2)
/-- below m nothing changed but what t refers to -/
def Kp (t m : Nat) (q r : Qd) : Prop := ∀ a, a < m → r.1 a = q.1 a ∧ r.2.2.1 a = q.2.2.1 a ∧ (a ≠ t → r.2.1 a = q.2.1 a)
theorem Kp.rf (t m : Nat) (q : Qd) : Kp t m q q := fun _ _ => ⟨rfl, rfl, fun _ => rfl⟩
theorem Kp.tr {t m n : Nat} {q r s : Qd} (h : Kp t m q r) (g : Kp t n r s) (hm : m ≤ n) : Kp t m q s := fun a ha => ⟨(g a (by omega)).1.trans (h a ha).1, (g a (by omega)).2.1.trans (h a ha).2.1, fun ht => ((g a (by omega)).2.2 ht).trans ((h a ha).2.2 ht)⟩
def FrQd (f : ST → RT → IT → JT → Qd) (m : Nat) : Prop := ∀ S Rf I J a, a < m + 1 → (f S Rf I J).1 a = S a ∧ (a ≠ m → (f S Rf I J).2.1 a = Rf a ∧ (f S Rf I J).2.2.1 a = I a ∧ (f S Rf I J).2.2.2 a = J a)
theorem FrQd.id (m : Nat) : FrQd qid m := fun _ _ _ _ _ _ => ⟨rfl, fun _ => ⟨rfl, rfl, rfl⟩⟩
theorem stg {t m j v : Nat} {s : Nat × Nat} {f : ST → RT → IT → JT → Qd} (q : Qd) (ht : t < m) (hf : FrQd f m) : Kp t m q (qpt (qca f (qmk q m s)) t j v) ∧ (qpt (qca f (qmk q m s)) t j v).2.1 t = va_up (q.2.1 t) j (some v) ∧ (qpt (qca f (qmk q m s)) t j v).1 m = s := by
  refine ⟨fun a ha => ?_, ?_, ?_⟩
  · obtain ⟨h1, h2⟩ := hf (qmk q m s).1 (qmk q m s).2.1 (qmk q m s).2.2.1 (qmk q m s).2.2.2 a (by omega)
    obtain ⟨h3, h4, _⟩ := h2 (by omega)
    refine ⟨h1.trans (va_up_ne _ _ (by omega)), h4.trans (va_up_ne _ _ (by omega)), fun g => ?_⟩
    show up2R _ t j (some v) a = _
    rw [up2R_ne _ _ _ g]
    exact h3.trans (va_up_ne _ _ (by omega))
  · obtain ⟨h1, h2⟩ := hf (qmk q m s).1 (qmk q m s).2.1 (qmk q m s).2.2.1 (qmk q m s).2.2.2 t (by omega)
    obtain ⟨h3, _⟩ := h2 (by omega)
    show up2R _ t j (some v) t = _
    rw [up2R_self]
    show va_up ((f (qmk q m s).1 (qmk q m s).2.1 (qmk q m s).2.2.1 (qmk q m s).2.2.2).2.1 t) j (some v) = _
    rw [h3]
    show va_up (va_up q.2.1 m (fun _ => none) t) j (some v) = _
    rw [va_up_ne _ _ (by omega)]
  · exact (hf _ _ _ _ m (by omega)).1.trans (va_up_self _ _ _)
theorem qR {q : Qd} {t j v a : Nat} (h : a ≠ t) : (qpt q t j v).2.1 a = q.2.1 a := up2R_ne _ _ _ h
section INI
variable {t : Nat} {q : Qd} {s : Nat × Nat}
theorem sp_id : (qca qid (qmk q t s)).2.1 t = (fun _ => none) ∧ (qca qid (qmk q t s)).2.2.1 t = fun _ => 0 := ⟨va_up_self _ _ _, va_up_self _ _ _⟩
theorem sp_3 {x : Nat} : (qca (f3_init t (t + 1) x) (qmk q t s)).2.1 t 0 = some x := by
  simp [qca, qmk, f3_init, yb_let, va_up, up2R, nt_1, nt_2, Nat.add_assoc]
theorem sp_10 {x y : Nat} : (qca (f10_init t (t + 1) x y) (qmk q t s)).2.1 t 0 = some x ∧ (qca (f10_init t (t + 1) x y) (qmk q t s)).2.1 t 1 = some y := by
  simp [qca, qmk, f10_init, yb_let, va_up, up2R, nt_1, nt_2, Nat.add_assoc]
theorem sp_6 {x : Nat} : (qca (f6_init t (t + 1) x) (qmk q t s)).2.1 t 0 = some x ∧ (qca (f6_init t (t + 1) x) (qmk q t s)).2.1 t 1 = some (t + 1) ∧ (qca (f6_init t (t + 1) x) (qmk q t s)).1 (t + 1) = (0, 400) := by
  simp [qca, qmk, f6_init, yb_let, va_up, up2R, nt_1, nt_2, Nat.add_assoc]
theorem sp_2 : (qca (f2_init t (t + 1)) (qmk q t s)).2.1 t 0 = some (t + 1) ∧ (qca (f2_init t (t + 1)) (qmk q t s)).1 (t + 1) = (6, 20) ∧ (qca (f2_init t (t + 1)) (qmk q t s)).2.1 (t + 1) = (fun _ => none) ∧ (qca (f2_init t (t + 1)) (qmk q t s)).2.2.1 t = fun _ => 0 := by
  simp [qca, qmk, f2_init, yb_let, va_up, up2R, nt_1, nt_2, Nat.add_assoc]
theorem sp_1 {x y : Nat} : (qca (f1_init t (t + 1) x y) (qmk q t s)).2.1 t 0 = some x ∧ (qca (f1_init t (t + 1) x y) (qmk q t s)).2.1 t 1 = some y ∧ (qca (f1_init t (t + 1) x y) (qmk q t s)).2.1 t 2 = some (t + 1) ∧ (qca (f1_init t (t + 1) x y) (qmk q t s)).2.1 t 3 = some (t + 2) ∧ (qca (f1_init t (t + 1) x y) (qmk q t s)).1 (t + 1) = (3, 12) ∧ (qca (f1_init t (t + 1) x y) (qmk q t s)).1 (t + 2) = (3, 64) := by
  simp [qca, qmk, f1_init, yb_let, va_up, up2R, nt_1, nt_2, Nat.add_assoc]
theorem sp_7 {x : Nat} : (qca (f7_init t (t + 1) x) (qmk q t s)).2.1 t 0 = some x ∧ (qca (f7_init t (t + 1) x) (qmk q t s)).2.1 t 1 = some (t + 1) ∧ (qca (f7_init t (t + 1) x) (qmk q t s)).2.1 t 2 = some (t + 2) ∧ (qca (f7_init t (t + 1) x) (qmk q t s)).2.1 t 3 = some (t + 3) ∧ (qca (f7_init t (t + 1) x) (qmk q t s)).1 (t + 1) = (0, 7) ∧ (qca (f7_init t (t + 1) x) (qmk q t s)).1 (t + 2) = (0, 61) ∧ (qca (f7_init t (t + 1) x) (qmk q t s)).1 (t + 3) = (0, 101) := by
  simp [qca, qmk, f7_init, yb_let, va_up, up2R, nt_1, nt_2, Nat.add_assoc]
set_option maxHeartbeats 4000000 in
theorem sp_4R {x : Nat} : (qca (f4_init t (t + 1) x) (qmk q t s)).2.1 t 0 = some x ∧ (qca (f4_init t (t + 1) x) (qmk q t s)).2.1 t 1 = some (t + 1) ∧ (qca (f4_init t (t + 1) x) (qmk q t s)).2.1 t 2 = some (t + 2) ∧ (qca (f4_init t (t + 1) x) (qmk q t s)).2.1 t 3 = some (t + 3) ∧ (qca (f4_init t (t + 1) x) (qmk q t s)).2.1 t 4 = some (t + 4) ∧ (qca (f4_init t (t + 1) x) (qmk q t s)).2.1 t 5 = some (t + 5) ∧ (qca (f4_init t (t + 1) x) (qmk q t s)).2.1 t 6 = some (t + 6) ∧ (qca (f4_init t (t + 1) x) (qmk q t s)).2.1 t 7 = some (t + 7) ∧ (qca (f4_init t (t + 1) x) (qmk q t s)).2.1 t 8 = some (t + 8) ∧ (qca (f4_init t (t + 1) x) (qmk q t s)).2.1 t 9 = some (t + 9) ∧ (qca (f4_init t (t + 1) x) (qmk q t s)).2.1 t 10 = some (t + 10) ∧ (qca (f4_init t (t + 1) x) (qmk q t s)).2.1 t 11 = some (t + 11) ∧ (qca (f4_init t (t + 1) x) (qmk q t s)).2.1 t 12 = some (t + 12) ∧ (qca (f4_init t (t + 1) x) (qmk q t s)).2.1 t 13 = some (t + 13) := by
  simp [qca, qmk, f4_init, f4_pre, yb_let, va_up, up2R, nt_1, nt_2, Nat.add_assoc]
set_option maxHeartbeats 4000000 in
theorem sp_4S {x : Nat} : (qca (f4_init t (t + 1) x) (qmk q t s)).1 (t + 1) = (0, 260) ∧ (qca (f4_init t (t + 1) x) (qmk q t s)).1 (t + 2) = (0, 65) ∧ (qca (f4_init t (t + 1) x) (qmk q t s)).1 (t + 3) = (0, 65) ∧ (qca (f4_init t (t + 1) x) (qmk q t s)).1 (t + 4) = (0, 455) ∧ (qca (f4_init t (t + 1) x) (qmk q t s)).1 (t + 5) = (0, 455) ∧ (qca (f4_init t (t + 1) x) (qmk q t s)).1 (t + 6) = (0, 4) ∧ (qca (f4_init t (t + 1) x) (qmk q t s)).1 (t + 7) = (0, 4) ∧ (qca (f4_init t (t + 1) x) (qmk q t s)).1 (t + 8) = (0, 4) ∧ (qca (f4_init t (t + 1) x) (qmk q t s)).1 (t + 9) = (0, 4) ∧ (qca (f4_init t (t + 1) x) (qmk q t s)).1 (t + 10) = (0, 7) ∧ (qca (f4_init t (t + 1) x) (qmk q t s)).1 (t + 11) = (0, 4) ∧ (qca (f4_init t (t + 1) x) (qmk q t s)).1 (t + 12) = (0, 4) ∧ (qca (f4_init t (t + 1) x) (qmk q t s)).1 (t + 13) = (0, 4) ∧ (qca (f4_init t (t + 1) x) (qmk q t s)).1 (t + 14) = (0, 65) := by
  simp [qca, qmk, f4_init, f4_pre, yb_let, va_up, up2R, nt_1, nt_2, Nat.add_assoc]
theorem sp_4I {x : Nat} : (qca (f4_init t (t + 1) x) (qmk q t s)).2.2.1 (t + 1) = (fun k => lo4.getD k 0) ∧ (qca (f4_init t (t + 1) x) (qmk q t s)).2.2.1 (t + 2) = (fun k => sh4.getD k 0) ∧ (qca (f4_init t (t + 1) x) (qmk q t s)).2.2.1 (t + 3) = fun k => la4.getD k 0 := by
  simp [qca, f4_init, T4, end4, Nat.add_assoc]
theorem fI9t {t0 z a : Nat} {S : ST} {Rf : RT} {I : IT} {J : JT} (h : a < z) : (f9_init t0 z S Rf I J).2.2.1 a = I a := by
  have hne : ∀ k, a ≠ z + k := fun k => by omega
  have hn0 : a ≠ z := by omega
  simp [f9_init, yb_let, va_up, hn0, hne]
theorem fI0t {t0 z a : Nat} {S : ST} {Rf : RT} {I : IT} {J : JT} (h : a < z) : (f0_init t0 z S Rf I J).2.2.1 a = I a := by
  have hne : ∀ k, a ≠ z + k := fun k => by omega
  have hn0 : a ≠ z := by omega
  simp [f0_init, yb_let, va_up, hn0, hne]
theorem sp_8I : (qca (f8_init t (t + 1)) (qmk q t (15, 0))).2.2.1 t = upd (fun _ => 0) 6 (-1) ∧ (qca (f8_init t (t + 1)) (qmk q t (15, 0))).2.2.1 (t + 1) = (fun _ => 0) ∧ (qca (f8_init t (t + 1)) (qmk q t (15, 0))).2.2.1 (t + 10) = fun _ => 0 := by
  unfold qca f8_init
  simp only [yb_let]
  refine ⟨?_, ?_, ?_⟩
  · unfold up2
    rw [if_pos rfl, va_up_ne _ _ (by omega), va_up_ne _ _ (by omega), va_up_ne _ _ (by omega), fI0t (by omega), va_up_ne _ _ (by omega), fI9t (by omega), va_up_ne _ _ (by omega)]
    show upd (va_up q.2.2.1 t (fun _ => 0) t) 6 (-1) = _
    rw [va_up_self]
  · rw [up2_ne _ _ _ (by omega), va_up_ne _ _ (by omega), va_up_ne _ _ (by omega), va_up_ne _ _ (by omega), fI0t (by omega), va_up_ne _ _ (by omega), fI9t (by omega), va_up_self]
  · rw [up2_ne _ _ _ (by omega), va_up_ne _ _ (by omega), va_up_ne _ _ (by omega), va_up_ne _ _ (by omega), fI0t (by omega), va_up_self]
theorem sp_8 : StateAt (apn [] t 23) (qca (f8_init t (t + 1)) (qmk q t (15, 0))).1 (qca (f8_init t (t + 1)) (qmk q t (15, 0))).2.1 t := nwS_at (z := t) (S := q.1) (Rf := q.2.1) (I := q.2.2.1) (J := q.2.2.2) []
theorem sp_0 : CourseAt (apn [] t 10) (qca (f0_init t (t + 1)) (qmk q t (7, 0))).1 (qca (f0_init t (t + 1)) (qmk q t (7, 0))).2.1 t := nwC_at (z := t) (S := q.1) (Rf := q.2.1) (I := q.2.2.1) (J := q.2.2.2) []
theorem sp_9 : ∀ j, j < 8 → (qca (f9_init t (t + 1)) (qmk q t s)).2.1 t j = some (t + 1 + j) ∧ (qca (f9_init t (t + 1)) (qmk q t s)).1 (t + 1 + j) = (0, [7, 7, 7, 7, 6, 6, 6, 6].getD j 0) := f9_at (by omega)
end INI
def iq0 (b : Nat) : Qd := (va_up (fun _ => (0, 0)) b (18, 0), va_up (fun _ _ => none) b (fun _ => none), va_up (fun _ _ => 0) b (fun _ => 0), va_up (fun _ _ => 0) b (fun _ => 0))
def iq1 (b : Nat) : Qd := qpt (qca qid (qmk (iq0 b) (b + 1) (0, 400))) b 0 (b + 1)
def iq2 (b : Nat) : Qd := qpt (qca (f3_init (b + 2) (b + 3) (b + 1)) (qmk (iq1 b) (b + 2) (10, 0))) b 1 (b + 2)
def iq3 (b : Nat) : Qd := qpt (qca qid (qmk (iq2 b) (b + 3) (4, 6))) b 2 (b + 3)
def iq4 (b : Nat) : Qd := qpt (qca (f8_init (b + 4) (b + 5)) (qmk (iq3 b) (b + 4) (15, 0))) b 3 (b + 4)
def iq5 (b : Nat) : Qd := qpt (qca qid (qmk (iq4 b) (b + 27) (5, 4))) b 4 (b + 27)
def iq6 (b : Nat) : Qd := qpt (qca (f2_init (b + 28) (b + 29)) (qmk (iq5 b) (b + 28) (9, 0))) b 5 (b + 28)
def iq7 (b : Nat) : Qd := qpt (qca (f1_init (b + 30) (b + 31) (b + 4) (b + 3)) (qmk (iq6 b) (b + 30) (8, 0))) b 6 (b + 30)
def iq8 (b : Nat) : Qd := qpt (qca (f4_init (b + 33) (b + 34) (b + 30)) (qmk (iq7 b) (b + 33) (11, 0))) b 7 (b + 33)
def iq9 (b : Nat) : Qd := qpt (qca (f7_init (b + 48) (b + 49) (b + 30)) (qmk (iq8 b) (b + 48) (14, 0))) b 8 (b + 48)
def iq10 (b : Nat) : Qd := qpt (qca (f9_init (b + 52) (b + 53)) (qmk (iq9 b) (b + 52) (16, 0))) b 9 (b + 52)
def iq11 (b : Nat) : Qd := qpt (qca (f10_init (b + 61) (b + 62) (b + 2) (b + 52)) (qmk (iq10 b) (b + 61) (17, 0))) b 10 (b + 61)
def iq12 (b : Nat) : Qd := qpt (qca (f6_init (b + 62) (b + 63) (b + 2)) (qmk (iq11 b) (b + 62) (13, 0))) b 11 (b + 62)
def iq13 (b : Nat) : Qd := qpt (qca (f0_init (b + 64) (b + 65)) (qmk (iq12 b) (b + 64) (7, 0))) b 12 (b + 64)
def iq14 (b : Nat) : Qd := qpt (qca qid (qmk (iq13 b) (b + 74) (0, 7))) b 13 (b + 74)
set_option maxRecDepth 100000 in
set_option maxHeartbeats 4000000 in
theorem ini1_Q (b : Nat) : ini1 b = qfn b (iq14 b) := rfl
section INI2
variable (b : Nat)
theorem ik1 : Kp b (b + 1) (iq0 b) (iq1 b) ∧ (iq1 b).2.1 b = va_up ((iq0 b).2.1 b) 0 (some (b + 1)) ∧ (iq1 b).1 (b + 1) = (0, 400) := stg (f := qid) (iq0 b) (by omega) (FrQd.id _)
theorem ik2 : Kp b (b + 2) (iq1 b) (iq2 b) ∧ (iq2 b).2.1 b = va_up ((iq1 b).2.1 b) 1 (some (b + 2)) ∧ (iq2 b).1 (b + 2) = (10, 0) := stg (f := (f3_init (b + 2) (b + 3) (b + 1))) (iq1 b) (by omega) (fun _ _ _ _ a h => fr3 a h)
theorem ik3 : Kp b (b + 3) (iq2 b) (iq3 b) ∧ (iq3 b).2.1 b = va_up ((iq2 b).2.1 b) 2 (some (b + 3)) ∧ (iq3 b).1 (b + 3) = (4, 6) := stg (f := qid) (iq2 b) (by omega) (FrQd.id _)
theorem ik4 : Kp b (b + 4) (iq3 b) (iq4 b) ∧ (iq4 b).2.1 b = va_up ((iq3 b).2.1 b) 3 (some (b + 4)) ∧ (iq4 b).1 (b + 4) = (15, 0) := stg (f := (f8_init (b + 4) (b + 5))) (iq3 b) (by omega) (fun _ _ _ _ a h => fr8 a h)
theorem ik5 : Kp b (b + 27) (iq4 b) (iq5 b) ∧ (iq5 b).2.1 b = va_up ((iq4 b).2.1 b) 4 (some (b + 27)) ∧ (iq5 b).1 (b + 27) = (5, 4) := stg (f := qid) (iq4 b) (by omega) (FrQd.id _)
theorem ik6 : Kp b (b + 28) (iq5 b) (iq6 b) ∧ (iq6 b).2.1 b = va_up ((iq5 b).2.1 b) 5 (some (b + 28)) ∧ (iq6 b).1 (b + 28) = (9, 0) := stg (f := (f2_init (b + 28) (b + 29))) (iq5 b) (by omega) (fun _ _ _ _ a h => fr2 a h)
theorem ik7 : Kp b (b + 30) (iq6 b) (iq7 b) ∧ (iq7 b).2.1 b = va_up ((iq6 b).2.1 b) 6 (some (b + 30)) ∧ (iq7 b).1 (b + 30) = (8, 0) := stg (f := (f1_init (b + 30) (b + 31) (b + 4) (b + 3))) (iq6 b) (by omega) (fun _ _ _ _ a h => fr1 a h)
theorem ik8 : Kp b (b + 33) (iq7 b) (iq8 b) ∧ (iq8 b).2.1 b = va_up ((iq7 b).2.1 b) 7 (some (b + 33)) ∧ (iq8 b).1 (b + 33) = (11, 0) := stg (f := (f4_init (b + 33) (b + 34) (b + 30))) (iq7 b) (by omega) (fun _ _ _ _ a h => fr4 a h)
theorem ik9 : Kp b (b + 48) (iq8 b) (iq9 b) ∧ (iq9 b).2.1 b = va_up ((iq8 b).2.1 b) 8 (some (b + 48)) ∧ (iq9 b).1 (b + 48) = (14, 0) := stg (f := (f7_init (b + 48) (b + 49) (b + 30))) (iq8 b) (by omega) (fun _ _ _ _ a h => fr7 a h)
theorem ik10 : Kp b (b + 52) (iq9 b) (iq10 b) ∧ (iq10 b).2.1 b = va_up ((iq9 b).2.1 b) 9 (some (b + 52)) ∧ (iq10 b).1 (b + 52) = (16, 0) := stg (f := (f9_init (b + 52) (b + 53))) (iq9 b) (by omega) (fun _ _ _ _ a h => fr9 a h)
theorem ik11 : Kp b (b + 61) (iq10 b) (iq11 b) ∧ (iq11 b).2.1 b = va_up ((iq10 b).2.1 b) 10 (some (b + 61)) ∧ (iq11 b).1 (b + 61) = (17, 0) := stg (f := (f10_init (b + 61) (b + 62) (b + 2) (b + 52))) (iq10 b) (by omega) (fun _ _ _ _ a h => fr10 a h)
theorem ik12 : Kp b (b + 62) (iq11 b) (iq12 b) ∧ (iq12 b).2.1 b = va_up ((iq11 b).2.1 b) 11 (some (b + 62)) ∧ (iq12 b).1 (b + 62) = (13, 0) := stg (f := (f6_init (b + 62) (b + 63) (b + 2))) (iq11 b) (by omega) (fun _ _ _ _ a h => fr6 a h)
theorem ik13 : Kp b (b + 64) (iq12 b) (iq13 b) ∧ (iq13 b).2.1 b = va_up ((iq12 b).2.1 b) 12 (some (b + 64)) ∧ (iq13 b).1 (b + 64) = (7, 0) := stg (f := (f0_init (b + 64) (b + 65))) (iq12 b) (by omega) (fun _ _ _ _ a h => fr0 a h)
theorem ik14 : Kp b (b + 74) (iq13 b) (iq14 b) ∧ (iq14 b).2.1 b = va_up ((iq13 b).2.1 b) 13 (some (b + 74)) ∧ (iq14 b).1 (b + 74) = (0, 7) := stg (f := qid) (iq13 b) (by omega) (FrQd.id _)
theorem jk14 : Kp b (b + 75) (iq14 b) (iq14 b) := Kp.rf _ _ _
theorem jk13 : Kp b (b + 74) (iq13 b) (iq14 b) := (ik14 b).1.tr (jk14 b) (by omega)
theorem jk12 : Kp b (b + 64) (iq12 b) (iq14 b) := (ik13 b).1.tr (jk13 b) (by omega)
theorem jk11 : Kp b (b + 62) (iq11 b) (iq14 b) := (ik12 b).1.tr (jk12 b) (by omega)
theorem jk10 : Kp b (b + 61) (iq10 b) (iq14 b) := (ik11 b).1.tr (jk11 b) (by omega)
theorem jk9 : Kp b (b + 52) (iq9 b) (iq14 b) := (ik10 b).1.tr (jk10 b) (by omega)
theorem jk8 : Kp b (b + 48) (iq8 b) (iq14 b) := (ik9 b).1.tr (jk9 b) (by omega)
theorem jk7 : Kp b (b + 33) (iq7 b) (iq14 b) := (ik8 b).1.tr (jk8 b) (by omega)
theorem jk6 : Kp b (b + 30) (iq6 b) (iq14 b) := (ik7 b).1.tr (jk7 b) (by omega)
theorem jk5 : Kp b (b + 28) (iq5 b) (iq14 b) := (ik6 b).1.tr (jk6 b) (by omega)
theorem jk4 : Kp b (b + 27) (iq4 b) (iq14 b) := (ik5 b).1.tr (jk5 b) (by omega)
theorem jk3 : Kp b (b + 4) (iq3 b) (iq14 b) := (ik4 b).1.tr (jk4 b) (by omega)
theorem jk2 : Kp b (b + 3) (iq2 b) (iq14 b) := (ik3 b).1.tr (jk3 b) (by omega)
theorem jk1 : Kp b (b + 2) (iq1 b) (iq14 b) := (ik2 b).1.tr (jk2 b) (by omega)
theorem jk0 : Kp b (b + 1) (iq0 b) (iq14 b) := (ik1 b).1.tr (jk1 b) (by omega)
theorem iRb : (iq14 b).2.1 b = va_up (va_up (va_up (va_up (va_up (va_up (va_up (va_up (va_up (va_up (va_up (va_up (va_up (va_up ((iq0 b).2.1 b) 0 (some (b + 1))) 1 (some (b + 2))) 2 (some (b + 3))) 3 (some (b + 4))) 4 (some (b + 27))) 5 (some (b + 28))) 6 (some (b + 30))) 7 (some (b + 33))) 8 (some (b + 48))) 9 (some (b + 52))) 10 (some (b + 61))) 11 (some (b + 62))) 12 (some (b + 64))) 13 (some (b + 74)) := by
  rw [(ik14 b).2.1, (ik13 b).2.1, (ik12 b).2.1, (ik11 b).2.1, (ik10 b).2.1, (ik9 b).2.1, (ik8 b).2.1, (ik7 b).2.1, (ik6 b).2.1, (ik5 b).2.1, (ik4 b).2.1, (ik3 b).2.1, (ik2 b).2.1, (ik1 b).2.1]
theorem iS : ∀ k, k < 75 → (iq14 b).1 (b + k) = clT.getD k (0, 0)
  | 0, _ => (jk0 b b (by omega)).1.trans (show va_up (fun _ => ((0 : Nat), (0 : Nat))) b (18, 0) b = (18, 0) from va_up_self _ _ _)
  | 1, _ => (jk1 b (b + 1) (by omega)).1.trans (ik1 b).2.2
  | 2, _ => (jk2 b (b + 2) (by omega)).1.trans (ik2 b).2.2
  | 3, _ => (jk3 b (b + 3) (by omega)).1.trans (ik3 b).2.2
  | 4, _ => (jk4 b (b + 4) (by omega)).1.trans (ik4 b).2.2
  | 5, _ => (jk4 b (b + 5) (by omega)).1.trans (sp_8 (t := b + 4)).2.1.2.1.2
  | 6, _ => (jk4 b (b + 6) (by omega)).1.trans ((sp_8 (t := b + 4)).2.1.2.2 0 (by decide)).2.2
  | 7, _ => (jk4 b (b + 7) (by omega)).1.trans ((sp_8 (t := b + 4)).2.1.2.2 1 (by decide)).2.2
  | 8, _ => (jk4 b (b + 8) (by omega)).1.trans ((sp_8 (t := b + 4)).2.1.2.2 2 (by decide)).2.2
  | 9, _ => (jk4 b (b + 9) (by omega)).1.trans ((sp_8 (t := b + 4)).2.1.2.2 3 (by decide)).2.2
  | 10, _ => (jk4 b (b + 10) (by omega)).1.trans ((sp_8 (t := b + 4)).2.1.2.2 4 (by decide)).2.2
  | 11, _ => (jk4 b (b + 11) (by omega)).1.trans ((sp_8 (t := b + 4)).2.1.2.2 5 (by decide)).2.2
  | 12, _ => (jk4 b (b + 12) (by omega)).1.trans ((sp_8 (t := b + 4)).2.1.2.2 6 (by decide)).2.2
  | 13, _ => (jk4 b (b + 13) (by omega)).1.trans ((sp_8 (t := b + 4)).2.1.2.2 7 (by decide)).2.2
  | 14, _ => (jk4 b (b + 14) (by omega)).1.trans (sp_8 (t := b + 4)).2.2.1.2.1.2
  | 15, _ => (jk4 b (b + 15) (by omega)).1.trans ((sp_8 (t := b + 4)).2.2.1.2.2 0 (by decide)).2.2
  | 16, _ => (jk4 b (b + 16) (by omega)).1.trans ((sp_8 (t := b + 4)).2.2.1.2.2 1 (by decide)).2.2
  | 17, _ => (jk4 b (b + 17) (by omega)).1.trans ((sp_8 (t := b + 4)).2.2.1.2.2 2 (by decide)).2.2
  | 18, _ => (jk4 b (b + 18) (by omega)).1.trans ((sp_8 (t := b + 4)).2.2.1.2.2 3 (by decide)).2.2
  | 19, _ => (jk4 b (b + 19) (by omega)).1.trans ((sp_8 (t := b + 4)).2.2.1.2.2 4 (by decide)).2.2
  | 20, _ => (jk4 b (b + 20) (by omega)).1.trans ((sp_8 (t := b + 4)).2.2.1.2.2 5 (by decide)).2.2
  | 21, _ => (jk4 b (b + 21) (by omega)).1.trans ((sp_8 (t := b + 4)).2.2.1.2.2 6 (by decide)).2.2
  | 22, _ => (jk4 b (b + 22) (by omega)).1.trans ((sp_8 (t := b + 4)).2.2.1.2.2 7 (by decide)).2.2
  | 23, _ => (jk4 b (b + 23) (by omega)).1.trans ((sp_8 (t := b + 4)).2.2.1.2.2 8 (by decide)).2.2
  | 24, _ => (jk4 b (b + 24) (by omega)).1.trans ((sp_8 (t := b + 4)).2.2.2 0 (by decide)).2.2
  | 25, _ => (jk4 b (b + 25) (by omega)).1.trans ((sp_8 (t := b + 4)).2.2.2 1 (by decide)).2.2
  | 26, _ => (jk4 b (b + 26) (by omega)).1.trans ((sp_8 (t := b + 4)).2.2.2 2 (by decide)).2.2
  | 27, _ => (jk5 b (b + 27) (by omega)).1.trans (ik5 b).2.2
  | 28, _ => (jk6 b (b + 28) (by omega)).1.trans (ik6 b).2.2
  | 29, _ => (jk6 b (b + 29) (by omega)).1.trans (sp_2 (t := b + 28)).2.1
  | 30, _ => (jk7 b (b + 30) (by omega)).1.trans (ik7 b).2.2
  | 31, _ => (jk7 b (b + 31) (by omega)).1.trans (sp_1 (t := b + 30) (x := b + 4) (y := b + 3)).2.2.2.2.1
  | 32, _ => (jk7 b (b + 32) (by omega)).1.trans (sp_1 (t := b + 30) (x := b + 4) (y := b + 3)).2.2.2.2.2
  | 33, _ => (jk8 b (b + 33) (by omega)).1.trans (ik8 b).2.2
  | 34, _ => (jk8 b (b + 34) (by omega)).1.trans (sp_4S (t := b + 33) (x := b + 30)).1
  | 35, _ => (jk8 b (b + 35) (by omega)).1.trans (sp_4S (t := b + 33) (x := b + 30)).2.1
  | 36, _ => (jk8 b (b + 36) (by omega)).1.trans (sp_4S (t := b + 33) (x := b + 30)).2.2.1
  | 37, _ => (jk8 b (b + 37) (by omega)).1.trans (sp_4S (t := b + 33) (x := b + 30)).2.2.2.1
  | 38, _ => (jk8 b (b + 38) (by omega)).1.trans (sp_4S (t := b + 33) (x := b + 30)).2.2.2.2.1
  | 39, _ => (jk8 b (b + 39) (by omega)).1.trans (sp_4S (t := b + 33) (x := b + 30)).2.2.2.2.2.1
  | 40, _ => (jk8 b (b + 40) (by omega)).1.trans (sp_4S (t := b + 33) (x := b + 30)).2.2.2.2.2.2.1
  | 41, _ => (jk8 b (b + 41) (by omega)).1.trans (sp_4S (t := b + 33) (x := b + 30)).2.2.2.2.2.2.2.1
  | 42, _ => (jk8 b (b + 42) (by omega)).1.trans (sp_4S (t := b + 33) (x := b + 30)).2.2.2.2.2.2.2.2.1
  | 43, _ => (jk8 b (b + 43) (by omega)).1.trans (sp_4S (t := b + 33) (x := b + 30)).2.2.2.2.2.2.2.2.2.1
  | 44, _ => (jk8 b (b + 44) (by omega)).1.trans (sp_4S (t := b + 33) (x := b + 30)).2.2.2.2.2.2.2.2.2.2.1
  | 45, _ => (jk8 b (b + 45) (by omega)).1.trans (sp_4S (t := b + 33) (x := b + 30)).2.2.2.2.2.2.2.2.2.2.2.1
  | 46, _ => (jk8 b (b + 46) (by omega)).1.trans (sp_4S (t := b + 33) (x := b + 30)).2.2.2.2.2.2.2.2.2.2.2.2.1
  | 47, _ => (jk8 b (b + 47) (by omega)).1.trans (sp_4S (t := b + 33) (x := b + 30)).2.2.2.2.2.2.2.2.2.2.2.2.2
  | 48, _ => (jk9 b (b + 48) (by omega)).1.trans (ik9 b).2.2
  | 49, _ => (jk9 b (b + 49) (by omega)).1.trans (sp_7 (t := b + 48) (x := b + 30)).2.2.2.2.1
  | 50, _ => (jk9 b (b + 50) (by omega)).1.trans (sp_7 (t := b + 48) (x := b + 30)).2.2.2.2.2.1
  | 51, _ => (jk9 b (b + 51) (by omega)).1.trans (sp_7 (t := b + 48) (x := b + 30)).2.2.2.2.2.2
  | 52, _ => (jk10 b (b + 52) (by omega)).1.trans (ik10 b).2.2
  | 53, _ => (jk10 b (b + 53) (by omega)).1.trans (sp_9 (t := b + 52) 0 (by decide)).2
  | 54, _ => (jk10 b (b + 54) (by omega)).1.trans (sp_9 (t := b + 52) 1 (by decide)).2
  | 55, _ => (jk10 b (b + 55) (by omega)).1.trans (sp_9 (t := b + 52) 2 (by decide)).2
  | 56, _ => (jk10 b (b + 56) (by omega)).1.trans (sp_9 (t := b + 52) 3 (by decide)).2
  | 57, _ => (jk10 b (b + 57) (by omega)).1.trans (sp_9 (t := b + 52) 4 (by decide)).2
  | 58, _ => (jk10 b (b + 58) (by omega)).1.trans (sp_9 (t := b + 52) 5 (by decide)).2
  | 59, _ => (jk10 b (b + 59) (by omega)).1.trans (sp_9 (t := b + 52) 6 (by decide)).2
  | 60, _ => (jk10 b (b + 60) (by omega)).1.trans (sp_9 (t := b + 52) 7 (by decide)).2
  | 61, _ => (jk11 b (b + 61) (by omega)).1.trans (ik11 b).2.2
  | 62, _ => (jk12 b (b + 62) (by omega)).1.trans (ik12 b).2.2
  | 63, _ => (jk12 b (b + 63) (by omega)).1.trans (sp_6 (t := b + 62) (x := b + 2)).2.2
  | 64, _ => (jk13 b (b + 64) (by omega)).1.trans (ik13 b).2.2
  | 65, _ => (jk13 b (b + 65) (by omega)).1.trans ((sp_0 (t := b + 64)).2 0 (by decide)).2.2
  | 66, _ => (jk13 b (b + 66) (by omega)).1.trans ((sp_0 (t := b + 64)).2 1 (by decide)).2.2
  | 67, _ => (jk13 b (b + 67) (by omega)).1.trans ((sp_0 (t := b + 64)).2 2 (by decide)).2.2
  | 68, _ => (jk13 b (b + 68) (by omega)).1.trans ((sp_0 (t := b + 64)).2 3 (by decide)).2.2
  | 69, _ => (jk13 b (b + 69) (by omega)).1.trans ((sp_0 (t := b + 64)).2 4 (by decide)).2.2
  | 70, _ => (jk13 b (b + 70) (by omega)).1.trans ((sp_0 (t := b + 64)).2 5 (by decide)).2.2
  | 71, _ => (jk13 b (b + 71) (by omega)).1.trans ((sp_0 (t := b + 64)).2 6 (by decide)).2.2
  | 72, _ => (jk13 b (b + 72) (by omega)).1.trans ((sp_0 (t := b + 64)).2 7 (by decide)).2.2
  | 73, _ => (jk13 b (b + 73) (by omega)).1.trans ((sp_0 (t := b + 64)).2 8 (by decide)).2.2
  | 74, _ => (jk14 b (b + 74) (by omega)).1.trans (ik14 b).2.2
  | k + 75, h => absurd h (by omega)
theorem zr (l : List Nat) (n : Nat) (h : l.drop n = List.replicate (l.length - n) 0) (j : Nat) : l.getD (j + n) 0 = 0 := by
  have e : l[j + n]? = (l.drop n)[j]? := by rw [List.getElem?_drop, Nat.add_comm]
  rw [List.getD_eq_getElem?_getD, e, h, List.getElem?_replicate]
  split <;> rfl
theorem iR : ∀ k j, k < 75 → (clF.getD k []).getD j 0 ≠ 0 → (iq14 b).2.1 (b + k) j = some (b + (clF.getD k []).getD j 0)
  | 0, 0, _, _ => (congrFun (iRb b) 0).trans rfl
  | 0, 1, _, _ => (congrFun (iRb b) 1).trans rfl
  | 0, 2, _, _ => (congrFun (iRb b) 2).trans rfl
  | 0, 3, _, _ => (congrFun (iRb b) 3).trans rfl
  | 0, 4, _, _ => (congrFun (iRb b) 4).trans rfl
  | 0, 5, _, _ => (congrFun (iRb b) 5).trans rfl
  | 0, 6, _, _ => (congrFun (iRb b) 6).trans rfl
  | 0, 7, _, _ => (congrFun (iRb b) 7).trans rfl
  | 0, 8, _, _ => (congrFun (iRb b) 8).trans rfl
  | 0, 9, _, _ => (congrFun (iRb b) 9).trans rfl
  | 0, 10, _, _ => (congrFun (iRb b) 10).trans rfl
  | 0, 11, _, _ => (congrFun (iRb b) 11).trans rfl
  | 0, 12, _, _ => (congrFun (iRb b) 12).trans rfl
  | 0, 13, _, _ => (congrFun (iRb b) 13).trans rfl
  | 0, j + 14, _, h => absurd (zr (clF.getD 0 []) 14 (by decide) j) h
  | 1, j, _, h => absurd rfl h
  | 2, 0, _, _ => (congrFun (((jk2 b (b + 2) (by omega)).2.2 (by omega)).trans (qR (by omega))) 0).trans (sp_3 (t := b + 2) (x := b + 1))
  | 2, j + 1, _, h => absurd (zr (clF.getD 2 []) 1 (by decide) j) h
  | 3, j, _, h => absurd rfl h
  | 4, 0, _, _ => (congrFun (((jk4 b (b + 4) (by omega)).2.2 (by omega)).trans (qR (by omega))) 0).trans (sp_8 (t := b + 4)).2.1.1
  | 4, 1, _, _ => (congrFun (((jk4 b (b + 4) (by omega)).2.2 (by omega)).trans (qR (by omega))) 1).trans (sp_8 (t := b + 4)).2.2.1.1
  | 4, 2, _, _ => (congrFun (((jk4 b (b + 4) (by omega)).2.2 (by omega)).trans (qR (by omega))) 2).trans ((sp_8 (t := b + 4)).2.2.2 0 (by decide)).1
  | 4, 3, _, _ => (congrFun (((jk4 b (b + 4) (by omega)).2.2 (by omega)).trans (qR (by omega))) 3).trans ((sp_8 (t := b + 4)).2.2.2 1 (by decide)).1
  | 4, 4, _, _ => (congrFun (((jk4 b (b + 4) (by omega)).2.2 (by omega)).trans (qR (by omega))) 4).trans ((sp_8 (t := b + 4)).2.2.2 2 (by decide)).1
  | 4, j + 5, _, h => absurd (zr (clF.getD 4 []) 5 (by decide) j) h
  | 5, 0, _, _ => (congrFun (((jk4 b (b + 5) (by omega)).2.2 (by omega)).trans (qR (by omega))) 0).trans ((sp_8 (t := b + 4)).2.1.2.2 0 (by decide)).1
  | 5, 1, _, _ => (congrFun (((jk4 b (b + 5) (by omega)).2.2 (by omega)).trans (qR (by omega))) 1).trans ((sp_8 (t := b + 4)).2.1.2.2 1 (by decide)).1
  | 5, 2, _, _ => (congrFun (((jk4 b (b + 5) (by omega)).2.2 (by omega)).trans (qR (by omega))) 2).trans ((sp_8 (t := b + 4)).2.1.2.2 2 (by decide)).1
  | 5, 3, _, _ => (congrFun (((jk4 b (b + 5) (by omega)).2.2 (by omega)).trans (qR (by omega))) 3).trans ((sp_8 (t := b + 4)).2.1.2.2 3 (by decide)).1
  | 5, 4, _, _ => (congrFun (((jk4 b (b + 5) (by omega)).2.2 (by omega)).trans (qR (by omega))) 4).trans ((sp_8 (t := b + 4)).2.1.2.2 4 (by decide)).1
  | 5, 5, _, _ => (congrFun (((jk4 b (b + 5) (by omega)).2.2 (by omega)).trans (qR (by omega))) 5).trans ((sp_8 (t := b + 4)).2.1.2.2 5 (by decide)).1
  | 5, 6, _, _ => (congrFun (((jk4 b (b + 5) (by omega)).2.2 (by omega)).trans (qR (by omega))) 6).trans ((sp_8 (t := b + 4)).2.1.2.2 6 (by decide)).1
  | 5, 7, _, _ => (congrFun (((jk4 b (b + 5) (by omega)).2.2 (by omega)).trans (qR (by omega))) 7).trans ((sp_8 (t := b + 4)).2.1.2.2 7 (by decide)).1
  | 5, j + 8, _, h => absurd (zr (clF.getD 5 []) 8 (by decide) j) h
  | 6, j, _, h => absurd rfl h
  | 7, j, _, h => absurd rfl h
  | 8, j, _, h => absurd rfl h
  | 9, j, _, h => absurd rfl h
  | 10, j, _, h => absurd rfl h
  | 11, j, _, h => absurd rfl h
  | 12, j, _, h => absurd rfl h
  | 13, j, _, h => absurd rfl h
  | 14, 0, _, _ => (congrFun (((jk4 b (b + 14) (by omega)).2.2 (by omega)).trans (qR (by omega))) 0).trans ((sp_8 (t := b + 4)).2.2.1.2.2 0 (by decide)).1
  | 14, 1, _, _ => (congrFun (((jk4 b (b + 14) (by omega)).2.2 (by omega)).trans (qR (by omega))) 1).trans ((sp_8 (t := b + 4)).2.2.1.2.2 1 (by decide)).1
  | 14, 2, _, _ => (congrFun (((jk4 b (b + 14) (by omega)).2.2 (by omega)).trans (qR (by omega))) 2).trans ((sp_8 (t := b + 4)).2.2.1.2.2 2 (by decide)).1
  | 14, 3, _, _ => (congrFun (((jk4 b (b + 14) (by omega)).2.2 (by omega)).trans (qR (by omega))) 3).trans ((sp_8 (t := b + 4)).2.2.1.2.2 3 (by decide)).1
  | 14, 4, _, _ => (congrFun (((jk4 b (b + 14) (by omega)).2.2 (by omega)).trans (qR (by omega))) 4).trans ((sp_8 (t := b + 4)).2.2.1.2.2 4 (by decide)).1
  | 14, 5, _, _ => (congrFun (((jk4 b (b + 14) (by omega)).2.2 (by omega)).trans (qR (by omega))) 5).trans ((sp_8 (t := b + 4)).2.2.1.2.2 5 (by decide)).1
  | 14, 6, _, _ => (congrFun (((jk4 b (b + 14) (by omega)).2.2 (by omega)).trans (qR (by omega))) 6).trans ((sp_8 (t := b + 4)).2.2.1.2.2 6 (by decide)).1
  | 14, 7, _, _ => (congrFun (((jk4 b (b + 14) (by omega)).2.2 (by omega)).trans (qR (by omega))) 7).trans ((sp_8 (t := b + 4)).2.2.1.2.2 7 (by decide)).1
  | 14, 8, _, _ => (congrFun (((jk4 b (b + 14) (by omega)).2.2 (by omega)).trans (qR (by omega))) 8).trans ((sp_8 (t := b + 4)).2.2.1.2.2 8 (by decide)).1
  | 14, j + 9, _, h => absurd (zr (clF.getD 14 []) 9 (by decide) j) h
  | 15, j, _, h => absurd rfl h
  | 16, j, _, h => absurd rfl h
  | 17, j, _, h => absurd rfl h
  | 18, j, _, h => absurd rfl h
  | 19, j, _, h => absurd rfl h
  | 20, j, _, h => absurd rfl h
  | 21, j, _, h => absurd rfl h
  | 22, j, _, h => absurd rfl h
  | 23, j, _, h => absurd rfl h
  | 24, j, _, h => absurd rfl h
  | 25, j, _, h => absurd rfl h
  | 26, j, _, h => absurd rfl h
  | 27, j, _, h => absurd rfl h
  | 28, 0, _, _ => (congrFun (((jk6 b (b + 28) (by omega)).2.2 (by omega)).trans (qR (by omega))) 0).trans (sp_2 (t := b + 28)).1
  | 28, j + 1, _, h => absurd (zr (clF.getD 28 []) 1 (by decide) j) h
  | 29, j, _, h => absurd rfl h
  | 30, 0, _, _ => (congrFun (((jk7 b (b + 30) (by omega)).2.2 (by omega)).trans (qR (by omega))) 0).trans (sp_1 (t := b + 30) (x := b + 4) (y := b + 3)).1
  | 30, 1, _, _ => (congrFun (((jk7 b (b + 30) (by omega)).2.2 (by omega)).trans (qR (by omega))) 1).trans (sp_1 (t := b + 30) (x := b + 4) (y := b + 3)).2.1
  | 30, 2, _, _ => (congrFun (((jk7 b (b + 30) (by omega)).2.2 (by omega)).trans (qR (by omega))) 2).trans (sp_1 (t := b + 30) (x := b + 4) (y := b + 3)).2.2.1
  | 30, 3, _, _ => (congrFun (((jk7 b (b + 30) (by omega)).2.2 (by omega)).trans (qR (by omega))) 3).trans (sp_1 (t := b + 30) (x := b + 4) (y := b + 3)).2.2.2.1
  | 30, j + 4, _, h => absurd (zr (clF.getD 30 []) 4 (by decide) j) h
  | 31, j, _, h => absurd rfl h
  | 32, j, _, h => absurd rfl h
  | 33, 0, _, _ => (congrFun (((jk8 b (b + 33) (by omega)).2.2 (by omega)).trans (qR (by omega))) 0).trans (sp_4R (t := b + 33) (x := b + 30)).1
  | 33, 1, _, _ => (congrFun (((jk8 b (b + 33) (by omega)).2.2 (by omega)).trans (qR (by omega))) 1).trans (sp_4R (t := b + 33) (x := b + 30)).2.1
  | 33, 2, _, _ => (congrFun (((jk8 b (b + 33) (by omega)).2.2 (by omega)).trans (qR (by omega))) 2).trans (sp_4R (t := b + 33) (x := b + 30)).2.2.1
  | 33, 3, _, _ => (congrFun (((jk8 b (b + 33) (by omega)).2.2 (by omega)).trans (qR (by omega))) 3).trans (sp_4R (t := b + 33) (x := b + 30)).2.2.2.1
  | 33, 4, _, _ => (congrFun (((jk8 b (b + 33) (by omega)).2.2 (by omega)).trans (qR (by omega))) 4).trans (sp_4R (t := b + 33) (x := b + 30)).2.2.2.2.1
  | 33, 5, _, _ => (congrFun (((jk8 b (b + 33) (by omega)).2.2 (by omega)).trans (qR (by omega))) 5).trans (sp_4R (t := b + 33) (x := b + 30)).2.2.2.2.2.1
  | 33, 6, _, _ => (congrFun (((jk8 b (b + 33) (by omega)).2.2 (by omega)).trans (qR (by omega))) 6).trans (sp_4R (t := b + 33) (x := b + 30)).2.2.2.2.2.2.1
  | 33, 7, _, _ => (congrFun (((jk8 b (b + 33) (by omega)).2.2 (by omega)).trans (qR (by omega))) 7).trans (sp_4R (t := b + 33) (x := b + 30)).2.2.2.2.2.2.2.1
  | 33, 8, _, _ => (congrFun (((jk8 b (b + 33) (by omega)).2.2 (by omega)).trans (qR (by omega))) 8).trans (sp_4R (t := b + 33) (x := b + 30)).2.2.2.2.2.2.2.2.1
  | 33, 9, _, _ => (congrFun (((jk8 b (b + 33) (by omega)).2.2 (by omega)).trans (qR (by omega))) 9).trans (sp_4R (t := b + 33) (x := b + 30)).2.2.2.2.2.2.2.2.2.1
  | 33, 10, _, _ => (congrFun (((jk8 b (b + 33) (by omega)).2.2 (by omega)).trans (qR (by omega))) 10).trans (sp_4R (t := b + 33) (x := b + 30)).2.2.2.2.2.2.2.2.2.2.1
  | 33, 11, _, _ => (congrFun (((jk8 b (b + 33) (by omega)).2.2 (by omega)).trans (qR (by omega))) 11).trans (sp_4R (t := b + 33) (x := b + 30)).2.2.2.2.2.2.2.2.2.2.2.1
  | 33, 12, _, _ => (congrFun (((jk8 b (b + 33) (by omega)).2.2 (by omega)).trans (qR (by omega))) 12).trans (sp_4R (t := b + 33) (x := b + 30)).2.2.2.2.2.2.2.2.2.2.2.2.1
  | 33, 13, _, _ => (congrFun (((jk8 b (b + 33) (by omega)).2.2 (by omega)).trans (qR (by omega))) 13).trans (sp_4R (t := b + 33) (x := b + 30)).2.2.2.2.2.2.2.2.2.2.2.2.2
  | 33, j + 14, _, h => absurd (zr (clF.getD 33 []) 14 (by decide) j) h
  | 34, j, _, h => absurd rfl h
  | 35, j, _, h => absurd rfl h
  | 36, j, _, h => absurd rfl h
  | 37, j, _, h => absurd rfl h
  | 38, j, _, h => absurd rfl h
  | 39, j, _, h => absurd rfl h
  | 40, j, _, h => absurd rfl h
  | 41, j, _, h => absurd rfl h
  | 42, j, _, h => absurd rfl h
  | 43, j, _, h => absurd rfl h
  | 44, j, _, h => absurd rfl h
  | 45, j, _, h => absurd rfl h
  | 46, j, _, h => absurd rfl h
  | 47, j, _, h => absurd rfl h
  | 48, 0, _, _ => (congrFun (((jk9 b (b + 48) (by omega)).2.2 (by omega)).trans (qR (by omega))) 0).trans (sp_7 (t := b + 48) (x := b + 30)).1
  | 48, 1, _, _ => (congrFun (((jk9 b (b + 48) (by omega)).2.2 (by omega)).trans (qR (by omega))) 1).trans (sp_7 (t := b + 48) (x := b + 30)).2.1
  | 48, 2, _, _ => (congrFun (((jk9 b (b + 48) (by omega)).2.2 (by omega)).trans (qR (by omega))) 2).trans (sp_7 (t := b + 48) (x := b + 30)).2.2.1
  | 48, 3, _, _ => (congrFun (((jk9 b (b + 48) (by omega)).2.2 (by omega)).trans (qR (by omega))) 3).trans (sp_7 (t := b + 48) (x := b + 30)).2.2.2.1
  | 48, j + 4, _, h => absurd (zr (clF.getD 48 []) 4 (by decide) j) h
  | 49, j, _, h => absurd rfl h
  | 50, j, _, h => absurd rfl h
  | 51, j, _, h => absurd rfl h
  | 52, 0, _, _ => (congrFun (((jk10 b (b + 52) (by omega)).2.2 (by omega)).trans (qR (by omega))) 0).trans (sp_9 (t := b + 52) 0 (by decide)).1
  | 52, 1, _, _ => (congrFun (((jk10 b (b + 52) (by omega)).2.2 (by omega)).trans (qR (by omega))) 1).trans (sp_9 (t := b + 52) 1 (by decide)).1
  | 52, 2, _, _ => (congrFun (((jk10 b (b + 52) (by omega)).2.2 (by omega)).trans (qR (by omega))) 2).trans (sp_9 (t := b + 52) 2 (by decide)).1
  | 52, 3, _, _ => (congrFun (((jk10 b (b + 52) (by omega)).2.2 (by omega)).trans (qR (by omega))) 3).trans (sp_9 (t := b + 52) 3 (by decide)).1
  | 52, 4, _, _ => (congrFun (((jk10 b (b + 52) (by omega)).2.2 (by omega)).trans (qR (by omega))) 4).trans (sp_9 (t := b + 52) 4 (by decide)).1
  | 52, 5, _, _ => (congrFun (((jk10 b (b + 52) (by omega)).2.2 (by omega)).trans (qR (by omega))) 5).trans (sp_9 (t := b + 52) 5 (by decide)).1
  | 52, 6, _, _ => (congrFun (((jk10 b (b + 52) (by omega)).2.2 (by omega)).trans (qR (by omega))) 6).trans (sp_9 (t := b + 52) 6 (by decide)).1
  | 52, 7, _, _ => (congrFun (((jk10 b (b + 52) (by omega)).2.2 (by omega)).trans (qR (by omega))) 7).trans (sp_9 (t := b + 52) 7 (by decide)).1
  | 52, j + 8, _, h => absurd (zr (clF.getD 52 []) 8 (by decide) j) h
  | 53, j, _, h => absurd rfl h
  | 54, j, _, h => absurd rfl h
  | 55, j, _, h => absurd rfl h
  | 56, j, _, h => absurd rfl h
  | 57, j, _, h => absurd rfl h
  | 58, j, _, h => absurd rfl h
  | 59, j, _, h => absurd rfl h
  | 60, j, _, h => absurd rfl h
  | 61, 0, _, _ => (congrFun (((jk11 b (b + 61) (by omega)).2.2 (by omega)).trans (qR (by omega))) 0).trans (sp_10 (t := b + 61) (x := b + 2) (y := b + 52)).1
  | 61, 1, _, _ => (congrFun (((jk11 b (b + 61) (by omega)).2.2 (by omega)).trans (qR (by omega))) 1).trans (sp_10 (t := b + 61) (x := b + 2) (y := b + 52)).2
  | 61, j + 2, _, h => absurd (zr (clF.getD 61 []) 2 (by decide) j) h
  | 62, 0, _, _ => (congrFun (((jk12 b (b + 62) (by omega)).2.2 (by omega)).trans (qR (by omega))) 0).trans (sp_6 (t := b + 62) (x := b + 2)).1
  | 62, 1, _, _ => (congrFun (((jk12 b (b + 62) (by omega)).2.2 (by omega)).trans (qR (by omega))) 1).trans (sp_6 (t := b + 62) (x := b + 2)).2.1
  | 62, j + 2, _, h => absurd (zr (clF.getD 62 []) 2 (by decide) j) h
  | 63, j, _, h => absurd rfl h
  | 64, 0, _, _ => (congrFun (((jk13 b (b + 64) (by omega)).2.2 (by omega)).trans (qR (by omega))) 0).trans ((sp_0 (t := b + 64)).2 0 (by decide)).1
  | 64, 1, _, _ => (congrFun (((jk13 b (b + 64) (by omega)).2.2 (by omega)).trans (qR (by omega))) 1).trans ((sp_0 (t := b + 64)).2 1 (by decide)).1
  | 64, 2, _, _ => (congrFun (((jk13 b (b + 64) (by omega)).2.2 (by omega)).trans (qR (by omega))) 2).trans ((sp_0 (t := b + 64)).2 2 (by decide)).1
  | 64, 3, _, _ => (congrFun (((jk13 b (b + 64) (by omega)).2.2 (by omega)).trans (qR (by omega))) 3).trans ((sp_0 (t := b + 64)).2 3 (by decide)).1
  | 64, 4, _, _ => (congrFun (((jk13 b (b + 64) (by omega)).2.2 (by omega)).trans (qR (by omega))) 4).trans ((sp_0 (t := b + 64)).2 4 (by decide)).1
  | 64, 5, _, _ => (congrFun (((jk13 b (b + 64) (by omega)).2.2 (by omega)).trans (qR (by omega))) 5).trans ((sp_0 (t := b + 64)).2 5 (by decide)).1
  | 64, 6, _, _ => (congrFun (((jk13 b (b + 64) (by omega)).2.2 (by omega)).trans (qR (by omega))) 6).trans ((sp_0 (t := b + 64)).2 6 (by decide)).1
  | 64, 7, _, _ => (congrFun (((jk13 b (b + 64) (by omega)).2.2 (by omega)).trans (qR (by omega))) 7).trans ((sp_0 (t := b + 64)).2 7 (by decide)).1
  | 64, 8, _, _ => (congrFun (((jk13 b (b + 64) (by omega)).2.2 (by omega)).trans (qR (by omega))) 8).trans ((sp_0 (t := b + 64)).2 8 (by decide)).1
  | 64, j + 9, _, h => absurd (zr (clF.getD 64 []) 9 (by decide) j) h
  | 65, j, _, h => absurd rfl h
  | 66, j, _, h => absurd rfl h
  | 67, j, _, h => absurd rfl h
  | 68, j, _, h => absurd rfl h
  | 69, j, _, h => absurd rfl h
  | 70, j, _, h => absurd rfl h
  | 71, j, _, h => absurd rfl h
  | 72, j, _, h => absurd rfl h
  | 73, j, _, h => absurd rfl h
  | 74, j, _, h => absurd rfl h
  | k + 75, _, h, _ => absurd h (by omega)
theorem iR3 : (iq14 b).2.1 (b + 3) = fun _ => none := ((jk3 b (b + 3) (by omega)).2.2 (by omega)).trans ((qR (by omega)).trans (sp_id (t := b + 3)).1)
theorem iR27 : (iq14 b).2.1 (b + 27) = fun _ => none := ((jk5 b (b + 27) (by omega)).2.2 (by omega)).trans ((qR (by omega)).trans (sp_id (t := b + 27)).1)
theorem iR29 : (iq14 b).2.1 (b + 29) = fun _ => none := ((jk6 b (b + 29) (by omega)).2.2 (by omega)).trans ((qR (by omega)).trans (sp_2 (t := b + 28)).2.2.1)
theorem iI4 : (iq14 b).2.2.1 (b + 4) = upd (fun _ => 0) 6 (-1) := ((jk4 b (b + 4) (by omega)).2.1).trans (sp_8I (t := b + 4)).1
theorem iI5 : (iq14 b).2.2.1 (b + 5) = fun _ => 0 := ((jk4 b (b + 5) (by omega)).2.1).trans (sp_8I (t := b + 4)).2.1
theorem iI14 : (iq14 b).2.2.1 (b + 14) = fun _ => 0 := ((jk4 b (b + 14) (by omega)).2.1).trans (sp_8I (t := b + 4)).2.2
theorem iI28 : (iq14 b).2.2.1 (b + 28) = fun _ => 0 := ((jk6 b (b + 28) (by omega)).2.1).trans (sp_2 (t := b + 28)).2.2.2
theorem iIt : (iq14 b).2.2.1 (b + 34) = (fun k => lo4.getD k 0) ∧ (iq14 b).2.2.1 (b + 35) = (fun k => sh4.getD k 0) ∧ (iq14 b).2.2.1 (b + 36) = fun k => la4.getD k 0 := ⟨((jk8 b (b + 34) (by omega)).2.1).trans (sp_4I (t := b + 33) (x := b + 30)).1, ((jk8 b (b + 35) (by omega)).2.1).trans (sp_4I (t := b + 33) (x := b + 30)).2.1, ((jk8 b (b + 36) (by omega)).2.1).trans (sp_4I (t := b + 33) (x := b + 30)).2.2⟩
end INI2
theorem apn_b (b : Nat) : ∀ k, b + k ∈ apn [b] (b + 1) k
  | 0 => List.mem_singleton.mpr rfl
  | k + 1 => by rw [show b + (k + 1) = b + 1 + k by omega]; exact apn_new (k + 1) (by omega)
theorem apn_up {a b : Nat} : ∀ k, a ∈ apn [b] (b + 1) k → a < b + 1 + k
  | 0, h => by have := List.mem_singleton.mp h; omega
  | k + 1, h => by
    rcases List.mem_append.mp h with g | g
    · have := apn_up k g; omega
    · have := List.mem_singleton.mp g; omega
section MINI
variable {t : Nat} {S : ST} {Rf : RT} {I : IT} {J : JT}
theorem mI0 : (f12_init t (t + 1) S Rf (va_up I t (fun _ => 0)) J).2.2.1 t = upd (fun _ => 0) 21 (-1) := by
  simp [f12_init, yb_let, va_up, up2, nt_1, nt_2, Nat.add_assoc]
theorem mI10 : (f12_init t (t + 1) S Rf I J).2.2.1 (t + 10) = fun _ => 0 := by
  simp [f12_init, yb_let, va_up, up2, Nat.add_assoc]
theorem mI29 : (f12_init t (t + 1) S Rf I J).2.2.1 (t + 29) = fun _ => 0 := by
  simp [f12_init, yb_let, va_up, up2, Nat.add_assoc]
end MINI
theorem first_rel (b : Nat) : RelY b (b + 75) (apn [b] (b + 1) 74) (ini2 b).1 (ini2 b).2.1 (ini2 b).2.2.1 (ini2 b).2.2.2 (ini2 b).2.2.1 (ini2 b).2.2.2 := by
  have eS : ∀ a, a < b + 75 → (ini2 b).1 a = (iq14 b).1 a := fun a ha => by
    unfold ini2
    rw [fS12 (by omega), va_up_ne _ _ (by omega), ini1_Q]
    rfl
  have eR : ∀ a, a < b + 75 → (ini2 b).2.1 a = (iq14 b).2.1 a := fun a ha => by
    unfold ini2
    rw [fR12 (by omega) (by omega), va_up_ne _ _ (by omega), ini1_Q]
    rfl
  have eI : ∀ a, a < b + 75 → (ini2 b).2.2.1 a = up2 (up2 (iq14 b).2.2.1 b 14 0) b 15 0 a := fun a ha => by
    unfold ini2
    rw [fI12 (by omega) (by omega), va_up_ne _ _ (by omega), ini1_Q]
    rfl
  have eI1 : ∀ a, b < a → a < b + 75 → (ini2 b).2.2.1 a = (iq14 b).2.2.1 a := fun a h1 h2 => by rw [eI a h2, up2_ne _ _ _ (by omega), up2_ne _ _ _ (by omega)]
  have m0 : (ini2 b).2.2.1 (b + 75) = upd (fun _ => 0) 21 (-1) := mI0
  have m10 : (ini2 b).2.2.1 (b + 75 + 10) = fun _ => 0 := mI10
  have m29 : (ini2 b).2.2.1 (b + 75 + 29) = fun _ => 0 := mI29
  have n3 : (ini2 b).2.1 (b + 3) = fun _ => none := (eR _ (by omega)).trans (iR3 b)
  have n27 : (ini2 b).2.1 (b + 27) = fun _ => none := (eR _ (by omega)).trans (iR27 b)
  have n29 : (ini2 b).2.1 (b + 29) = fun _ => none := (eR _ (by omega)).trans (iR29 b)
  have i4 : (ini2 b).2.2.1 (b + 4) = upd (fun _ => 0) 6 (-1) := (eI1 _ (by omega) (by omega)).trans (iI4 b)
  have i5 : (ini2 b).2.2.1 (b + 5) = fun _ => 0 := (eI1 _ (by omega) (by omega)).trans (iI5 b)
  have i14 : (ini2 b).2.2.1 (b + 14) = fun _ => 0 := (eI1 _ (by omega) (by omega)).trans (iI14 b)
  have i28 : (ini2 b).2.2.1 (b + 28) = fun _ => 0 := (eI1 _ (by omega) (by omega)).trans (iI28 b)
  have hb14 : (ini2 b).2.2.1 b 14 = 0 := by rw [eI b (by omega), up2_at (Or.inr (by decide)), up2_same]
  have hb15 : (ini2 b).2.2.1 b 15 = 0 := by rw [eI b (by omega), up2_same]
  have hn : ∀ a k q, Slot b a → (ini2 b).2.1 a k = some q → False := fun a k q ha h => by
    rcases ha with rfl | rfl | rfl
    · rw [n3] at h; cases h
    · rw [n27] at h; cases h
    · rw [n29] at h; cases h
  have hCW : CW b (apn [b] (b + 1) 74) (ini2 b).1 (ini2 b).2.1 := by
    refine ⟨⟨fun k hk => ⟨?_, ?_⟩, fun k j hk h0 => ?_⟩, fun k q h => (hn _ k q (Or.inl rfl) h).elim, fun k q h => (hn _ k q (Or.inr (Or.inl rfl)) h).elim, fun k q h => (hn _ k q (Or.inr (Or.inr rfl)) h).elim⟩
    · rcases Nat.eq_zero_or_pos k with rfl | hk0
      · exact apn_old (List.mem_singleton.mpr rfl) _
      · rw [show b + k = b + 1 + (k - 1) by omega]; exact apn_new 74 (by omega)
    · rw [eS _ (by omega)]; exact iS b k hk
    · rw [eR _ (by omega)]; exact iR b k j hk h0
  refine ⟨0, 0, 0, 0, 0, fun _ => [], rfl, ⟨hCW, ?_⟩, ⟨fun a ha => Or.inl (by have := apn_up 74 ha; omega), fun a k q ha h => (hn a k q ha h).elim, fun a k q a' k' q' ha _ h => (hn a k q ha h).elim⟩, ?_, ?_, Or.inl ?_, ⟨hb15, ?_, by omega, fun k hk => by omega⟩, fun k hk => Or.inl ⟨by rw [n27], by rw [m29]⟩, 0, 0, by omega, by omega, by rw [i28]; rfl, by rw [i28]; rfl, ?_, fun j hj => by omega⟩
  · obtain ⟨t1, t2, t3⟩ := iIt b
    exact ⟨(eI1 _ (by omega) (by omega)).trans t1, (eI1 _ (by omega) (by omega)).trans t2, (eI1 _ (by omega) (by omega)).trans t3⟩
  · rw [hb14, m0]
    exact ⟨rfl, nI_inr (k := 0) (n := 400) (by omega) (by omega), fun k hk => absurd hk (by show ¬ (k : Int) < 0; omega)⟩
  · rw [m10, m0]
    refine ⟨⟨⟨rfl, by omega⟩, ⟨rfl, by omega⟩, ⟨rfl, by omega⟩, Or.inl ⟨rfl, rfl, rfl, rfl, rfl⟩, fun p hp => by omega, fun c hc => by omega, fun c hc => by omega, fun j a hj => by omega⟩, ⟨rfl, by omega, fun k hk => by omega⟩, ⟨?_, fun h0 => absurd rfl h0, fun _ => ?_, fun p hp => by omega, fun c hc => by omega⟩, ⟨?_, fun p hp => by omega, fun c hc => by omega, fun h0 => absurd rfl h0⟩, by omega, ⟨?_, ?_, by decide⟩, ?_, fun k hk => by omega⟩
    · show (ini2 b).2.2.1 (b + 5) 9 = 0 ∧ (ini2 b).2.2.1 (b + 5) 10 = 0 ∧ (ini2 b).2.2.1 (b + 5) 13 = 0 ∧ (ini2 b).2.2.1 (b + 5) 14 = 0
      rw [i5]; exact ⟨rfl, rfl, rfl, rfl⟩
    · show (ini2 b).2.2.1 (b + 5) 8 = 0
      rw [i5]
    · show (ini2 b).2.2.1 (b + 14) 9 = 0
      rw [i14]
    · show (ini2 b).2.2.1 (b + 4) 6 = _
      rw [i4]; rfl
    · show (ini2 b).2.2.1 (b + 4) 7 = _
      rw [i4]; rfl
    · show (ini2 b).2.2.1 (b + 4) 5 = _
      rw [i4]; rfl
  · rw [m0]; rfl
  · rw [m0]; rfl
  · rw [m0]; rfl
