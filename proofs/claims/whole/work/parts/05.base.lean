/-- what an object holds: its ints by slot, its int arrays by slot -/
abbrev obV : Type := (Nat → Int32) × (Nat → Nat → Int32)
def oF (v : obV) (k : Nat) (x : Int32) : obV := (upd v.1 k x, v.2)
def oA (v : obV) (k i : Nat) (x : Int32) : obV := (v.1, va_up v.2 k (upd (v.2 k) i x))
def oC (v : obV) (k : Nat) (g : Nat → Int32) : obV := (v.1, va_up v.2 k g)
def ushr (x y : Int32) : Int32 := (x.toUInt32 >>> (y.toUInt32 &&& Int32.toUInt32 31)).toInt32
def hlet {α β : Type} (a : α) (k : α → β) : β := k a
/-- a loop: at most n turns -/
def lp {V R : Type} (body : (V → Option R) → V → Option R) : Nat → V → Option R
  | 0 => fun _ => none
  | n + 1 => body (lp body n)
def fu : Nat := 4000
theorem lp_W {V R : Type} {body : (V → Option R) → V → Option R} {P : V → R → Prop} (h : ∀ k : V → Option R, (∀ (y : V) (r : R), k y = some r → P y r) → ∀ (y : V) (r : R), body k y = some r → P y r) : ∀ (n : Nat) (y : V) (r : R), lp body n y = some r → P y r := by
  intro n
  induction n with
  | zero => intro y r h0; cases h0
  | succ n ih => intro y r h1; exact h _ ih y r h1
theorem ho_g {α : Type} {c : Prop} {i : Decidable c} {x : Option α} {r : α} (h : (if c then none else x) = some r) : ¬ c ∧ x = some r := by
  by_cases hc : c
  · rw [if_pos hc] at h; cases h
  · rw [if_neg hc] at h; exact ⟨hc, h⟩
theorem ho_t {α : Type} {c : Prop} {i : Decidable c} {x y : Option α} {r : α} (h : (if c then x else y) = some r) (hc : c) : x = some r := by rw [if_pos hc] at h; exact h
theorem ho_f {α : Type} {c : Prop} {i : Decidable c} {x y : Option α} {r : α} (h : (if c then x else y) = some r) (hc : ¬ c) : y = some r := by rw [if_neg hc] at h; exact h
theorem ho_b {α β : Type} {o : Option α} {k : α → Option β} {r : β} (h : Option.bind o k = some r) : ∃ u, o = some u ∧ k u = some r := by
  cases o with
  | none => cases h
  | some u => exact ⟨u, rfl, h⟩
theorem ho_l {α β : Type} {a : α} {k : α → Option β} {r : β} (h : hlet a k = some r) (y : α) (e : y = a) : k y = some r := by subst e; exact h
theorem hp_inc {x : Int32} {n : Int} {v : Int32} (h : Int32.ofInt n = v) : x + Int32.ofInt n = x + v := by rw [h]
theorem hp_z {x : Int32} (h : ¬ ¬ (x = 0 ∨ x = 1)) : narrow .boolean (.int x) = .int x := by
  rcases Classical.not_not.mp h with h | h <;> subst h <;> decide
/-- all words of the tables that a call may hand on -/
def hw_all : List Cond := lw_tbl.filter goodWord
theorem hw_in {w : Cond} (h : w ∈ lw_tbl) (g : goodWord w = true) : w ∈ hw_all := List.mem_filter.mpr ⟨h, g⟩
theorem hw_tbl {w : Cond} (h : w ∈ hw_all) : w ∈ lw_tbl := (List.mem_filter.mp h).1
theorem hw_good {w : Cond} (h : w ∈ hw_all) : (w.onTables && w.keeps) = true ∨ ∃ ty, w = .arrayClass ty := good_of_word (List.mem_filter.mp h).2
abbrev wd (y : MethodName) (c : ByteArray) (n : Nat) (r : Option FieldType) : List Cond := Cond.code y c n r :: hw_all
theorem hw_gi {big : Cond} {c : Cond} (h : c ∈ hw_all) : GoodIn (big :: hw_all) (c :: hw_all) := fun w hw => by
  have h1 : w ∈ hw_all := (List.mem_cons.mp hw).elim (fun e => e ▸ h) id
  exact ⟨List.mem_cons_of_mem _ h1, hw_good h1⟩
theorem hw_giV {big c : Cond} {own C : String} {idx : Nat} {y : MethodName} (h1 : Cond.methodLink own idx y ∈ hw_all) (h2 : Cond.instanceMethod y ∈ hw_all) (h3 : Cond.selects C y y ∈ hw_all) (h4 : Cond.initialized C ∈ hw_all) (h : c ∈ hw_all) : GoodIn (big :: hw_all) (wsV own idx C y (c :: hw_all)) := fun w hw => by
  have h0 : w ∈ hw_all := by
    simp only [wsV, List.mem_append, List.mem_cons, List.not_mem_nil, or_false] at hw
    rcases hw with (e | e | e | e) | e | e
    · exact e ▸ h1
    · exact e ▸ h2
    · exact e ▸ h3
    · exact e ▸ h4
    · exact e ▸ h
    · exact e
  exact ⟨List.mem_cons_of_mem _ h0, hw_good h0⟩
theorem hw_giS {big c : Cond} {own : String} {idx : Nat} {y : MethodName} (h1 : Cond.methodLink own idx y ∈ hw_all) (h2 : Cond.static y ∈ hw_all) (h3 : Cond.initialized y.cls ∈ hw_all) (h : c ∈ hw_all) : GoodIn (big :: hw_all) (va_wsS own idx y (c :: hw_all)) := fun w hw => by
  have h0 : w ∈ hw_all := by
    simp only [va_wsS, List.mem_append, List.mem_cons, List.not_mem_nil, or_false] at hw
    rcases hw with (e | e | e) | e | e
    · exact e ▸ h1
    · exact e ▸ h2
    · exact e ▸ h3
    · exact e ▸ h
    · exact e
  exact ⟨List.mem_cons_of_mem _ h0, hw_good h0⟩
set_option maxRecDepth 100000 in
theorem hwc_X0 : ∀ w ∈ u_ws RX0 TX0 4, w ∈ hw_all := by decide +kernel
theorem hw_X0 {c : Cond} : ∀ w ∈ u_ws RX0 TX0 4, w ∈ c :: hw_all := fun w h => List.mem_cons_of_mem _ (hwc_X0 w h)
set_option maxRecDepth 100000 in
theorem hwc_X1 : ∀ w ∈ u_ws RX1 TX1 7, w ∈ hw_all := by decide +kernel
theorem hw_X1 {c : Cond} : ∀ w ∈ u_ws RX1 TX1 7, w ∈ c :: hw_all := fun w h => List.mem_cons_of_mem _ (hwc_X1 w h)
set_option maxRecDepth 100000 in
theorem hwc_X2 : ∀ w ∈ u_ws RX2 TX2 8, w ∈ hw_all := by decide +kernel
theorem hw_X2 {c : Cond} : ∀ w ∈ u_ws RX2 TX2 8, w ∈ c :: hw_all := fun w h => List.mem_cons_of_mem _ (hwc_X2 w h)
set_option maxRecDepth 100000 in
theorem hwc_X3 : ∀ w ∈ u_ws RX3 TX3 2, w ∈ hw_all := by decide +kernel
theorem hw_X3 {c : Cond} : ∀ w ∈ u_ws RX3 TX3 2, w ∈ c :: hw_all := fun w h => List.mem_cons_of_mem _ (hwc_X3 w h)
set_option maxRecDepth 100000 in
theorem hwc_X4 : ∀ w ∈ u_ws RX4 TX4 3, w ∈ hw_all := by decide +kernel
theorem hw_X4 {c : Cond} : ∀ w ∈ u_ws RX4 TX4 3, w ∈ c :: hw_all := fun w h => List.mem_cons_of_mem _ (hwc_X4 w h)
set_option maxRecDepth 100000 in
theorem hwc_X5 : ∀ w ∈ u_ws RX5 TX5 4, w ∈ hw_all := by decide +kernel
theorem hw_X5 {c : Cond} : ∀ w ∈ u_ws RX5 TX5 4, w ∈ c :: hw_all := fun w h => List.mem_cons_of_mem _ (hwc_X5 w h)
set_option maxRecDepth 100000 in
theorem hwc_X6 : ∀ w ∈ u_ws RX6 TX6 8, w ∈ hw_all := by decide +kernel
theorem hw_X6 {c : Cond} : ∀ w ∈ u_ws RX6 TX6 8, w ∈ c :: hw_all := fun w h => List.mem_cons_of_mem _ (hwc_X6 w h)
set_option maxRecDepth 100000 in
theorem hwc_X7 : ∀ w ∈ u_ws RX7 TX7 30, w ∈ hw_all := by decide +kernel
theorem hw_X7 {c : Cond} : ∀ w ∈ u_ws RX7 TX7 30, w ∈ c :: hw_all := fun w h => List.mem_cons_of_mem _ (hwc_X7 w h)
/-- what the tables say of the nest: private members of one another -/
def nst (U : State) : Prop := va_Nw (.methodLinkNest RX3 31 yX6_isWithin RX6) U ∧ va_Nw (.methodLinkNest RX3 35 yX6_kindByLetter RX6) U ∧ va_Nw (.methodLinkNest RX1 47 yX6_kindByLetter RX6) U ∧ va_Nw (.methodLinkNest RX2 94 yX6_leastSaying RX6) U ∧ va_Nw (.methodLinkNest RX0 56 yX6_leastSaying RX6) U ∧ va_Nw (.methodLinkNest RX6 9 yX3_init RX6) U ∧ va_Nw (.methodLinkNest RX6 18 yX1_init RX6) U ∧ va_Nw (.methodLinkNest RX1 23 yX4_init RX6) U ∧ va_Nw (.methodLinkNest RX6 28 yX2_init RX6) U ∧ va_Nw (.methodLinkNest RX6 35 yX5_init RX6) U ∧ va_Nw (.methodLinkNest RX5 11 yX2_init RX6) U ∧ va_Nw (.methodLinkNest RX6 42 yX0_init RX6) U
theorem nst_warm {s U : State} (hW : s.WarmedH U.vm) (h : nst s) : nst U := by
  obtain ⟨q0, q1, q2, q3, q4, q5, q6, q7, q8, q9, q10, q11⟩ := h
  exact ⟨va_Nw.warmM hW q0, va_Nw.warmM hW q1, va_Nw.warmM hW q2, va_Nw.warmM hW q3, va_Nw.warmM hW q4, va_Nw.warmM hW q5, va_Nw.warmM hW q6, va_Nw.warmM hW q7, va_Nw.warmM hW q8, va_Nw.warmM hW q9, va_Nw.warmM hW q10, va_Nw.warmM hW q11⟩
theorem nst_same {s U : State} (e : s.vm = U.vm) (h : nst s) : nst U := by
  obtain ⟨q0, q1, q2, q3, q4, q5, q6, q7, q8, q9, q10, q11⟩ := h
  exact ⟨va_Nw.same rfl e q0, va_Nw.same rfl e q1, va_Nw.same rfl e q2, va_Nw.same rfl e q3, va_Nw.same rfl e q4, va_Nw.same rfl e q5, va_Nw.same rfl e q6, va_Nw.same rfl e q7, va_Nw.same rfl e q8, va_Nw.same rfl e q9, va_Nw.same rfl e q10, va_Nw.same rfl e q11⟩
abbrev hTY (cI cII : ClassId) : List (ClassId × FieldType) := [(cI, .int), (cII, .array .int)]
def pB (D : va_G) (cl : List vw_C) (ws : va_W) (tys : List (ClassId × FieldType)) (U : State) : Prop := va_P D cl ws U.heap ∧ va_K D cl tys U ∧ nst U
def qB (D : va_G) (cl : List vw_C) (ws : va_W) (tys : List (ClassId × FieldType)) (sz : Nat) (U : State) : Prop := U.heap.size = sz ∧ va_D (fun _ => True) ws ∧ va_P D cl ws U.heap ∧ va_K D cl tys U ∧ nst U
theorem pB_blind {D : va_G} {cl : List vw_C} {ws : va_W} {tys : List (ClassId × FieldType)} {av : List Value} : FrameBlind (va_Pc av (pB D cl ws tys)) := fun a U g mk q => by
  obtain ⟨q0, qP, qK, qN⟩ := q
  exact ⟨q0, qP, va_K.moved (u := U) (U := U.calling g mk a) (Vm.Alike.refl U.vm) qK, nst_same rfl qN⟩
theorem qB_blind {D : va_G} {cl : List vw_C} {ws : va_W} {tys : List (ClassId × FieldType)} {av : List Value} {sz : Nat} : FrameBlind (va_Pc av (qB D cl ws tys sz)) := fun a U g mk q => by
  obtain ⟨q0, q1, qD, qP, qK, qN⟩ := q
  exact ⟨q0, q1, qD, qP, va_K.moved (u := U) (U := U.calling g mk a) (Vm.Alike.refl U.vm) qK, nst_same rfl qN⟩
theorem pB_go {D : va_G} {cl : List vw_C} {ws : va_W} {tys : List (ClassId × FieldType)} {s U : State} {H : Heap} (hP : va_P D cl ws H) (hK : va_K D cl tys s) (hN : nst s) (hU : U.heap = H) (hW : s.WarmedH U.vm) : pB D cl ws tys U := ⟨by rw [hU]; exact hP, va_K.moved hW.alike hK, nst_warm hW hN⟩
theorem qB_go {D : va_G} {cl : List vw_C} {ws : va_W} {tys : List (ClassId × FieldType)} {s U : State} {H : Heap} {A : Nat → Prop} (hP : va_P D cl ws H) (hD : va_D A ws) (hK : va_K D cl tys s) (hN : nst s) (hU : U.heap = H) (hW : s.WarmedH U.vm) : qB D cl ws tys H.size U := ⟨by rw [hU], hD.weaken (fun _ _ _ _ => trivial), by rw [hU]; exact hP, va_K.moved hW.alike hK, nst_warm hW hN⟩
/-- what stays the same in a method's walk -/
abbrev hC (p : Program) (s : State) (m : MethodId) (args : Array Value) (meth : Method) (c : Code) (dC : Nat → ClassId) (dI : Nat → Nat → Nat) (cI cII : ClassId) (own : String) (cc : ByteArray) (nL : Nat) (ws : List Cond) (ret : Option FieldType) : Prop :=
  p.tables.exec = Jvm.exec ∧ c.code = cc ∧ c.maxLocals = nL ∧ s.vm.findClass own = some m.cls ∧ (∀ w ∈ ws, w.before args s = true) ∧ meth.sig.returnType = ret ∧ meth.locks = false ∧ va_K (dC, dI) vwCl (hTY cI cII) s ∧ nst s
def wX0 (o : Nat) (a : Nat → Nat) (cI : ClassId) (v : obV) : va_W := [(o, .inr (0, [.ref (a 0), .ref (a 1), .int (v.1 2), .int (v.1 3)])), (a 0, .inl (cI, 5, .inl (v.2 0))), (a 1, .inl (cI, 5, .inl (v.2 1)))]
def wX1 (o : Nat) (a : Nat → Nat) (cI : ClassId) (v : obV) : va_W := [(o, .inr (1, [.ref (a 0), .ref (a 1), .ref (a 2), .ref (a 3), .int (v.1 4), .int (v.1 5), .int (v.1 6)])), (a 0, .inl (cI, 5, .inl (v.2 0))), (a 1, .inl (cI, 5, .inl (v.2 1))), (a 2, .inl (cI, 5, .inl (v.2 2)))]
def wX2 (o : Nat) (a : Nat → Nat) (cI : ClassId) (v : obV) : va_W := [(o, .inr (2, [.ref (a 0), .ref (a 1), .ref (a 2), .ref (a 3), .int (v.1 4), .int (v.1 5), .int (v.1 6), .int (v.1 7)])), (a 0, .inl (cI, 5, .inl (v.2 0))), (a 1, .inl (cI, 5, .inl (v.2 1))), (a 2, .inl (cI, 5, .inl (v.2 2))), (a 3, .inl (cI, 20, .inl (v.2 3)))]
def wX3 (o : Nat) (a : Nat → Nat) (cI : ClassId) (v : obV) : va_W := [(o, .inr (3, [.ref (a 0), .int (v.1 1)])), (a 0, .inl (cI, 24, .inl (v.2 0)))]
def wX4 (o : Nat) (a : Nat → Nat) (cI : ClassId) (v : obV) : va_W := [(o, .inr (4, [.ref (a 0), .ref (a 1), .int (v.1 2)])), (a 0, .inl (cI, 8, .inl (v.2 0))), (a 1, .inl (cI, 8, .inl (v.2 1)))]
def wX5 (o : Nat) (a r : Nat → Nat) (cI cII : ClassId) (v : obV) (w : Nat → Nat → Int32) : va_W := [(o, .inr (5, [.ref (a 0), .ref (a 1), .ref (a 2), .ref (a 3)])), (a 1, .inl (cII, 10, .inr (.inr (.inr (.inr (fun i => if i < 10 then some (r i) else none)))))), (a 2, .inl (cI, 10, .inl (v.2 2))), (a 3, .inl (cI, 6, .inl (v.2 3))), (r 0, .inl (cI, 20, .inl (w 0))), (r 1, .inl (cI, 20, .inl (w 1))), (r 2, .inl (cI, 20, .inl (w 2))), (r 3, .inl (cI, 20, .inl (w 3))), (r 4, .inl (cI, 20, .inl (w 4))), (r 5, .inl (cI, 20, .inl (w 5))), (r 6, .inl (cI, 20, .inl (w 6))), (r 7, .inl (cI, 20, .inl (w 7))), (r 8, .inl (cI, 20, .inl (w 8))), (r 9, .inl (cI, 20, .inl (w 9)))]
def wX6 (o : Nat) (a : Nat → Nat) (cI : ClassId) (v : obV) : va_W := [(o, .inr (6, [.ref (a 0), .ref (a 1), .ref (a 2), .ref (a 3), .ref (a 4), .ref (a 5), .int (v.1 6), .int (v.1 7)]))]
def wX7 (o : Nat) (a : Nat → Nat) (cI : ClassId) (v : obV) (h : Int64) : va_W := [(o, .inr (7, [.ref (a 0), .int (v.1 1), .ref (a 2), .int (v.1 3), .int (v.1 4), .int (v.1 5), .int (v.1 6), .int (v.1 7), .int (v.1 8), .int (v.1 9), .ref (a 10), .ref (a 11), .ref (a 12), .int (v.1 13), .int (v.1 14), .int (v.1 15), .ref (a 16), .ref (a 17), .int (v.1 18), .ref (a 19), .ref (a 20), .int (v.1 21), .ref (a 22), .int (v.1 23), .int (v.1 24), .int (v.1 25), .int (v.1 26), .ref (a 27), .ref (a 28), .long h])), (a 0, .inl (cI, 24, .inl (v.2 0))), (a 2, .inl (cI, 15, .inl (v.2 2))), (a 10, .inl (cI, 15, .inl (v.2 10))), (a 11, .inl (cI, 5, .inl (v.2 11))), (a 12, .inl (cI, 5, .inl (v.2 12))), (a 16, .inl (cI, 5, .inl (v.2 16))), (a 17, .inl (cI, 5, .inl (v.2 17))), (a 19, .inl (cI, 16, .inl (v.2 19))), (a 20, .inl (cI, 120, .inl (v.2 20))), (a 22, .inl (cI, 15, .inl (v.2 22))), (a 27, .inl (cI, 15, .inl (v.2 27))), (a 28, .inl (cI, 16, .inl (v.2 28)))]
/-- the rows of int[10][20] -/
theorem hp_rows {o : Nat} {a r : Nat → Nat} {cI cII : ClassId} {v : obV} {w : Nat → Nat → Int32} {R : va_W} (j : Nat) (hj : j < 10) : (wX5 o a r cI cII v w ++ R)[4 + j]? = some (r j, .inl (cI, 20, .inl (w j))) := match j, hj with
  | 0, _ => rfl | 1, _ => rfl | 2, _ => rfl | 3, _ => rfl | 4, _ => rfl | 5, _ => rfl | 6, _ => rfl | 7, _ => rfl | 8, _ => rfl | 9, _ => rfl | j + 10, h => absurd h (by omega)
theorem hp_rows0 {o : Nat} {a r : Nat → Nat} {cI cII : ClassId} {v : obV} {w : Nat → Nat → Int32} (j : Nat) (hj : j < 10) : (wX5 o a r cI cII v w)[4 + j]? = some (r j, .inl (cI, 20, .inl (w j))) := match j, hj with
  | 0, _ => rfl | 1, _ => rfl | 2, _ => rfl | 3, _ => rfl | 4, _ => rfl | 5, _ => rfl | 6, _ => rfl | 7, _ => rfl | 8, _ => rfl | 9, _ => rfl | j + 10, h => absurd h (by omega)
theorem hp_lt {i : Int32} {n : Nat} (h : ¬ (i < 0 ∨ n ≤ Int32.toNatClampNeg i)) : Int32.toNatClampNeg i < n := Nat.lt_of_not_le fun q => h (Or.inr q)
theorem hp_row {o : Nat} {a r : Nat → Nat} {cI cII : ClassId} {v : obV} {w : Nat → Nat → Int32} {R : va_W} {i : Int32} (h : ¬ (i < 0 ∨ 10 ≤ Int32.toNatClampNeg i)) : (wX5 o a r cI cII v w ++ R)[4 + Int32.toNatClampNeg i]? = some (r (Int32.toNatClampNeg i), .inl (cI, 20, .inl (w (Int32.toNatClampNeg i)))) := hp_rows _ (hp_lt h)
theorem hp_row0 {o : Nat} {a r : Nat → Nat} {cI cII : ClassId} {v : obV} {w : Nat → Nat → Int32} {i : Int32} (h : ¬ (i < 0 ∨ 10 ≤ Int32.toNatClampNeg i)) : (wX5 o a r cI cII v w)[4 + Int32.toNatClampNeg i]? = some (r (Int32.toNatClampNeg i), .inl (cI, 20, .inl (w (Int32.toNatClampNeg i)))) := hp_rows0 _ (hp_lt h)
theorem hp_rset {o : Nat} {a r : Nat → Nat} {cI cII : ClassId} {v : obV} {w : Nat → Nat → Int32} {R : va_W} {g : Nat → Int32} (j : Nat) (hj : j < 10) : (wX5 o a r cI cII v w ++ R).set (4 + j) (r j, .inl (cI, 20, .inl g)) = wX5 o a r cI cII v (va_up w j g) ++ R := match j, hj with
  | 0, _ => rfl | 1, _ => rfl | 2, _ => rfl | 3, _ => rfl | 4, _ => rfl | 5, _ => rfl | 6, _ => rfl | 7, _ => rfl | 8, _ => rfl | 9, _ => rfl | j + 10, h => absurd h (by omega)
theorem hp_rowset {D : va_G} {cl : List vw_C} {H : Heap} {o : Nat} {a r : Nat → Nat} {cI cII : ClassId} {v : obV} {w : Nat → Nat → Int32} {R : va_W} {g : Nat → Int32} {i : Int32} (h : ¬ (i < 0 ∨ 10 ≤ Int32.toNatClampNeg i)) (hP : va_P D cl ((wX5 o a r cI cII v w ++ R).set (4 + Int32.toNatClampNeg i) (r (Int32.toNatClampNeg i), .inl (cI, 20, .inl g))) H) : va_P D cl (wX5 o a r cI cII v (va_up w (Int32.toNatClampNeg i) g) ++ R) H := by rw [← hp_rset _ (hp_lt h)]; exact hP
theorem hp_rowsetD {A : Nat → Prop} {o : Nat} {a r : Nat → Nat} {cI cII : ClassId} {v : obV} {w : Nat → Nat → Int32} {R : va_W} {g : Nat → Int32} {i : Int32} (h : ¬ (i < 0 ∨ 10 ≤ Int32.toNatClampNeg i)) (hD : va_D A ((wX5 o a r cI cII v w ++ R).set (4 + Int32.toNatClampNeg i) (r (Int32.toNatClampNeg i), .inl (cI, 20, .inl g)))) : va_D A (wX5 o a r cI cII v (va_up w (Int32.toNatClampNeg i) g) ++ R) := by rw [← hp_rset _ (hp_lt h)]; exact hD
theorem hp_row1 {D : va_G} {cl : List vw_C} {H : Heap} {ws : va_W} {k0 : Nat} {x : Nat × va_E} (hP : va_P D cl ws H) (h : ws[k0]? = some x) : va_P D cl [x] H := fun k q hk => by
  match k, hk with
  | 0, hk => cases hk; exact hP k0 _ h
  | k + 1, hk => cases hk
section AAL
variable {p : Program} {l : Launch} {e : Env} {R : Room} {s : State} {m : MethodId} {args : Array Value} {below : List Frame} {meth : Method} {c : Code} {H : Heap} {locs : List Loc} {cells slots : Nat} {Q : State → Prop}
variable {cc : ByteArray} {pc : Nat} {ls : Array Slot} {rest : List Value} {D : va_G} {cl : List vw_C} {a : Nat} {tys : List (ClassId × FieldType)} {ws : va_W}
theorem va_aldA (hexec : p.tables.exec = Jvm.exec) (hb : c.code = cc) (hK : va_K D cl tys s) (hP : va_P D cl ws H) (q0 t0 : Nat) {cA : ClassId} {r : Nat → Nat} (ha : ws[q0]? = some (a, .inl (cA, 10, .inr (.inr (.inr (.inr (fun i => if i < 10 then some (r i) else none))))))) (ht : tys[t0]? = some (cA, .array .int)) {i : Int32} (hin : vp_in i 10) (hdg : decode cc pc = .ok (.aaload, 1))
    (kk : W p l e R s m args below meth c H locs cells slots Q (F0 m (pc + 1) ls (.ref (r i.toNatClampNeg) :: rest))) : W p l e R s m args below meth c H locs cells slots Q (F0 m pc ls (.int i :: .ref a :: rest)) := by
  have hlt : i.toNatClampNeg < 10 := Nat.not_le.mp fun q => hin (Or.inr q)
  refine W.aald (v := .ref (r i.toNatClampNeg)) (ty := .array .int) hexec hb (hP q0 _ ha) ((hK.2 t0 _ ht).1 10 (fun j => va_rf (if j < 10 then some (r j) else none))) rfl (fun q => by cases q) (by show ¬ (i < 0 ∨ (arrV _ _ _).slots.size ≤ _); rw [arrV_size]; exact hin) ?_ rfl rfl hdg kk
  show (arrV _ _ _).slots[_]? = _
  rw [arrV_read _ _ hlt]
  show some (va_rf (if Int32.toNatClampNeg i < 10 then some (r (Int32.toNatClampNeg i)) else none)) = _
  rw [if_pos hlt]
  rfl
end AAL

