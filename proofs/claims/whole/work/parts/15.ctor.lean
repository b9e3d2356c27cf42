/-- all zero -/
def v0 : obV := (fun _ => 0, fun _ _ => 0)
def w0 : Nat → Nat → Int32 := fun _ _ => 0
theorem hp_fc {D : va_G} {cl : List vw_C} {cI cII : ClassId} {s : State} (h : va_K D cl (hTY cI cII) s) : s.vm.findClass (FieldType.array .int).toString = some cI := (h.2 0 _ rfl).2
theorem hp_ci {D : va_G} {cl : List vw_C} {cI cII cA : ClassId} {s : State} (h : va_K D cl (hTY cI cII ++ [(cA, .int)]) s) : cA = cI := by
  have h1 : s.vm.findClass ("[" ++ FieldType.int.toString) = some cI := (h.2 0 _ rfl).2
  have h2 : s.vm.findClass ("[" ++ FieldType.int.toString) = some cA := (h.2 2 _ rfl).2
  exact Option.some.inj (h2.symm.trans h1)
theorem hp_cii {D : va_G} {cl : List vw_C} {cI cII cA : ClassId} {s : State} (h : va_K D cl (hTY cI cII ++ [(cA, .array .int)]) s) : cA = cII := by
  have h1 : s.vm.findClass ("[" ++ (FieldType.array .int).toString) = some cII := (h.2 1 _ rfl).2
  have h2 : s.vm.findClass ("[" ++ (FieldType.array .int).toString) = some cA := (h.2 2 _ rfl).2
  exact Option.some.inj (h2.symm.trans h1)
theorem hp_inner : ∀ c : ClassId, Jvm.Free.Multi.innerC c 20 (defaultValue .int) = vp_cell c (20, .inl (fun _ => 0)) := fun c => by
  rw [vp_cell_i]
  show ({ cls := c, slots := Array.replicate 20 (defaultValue .int), vm := .none } : Cell) = _
  exact arrV_new c 20 _
theorem hp_pool {f : Nat → va_E} {r : Nat → Nat} {v : va_E} : va_pl ([] ++ (List.range 10).map r) (vr_up f ((List.range 10).map r) v) = (List.range 10).map (fun i => (r i, v)) := by
  unfold va_pl
  rw [List.nil_append, List.map_map]
  apply List.map_congr_left
  intro i hi
  show (r i, vr_up f ((List.range 10).map r) v (r i)) = (r i, v)
  rw [vr_up_in (List.mem_map.mpr ⟨i, hi, rfl⟩)]
theorem hao_spec {s : State} {A : Array Value} (h : (Cond.arrayOver (.array .int)).before A s = true) : ∃ comp c k, s.vm.findClass (FieldType.array .int).toString = some comp ∧ (s.vm.classes.findIdx? fun x => match x.kind with | .array component _ => component == comp | _ => false) = some c ∧ s.vm.classes[c]? = some k ∧ k.kind = .array comp (.array .int) ∧ s.vm.findClass ("[" ++ (FieldType.array .int).toString) = some c := by
  unfold Cond.before at h
  simp only [Cond.holds, Cond.value, beq_iff_eq] at h
  cases hc : s.vm.findClass (FieldType.array .int).toString with
  | none => simp [hc] at h
  | some comp =>
    simp only [hc, Option.bind_some, Option.bind_eq_some_iff, Option.map_eq_some_iff] at h
    obtain ⟨c, hi, k, hk, hb⟩ := h
    obtain ⟨hlt, hp, -⟩ := Array.findIdx?_eq_some_iff_getElem.mp hi
    have hkk : s.vm.classes[c] = k := (Array.getElem?_eq_some_iff.mp hk).2
    rw [hkk] at hp
    cases hkind : k.kind with
    | array component ty =>
      rw [hkind] at hb hp
      simp at hb hp
      exact ⟨comp, c, k, rfl, hi, hk, by rw [hkind, hp, hb.1], hb.2⟩
    | _ => rw [hkind] at hb; simp at hb
theorem hao_moved {u U : State} {A B : Array Value} (hvm : u.vm.Alike U.vm) (h : (Cond.arrayOver (.array .int)).before A u = true) : (Cond.arrayOver (.array .int)).before B U = true := by
  obtain ⟨comp, c, k, h1, h2, h3, h4, h5⟩ := hao_spec h
  obtain ⟨k', hk', he⟩ := hvm.2.2 _ _ h3
  have hi : (U.vm.classes.findIdx? fun (x : Class) => match x.kind with | .array component _ => component == comp | _ => false) = some c := by
    have a := va_idx_bare U.vm comp
    have b := va_idx_bare u.vm comp
    rw [hvm.bare_eq] at a
    exact a.symm.trans (b.trans h2)
  have hkind : k'.kind = .array comp (.array .int) := by rw [he]; exact h4
  have f1 : U.vm.findClass (FieldType.array .int).toString = some comp := by rw [hvm.findClass]; exact h1
  have f2 : U.vm.findClass ("[" ++ (FieldType.array .int).toString) = some c := by rw [hvm.findClass]; exact h5
  unfold Cond.before Cond.holds
  simp only [Cond.value]
  rw [f1, Option.bind_some]
  refine (congrArg (fun o : Option Nat => (o.bind (fun c => (U.vm.classes[c]?).map fun (k : Class) => match k.kind with | .array _ ty => decide (ty = FieldType.array .int) && decide (U.vm.findClass ("[" ++ (FieldType.array .int).toString) = some c) | _ => false) == some true)) hi).trans ?_
  simp [hk', hkind, f2]
/-- a constructor's start -/
def kB (D : va_G) (ws : va_W) (cI cII : ClassId) (sz : Nat) (U : State) : Prop := qB D vwCl ws (hTY cI cII) sz U ∧ (Cond.arrayOver (.array .int)).before #[] U = true
theorem kB_blind {D : va_G} {ws : va_W} {cI cII : ClassId} {sz : Nat} {av : List Value} : FrameBlind (va_Pc av (kB D ws cI cII sz)) := fun a U g mk q => by
  obtain ⟨q0, ⟨q1, qD, qP, qK, qN⟩, qo⟩ := q
  exact ⟨q0, ⟨q1, qD, qP, va_K.moved (u := U) (U := U.calling g mk a) (Vm.Alike.refl U.vm) qK, nst_same rfl qN⟩, hao_moved (u := U) (Vm.Alike.refl U.vm) qo⟩
theorem kB_go {D : va_G} {ws : va_W} {cI cII : ClassId} {s U : State} {H : Heap} {A : Nat → Prop} {B : Array Value} (hP : va_P D vwCl ws H) (hD : va_D A ws) (hK : va_K D vwCl (hTY cI cII) s) (hN : nst s) (ho : (Cond.arrayOver (.array .int)).before B s = true) (hU : U.heap = H) (hW : s.WarmedH U.vm) : kB D ws cI cII H.size U := ⟨qB_go hP hD hK hN hU hW, hao_moved hW.alike ho⟩
set_option maxHeartbeats 4000000 in
set_option maxRecDepth 100000 in
theorem k_X3_init (l : Launch) (dC : Nat → ClassId) (dI : Nat → Nat → Nat) (cI cII : ClassId) (o sz : Nat) :
    Met l yX3_init (wd yX3_init cX3_init 1 none) ({ frames := 1, cells := 1, slots := 24, locals := 14 } : Room) (va_Pc [.ref o] (kB (dC, dI) [(o, .inr (3, [.null, .int 0]))] cI cII sz)) (va_Qv (fun (_ : Unit) => True) (fun _ t => ∃ (a : Nat → Nat), va_P (dC, dI) vwCl (wX3 o a cI v0) t.heap ∧ va_D (va_A [(o, .inr (3, [.null, .int 0]))] sz) (wX3 o a cI v0)) (va_A [(o, .inr (3, [.null, .int 0]))] sz)) 1 24 (va_A [(o, .inr (3, [.null, .int 0]))] sz) := by
  refine Met.ofW (cc := cX3_init) (maxL := 1) (ret := none) (by decide) rfl ?_
  intro p e s m args below meth c s₁ B hml hv
  obtain ⟨rfl, ⟨hsz, hD0, hP, hK, hN⟩, hao⟩ := hv
  have hx := B.exec
  have hb := B.bytes
  have hr := B.returns
  have hts := atoms_spec (ws := (wd yX3_init cX3_init 1 none)) B.pre
  have hown : s.vm.findClass RX3 = some m.cls := findClass_of_methodNamed B.named
  have hlocks := B.notSynchronized
  have hin : meth.name = "<init>" := (name_of_methodNamed B.named B.method).1
  subst hsz
  have hD := hD0.self (sz := s.heap.size)
  generalize hAe : va_A [(o, .inr (3, [.null, .int 0]))] s.heap.size = A at hD ⊢
  have hA : ∀ q : Nat, s.heap.size ≤ q → A q := fun q h => by rw [← hAe]; exact Or.inr h
  have hS : va_S A s.heap s.heap [] := va_S.rf
  have hl := lv_entry ([.ref o]) (n := 1) (Nat.le_of_ble_eq_true rfl)
  rw [lg_entry_eq]
  generalize (lg_sl ([.ref o]) ++ List.replicate (1 - (lg_sl ([.ref o])).length) Slot.unset).toArray = ls at hl ⊢
  have hl : lv_has ls 1 [(0, .ref o)] := hl
  clear hAe hD0
  refine lv_aload_n hx hb dX3_init_0 rfl (lv_at hl 0 rfl) ?_
  refine W.objInit hx hb hown (hts _ (List.mem_cons_of_mem _ mw_77)) (hts _ (List.mem_cons_of_mem _ mw_70)) (hts _ (List.mem_cons_of_mem _ mw_71)) rfl (by rw [hml]; exact hl.1) rfl dX3_init_1 (Nat.le_of_ble_eq_true rfl) (Nat.le_of_ble_eq_true rfl) ?_
  refine W.eq (g2 := F0 m 4 ls []) rfl ?_
  refine lv_aload_n hx hb dX3_init_4 rfl (lv_at hl 0 rfl) ?_
  refine lv_bipush (v := 24) hx hb dX3_init_5 (by decide) ?_
  refine va_newa (atype := .int) (N' := 24) (a0 := (24, .inl (fun _ => 0))) hx hb (hts _ (List.mem_cons_of_mem _ mw_88)) rfl hK hP hD hS hA (fun _ => rfl) (by decide) (by decide) (by decide) (Nat.le_of_ble_eq_true rfl) (Nat.le_of_ble_eq_true rfl) dX3_init_7 (fun q7 cA7 H hK7 hP hD hS => ?_)
  have ec7 : cA7 = cI := hp_ci hK7
  rw [ec7] at hP hD
  have hP : va_P (dC, dI) vwCl ([(o, .inr (3, [.null, .int 0]))] ++ ([(q7, .inl (cI, 24, .inl (fun _ => 0)))])) H := hP
  have hD : va_D A ([(o, .inr (3, [.null, .int 0]))] ++ ([(q7, .inl (cI, 24, .inl (fun _ => 0)))])) := hD
  refine W.widen (k := 1) (n := 24) (Nat.le_of_ble_eq_true rfl) (Nat.le_of_ble_eq_true rfl) ?_
  refine va_putF (D := (dC, dI)) (ci := 3) (v := .ref q7) (ty := (.array .int)) (C := RX3) (T := TX3) (N := 2) hx hb hts hw_X3 tyX3 tyX3_ok nmX3 hown hK hP hD hS 0 rfl rfl 0 (by decide) (hts _ (List.mem_cons_of_mem _ mw_78)) (fun _ h9 => h9) rfl hin rfl (by decide +kernel) rfl rfl (Nat.le_of_ble_eq_true rfl) dX3_init_9 (fun H locs hP hD hS => ?_)
  have hP : va_P (dC, dI) vwCl ([(o, .inr (3, [.ref q7, .int 0]))] ++ ([(q7, .inl (cI, 24, .inl (fun _ => 0)))])) H := hP
  have hD : va_D A ([(o, .inr (3, [.ref q7, .int 0]))] ++ ([(q7, .inl (cI, 24, .inl (fun _ => 0)))])) := hD
  refine W.vret hx hb hr (fun t ht hW => ⟨⟨(), rfl, trivial, (fun k => q7), by rw [ht]; exact hP.sub [0, 1] rfl, hD.sub [0, 1] (by decide +kernel) rfl⟩, hS.F ht⟩) hS.2.2 dX3_init_12 hlocks
set_option maxHeartbeats 4000000 in
set_option maxRecDepth 100000 in
theorem k_X4_init (l : Launch) (dC : Nat → ClassId) (dI : Nat → Nat → Nat) (cI cII : ClassId) (o sz : Nat) :
    Met l yX4_init (wd yX4_init cX4_init 1 none) ({ frames := 1, cells := 2, slots := 16, locals := 14 } : Room) (va_Pc [.ref o] (kB (dC, dI) [(o, .inr (4, [.null, .null, .int 0]))] cI cII sz)) (va_Qv (fun (_ : Unit) => True) (fun _ t => ∃ (a : Nat → Nat), va_P (dC, dI) vwCl (wX4 o a cI v0) t.heap ∧ va_D (va_A [(o, .inr (4, [.null, .null, .int 0]))] sz) (wX4 o a cI v0)) (va_A [(o, .inr (4, [.null, .null, .int 0]))] sz)) 2 16 (va_A [(o, .inr (4, [.null, .null, .int 0]))] sz) := by
  refine Met.ofW (cc := cX4_init) (maxL := 1) (ret := none) (by decide) rfl ?_
  intro p e s m args below meth c s₁ B hml hv
  obtain ⟨rfl, ⟨hsz, hD0, hP, hK, hN⟩, hao⟩ := hv
  have hx := B.exec
  have hb := B.bytes
  have hr := B.returns
  have hts := atoms_spec (ws := (wd yX4_init cX4_init 1 none)) B.pre
  have hown : s.vm.findClass RX4 = some m.cls := findClass_of_methodNamed B.named
  have hlocks := B.notSynchronized
  have hin : meth.name = "<init>" := (name_of_methodNamed B.named B.method).1
  subst hsz
  have hD := hD0.self (sz := s.heap.size)
  generalize hAe : va_A [(o, .inr (4, [.null, .null, .int 0]))] s.heap.size = A at hD ⊢
  have hA : ∀ q : Nat, s.heap.size ≤ q → A q := fun q h => by rw [← hAe]; exact Or.inr h
  have hS : va_S A s.heap s.heap [] := va_S.rf
  have hl := lv_entry ([.ref o]) (n := 1) (Nat.le_of_ble_eq_true rfl)
  rw [lg_entry_eq]
  generalize (lg_sl ([.ref o]) ++ List.replicate (1 - (lg_sl ([.ref o])).length) Slot.unset).toArray = ls at hl ⊢
  have hl : lv_has ls 1 [(0, .ref o)] := hl
  clear hAe hD0
  refine lv_aload_n hx hb dX4_init_0 rfl (lv_at hl 0 rfl) ?_
  refine W.objInit hx hb hown (hts _ (List.mem_cons_of_mem _ mw_100)) (hts _ (List.mem_cons_of_mem _ mw_70)) (hts _ (List.mem_cons_of_mem _ mw_71)) rfl (by rw [hml]; exact hl.1) rfl dX4_init_1 (Nat.le_of_ble_eq_true rfl) (Nat.le_of_ble_eq_true rfl) ?_
  refine W.eq (g2 := F0 m 4 ls []) rfl ?_
  refine lv_aload_n hx hb dX4_init_4 rfl (lv_at hl 0 rfl) ?_
  refine lv_bipush (v := 8) hx hb dX4_init_5 (by decide) ?_
  refine va_newa (atype := .int) (N' := 8) (a0 := (8, .inl (fun _ => 0))) hx hb (hts _ (List.mem_cons_of_mem _ mw_88)) rfl hK hP hD hS hA (fun _ => rfl) (by decide) (by decide) (by decide) (Nat.le_of_ble_eq_true rfl) (Nat.le_of_ble_eq_true rfl) dX4_init_7 (fun q7 cA7 H hK7 hP hD hS => ?_)
  have ec7 : cA7 = cI := hp_ci hK7
  rw [ec7] at hP hD
  have hP : va_P (dC, dI) vwCl ([(o, .inr (4, [.null, .null, .int 0]))] ++ ([(q7, .inl (cI, 8, .inl (fun _ => 0)))])) H := hP
  have hD : va_D A ([(o, .inr (4, [.null, .null, .int 0]))] ++ ([(q7, .inl (cI, 8, .inl (fun _ => 0)))])) := hD
  refine W.widen (k := 1) (n := 8) (Nat.le_of_ble_eq_true rfl) (Nat.le_of_ble_eq_true rfl) ?_
  refine va_putF (D := (dC, dI)) (ci := 4) (v := .ref q7) (ty := (.array .int)) (C := RX4) (T := TX4) (N := 3) hx hb hts hw_X4 tyX4 tyX4_ok nmX4 hown hK hP hD hS 0 rfl rfl 0 (by decide) (hts _ (List.mem_cons_of_mem _ mw_101)) (fun _ h9 => h9) rfl hin rfl (by decide +kernel) rfl rfl (Nat.le_of_ble_eq_true rfl) dX4_init_9 (fun H locs hP hD hS => ?_)
  have hP : va_P (dC, dI) vwCl ([(o, .inr (4, [.ref q7, .null, .int 0]))] ++ ([(q7, .inl (cI, 8, .inl (fun _ => 0)))])) H := hP
  have hD : va_D A ([(o, .inr (4, [.ref q7, .null, .int 0]))] ++ ([(q7, .inl (cI, 8, .inl (fun _ => 0)))])) := hD
  refine lv_aload_n hx hb dX4_init_12 rfl (lv_at hl 0 rfl) ?_
  refine lv_bipush (v := 8) hx hb dX4_init_13 (by decide) ?_
  refine va_newa (atype := .int) (N' := 8) (a0 := (8, .inl (fun _ => 0))) hx hb (hts _ (List.mem_cons_of_mem _ mw_88)) rfl hK hP hD hS hA (fun _ => rfl) (by decide) (by decide) (by decide) (Nat.le_of_ble_eq_true rfl) (Nat.le_of_ble_eq_true rfl) dX4_init_15 (fun q15 cA15 H hK15 hP hD hS => ?_)
  have ec15 : cA15 = cI := hp_ci hK15
  rw [ec15] at hP hD
  have hP : va_P (dC, dI) vwCl ([(o, .inr (4, [.ref q7, .null, .int 0]))] ++ ([(q7, .inl (cI, 8, .inl (fun _ => 0)))] ++ ([(q15, .inl (cI, 8, .inl (fun _ => 0)))]))) H := hP
  have hD : va_D A ([(o, .inr (4, [.ref q7, .null, .int 0]))] ++ ([(q7, .inl (cI, 8, .inl (fun _ => 0)))] ++ ([(q15, .inl (cI, 8, .inl (fun _ => 0)))]))) := hD
  refine W.widen (k := 2) (n := 16) (Nat.le_of_ble_eq_true rfl) (Nat.le_of_ble_eq_true rfl) ?_
  refine va_putF (D := (dC, dI)) (ci := 4) (v := .ref q15) (ty := (.array .int)) (C := RX4) (T := TX4) (N := 3) hx hb hts hw_X4 tyX4 tyX4_ok nmX4 hown hK hP hD hS 0 rfl rfl 1 (by decide) (hts _ (List.mem_cons_of_mem _ mw_102)) (fun _ h9 => h9) rfl hin rfl (by decide +kernel) rfl rfl (Nat.le_of_ble_eq_true rfl) dX4_init_17 (fun H locs hP hD hS => ?_)
  have hP : va_P (dC, dI) vwCl ([(o, .inr (4, [.ref q7, .ref q15, .int 0]))] ++ ([(q7, .inl (cI, 8, .inl (fun _ => 0)))] ++ ([(q15, .inl (cI, 8, .inl (fun _ => 0)))]))) H := hP
  have hD : va_D A ([(o, .inr (4, [.ref q7, .ref q15, .int 0]))] ++ ([(q7, .inl (cI, 8, .inl (fun _ => 0)))] ++ ([(q15, .inl (cI, 8, .inl (fun _ => 0)))]))) := hD
  refine W.vret hx hb hr (fun t ht hW => ⟨⟨(), rfl, trivial, (fun k => if k = 0 then q7 else q15), by rw [ht]; exact hP.sub [0, 1, 2] rfl, hD.sub [0, 1, 2] (by decide +kernel) rfl⟩, hS.F ht⟩) hS.2.2 dX4_init_20 hlocks
set_option maxHeartbeats 4000000 in
set_option maxRecDepth 100000 in
theorem k_X0_init (l : Launch) (dC : Nat → ClassId) (dI : Nat → Nat → Nat) (cI cII : ClassId) (o sz : Nat) :
    Met l yX0_init (wd yX0_init cX0_init 1 none) ({ frames := 1, cells := 2, slots := 10, locals := 14 } : Room) (va_Pc [.ref o] (kB (dC, dI) [(o, .inr (0, [.null, .null, .int 0, .int 0]))] cI cII sz)) (va_Qv (fun (_ : Unit) => True) (fun _ t => ∃ (a : Nat → Nat), va_P (dC, dI) vwCl (wX0 o a cI v0) t.heap ∧ va_D (va_A [(o, .inr (0, [.null, .null, .int 0, .int 0]))] sz) (wX0 o a cI v0)) (va_A [(o, .inr (0, [.null, .null, .int 0, .int 0]))] sz)) 2 10 (va_A [(o, .inr (0, [.null, .null, .int 0, .int 0]))] sz) := by
  refine Met.ofW (cc := cX0_init) (maxL := 1) (ret := none) (by decide) rfl ?_
  intro p e s m args below meth c s₁ B hml hv
  obtain ⟨rfl, ⟨hsz, hD0, hP, hK, hN⟩, hao⟩ := hv
  have hx := B.exec
  have hb := B.bytes
  have hr := B.returns
  have hts := atoms_spec (ws := (wd yX0_init cX0_init 1 none)) B.pre
  have hown : s.vm.findClass RX0 = some m.cls := findClass_of_methodNamed B.named
  have hlocks := B.notSynchronized
  have hin : meth.name = "<init>" := (name_of_methodNamed B.named B.method).1
  subst hsz
  have hD := hD0.self (sz := s.heap.size)
  generalize hAe : va_A [(o, .inr (0, [.null, .null, .int 0, .int 0]))] s.heap.size = A at hD ⊢
  have hA : ∀ q : Nat, s.heap.size ≤ q → A q := fun q h => by rw [← hAe]; exact Or.inr h
  have hS : va_S A s.heap s.heap [] := va_S.rf
  have hl := lv_entry ([.ref o]) (n := 1) (Nat.le_of_ble_eq_true rfl)
  rw [lg_entry_eq]
  generalize (lg_sl ([.ref o]) ++ List.replicate (1 - (lg_sl ([.ref o])).length) Slot.unset).toArray = ls at hl ⊢
  have hl : lv_has ls 1 [(0, .ref o)] := hl
  clear hAe hD0
  refine lv_aload_n hx hb dX0_init_0 rfl (lv_at hl 0 rfl) ?_
  refine W.objInit hx hb hown (hts _ (List.mem_cons_of_mem _ mw_218)) (hts _ (List.mem_cons_of_mem _ mw_70)) (hts _ (List.mem_cons_of_mem _ mw_71)) rfl (by rw [hml]; exact hl.1) rfl dX0_init_1 (Nat.le_of_ble_eq_true rfl) (Nat.le_of_ble_eq_true rfl) ?_
  refine W.eq (g2 := F0 m 4 ls []) rfl ?_
  refine lv_aload_n hx hb dX0_init_4 rfl (lv_at hl 0 rfl) ?_
  refine lv_iconst (v := 5) hx hb dX0_init_5 (by decide) ?_
  refine va_newa (atype := .int) (N' := 5) (a0 := (5, .inl (fun _ => 0))) hx hb (hts _ (List.mem_cons_of_mem _ mw_88)) rfl hK hP hD hS hA (fun _ => rfl) (by decide) (by decide) (by decide) (Nat.le_of_ble_eq_true rfl) (Nat.le_of_ble_eq_true rfl) dX0_init_6 (fun q6 cA6 H hK6 hP hD hS => ?_)
  have ec6 : cA6 = cI := hp_ci hK6
  rw [ec6] at hP hD
  have hP : va_P (dC, dI) vwCl ([(o, .inr (0, [.null, .null, .int 0, .int 0]))] ++ ([(q6, .inl (cI, 5, .inl (fun _ => 0)))])) H := hP
  have hD : va_D A ([(o, .inr (0, [.null, .null, .int 0, .int 0]))] ++ ([(q6, .inl (cI, 5, .inl (fun _ => 0)))])) := hD
  refine W.widen (k := 1) (n := 5) (Nat.le_of_ble_eq_true rfl) (Nat.le_of_ble_eq_true rfl) ?_
  refine va_putF (D := (dC, dI)) (ci := 0) (v := .ref q6) (ty := (.array .int)) (C := RX0) (T := TX0) (N := 4) hx hb hts hw_X0 tyX0 tyX0_ok nmX0 hown hK hP hD hS 0 rfl rfl 0 (by decide) (hts _ (List.mem_cons_of_mem _ mw_219)) (fun _ h9 => h9) rfl hin rfl (by decide +kernel) rfl rfl (Nat.le_of_ble_eq_true rfl) dX0_init_8 (fun H locs hP hD hS => ?_)
  have hP : va_P (dC, dI) vwCl ([(o, .inr (0, [.ref q6, .null, .int 0, .int 0]))] ++ ([(q6, .inl (cI, 5, .inl (fun _ => 0)))])) H := hP
  have hD : va_D A ([(o, .inr (0, [.ref q6, .null, .int 0, .int 0]))] ++ ([(q6, .inl (cI, 5, .inl (fun _ => 0)))])) := hD
  refine lv_aload_n hx hb dX0_init_11 rfl (lv_at hl 0 rfl) ?_
  refine lv_iconst (v := 5) hx hb dX0_init_12 (by decide) ?_
  refine va_newa (atype := .int) (N' := 5) (a0 := (5, .inl (fun _ => 0))) hx hb (hts _ (List.mem_cons_of_mem _ mw_88)) rfl hK hP hD hS hA (fun _ => rfl) (by decide) (by decide) (by decide) (Nat.le_of_ble_eq_true rfl) (Nat.le_of_ble_eq_true rfl) dX0_init_13 (fun q13 cA13 H hK13 hP hD hS => ?_)
  have ec13 : cA13 = cI := hp_ci hK13
  rw [ec13] at hP hD
  have hP : va_P (dC, dI) vwCl ([(o, .inr (0, [.ref q6, .null, .int 0, .int 0]))] ++ ([(q6, .inl (cI, 5, .inl (fun _ => 0)))] ++ ([(q13, .inl (cI, 5, .inl (fun _ => 0)))]))) H := hP
  have hD : va_D A ([(o, .inr (0, [.ref q6, .null, .int 0, .int 0]))] ++ ([(q6, .inl (cI, 5, .inl (fun _ => 0)))] ++ ([(q13, .inl (cI, 5, .inl (fun _ => 0)))]))) := hD
  refine W.widen (k := 2) (n := 10) (Nat.le_of_ble_eq_true rfl) (Nat.le_of_ble_eq_true rfl) ?_
  refine va_putF (D := (dC, dI)) (ci := 0) (v := .ref q13) (ty := (.array .int)) (C := RX0) (T := TX0) (N := 4) hx hb hts hw_X0 tyX0 tyX0_ok nmX0 hown hK hP hD hS 0 rfl rfl 1 (by decide) (hts _ (List.mem_cons_of_mem _ mw_220)) (fun _ h9 => h9) rfl hin rfl (by decide +kernel) rfl rfl (Nat.le_of_ble_eq_true rfl) dX0_init_15 (fun H locs hP hD hS => ?_)
  have hP : va_P (dC, dI) vwCl ([(o, .inr (0, [.ref q6, .ref q13, .int 0, .int 0]))] ++ ([(q6, .inl (cI, 5, .inl (fun _ => 0)))] ++ ([(q13, .inl (cI, 5, .inl (fun _ => 0)))]))) H := hP
  have hD : va_D A ([(o, .inr (0, [.ref q6, .ref q13, .int 0, .int 0]))] ++ ([(q6, .inl (cI, 5, .inl (fun _ => 0)))] ++ ([(q13, .inl (cI, 5, .inl (fun _ => 0)))]))) := hD
  refine W.vret hx hb hr (fun t ht hW => ⟨⟨(), rfl, trivial, (fun k => if k = 0 then q6 else q13), by rw [ht]; exact hP.sub [0, 1, 2] rfl, hD.sub [0, 1, 2] (by decide +kernel) rfl⟩, hS.F ht⟩) hS.2.2 dX0_init_18 hlocks
set_option maxHeartbeats 4000000 in
set_option maxRecDepth 100000 in
theorem k_X2_init (l : Launch) (dC : Nat → ClassId) (dI : Nat → Nat → Nat) (cI cII : ClassId) (o sz : Nat) :
    Met l yX2_init (wd yX2_init cX2_init 1 none) ({ frames := 1, cells := 4, slots := 35, locals := 14 } : Room) (va_Pc [.ref o] (kB (dC, dI) [(o, .inr (2, [.null, .null, .null, .null, .int 0, .int 0, .int 0, .int 0]))] cI cII sz)) (va_Qv (fun (_ : Unit) => True) (fun _ t => ∃ (a : Nat → Nat), va_P (dC, dI) vwCl (wX2 o a cI v0) t.heap ∧ va_D (va_A [(o, .inr (2, [.null, .null, .null, .null, .int 0, .int 0, .int 0, .int 0]))] sz) (wX2 o a cI v0)) (va_A [(o, .inr (2, [.null, .null, .null, .null, .int 0, .int 0, .int 0, .int 0]))] sz)) 4 35 (va_A [(o, .inr (2, [.null, .null, .null, .null, .int 0, .int 0, .int 0, .int 0]))] sz) := by
  refine Met.ofW (cc := cX2_init) (maxL := 1) (ret := none) (by decide) rfl ?_
  intro p e s m args below meth c s₁ B hml hv
  obtain ⟨rfl, ⟨hsz, hD0, hP, hK, hN⟩, hao⟩ := hv
  have hx := B.exec
  have hb := B.bytes
  have hr := B.returns
  have hts := atoms_spec (ws := (wd yX2_init cX2_init 1 none)) B.pre
  have hown : s.vm.findClass RX2 = some m.cls := findClass_of_methodNamed B.named
  have hlocks := B.notSynchronized
  have hin : meth.name = "<init>" := (name_of_methodNamed B.named B.method).1
  subst hsz
  have hD := hD0.self (sz := s.heap.size)
  generalize hAe : va_A [(o, .inr (2, [.null, .null, .null, .null, .int 0, .int 0, .int 0, .int 0]))] s.heap.size = A at hD ⊢
  have hA : ∀ q : Nat, s.heap.size ≤ q → A q := fun q h => by rw [← hAe]; exact Or.inr h
  have hS : va_S A s.heap s.heap [] := va_S.rf
  have hl := lv_entry ([.ref o]) (n := 1) (Nat.le_of_ble_eq_true rfl)
  rw [lg_entry_eq]
  generalize (lg_sl ([.ref o]) ++ List.replicate (1 - (lg_sl ([.ref o])).length) Slot.unset).toArray = ls at hl ⊢
  have hl : lv_has ls 1 [(0, .ref o)] := hl
  clear hAe hD0
  refine lv_aload_n hx hb dX2_init_0 rfl (lv_at hl 0 rfl) ?_
  refine W.objInit hx hb hown (hts _ (List.mem_cons_of_mem _ mw_154)) (hts _ (List.mem_cons_of_mem _ mw_70)) (hts _ (List.mem_cons_of_mem _ mw_71)) rfl (by rw [hml]; exact hl.1) rfl dX2_init_1 (Nat.le_of_ble_eq_true rfl) (Nat.le_of_ble_eq_true rfl) ?_
  refine W.eq (g2 := F0 m 4 ls []) rfl ?_
  refine lv_aload_n hx hb dX2_init_4 rfl (lv_at hl 0 rfl) ?_
  refine lv_iconst (v := 5) hx hb dX2_init_5 (by decide) ?_
  refine va_newa (atype := .int) (N' := 5) (a0 := (5, .inl (fun _ => 0))) hx hb (hts _ (List.mem_cons_of_mem _ mw_88)) rfl hK hP hD hS hA (fun _ => rfl) (by decide) (by decide) (by decide) (Nat.le_of_ble_eq_true rfl) (Nat.le_of_ble_eq_true rfl) dX2_init_6 (fun q6 cA6 H hK6 hP hD hS => ?_)
  have ec6 : cA6 = cI := hp_ci hK6
  rw [ec6] at hP hD
  have hP : va_P (dC, dI) vwCl ([(o, .inr (2, [.null, .null, .null, .null, .int 0, .int 0, .int 0, .int 0]))] ++ ([(q6, .inl (cI, 5, .inl (fun _ => 0)))])) H := hP
  have hD : va_D A ([(o, .inr (2, [.null, .null, .null, .null, .int 0, .int 0, .int 0, .int 0]))] ++ ([(q6, .inl (cI, 5, .inl (fun _ => 0)))])) := hD
  refine W.widen (k := 1) (n := 5) (Nat.le_of_ble_eq_true rfl) (Nat.le_of_ble_eq_true rfl) ?_
  refine va_putF (D := (dC, dI)) (ci := 2) (v := .ref q6) (ty := (.array .int)) (C := RX2) (T := TX2) (N := 8) hx hb hts hw_X2 tyX2 tyX2_ok nmX2 hown hK hP hD hS 0 rfl rfl 0 (by decide) (hts _ (List.mem_cons_of_mem _ mw_155)) (fun _ h9 => h9) rfl hin rfl (by decide +kernel) rfl rfl (Nat.le_of_ble_eq_true rfl) dX2_init_8 (fun H locs hP hD hS => ?_)
  have hP : va_P (dC, dI) vwCl ([(o, .inr (2, [.ref q6, .null, .null, .null, .int 0, .int 0, .int 0, .int 0]))] ++ ([(q6, .inl (cI, 5, .inl (fun _ => 0)))])) H := hP
  have hD : va_D A ([(o, .inr (2, [.ref q6, .null, .null, .null, .int 0, .int 0, .int 0, .int 0]))] ++ ([(q6, .inl (cI, 5, .inl (fun _ => 0)))])) := hD
  refine lv_aload_n hx hb dX2_init_11 rfl (lv_at hl 0 rfl) ?_
  refine lv_iconst (v := 5) hx hb dX2_init_12 (by decide) ?_
  refine va_newa (atype := .int) (N' := 5) (a0 := (5, .inl (fun _ => 0))) hx hb (hts _ (List.mem_cons_of_mem _ mw_88)) rfl hK hP hD hS hA (fun _ => rfl) (by decide) (by decide) (by decide) (Nat.le_of_ble_eq_true rfl) (Nat.le_of_ble_eq_true rfl) dX2_init_13 (fun q13 cA13 H hK13 hP hD hS => ?_)
  have ec13 : cA13 = cI := hp_ci hK13
  rw [ec13] at hP hD
  have hP : va_P (dC, dI) vwCl ([(o, .inr (2, [.ref q6, .null, .null, .null, .int 0, .int 0, .int 0, .int 0]))] ++ ([(q6, .inl (cI, 5, .inl (fun _ => 0)))] ++ ([(q13, .inl (cI, 5, .inl (fun _ => 0)))]))) H := hP
  have hD : va_D A ([(o, .inr (2, [.ref q6, .null, .null, .null, .int 0, .int 0, .int 0, .int 0]))] ++ ([(q6, .inl (cI, 5, .inl (fun _ => 0)))] ++ ([(q13, .inl (cI, 5, .inl (fun _ => 0)))]))) := hD
  refine W.widen (k := 2) (n := 10) (Nat.le_of_ble_eq_true rfl) (Nat.le_of_ble_eq_true rfl) ?_
  refine va_putF (D := (dC, dI)) (ci := 2) (v := .ref q13) (ty := (.array .int)) (C := RX2) (T := TX2) (N := 8) hx hb hts hw_X2 tyX2 tyX2_ok nmX2 hown hK hP hD hS 0 rfl rfl 1 (by decide) (hts _ (List.mem_cons_of_mem _ mw_158)) (fun _ h9 => h9) rfl hin rfl (by decide +kernel) rfl rfl (Nat.le_of_ble_eq_true rfl) dX2_init_15 (fun H locs hP hD hS => ?_)
  have hP : va_P (dC, dI) vwCl ([(o, .inr (2, [.ref q6, .ref q13, .null, .null, .int 0, .int 0, .int 0, .int 0]))] ++ ([(q6, .inl (cI, 5, .inl (fun _ => 0)))] ++ ([(q13, .inl (cI, 5, .inl (fun _ => 0)))]))) H := hP
  have hD : va_D A ([(o, .inr (2, [.ref q6, .ref q13, .null, .null, .int 0, .int 0, .int 0, .int 0]))] ++ ([(q6, .inl (cI, 5, .inl (fun _ => 0)))] ++ ([(q13, .inl (cI, 5, .inl (fun _ => 0)))]))) := hD
  refine lv_aload_n hx hb dX2_init_18 rfl (lv_at hl 0 rfl) ?_
  refine lv_iconst (v := 5) hx hb dX2_init_19 (by decide) ?_
  refine va_newa (atype := .int) (N' := 5) (a0 := (5, .inl (fun _ => 0))) hx hb (hts _ (List.mem_cons_of_mem _ mw_88)) rfl hK hP hD hS hA (fun _ => rfl) (by decide) (by decide) (by decide) (Nat.le_of_ble_eq_true rfl) (Nat.le_of_ble_eq_true rfl) dX2_init_20 (fun q20 cA20 H hK20 hP hD hS => ?_)
  have ec20 : cA20 = cI := hp_ci hK20
  rw [ec20] at hP hD
  have hP : va_P (dC, dI) vwCl ([(o, .inr (2, [.ref q6, .ref q13, .null, .null, .int 0, .int 0, .int 0, .int 0]))] ++ ([(q6, .inl (cI, 5, .inl (fun _ => 0)))] ++ ([(q13, .inl (cI, 5, .inl (fun _ => 0)))] ++ ([(q20, .inl (cI, 5, .inl (fun _ => 0)))])))) H := hP
  have hD : va_D A ([(o, .inr (2, [.ref q6, .ref q13, .null, .null, .int 0, .int 0, .int 0, .int 0]))] ++ ([(q6, .inl (cI, 5, .inl (fun _ => 0)))] ++ ([(q13, .inl (cI, 5, .inl (fun _ => 0)))] ++ ([(q20, .inl (cI, 5, .inl (fun _ => 0)))])))) := hD
  refine W.widen (k := 3) (n := 15) (Nat.le_of_ble_eq_true rfl) (Nat.le_of_ble_eq_true rfl) ?_
  refine va_putF (D := (dC, dI)) (ci := 2) (v := .ref q20) (ty := (.array .int)) (C := RX2) (T := TX2) (N := 8) hx hb hts hw_X2 tyX2 tyX2_ok nmX2 hown hK hP hD hS 0 rfl rfl 2 (by decide) (hts _ (List.mem_cons_of_mem _ mw_160)) (fun _ h9 => h9) rfl hin rfl (by decide +kernel) rfl rfl (Nat.le_of_ble_eq_true rfl) dX2_init_22 (fun H locs hP hD hS => ?_)
  have hP : va_P (dC, dI) vwCl ([(o, .inr (2, [.ref q6, .ref q13, .ref q20, .null, .int 0, .int 0, .int 0, .int 0]))] ++ ([(q6, .inl (cI, 5, .inl (fun _ => 0)))] ++ ([(q13, .inl (cI, 5, .inl (fun _ => 0)))] ++ ([(q20, .inl (cI, 5, .inl (fun _ => 0)))])))) H := hP
  have hD : va_D A ([(o, .inr (2, [.ref q6, .ref q13, .ref q20, .null, .int 0, .int 0, .int 0, .int 0]))] ++ ([(q6, .inl (cI, 5, .inl (fun _ => 0)))] ++ ([(q13, .inl (cI, 5, .inl (fun _ => 0)))] ++ ([(q20, .inl (cI, 5, .inl (fun _ => 0)))])))) := hD
  refine lv_aload_n hx hb dX2_init_25 rfl (lv_at hl 0 rfl) ?_
  refine lv_bipush (v := 20) hx hb dX2_init_26 (by decide) ?_
  refine va_newa (atype := .int) (N' := 20) (a0 := (20, .inl (fun _ => 0))) hx hb (hts _ (List.mem_cons_of_mem _ mw_88)) rfl hK hP hD hS hA (fun _ => rfl) (by decide) (by decide) (by decide) (Nat.le_of_ble_eq_true rfl) (Nat.le_of_ble_eq_true rfl) dX2_init_28 (fun q28 cA28 H hK28 hP hD hS => ?_)
  have ec28 : cA28 = cI := hp_ci hK28
  rw [ec28] at hP hD
  have hP : va_P (dC, dI) vwCl ([(o, .inr (2, [.ref q6, .ref q13, .ref q20, .null, .int 0, .int 0, .int 0, .int 0]))] ++ ([(q6, .inl (cI, 5, .inl (fun _ => 0)))] ++ ([(q13, .inl (cI, 5, .inl (fun _ => 0)))] ++ ([(q20, .inl (cI, 5, .inl (fun _ => 0)))] ++ ([(q28, .inl (cI, 20, .inl (fun _ => 0)))]))))) H := hP
  have hD : va_D A ([(o, .inr (2, [.ref q6, .ref q13, .ref q20, .null, .int 0, .int 0, .int 0, .int 0]))] ++ ([(q6, .inl (cI, 5, .inl (fun _ => 0)))] ++ ([(q13, .inl (cI, 5, .inl (fun _ => 0)))] ++ ([(q20, .inl (cI, 5, .inl (fun _ => 0)))] ++ ([(q28, .inl (cI, 20, .inl (fun _ => 0)))]))))) := hD
  refine W.widen (k := 4) (n := 35) (Nat.le_of_ble_eq_true rfl) (Nat.le_of_ble_eq_true rfl) ?_
  refine va_putF (D := (dC, dI)) (ci := 2) (v := .ref q28) (ty := (.array .int)) (C := RX2) (T := TX2) (N := 8) hx hb hts hw_X2 tyX2 tyX2_ok nmX2 hown hK hP hD hS 0 rfl rfl 3 (by decide) (hts _ (List.mem_cons_of_mem _ mw_162)) (fun _ h9 => h9) rfl hin rfl (by decide +kernel) rfl rfl (Nat.le_of_ble_eq_true rfl) dX2_init_30 (fun H locs hP hD hS => ?_)
  have hP : va_P (dC, dI) vwCl ([(o, .inr (2, [.ref q6, .ref q13, .ref q20, .ref q28, .int 0, .int 0, .int 0, .int 0]))] ++ ([(q6, .inl (cI, 5, .inl (fun _ => 0)))] ++ ([(q13, .inl (cI, 5, .inl (fun _ => 0)))] ++ ([(q20, .inl (cI, 5, .inl (fun _ => 0)))] ++ ([(q28, .inl (cI, 20, .inl (fun _ => 0)))]))))) H := hP
  have hD : va_D A ([(o, .inr (2, [.ref q6, .ref q13, .ref q20, .ref q28, .int 0, .int 0, .int 0, .int 0]))] ++ ([(q6, .inl (cI, 5, .inl (fun _ => 0)))] ++ ([(q13, .inl (cI, 5, .inl (fun _ => 0)))] ++ ([(q20, .inl (cI, 5, .inl (fun _ => 0)))] ++ ([(q28, .inl (cI, 20, .inl (fun _ => 0)))]))))) := hD
  refine W.vret hx hb hr (fun t ht hW => ⟨⟨(), rfl, trivial, (fun k => if k = 0 then q6 else if k = 1 then q13 else if k = 2 then q20 else q28), by rw [ht]; exact hP.sub [0, 1, 2, 3, 4] rfl, hD.sub [0, 1, 2, 3, 4] (by decide +kernel) rfl⟩, hS.F ht⟩) hS.2.2 dX2_init_33 hlocks
set_option maxHeartbeats 4000000 in
set_option maxRecDepth 100000 in
theorem k_X1_init (l : Launch) (dC : Nat → ClassId) (dI : Nat → Nat → Nat) (cI cII : ClassId) (o sz : Nat) :
    Met l yX1_init (wd yX1_init cX1_init 1 none) ({ frames := 2, cells := 6, slots := 34, locals := 34 } : Room) (va_Pc [.ref o] (kB (dC, dI) [(o, .inr (1, [.null, .null, .null, .null, .int 0, .int 0, .int 0]))] cI cII sz)) (va_Qv (fun (_ : Unit) => True) (fun _ t => ∃ (a a_3 : Nat → Nat), va_P (dC, dI) vwCl (wX1 o a cI v0 ++ (wX4 (a 3) a_3 cI v0)) t.heap ∧ va_D (va_A [(o, .inr (1, [.null, .null, .null, .null, .int 0, .int 0, .int 0]))] sz) (wX1 o a cI v0 ++ (wX4 (a 3) a_3 cI v0))) (va_A [(o, .inr (1, [.null, .null, .null, .null, .int 0, .int 0, .int 0]))] sz)) 6 34 (va_A [(o, .inr (1, [.null, .null, .null, .null, .int 0, .int 0, .int 0]))] sz) := by
  refine Met.ofW (cc := cX1_init) (maxL := 1) (ret := none) (by decide) rfl ?_
  intro p e s m args below meth c s₁ B hml hv
  obtain ⟨rfl, ⟨hsz, hD0, hP, hK, hN⟩, hao⟩ := hv
  have hx := B.exec
  have hb := B.bytes
  have hr := B.returns
  have hts := atoms_spec (ws := (wd yX1_init cX1_init 1 none)) B.pre
  have hown : s.vm.findClass RX1 = some m.cls := findClass_of_methodNamed B.named
  have hlocks := B.notSynchronized
  have hin : meth.name = "<init>" := (name_of_methodNamed B.named B.method).1
  subst hsz
  have hD := hD0.self (sz := s.heap.size)
  generalize hAe : va_A [(o, .inr (1, [.null, .null, .null, .null, .int 0, .int 0, .int 0]))] s.heap.size = A at hD ⊢
  have hA : ∀ q : Nat, s.heap.size ≤ q → A q := fun q h => by rw [← hAe]; exact Or.inr h
  have hS : va_S A s.heap s.heap [] := va_S.rf
  have hl := lv_entry ([.ref o]) (n := 1) (Nat.le_of_ble_eq_true rfl)
  rw [lg_entry_eq]
  generalize (lg_sl ([.ref o]) ++ List.replicate (1 - (lg_sl ([.ref o])).length) Slot.unset).toArray = ls at hl ⊢
  have hl : lv_has ls 1 [(0, .ref o)] := hl
  clear hAe hD0
  refine lv_aload_n hx hb dX1_init_0 rfl (lv_at hl 0 rfl) ?_
  refine W.objInit hx hb hown (hts _ (List.mem_cons_of_mem _ mw_94)) (hts _ (List.mem_cons_of_mem _ mw_70)) (hts _ (List.mem_cons_of_mem _ mw_71)) rfl (by rw [hml]; exact hl.1) rfl dX1_init_1 (Nat.le_of_ble_eq_true rfl) (Nat.le_of_ble_eq_true rfl) ?_
  refine W.eq (g2 := F0 m 4 ls []) rfl ?_
  refine lv_aload_n hx hb dX1_init_4 rfl (lv_at hl 0 rfl) ?_
  refine lv_iconst (v := 5) hx hb dX1_init_5 (by decide) ?_
  refine va_newa (atype := .int) (N' := 5) (a0 := (5, .inl (fun _ => 0))) hx hb (hts _ (List.mem_cons_of_mem _ mw_88)) rfl hK hP hD hS hA (fun _ => rfl) (by decide) (by decide) (by decide) (Nat.le_of_ble_eq_true rfl) (Nat.le_of_ble_eq_true rfl) dX1_init_6 (fun q6 cA6 H hK6 hP hD hS => ?_)
  have ec6 : cA6 = cI := hp_ci hK6
  rw [ec6] at hP hD
  have hP : va_P (dC, dI) vwCl ([(o, .inr (1, [.null, .null, .null, .null, .int 0, .int 0, .int 0]))] ++ ([(q6, .inl (cI, 5, .inl (fun _ => 0)))])) H := hP
  have hD : va_D A ([(o, .inr (1, [.null, .null, .null, .null, .int 0, .int 0, .int 0]))] ++ ([(q6, .inl (cI, 5, .inl (fun _ => 0)))])) := hD
  refine W.widen (k := 1) (n := 5) (Nat.le_of_ble_eq_true rfl) (Nat.le_of_ble_eq_true rfl) ?_
  refine va_putF (D := (dC, dI)) (ci := 1) (v := .ref q6) (ty := (.array .int)) (C := RX1) (T := TX1) (N := 7) hx hb hts hw_X1 tyX1 tyX1_ok nmX1 hown hK hP hD hS 0 rfl rfl 0 (by decide) (hts _ (List.mem_cons_of_mem _ mw_113)) (fun _ h9 => h9) rfl hin rfl (by decide +kernel) rfl rfl (Nat.le_of_ble_eq_true rfl) dX1_init_8 (fun H locs hP hD hS => ?_)
  have hP : va_P (dC, dI) vwCl ([(o, .inr (1, [.ref q6, .null, .null, .null, .int 0, .int 0, .int 0]))] ++ ([(q6, .inl (cI, 5, .inl (fun _ => 0)))])) H := hP
  have hD : va_D A ([(o, .inr (1, [.ref q6, .null, .null, .null, .int 0, .int 0, .int 0]))] ++ ([(q6, .inl (cI, 5, .inl (fun _ => 0)))])) := hD
  refine lv_aload_n hx hb dX1_init_11 rfl (lv_at hl 0 rfl) ?_
  refine lv_iconst (v := 5) hx hb dX1_init_12 (by decide) ?_
  refine va_newa (atype := .int) (N' := 5) (a0 := (5, .inl (fun _ => 0))) hx hb (hts _ (List.mem_cons_of_mem _ mw_88)) rfl hK hP hD hS hA (fun _ => rfl) (by decide) (by decide) (by decide) (Nat.le_of_ble_eq_true rfl) (Nat.le_of_ble_eq_true rfl) dX1_init_13 (fun q13 cA13 H hK13 hP hD hS => ?_)
  have ec13 : cA13 = cI := hp_ci hK13
  rw [ec13] at hP hD
  have hP : va_P (dC, dI) vwCl ([(o, .inr (1, [.ref q6, .null, .null, .null, .int 0, .int 0, .int 0]))] ++ ([(q6, .inl (cI, 5, .inl (fun _ => 0)))] ++ ([(q13, .inl (cI, 5, .inl (fun _ => 0)))]))) H := hP
  have hD : va_D A ([(o, .inr (1, [.ref q6, .null, .null, .null, .int 0, .int 0, .int 0]))] ++ ([(q6, .inl (cI, 5, .inl (fun _ => 0)))] ++ ([(q13, .inl (cI, 5, .inl (fun _ => 0)))]))) := hD
  refine W.widen (k := 2) (n := 10) (Nat.le_of_ble_eq_true rfl) (Nat.le_of_ble_eq_true rfl) ?_
  refine va_putF (D := (dC, dI)) (ci := 1) (v := .ref q13) (ty := (.array .int)) (C := RX1) (T := TX1) (N := 7) hx hb hts hw_X1 tyX1 tyX1_ok nmX1 hown hK hP hD hS 0 rfl rfl 1 (by decide) (hts _ (List.mem_cons_of_mem _ mw_115)) (fun _ h9 => h9) rfl hin rfl (by decide +kernel) rfl rfl (Nat.le_of_ble_eq_true rfl) dX1_init_15 (fun H locs hP hD hS => ?_)
  have hP : va_P (dC, dI) vwCl ([(o, .inr (1, [.ref q6, .ref q13, .null, .null, .int 0, .int 0, .int 0]))] ++ ([(q6, .inl (cI, 5, .inl (fun _ => 0)))] ++ ([(q13, .inl (cI, 5, .inl (fun _ => 0)))]))) H := hP
  have hD : va_D A ([(o, .inr (1, [.ref q6, .ref q13, .null, .null, .int 0, .int 0, .int 0]))] ++ ([(q6, .inl (cI, 5, .inl (fun _ => 0)))] ++ ([(q13, .inl (cI, 5, .inl (fun _ => 0)))]))) := hD
  refine lv_aload_n hx hb dX1_init_18 rfl (lv_at hl 0 rfl) ?_
  refine lv_iconst (v := 5) hx hb dX1_init_19 (by decide) ?_
  refine va_newa (atype := .int) (N' := 5) (a0 := (5, .inl (fun _ => 0))) hx hb (hts _ (List.mem_cons_of_mem _ mw_88)) rfl hK hP hD hS hA (fun _ => rfl) (by decide) (by decide) (by decide) (Nat.le_of_ble_eq_true rfl) (Nat.le_of_ble_eq_true rfl) dX1_init_20 (fun q20 cA20 H hK20 hP hD hS => ?_)
  have ec20 : cA20 = cI := hp_ci hK20
  rw [ec20] at hP hD
  have hP : va_P (dC, dI) vwCl ([(o, .inr (1, [.ref q6, .ref q13, .null, .null, .int 0, .int 0, .int 0]))] ++ ([(q6, .inl (cI, 5, .inl (fun _ => 0)))] ++ ([(q13, .inl (cI, 5, .inl (fun _ => 0)))] ++ ([(q20, .inl (cI, 5, .inl (fun _ => 0)))])))) H := hP
  have hD : va_D A ([(o, .inr (1, [.ref q6, .ref q13, .null, .null, .int 0, .int 0, .int 0]))] ++ ([(q6, .inl (cI, 5, .inl (fun _ => 0)))] ++ ([(q13, .inl (cI, 5, .inl (fun _ => 0)))] ++ ([(q20, .inl (cI, 5, .inl (fun _ => 0)))])))) := hD
  refine W.widen (k := 3) (n := 15) (Nat.le_of_ble_eq_true rfl) (Nat.le_of_ble_eq_true rfl) ?_
  refine va_putF (D := (dC, dI)) (ci := 1) (v := .ref q20) (ty := (.array .int)) (C := RX1) (T := TX1) (N := 7) hx hb hts hw_X1 tyX1 tyX1_ok nmX1 hown hK hP hD hS 0 rfl rfl 2 (by decide) (hts _ (List.mem_cons_of_mem _ mw_119)) (fun _ h9 => h9) rfl hin rfl (by decide +kernel) rfl rfl (Nat.le_of_ble_eq_true rfl) dX1_init_22 (fun H locs hP hD hS => ?_)
  have hP : va_P (dC, dI) vwCl ([(o, .inr (1, [.ref q6, .ref q13, .ref q20, .null, .int 0, .int 0, .int 0]))] ++ ([(q6, .inl (cI, 5, .inl (fun _ => 0)))] ++ ([(q13, .inl (cI, 5, .inl (fun _ => 0)))] ++ ([(q20, .inl (cI, 5, .inl (fun _ => 0)))])))) H := hP
  have hD : va_D A ([(o, .inr (1, [.ref q6, .ref q13, .ref q20, .null, .int 0, .int 0, .int 0]))] ++ ([(q6, .inl (cI, 5, .inl (fun _ => 0)))] ++ ([(q13, .inl (cI, 5, .inl (fun _ => 0)))] ++ ([(q20, .inl (cI, 5, .inl (fun _ => 0)))])))) := hD
  refine lv_aload_n hx hb dX1_init_25 rfl (lv_at hl 0 rfl) ?_
  refine va_new (ci := 4) (fs := [.null, .null, .int 0]) (C := RX4) (T := TX4) (N := 3) hx hb hts hw_X4 tyX4 tyX4_ok hown (hts _ (List.mem_cons_of_mem _ mw_95)) (hts _ (List.mem_cons_of_mem _ mw_96)) (hts _ (List.mem_cons_of_mem _ mw_56)) hK hP hD hS hA rfl (fun j hj => match j, hj with | 0, _ => rfl | 1, _ => rfl | 2, _ => rfl | j + 3, h => absurd h (by omega)) (Nat.le_of_ble_eq_true rfl) (Nat.le_of_ble_eq_true rfl) dX1_init_26 (fun q26 H hP hD hS => ?_)
  have hP : va_P (dC, dI) vwCl ([(o, .inr (1, [.ref q6, .ref q13, .ref q20, .null, .int 0, .int 0, .int 0]))] ++ ([(q6, .inl (cI, 5, .inl (fun _ => 0)))] ++ ([(q13, .inl (cI, 5, .inl (fun _ => 0)))] ++ ([(q20, .inl (cI, 5, .inl (fun _ => 0)))] ++ ([(q26, .inr (4, [.null, .null, .int 0]))]))))) H := hP
  have hD : va_D A ([(o, .inr (1, [.ref q6, .ref q13, .ref q20, .null, .int 0, .int 0, .int 0]))] ++ ([(q6, .inl (cI, 5, .inl (fun _ => 0)))] ++ ([(q13, .inl (cI, 5, .inl (fun _ => 0)))] ++ ([(q20, .inl (cI, 5, .inl (fun _ => 0)))] ++ ([(q26, .inr (4, [.null, .null, .int 0]))]))))) := hD
  refine W.widen (k := 4) (n := 18) (Nat.le_of_ble_eq_true rfl) (Nat.le_of_ble_eq_true rfl) ?_
  refine lv_dup hx hb dX1_init_29 rfl ?_
  have hPc := hP.sub (ws' := [(q26, .inr (4, [.null, .null, .int 0]))]) [4] rfl
  have hDc := hD.sub (ws' := [(q26, .inr (4, [.null, .null, .int 0]))]) [4] (by decide) rfl
  have hFc := va_free (wc := [(q26, .inr (4, [.null, .null, .int 0]))]) hD hS hA [4] rfl
  refine va_callv (va_runIN (As := []) (rest := [.ref q26, .ref o]) ⟨hx, hb, hml, hown, hts⟩ (k_X4_init l dC dI cI cII q26 _) ⟨va_cnB 0 hts (hw_gi mw_99) rfl rfl rfl hN.2.2.2.2.2.2.2.1 (hts _ (List.mem_cons_of_mem _ mw_56)) (by decide +kernel) ⟨Nat.le_of_ble_eq_true rfl, Nat.le_of_ble_eq_true rfl⟩, rfl, (hts _ (List.mem_cons_of_mem _ mw_98))⟩ ⟨kB_blind, fun U hU hW => ⟨rfl, kB_go hPc hDc hK hN hao hU hW⟩⟩ rfl rfl hl.1 rfl (lv_room (Nat.le_of_ble_eq_true rfl)) dX1_init_30 ⟨Nat.le_of_ble_eq_true rfl, Nat.le_of_ble_eq_true rfl⟩) hS (fun q _ h => hFc q h) hFc (fun u t H1 locs ht hvm hw hB hz1 hk1 hS => ?_)
  obtain ⟨b30, hP1, hD1⟩ := hB
  rw [ht] at hP1
  obtain ⟨hP, hD⟩ := va_join (wr := ([(o, .inr (1, [.ref q6, .ref q13, .ref q20, .null, .int 0, .int 0, .int 0]))] ++ ([(q6, .inl (cI, 5, .inl (fun _ => 0)))] ++ ([(q13, .inl (cI, 5, .inl (fun _ => 0)))] ++ ([(q20, .inl (cI, 5, .inl (fun _ => 0)))]))))) (w1 := (wX4 q26 b30 cI v0)) hP hD [4] [0, 1, 2, 3] rfl rfl (by decide +kernel) (by decide +kernel) hk1 hFc hP1 hD1
  generalize H1 = H at hP hS ⊢
  have hP : va_P (dC, dI) vwCl ([(o, .inr (1, [.ref q6, .ref q13, .ref q20, .null, .int 0, .int 0, .int 0]))] ++ ([(q6, .inl (cI, 5, .inl (fun _ => 0)))] ++ ([(q13, .inl (cI, 5, .inl (fun _ => 0)))] ++ ([(q20, .inl (cI, 5, .inl (fun _ => 0)))] ++ (wX4 q26 b30 cI v0))))) H := hP
  have hD : va_D A ([(o, .inr (1, [.ref q6, .ref q13, .ref q20, .null, .int 0, .int 0, .int 0]))] ++ ([(q6, .inl (cI, 5, .inl (fun _ => 0)))] ++ ([(q13, .inl (cI, 5, .inl (fun _ => 0)))] ++ ([(q20, .inl (cI, 5, .inl (fun _ => 0)))] ++ (wX4 q26 b30 cI v0))))) := hD
  refine W.widen (k := 6) (n := 34) (Nat.le_of_ble_eq_true rfl) (Nat.le_of_ble_eq_true rfl) ?_
  refine va_putF (D := (dC, dI)) (ci := 1) (v := .ref q26) (ty := (.object "HermitHours$Sights")) (C := RX1) (T := TX1) (N := 7) hx hb hts hw_X1 tyX1 tyX1_ok nmX1 hown hK hP hD hS 0 rfl rfl 3 (by decide) (hts _ (List.mem_cons_of_mem _ mw_122)) (fun _ h9 => h9) rfl hin rfl (by decide +kernel) rfl rfl (Nat.le_of_ble_eq_true rfl) dX1_init_33 (fun H locs hP hD hS => ?_)
  have hP : va_P (dC, dI) vwCl ([(o, .inr (1, [.ref q6, .ref q13, .ref q20, .ref q26, .int 0, .int 0, .int 0]))] ++ ([(q6, .inl (cI, 5, .inl (fun _ => 0)))] ++ ([(q13, .inl (cI, 5, .inl (fun _ => 0)))] ++ ([(q20, .inl (cI, 5, .inl (fun _ => 0)))] ++ (wX4 q26 b30 cI v0))))) H := hP
  have hD : va_D A ([(o, .inr (1, [.ref q6, .ref q13, .ref q20, .ref q26, .int 0, .int 0, .int 0]))] ++ ([(q6, .inl (cI, 5, .inl (fun _ => 0)))] ++ ([(q13, .inl (cI, 5, .inl (fun _ => 0)))] ++ ([(q20, .inl (cI, 5, .inl (fun _ => 0)))] ++ (wX4 q26 b30 cI v0))))) := hD
  refine W.vret hx hb hr (fun t ht hW => ⟨⟨(), rfl, trivial, (fun k => if k = 0 then q6 else if k = 1 then q13 else if k = 2 then q20 else q26), b30, by rw [ht]; exact hP.sub [0, 1, 2, 3, 4, 5, 6] rfl, hD.sub [0, 1, 2, 3, 4, 5, 6] (by decide +kernel) rfl⟩, hS.F ht⟩) hS.2.2 dX1_init_36 hlocks
set_option maxHeartbeats 4000000 in
set_option maxRecDepth 100000 in
theorem k_X5_init (l : Launch) (dC : Nat → ClassId) (dI : Nat → Nat → Nat) (cI cII : ClassId) (o sz : Nat) :
    Met l yX5_init (wd yX5_init cX5_init 1 none) ({ frames := 2, cells := 18, slots := 269, locals := 34 } : Room) (va_Pc [.ref o] (kB (dC, dI) [(o, .inr (5, [.null, .null, .null, .null]))] cI cII sz)) (va_Qv (fun (_ : Unit) => True) (fun _ t => ∃ (a ra a_0 : Nat → Nat), va_P (dC, dI) vwCl (wX5 o a ra cI cII v0 w0 ++ (wX2 (a 0) a_0 cI v0)) t.heap ∧ va_D (va_A [(o, .inr (5, [.null, .null, .null, .null]))] sz) (wX5 o a ra cI cII v0 w0 ++ (wX2 (a 0) a_0 cI v0))) (va_A [(o, .inr (5, [.null, .null, .null, .null]))] sz)) 18 269 (va_A [(o, .inr (5, [.null, .null, .null, .null]))] sz) := by
  refine Met.ofW (cc := cX5_init) (maxL := 1) (ret := none) (by decide) rfl ?_
  intro p e s m args below meth c s₁ B hml hv
  obtain ⟨rfl, ⟨hsz, hD0, hP, hK, hN⟩, hao⟩ := hv
  have hx := B.exec
  have hb := B.bytes
  have hr := B.returns
  have hts := atoms_spec (ws := (wd yX5_init cX5_init 1 none)) B.pre
  have hown : s.vm.findClass RX5 = some m.cls := findClass_of_methodNamed B.named
  have hlocks := B.notSynchronized
  have hin : meth.name = "<init>" := (name_of_methodNamed B.named B.method).1
  subst hsz
  have hD := hD0.self (sz := s.heap.size)
  generalize hAe : va_A [(o, .inr (5, [.null, .null, .null, .null]))] s.heap.size = A at hD ⊢
  have hA : ∀ q : Nat, s.heap.size ≤ q → A q := fun q h => by rw [← hAe]; exact Or.inr h
  have hS : va_S A s.heap s.heap [] := va_S.rf
  have hl := lv_entry ([.ref o]) (n := 1) (Nat.le_of_ble_eq_true rfl)
  rw [lg_entry_eq]
  generalize (lg_sl ([.ref o]) ++ List.replicate (1 - (lg_sl ([.ref o])).length) Slot.unset).toArray = ls at hl ⊢
  have hl : lv_has ls 1 [(0, .ref o)] := hl
  clear hAe hD0
  refine lv_aload_n hx hb dX5_init_0 rfl (lv_at hl 0 rfl) ?_
  refine W.objInit hx hb hown (hts _ (List.mem_cons_of_mem _ mw_193)) (hts _ (List.mem_cons_of_mem _ mw_70)) (hts _ (List.mem_cons_of_mem _ mw_71)) rfl (by rw [hml]; exact hl.1) rfl dX5_init_1 (Nat.le_of_ble_eq_true rfl) (Nat.le_of_ble_eq_true rfl) ?_
  refine W.eq (g2 := F0 m 4 ls []) rfl ?_
  refine lv_aload_n hx hb dX5_init_4 rfl (lv_at hl 0 rfl) ?_
  refine va_new (ci := 2) (fs := [.null, .null, .null, .null, .int 0, .int 0, .int 0, .int 0]) (C := RX2) (T := TX2) (N := 8) hx hb hts hw_X2 tyX2 tyX2_ok hown (hts _ (List.mem_cons_of_mem _ mw_194)) (hts _ (List.mem_cons_of_mem _ mw_150)) (hts _ (List.mem_cons_of_mem _ mw_57)) hK hP hD hS hA rfl (fun j hj => match j, hj with | 0, _ => rfl | 1, _ => rfl | 2, _ => rfl | 3, _ => rfl | 4, _ => rfl | 5, _ => rfl | 6, _ => rfl | 7, _ => rfl | j + 8, h => absurd h (by omega)) (Nat.le_of_ble_eq_true rfl) (Nat.le_of_ble_eq_true rfl) dX5_init_5 (fun q5 H hP hD hS => ?_)
  have hP : va_P (dC, dI) vwCl ([(o, .inr (5, [.null, .null, .null, .null]))] ++ ([(q5, .inr (2, [.null, .null, .null, .null, .int 0, .int 0, .int 0, .int 0]))])) H := hP
  have hD : va_D A ([(o, .inr (5, [.null, .null, .null, .null]))] ++ ([(q5, .inr (2, [.null, .null, .null, .null, .int 0, .int 0, .int 0, .int 0]))])) := hD
  refine W.widen (k := 1) (n := 8) (Nat.le_of_ble_eq_true rfl) (Nat.le_of_ble_eq_true rfl) ?_
  refine lv_dup hx hb dX5_init_8 rfl ?_
  have hPc := hP.sub (ws' := [(q5, .inr (2, [.null, .null, .null, .null, .int 0, .int 0, .int 0, .int 0]))]) [1] rfl
  have hDc := hD.sub (ws' := [(q5, .inr (2, [.null, .null, .null, .null, .int 0, .int 0, .int 0, .int 0]))]) [1] (by decide) rfl
  have hFc := va_free (wc := [(q5, .inr (2, [.null, .null, .null, .null, .int 0, .int 0, .int 0, .int 0]))]) hD hS hA [1] rfl
  refine va_callv (va_runIN (As := []) (rest := [.ref q5, .ref o]) ⟨hx, hb, hml, hown, hts⟩ (k_X2_init l dC dI cI cII q5 _) ⟨va_cnB 0 hts (hw_gi mw_153) rfl rfl rfl hN.2.2.2.2.2.2.2.2.2.2.1 (hts _ (List.mem_cons_of_mem _ mw_57)) (by decide +kernel) ⟨Nat.le_of_ble_eq_true rfl, Nat.le_of_ble_eq_true rfl⟩, rfl, (hts _ (List.mem_cons_of_mem _ mw_152))⟩ ⟨kB_blind, fun U hU hW => ⟨rfl, kB_go hPc hDc hK hN hao hU hW⟩⟩ rfl rfl hl.1 rfl (lv_room (Nat.le_of_ble_eq_true rfl)) dX5_init_9 ⟨Nat.le_of_ble_eq_true rfl, Nat.le_of_ble_eq_true rfl⟩) hS (fun q _ h => hFc q h) hFc (fun u t H1 locs ht hvm hw hB hz1 hk1 hS => ?_)
  obtain ⟨b9, hP1, hD1⟩ := hB
  rw [ht] at hP1
  obtain ⟨hP, hD⟩ := va_join (wr := ([(o, .inr (5, [.null, .null, .null, .null]))])) (w1 := (wX2 q5 b9 cI v0)) hP hD [1] [0] rfl rfl (by decide +kernel) (by decide +kernel) hk1 hFc hP1 hD1
  generalize H1 = H at hP hS ⊢
  have hP : va_P (dC, dI) vwCl ([(o, .inr (5, [.null, .null, .null, .null]))] ++ (wX2 q5 b9 cI v0)) H := hP
  have hD : va_D A ([(o, .inr (5, [.null, .null, .null, .null]))] ++ (wX2 q5 b9 cI v0)) := hD
  refine W.widen (k := 5) (n := 43) (Nat.le_of_ble_eq_true rfl) (Nat.le_of_ble_eq_true rfl) ?_
  refine va_putF (D := (dC, dI)) (ci := 5) (v := .ref q5) (ty := (.object "HermitHours$Day")) (C := RX5) (T := TX5) (N := 4) hx hb hts hw_X5 tyX5 tyX5_ok nmX5 hown hK hP hD hS 0 rfl rfl 0 (by decide) (hts _ (List.mem_cons_of_mem _ mw_198)) (fun _ h9 => h9) rfl hin rfl (by decide +kernel) rfl rfl (Nat.le_of_ble_eq_true rfl) dX5_init_12 (fun H locs hP hD hS => ?_)
  have hP : va_P (dC, dI) vwCl ([(o, .inr (5, [.ref q5, .null, .null, .null]))] ++ (wX2 q5 b9 cI v0)) H := hP
  have hD : va_D A ([(o, .inr (5, [.ref q5, .null, .null, .null]))] ++ (wX2 q5 b9 cI v0)) := hD
  refine lv_aload_n hx hb dX5_init_15 rfl (lv_at hl 0 rfl) ?_
  refine lv_bipush (v := 10) hx hb dX5_init_16 (by decide) ?_
  refine lv_bipush (v := 20) hx hb dX5_init_18 (by decide) ?_
  have hP : va_P (dC, dI) vwCl (([(o, .inr (5, [.ref q5, .null, .null, .null]))] ++ (wX2 q5 b9 cI v0)) ++ va_pl [] (fun _ => .inr (0, []))) H := hP
  have hD : va_D A (([(o, .inr (5, [.ref q5, .null, .null, .null]))] ++ (wX2 q5 b9 cI v0)) ++ va_pl [] (fun _ => .inr (0, []))) := hD
  refine va_mna (ty := .int) (N' := 10) (K' := 20) (cy := cI) (z := (20, .inl (fun _ => 0))) hx hb hown (hts _ (List.mem_cons_of_mem _ mw_196)) hao (hts _ (List.mem_cons_of_mem _ mw_88)) (hp_fc hK) hK hP hD hS hA (by decide) (by decide) (by decide) (by decide) (by decide) (by decide) (by decide) rfl rfl (Nat.le_of_ble_eq_true rfl) (Nat.le_of_ble_eq_true rfl) hp_inner dX5_init_20 (fun q20 r20 cA20 H hr1 hr2 hK20 hP hD hS => ?_)
  have ec20 : cA20 = cII := hp_cii hK20
  rw [ec20, hp_pool] at hP hD
  have hP : va_P (dC, dI) vwCl ([(o, .inr (5, [.ref q5, .null, .null, .null]))] ++ (wX2 q5 b9 cI v0 ++ ([(q20, .inl (cII, 10, .inr (.inr (.inr (.inr (fun i => if i < 10 then some (r20 i) else none))))))] ++ ([(r20 0, .inl (cI, 20, .inl (fun _ => 0))), (r20 1, .inl (cI, 20, .inl (fun _ => 0))), (r20 2, .inl (cI, 20, .inl (fun _ => 0))), (r20 3, .inl (cI, 20, .inl (fun _ => 0))), (r20 4, .inl (cI, 20, .inl (fun _ => 0))), (r20 5, .inl (cI, 20, .inl (fun _ => 0))), (r20 6, .inl (cI, 20, .inl (fun _ => 0))), (r20 7, .inl (cI, 20, .inl (fun _ => 0))), (r20 8, .inl (cI, 20, .inl (fun _ => 0))), (r20 9, .inl (cI, 20, .inl (fun _ => 0)))])))) H := hP
  have hD : va_D A ([(o, .inr (5, [.ref q5, .null, .null, .null]))] ++ (wX2 q5 b9 cI v0 ++ ([(q20, .inl (cII, 10, .inr (.inr (.inr (.inr (fun i => if i < 10 then some (r20 i) else none))))))] ++ ([(r20 0, .inl (cI, 20, .inl (fun _ => 0))), (r20 1, .inl (cI, 20, .inl (fun _ => 0))), (r20 2, .inl (cI, 20, .inl (fun _ => 0))), (r20 3, .inl (cI, 20, .inl (fun _ => 0))), (r20 4, .inl (cI, 20, .inl (fun _ => 0))), (r20 5, .inl (cI, 20, .inl (fun _ => 0))), (r20 6, .inl (cI, 20, .inl (fun _ => 0))), (r20 7, .inl (cI, 20, .inl (fun _ => 0))), (r20 8, .inl (cI, 20, .inl (fun _ => 0))), (r20 9, .inl (cI, 20, .inl (fun _ => 0)))])))) := hD
  refine W.widen (k := 16) (n := 253) (Nat.le_of_ble_eq_true rfl) (Nat.le_of_ble_eq_true rfl) ?_
  refine va_putF (D := (dC, dI)) (ci := 5) (v := .ref q20) (ty := (.array (.array .int))) (C := RX5) (T := TX5) (N := 4) hx hb hts hw_X5 tyX5 tyX5_ok nmX5 hown hK hP hD hS 0 rfl rfl 1 (by decide) (hts _ (List.mem_cons_of_mem _ mw_200)) (fun _ h9 => h9) rfl hin rfl (by decide +kernel) rfl rfl (Nat.le_of_ble_eq_true rfl) dX5_init_24 (fun H locs hP hD hS => ?_)
  have hP : va_P (dC, dI) vwCl ([(o, .inr (5, [.ref q5, .ref q20, .null, .null]))] ++ (wX2 q5 b9 cI v0 ++ ([(q20, .inl (cII, 10, .inr (.inr (.inr (.inr (fun i => if i < 10 then some (r20 i) else none))))))] ++ ([(r20 0, .inl (cI, 20, .inl (fun _ => 0))), (r20 1, .inl (cI, 20, .inl (fun _ => 0))), (r20 2, .inl (cI, 20, .inl (fun _ => 0))), (r20 3, .inl (cI, 20, .inl (fun _ => 0))), (r20 4, .inl (cI, 20, .inl (fun _ => 0))), (r20 5, .inl (cI, 20, .inl (fun _ => 0))), (r20 6, .inl (cI, 20, .inl (fun _ => 0))), (r20 7, .inl (cI, 20, .inl (fun _ => 0))), (r20 8, .inl (cI, 20, .inl (fun _ => 0))), (r20 9, .inl (cI, 20, .inl (fun _ => 0)))])))) H := hP
  have hD : va_D A ([(o, .inr (5, [.ref q5, .ref q20, .null, .null]))] ++ (wX2 q5 b9 cI v0 ++ ([(q20, .inl (cII, 10, .inr (.inr (.inr (.inr (fun i => if i < 10 then some (r20 i) else none))))))] ++ ([(r20 0, .inl (cI, 20, .inl (fun _ => 0))), (r20 1, .inl (cI, 20, .inl (fun _ => 0))), (r20 2, .inl (cI, 20, .inl (fun _ => 0))), (r20 3, .inl (cI, 20, .inl (fun _ => 0))), (r20 4, .inl (cI, 20, .inl (fun _ => 0))), (r20 5, .inl (cI, 20, .inl (fun _ => 0))), (r20 6, .inl (cI, 20, .inl (fun _ => 0))), (r20 7, .inl (cI, 20, .inl (fun _ => 0))), (r20 8, .inl (cI, 20, .inl (fun _ => 0))), (r20 9, .inl (cI, 20, .inl (fun _ => 0)))])))) := hD
  refine lv_aload_n hx hb dX5_init_27 rfl (lv_at hl 0 rfl) ?_
  refine lv_bipush (v := 10) hx hb dX5_init_28 (by decide) ?_
  refine va_newa (atype := .int) (N' := 10) (a0 := (10, .inl (fun _ => 0))) hx hb (hts _ (List.mem_cons_of_mem _ mw_88)) rfl hK hP hD hS hA (fun _ => rfl) (by decide) (by decide) (by decide) (Nat.le_of_ble_eq_true rfl) (Nat.le_of_ble_eq_true rfl) dX5_init_30 (fun q30 cA30 H hK30 hP hD hS => ?_)
  have ec30 : cA30 = cI := hp_ci hK30
  rw [ec30] at hP hD
  have hP : va_P (dC, dI) vwCl ([(o, .inr (5, [.ref q5, .ref q20, .null, .null]))] ++ (wX2 q5 b9 cI v0 ++ ([(q20, .inl (cII, 10, .inr (.inr (.inr (.inr (fun i => if i < 10 then some (r20 i) else none))))))] ++ ([(r20 0, .inl (cI, 20, .inl (fun _ => 0))), (r20 1, .inl (cI, 20, .inl (fun _ => 0))), (r20 2, .inl (cI, 20, .inl (fun _ => 0))), (r20 3, .inl (cI, 20, .inl (fun _ => 0))), (r20 4, .inl (cI, 20, .inl (fun _ => 0))), (r20 5, .inl (cI, 20, .inl (fun _ => 0))), (r20 6, .inl (cI, 20, .inl (fun _ => 0))), (r20 7, .inl (cI, 20, .inl (fun _ => 0))), (r20 8, .inl (cI, 20, .inl (fun _ => 0))), (r20 9, .inl (cI, 20, .inl (fun _ => 0)))] ++ ([(q30, .inl (cI, 10, .inl (fun _ => 0)))]))))) H := hP
  have hD : va_D A ([(o, .inr (5, [.ref q5, .ref q20, .null, .null]))] ++ (wX2 q5 b9 cI v0 ++ ([(q20, .inl (cII, 10, .inr (.inr (.inr (.inr (fun i => if i < 10 then some (r20 i) else none))))))] ++ ([(r20 0, .inl (cI, 20, .inl (fun _ => 0))), (r20 1, .inl (cI, 20, .inl (fun _ => 0))), (r20 2, .inl (cI, 20, .inl (fun _ => 0))), (r20 3, .inl (cI, 20, .inl (fun _ => 0))), (r20 4, .inl (cI, 20, .inl (fun _ => 0))), (r20 5, .inl (cI, 20, .inl (fun _ => 0))), (r20 6, .inl (cI, 20, .inl (fun _ => 0))), (r20 7, .inl (cI, 20, .inl (fun _ => 0))), (r20 8, .inl (cI, 20, .inl (fun _ => 0))), (r20 9, .inl (cI, 20, .inl (fun _ => 0)))] ++ ([(q30, .inl (cI, 10, .inl (fun _ => 0)))]))))) := hD
  refine W.widen (k := 17) (n := 263) (Nat.le_of_ble_eq_true rfl) (Nat.le_of_ble_eq_true rfl) ?_
  refine va_putF (D := (dC, dI)) (ci := 5) (v := .ref q30) (ty := (.array .int)) (C := RX5) (T := TX5) (N := 4) hx hb hts hw_X5 tyX5 tyX5_ok nmX5 hown hK hP hD hS 0 rfl rfl 2 (by decide) (hts _ (List.mem_cons_of_mem _ mw_201)) (fun _ h9 => h9) rfl hin rfl (by decide +kernel) rfl rfl (Nat.le_of_ble_eq_true rfl) dX5_init_32 (fun H locs hP hD hS => ?_)
  have hP : va_P (dC, dI) vwCl ([(o, .inr (5, [.ref q5, .ref q20, .ref q30, .null]))] ++ (wX2 q5 b9 cI v0 ++ ([(q20, .inl (cII, 10, .inr (.inr (.inr (.inr (fun i => if i < 10 then some (r20 i) else none))))))] ++ ([(r20 0, .inl (cI, 20, .inl (fun _ => 0))), (r20 1, .inl (cI, 20, .inl (fun _ => 0))), (r20 2, .inl (cI, 20, .inl (fun _ => 0))), (r20 3, .inl (cI, 20, .inl (fun _ => 0))), (r20 4, .inl (cI, 20, .inl (fun _ => 0))), (r20 5, .inl (cI, 20, .inl (fun _ => 0))), (r20 6, .inl (cI, 20, .inl (fun _ => 0))), (r20 7, .inl (cI, 20, .inl (fun _ => 0))), (r20 8, .inl (cI, 20, .inl (fun _ => 0))), (r20 9, .inl (cI, 20, .inl (fun _ => 0)))] ++ ([(q30, .inl (cI, 10, .inl (fun _ => 0)))]))))) H := hP
  have hD : va_D A ([(o, .inr (5, [.ref q5, .ref q20, .ref q30, .null]))] ++ (wX2 q5 b9 cI v0 ++ ([(q20, .inl (cII, 10, .inr (.inr (.inr (.inr (fun i => if i < 10 then some (r20 i) else none))))))] ++ ([(r20 0, .inl (cI, 20, .inl (fun _ => 0))), (r20 1, .inl (cI, 20, .inl (fun _ => 0))), (r20 2, .inl (cI, 20, .inl (fun _ => 0))), (r20 3, .inl (cI, 20, .inl (fun _ => 0))), (r20 4, .inl (cI, 20, .inl (fun _ => 0))), (r20 5, .inl (cI, 20, .inl (fun _ => 0))), (r20 6, .inl (cI, 20, .inl (fun _ => 0))), (r20 7, .inl (cI, 20, .inl (fun _ => 0))), (r20 8, .inl (cI, 20, .inl (fun _ => 0))), (r20 9, .inl (cI, 20, .inl (fun _ => 0)))] ++ ([(q30, .inl (cI, 10, .inl (fun _ => 0)))]))))) := hD
  refine lv_aload_n hx hb dX5_init_35 rfl (lv_at hl 0 rfl) ?_
  refine lv_bipush (v := 6) hx hb dX5_init_36 (by decide) ?_
  refine va_newa (atype := .int) (N' := 6) (a0 := (6, .inl (fun _ => 0))) hx hb (hts _ (List.mem_cons_of_mem _ mw_88)) rfl hK hP hD hS hA (fun _ => rfl) (by decide) (by decide) (by decide) (Nat.le_of_ble_eq_true rfl) (Nat.le_of_ble_eq_true rfl) dX5_init_38 (fun q38 cA38 H hK38 hP hD hS => ?_)
  have ec38 : cA38 = cI := hp_ci hK38
  rw [ec38] at hP hD
  have hP : va_P (dC, dI) vwCl ([(o, .inr (5, [.ref q5, .ref q20, .ref q30, .null]))] ++ (wX2 q5 b9 cI v0 ++ ([(q20, .inl (cII, 10, .inr (.inr (.inr (.inr (fun i => if i < 10 then some (r20 i) else none))))))] ++ ([(r20 0, .inl (cI, 20, .inl (fun _ => 0))), (r20 1, .inl (cI, 20, .inl (fun _ => 0))), (r20 2, .inl (cI, 20, .inl (fun _ => 0))), (r20 3, .inl (cI, 20, .inl (fun _ => 0))), (r20 4, .inl (cI, 20, .inl (fun _ => 0))), (r20 5, .inl (cI, 20, .inl (fun _ => 0))), (r20 6, .inl (cI, 20, .inl (fun _ => 0))), (r20 7, .inl (cI, 20, .inl (fun _ => 0))), (r20 8, .inl (cI, 20, .inl (fun _ => 0))), (r20 9, .inl (cI, 20, .inl (fun _ => 0)))] ++ ([(q30, .inl (cI, 10, .inl (fun _ => 0)))] ++ ([(q38, .inl (cI, 6, .inl (fun _ => 0)))])))))) H := hP
  have hD : va_D A ([(o, .inr (5, [.ref q5, .ref q20, .ref q30, .null]))] ++ (wX2 q5 b9 cI v0 ++ ([(q20, .inl (cII, 10, .inr (.inr (.inr (.inr (fun i => if i < 10 then some (r20 i) else none))))))] ++ ([(r20 0, .inl (cI, 20, .inl (fun _ => 0))), (r20 1, .inl (cI, 20, .inl (fun _ => 0))), (r20 2, .inl (cI, 20, .inl (fun _ => 0))), (r20 3, .inl (cI, 20, .inl (fun _ => 0))), (r20 4, .inl (cI, 20, .inl (fun _ => 0))), (r20 5, .inl (cI, 20, .inl (fun _ => 0))), (r20 6, .inl (cI, 20, .inl (fun _ => 0))), (r20 7, .inl (cI, 20, .inl (fun _ => 0))), (r20 8, .inl (cI, 20, .inl (fun _ => 0))), (r20 9, .inl (cI, 20, .inl (fun _ => 0)))] ++ ([(q30, .inl (cI, 10, .inl (fun _ => 0)))] ++ ([(q38, .inl (cI, 6, .inl (fun _ => 0)))])))))) := hD
  refine W.widen (k := 18) (n := 269) (Nat.le_of_ble_eq_true rfl) (Nat.le_of_ble_eq_true rfl) ?_
  refine va_putF (D := (dC, dI)) (ci := 5) (v := .ref q38) (ty := (.array .int)) (C := RX5) (T := TX5) (N := 4) hx hb hts hw_X5 tyX5 tyX5_ok nmX5 hown hK hP hD hS 0 rfl rfl 3 (by decide) (hts _ (List.mem_cons_of_mem _ mw_203)) (fun _ h9 => h9) rfl hin rfl (by decide +kernel) rfl rfl (Nat.le_of_ble_eq_true rfl) dX5_init_40 (fun H locs hP hD hS => ?_)
  have hP : va_P (dC, dI) vwCl ([(o, .inr (5, [.ref q5, .ref q20, .ref q30, .ref q38]))] ++ (wX2 q5 b9 cI v0 ++ ([(q20, .inl (cII, 10, .inr (.inr (.inr (.inr (fun i => if i < 10 then some (r20 i) else none))))))] ++ ([(r20 0, .inl (cI, 20, .inl (fun _ => 0))), (r20 1, .inl (cI, 20, .inl (fun _ => 0))), (r20 2, .inl (cI, 20, .inl (fun _ => 0))), (r20 3, .inl (cI, 20, .inl (fun _ => 0))), (r20 4, .inl (cI, 20, .inl (fun _ => 0))), (r20 5, .inl (cI, 20, .inl (fun _ => 0))), (r20 6, .inl (cI, 20, .inl (fun _ => 0))), (r20 7, .inl (cI, 20, .inl (fun _ => 0))), (r20 8, .inl (cI, 20, .inl (fun _ => 0))), (r20 9, .inl (cI, 20, .inl (fun _ => 0)))] ++ ([(q30, .inl (cI, 10, .inl (fun _ => 0)))] ++ ([(q38, .inl (cI, 6, .inl (fun _ => 0)))])))))) H := hP
  have hD : va_D A ([(o, .inr (5, [.ref q5, .ref q20, .ref q30, .ref q38]))] ++ (wX2 q5 b9 cI v0 ++ ([(q20, .inl (cII, 10, .inr (.inr (.inr (.inr (fun i => if i < 10 then some (r20 i) else none))))))] ++ ([(r20 0, .inl (cI, 20, .inl (fun _ => 0))), (r20 1, .inl (cI, 20, .inl (fun _ => 0))), (r20 2, .inl (cI, 20, .inl (fun _ => 0))), (r20 3, .inl (cI, 20, .inl (fun _ => 0))), (r20 4, .inl (cI, 20, .inl (fun _ => 0))), (r20 5, .inl (cI, 20, .inl (fun _ => 0))), (r20 6, .inl (cI, 20, .inl (fun _ => 0))), (r20 7, .inl (cI, 20, .inl (fun _ => 0))), (r20 8, .inl (cI, 20, .inl (fun _ => 0))), (r20 9, .inl (cI, 20, .inl (fun _ => 0)))] ++ ([(q30, .inl (cI, 10, .inl (fun _ => 0)))] ++ ([(q38, .inl (cI, 6, .inl (fun _ => 0)))])))))) := hD
  refine W.vret hx hb hr (fun t ht hW => ⟨⟨(), rfl, trivial, (fun k => if k = 0 then q5 else if k = 1 then q20 else if k = 2 then q30 else q38), r20, b9, by rw [ht]; exact hP.sub [0, 6, 17, 18, 7, 8, 9, 10, 11, 12, 13, 14, 15, 16, 1, 2, 3, 4, 5] rfl, hD.sub [0, 6, 17, 18, 7, 8, 9, 10, 11, 12, 13, 14, 15, 16, 1, 2, 3, 4, 5] (by decide +kernel) rfl⟩, hS.F ht⟩) hS.2.2 dX5_init_43 hlocks
set_option maxHeartbeats 4000000 in
set_option maxRecDepth 100000 in
theorem k_X6_init (l : Launch) (dC : Nat → ClassId) (dI : Nat → Nat → Nat) (cI cII : ClassId) (o sz : Nat) :
    Met l yX6_init (wd yX6_init cX6_init 1 none) ({ frames := 3, cells := 43, slots := 438, locals := 54 } : Room) (va_Pc [.ref o] (kB (dC, dI) [(o, .inr (6, [.null, .null, .null, .null, .null, .null, .int 0, .int 0]))] cI cII sz)) (va_Qv (fun (_ : Unit) => True) (fun _ t => ∃ (a a_0 a_1 a_1_3 a_2 a_2_3 a_3 a_4 ra_4 a_4_0 a_5 : Nat → Nat), va_P (dC, dI) vwCl (wX6 o a cI v0 ++ (wX3 (a 0) a_0 cI v0 ++ (wX1 (a 1) a_1 cI v0 ++ (wX4 (a_1 3) a_1_3 cI v0 ++ (wX1 (a 2) a_2 cI v0 ++ (wX4 (a_2 3) a_2_3 cI v0 ++ (wX2 (a 3) a_3 cI v0 ++ (wX5 (a 4) a_4 ra_4 cI cII v0 w0 ++ (wX2 (a_4 0) a_4_0 cI v0 ++ (wX0 (a 5) a_5 cI v0)))))))))) t.heap ∧ va_D (va_A [(o, .inr (6, [.null, .null, .null, .null, .null, .null, .int 0, .int 0]))] sz) (wX6 o a cI v0 ++ (wX3 (a 0) a_0 cI v0 ++ (wX1 (a 1) a_1 cI v0 ++ (wX4 (a_1 3) a_1_3 cI v0 ++ (wX1 (a 2) a_2 cI v0 ++ (wX4 (a_2 3) a_2_3 cI v0 ++ (wX2 (a 3) a_3 cI v0 ++ (wX5 (a 4) a_4 ra_4 cI cII v0 w0 ++ (wX2 (a_4 0) a_4_0 cI v0 ++ (wX0 (a 5) a_5 cI v0))))))))))) (va_A [(o, .inr (6, [.null, .null, .null, .null, .null, .null, .int 0, .int 0]))] sz)) 43 438 (va_A [(o, .inr (6, [.null, .null, .null, .null, .null, .null, .int 0, .int 0]))] sz) := by
  refine Met.ofW (cc := cX6_init) (maxL := 1) (ret := none) (by decide) rfl ?_
  intro p e s m args below meth c s₁ B hml hv
  obtain ⟨rfl, ⟨hsz, hD0, hP, hK, hN⟩, hao⟩ := hv
  have hx := B.exec
  have hb := B.bytes
  have hr := B.returns
  have hts := atoms_spec (ws := (wd yX6_init cX6_init 1 none)) B.pre
  have hown : s.vm.findClass RX6 = some m.cls := findClass_of_methodNamed B.named
  have hlocks := B.notSynchronized
  have hin : meth.name = "<init>" := (name_of_methodNamed B.named B.method).1
  subst hsz
  have hD := hD0.self (sz := s.heap.size)
  generalize hAe : va_A [(o, .inr (6, [.null, .null, .null, .null, .null, .null, .int 0, .int 0]))] s.heap.size = A at hD ⊢
  have hA : ∀ q : Nat, s.heap.size ≤ q → A q := fun q h => by rw [← hAe]; exact Or.inr h
  have hS : va_S A s.heap s.heap [] := va_S.rf
  have hl := lv_entry ([.ref o]) (n := 1) (Nat.le_of_ble_eq_true rfl)
  rw [lg_entry_eq]
  generalize (lg_sl ([.ref o]) ++ List.replicate (1 - (lg_sl ([.ref o])).length) Slot.unset).toArray = ls at hl ⊢
  have hl : lv_has ls 1 [(0, .ref o)] := hl
  clear hAe hD0
  refine lv_aload_n hx hb dX6_init_0 rfl (lv_at hl 0 rfl) ?_
  refine W.objInit hx hb hown (hts _ (List.mem_cons_of_mem _ mw_69)) (hts _ (List.mem_cons_of_mem _ mw_70)) (hts _ (List.mem_cons_of_mem _ mw_71)) rfl (by rw [hml]; exact hl.1) rfl dX6_init_1 (Nat.le_of_ble_eq_true rfl) (Nat.le_of_ble_eq_true rfl) ?_
  refine W.eq (g2 := F0 m 4 ls []) rfl ?_
  refine lv_aload_n hx hb dX6_init_4 rfl (lv_at hl 0 rfl) ?_
  refine va_new (ci := 3) (fs := [.null, .int 0]) (C := RX3) (T := TX3) (N := 2) hx hb hts hw_X3 tyX3 tyX3_ok hown (hts _ (List.mem_cons_of_mem _ mw_72)) (hts _ (List.mem_cons_of_mem _ mw_73)) (hts _ (List.mem_cons_of_mem _ mw_54)) hK hP hD hS hA rfl (fun j hj => match j, hj with | 0, _ => rfl | 1, _ => rfl | j + 2, h => absurd h (by omega)) (Nat.le_of_ble_eq_true rfl) (Nat.le_of_ble_eq_true rfl) dX6_init_5 (fun q5 H hP hD hS => ?_)
  have hP : va_P (dC, dI) vwCl ([(o, .inr (6, [.null, .null, .null, .null, .null, .null, .int 0, .int 0]))] ++ ([(q5, .inr (3, [.null, .int 0]))])) H := hP
  have hD : va_D A ([(o, .inr (6, [.null, .null, .null, .null, .null, .null, .int 0, .int 0]))] ++ ([(q5, .inr (3, [.null, .int 0]))])) := hD
  refine W.widen (k := 1) (n := 2) (Nat.le_of_ble_eq_true rfl) (Nat.le_of_ble_eq_true rfl) ?_
  refine lv_dup hx hb dX6_init_8 rfl ?_
  have hPc := hP.sub (ws' := [(q5, .inr (3, [.null, .int 0]))]) [1] rfl
  have hDc := hD.sub (ws' := [(q5, .inr (3, [.null, .int 0]))]) [1] (by decide) rfl
  have hFc := va_free (wc := [(q5, .inr (3, [.null, .int 0]))]) hD hS hA [1] rfl
  refine va_callv (va_runIN (As := []) (rest := [.ref q5, .ref o]) ⟨hx, hb, hml, hown, hts⟩ (k_X3_init l dC dI cI cII q5 _) ⟨va_cnB 0 hts (hw_gi mw_76) rfl rfl rfl hN.2.2.2.2.2.1 (hts _ (List.mem_cons_of_mem _ mw_54)) (by decide +kernel) ⟨Nat.le_of_ble_eq_true rfl, Nat.le_of_ble_eq_true rfl⟩, rfl, (hts _ (List.mem_cons_of_mem _ mw_75))⟩ ⟨kB_blind, fun U hU hW => ⟨rfl, kB_go hPc hDc hK hN hao hU hW⟩⟩ rfl rfl hl.1 rfl (lv_room (Nat.le_of_ble_eq_true rfl)) dX6_init_9 ⟨Nat.le_of_ble_eq_true rfl, Nat.le_of_ble_eq_true rfl⟩) hS (fun q _ h => hFc q h) hFc (fun u t H1 locs ht hvm hw hB hz1 hk1 hS => ?_)
  obtain ⟨b9, hP1, hD1⟩ := hB
  rw [ht] at hP1
  obtain ⟨hP, hD⟩ := va_join (wr := ([(o, .inr (6, [.null, .null, .null, .null, .null, .null, .int 0, .int 0]))])) (w1 := (wX3 q5 b9 cI v0)) hP hD [1] [0] rfl rfl (by decide +kernel) (by decide +kernel) hk1 hFc hP1 hD1
  generalize H1 = H at hP hS ⊢
  have hP : va_P (dC, dI) vwCl ([(o, .inr (6, [.null, .null, .null, .null, .null, .null, .int 0, .int 0]))] ++ (wX3 q5 b9 cI v0)) H := hP
  have hD : va_D A ([(o, .inr (6, [.null, .null, .null, .null, .null, .null, .int 0, .int 0]))] ++ (wX3 q5 b9 cI v0)) := hD
  refine W.widen (k := 2) (n := 26) (Nat.le_of_ble_eq_true rfl) (Nat.le_of_ble_eq_true rfl) ?_
  refine va_putF (D := (dC, dI)) (ci := 6) (v := .ref q5) (ty := (.object "HermitHours$Page")) (C := RX6) (T := TX6) (N := 8) hx hb hts hw_X6 tyX6 tyX6_ok nmX6 hown hK hP hD hS 0 rfl rfl 0 (by decide) (hts _ (List.mem_cons_of_mem _ mw_233)) (fun _ h9 => h9) rfl hin rfl (by decide +kernel) rfl rfl (Nat.le_of_ble_eq_true rfl) dX6_init_12 (fun H locs hP hD hS => ?_)
  have hP : va_P (dC, dI) vwCl ([(o, .inr (6, [.ref q5, .null, .null, .null, .null, .null, .int 0, .int 0]))] ++ (wX3 q5 b9 cI v0)) H := hP
  have hD : va_D A ([(o, .inr (6, [.ref q5, .null, .null, .null, .null, .null, .int 0, .int 0]))] ++ (wX3 q5 b9 cI v0)) := hD
  refine lv_aload_n hx hb dX6_init_15 rfl (lv_at hl 0 rfl) ?_
  refine va_new (ci := 1) (fs := [.null, .null, .null, .null, .int 0, .int 0, .int 0]) (C := RX1) (T := TX1) (N := 7) hx hb hts hw_X1 tyX1 tyX1_ok hown (hts _ (List.mem_cons_of_mem _ mw_89)) (hts _ (List.mem_cons_of_mem _ mw_90)) (hts _ (List.mem_cons_of_mem _ mw_55)) hK hP hD hS hA rfl (fun j hj => match j, hj with | 0, _ => rfl | 1, _ => rfl | 2, _ => rfl | 3, _ => rfl | 4, _ => rfl | 5, _ => rfl | 6, _ => rfl | j + 7, h => absurd h (by omega)) (Nat.le_of_ble_eq_true rfl) (Nat.le_of_ble_eq_true rfl) dX6_init_16 (fun q16 H hP hD hS => ?_)
  have hP : va_P (dC, dI) vwCl ([(o, .inr (6, [.ref q5, .null, .null, .null, .null, .null, .int 0, .int 0]))] ++ (wX3 q5 b9 cI v0 ++ ([(q16, .inr (1, [.null, .null, .null, .null, .int 0, .int 0, .int 0]))]))) H := hP
  have hD : va_D A ([(o, .inr (6, [.ref q5, .null, .null, .null, .null, .null, .int 0, .int 0]))] ++ (wX3 q5 b9 cI v0 ++ ([(q16, .inr (1, [.null, .null, .null, .null, .int 0, .int 0, .int 0]))]))) := hD
  refine W.widen (k := 3) (n := 33) (Nat.le_of_ble_eq_true rfl) (Nat.le_of_ble_eq_true rfl) ?_
  refine lv_dup hx hb dX6_init_19 rfl ?_
  have hPc := hP.sub (ws' := [(q16, .inr (1, [.null, .null, .null, .null, .int 0, .int 0, .int 0]))]) [3] rfl
  have hDc := hD.sub (ws' := [(q16, .inr (1, [.null, .null, .null, .null, .int 0, .int 0, .int 0]))]) [3] (by decide) rfl
  have hFc := va_free (wc := [(q16, .inr (1, [.null, .null, .null, .null, .int 0, .int 0, .int 0]))]) hD hS hA [3] rfl
  refine va_callv (va_runIN (As := []) (rest := [.ref q16, .ref o]) ⟨hx, hb, hml, hown, hts⟩ (k_X1_init l dC dI cI cII q16 _) ⟨va_cnB 0 hts (hw_gi mw_93) rfl rfl rfl hN.2.2.2.2.2.2.1 (hts _ (List.mem_cons_of_mem _ mw_55)) (by decide +kernel) ⟨Nat.le_of_ble_eq_true rfl, Nat.le_of_ble_eq_true rfl⟩, rfl, (hts _ (List.mem_cons_of_mem _ mw_92))⟩ ⟨kB_blind, fun U hU hW => ⟨rfl, kB_go hPc hDc hK hN hao hU hW⟩⟩ rfl rfl hl.1 rfl (lv_room (Nat.le_of_ble_eq_true rfl)) dX6_init_20 ⟨Nat.le_of_ble_eq_true rfl, Nat.le_of_ble_eq_true rfl⟩) hS (fun q _ h => hFc q h) hFc (fun u t H1 locs ht hvm hw hB hz1 hk1 hS => ?_)
  obtain ⟨b20, b20_3, hP1, hD1⟩ := hB
  rw [ht] at hP1
  obtain ⟨hP, hD⟩ := va_join (wr := ([(o, .inr (6, [.ref q5, .null, .null, .null, .null, .null, .int 0, .int 0]))] ++ (wX3 q5 b9 cI v0))) (w1 := (wX1 q16 b20 cI v0 ++ (wX4 (b20 3) b20_3 cI v0))) hP hD [3] [0, 1, 2] rfl rfl (by decide +kernel) (by decide +kernel) hk1 hFc hP1 hD1
  generalize H1 = H at hP hS ⊢
  have hP : va_P (dC, dI) vwCl ([(o, .inr (6, [.ref q5, .null, .null, .null, .null, .null, .int 0, .int 0]))] ++ (wX3 q5 b9 cI v0 ++ (wX1 q16 b20 cI v0 ++ (wX4 (b20 3) b20_3 cI v0)))) H := hP
  have hD : va_D A ([(o, .inr (6, [.ref q5, .null, .null, .null, .null, .null, .int 0, .int 0]))] ++ (wX3 q5 b9 cI v0 ++ (wX1 q16 b20 cI v0 ++ (wX4 (b20 3) b20_3 cI v0)))) := hD
  refine W.widen (k := 9) (n := 67) (Nat.le_of_ble_eq_true rfl) (Nat.le_of_ble_eq_true rfl) ?_
  refine va_putF (D := (dC, dI)) (ci := 6) (v := .ref q16) (ty := (.object "HermitHours$Cave")) (C := RX6) (T := TX6) (N := 8) hx hb hts hw_X6 tyX6 tyX6_ok nmX6 hown hK hP hD hS 0 rfl rfl 1 (by decide) (hts _ (List.mem_cons_of_mem _ mw_234)) (fun _ h9 => h9) rfl hin rfl (by decide +kernel) rfl rfl (Nat.le_of_ble_eq_true rfl) dX6_init_23 (fun H locs hP hD hS => ?_)
  have hP : va_P (dC, dI) vwCl ([(o, .inr (6, [.ref q5, .ref q16, .null, .null, .null, .null, .int 0, .int 0]))] ++ (wX3 q5 b9 cI v0 ++ (wX1 q16 b20 cI v0 ++ (wX4 (b20 3) b20_3 cI v0)))) H := hP
  have hD : va_D A ([(o, .inr (6, [.ref q5, .ref q16, .null, .null, .null, .null, .int 0, .int 0]))] ++ (wX3 q5 b9 cI v0 ++ (wX1 q16 b20 cI v0 ++ (wX4 (b20 3) b20_3 cI v0)))) := hD
  refine lv_aload_n hx hb dX6_init_26 rfl (lv_at hl 0 rfl) ?_
  refine va_new (ci := 1) (fs := [.null, .null, .null, .null, .int 0, .int 0, .int 0]) (C := RX1) (T := TX1) (N := 7) hx hb hts hw_X1 tyX1 tyX1_ok hown (hts _ (List.mem_cons_of_mem _ mw_89)) (hts _ (List.mem_cons_of_mem _ mw_90)) (hts _ (List.mem_cons_of_mem _ mw_55)) hK hP hD hS hA rfl (fun j hj => match j, hj with | 0, _ => rfl | 1, _ => rfl | 2, _ => rfl | 3, _ => rfl | 4, _ => rfl | 5, _ => rfl | 6, _ => rfl | j + 7, h => absurd h (by omega)) (Nat.le_of_ble_eq_true rfl) (Nat.le_of_ble_eq_true rfl) dX6_init_27 (fun q27 H hP hD hS => ?_)
  have hP : va_P (dC, dI) vwCl ([(o, .inr (6, [.ref q5, .ref q16, .null, .null, .null, .null, .int 0, .int 0]))] ++ (wX3 q5 b9 cI v0 ++ (wX1 q16 b20 cI v0 ++ (wX4 (b20 3) b20_3 cI v0 ++ ([(q27, .inr (1, [.null, .null, .null, .null, .int 0, .int 0, .int 0]))]))))) H := hP
  have hD : va_D A ([(o, .inr (6, [.ref q5, .ref q16, .null, .null, .null, .null, .int 0, .int 0]))] ++ (wX3 q5 b9 cI v0 ++ (wX1 q16 b20 cI v0 ++ (wX4 (b20 3) b20_3 cI v0 ++ ([(q27, .inr (1, [.null, .null, .null, .null, .int 0, .int 0, .int 0]))]))))) := hD
  refine W.widen (k := 10) (n := 74) (Nat.le_of_ble_eq_true rfl) (Nat.le_of_ble_eq_true rfl) ?_
  refine lv_dup hx hb dX6_init_30 rfl ?_
  have hPc := hP.sub (ws' := [(q27, .inr (1, [.null, .null, .null, .null, .int 0, .int 0, .int 0]))]) [10] rfl
  have hDc := hD.sub (ws' := [(q27, .inr (1, [.null, .null, .null, .null, .int 0, .int 0, .int 0]))]) [10] (by decide) rfl
  have hFc := va_free (wc := [(q27, .inr (1, [.null, .null, .null, .null, .int 0, .int 0, .int 0]))]) hD hS hA [10] rfl
  refine va_callv (va_runIN (As := []) (rest := [.ref q27, .ref o]) ⟨hx, hb, hml, hown, hts⟩ (k_X1_init l dC dI cI cII q27 _) ⟨va_cnB 0 hts (hw_gi mw_93) rfl rfl rfl hN.2.2.2.2.2.2.1 (hts _ (List.mem_cons_of_mem _ mw_55)) (by decide +kernel) ⟨Nat.le_of_ble_eq_true rfl, Nat.le_of_ble_eq_true rfl⟩, rfl, (hts _ (List.mem_cons_of_mem _ mw_92))⟩ ⟨kB_blind, fun U hU hW => ⟨rfl, kB_go hPc hDc hK hN hao hU hW⟩⟩ rfl rfl hl.1 rfl (lv_room (Nat.le_of_ble_eq_true rfl)) dX6_init_31 ⟨Nat.le_of_ble_eq_true rfl, Nat.le_of_ble_eq_true rfl⟩) hS (fun q _ h => hFc q h) hFc (fun u t H1 locs ht hvm hw hB hz1 hk1 hS => ?_)
  obtain ⟨b31, b31_3, hP1, hD1⟩ := hB
  rw [ht] at hP1
  obtain ⟨hP, hD⟩ := va_join (wr := ([(o, .inr (6, [.ref q5, .ref q16, .null, .null, .null, .null, .int 0, .int 0]))] ++ (wX3 q5 b9 cI v0 ++ (wX1 q16 b20 cI v0 ++ (wX4 (b20 3) b20_3 cI v0))))) (w1 := (wX1 q27 b31 cI v0 ++ (wX4 (b31 3) b31_3 cI v0))) hP hD [10] [0, 1, 2, 3, 4, 5, 6, 7, 8, 9] rfl rfl (by decide +kernel) (by decide +kernel) hk1 hFc hP1 hD1
  generalize H1 = H at hP hS ⊢
  have hP : va_P (dC, dI) vwCl ([(o, .inr (6, [.ref q5, .ref q16, .null, .null, .null, .null, .int 0, .int 0]))] ++ (wX3 q5 b9 cI v0 ++ (wX1 q16 b20 cI v0 ++ (wX4 (b20 3) b20_3 cI v0 ++ (wX1 q27 b31 cI v0 ++ (wX4 (b31 3) b31_3 cI v0)))))) H := hP
  have hD : va_D A ([(o, .inr (6, [.ref q5, .ref q16, .null, .null, .null, .null, .int 0, .int 0]))] ++ (wX3 q5 b9 cI v0 ++ (wX1 q16 b20 cI v0 ++ (wX4 (b20 3) b20_3 cI v0 ++ (wX1 q27 b31 cI v0 ++ (wX4 (b31 3) b31_3 cI v0)))))) := hD
  refine W.widen (k := 16) (n := 108) (Nat.le_of_ble_eq_true rfl) (Nat.le_of_ble_eq_true rfl) ?_
  refine va_putF (D := (dC, dI)) (ci := 6) (v := .ref q27) (ty := (.object "HermitHours$Cave")) (C := RX6) (T := TX6) (N := 8) hx hb hts hw_X6 tyX6 tyX6_ok nmX6 hown hK hP hD hS 0 rfl rfl 2 (by decide) (hts _ (List.mem_cons_of_mem _ mw_235)) (fun _ h9 => h9) rfl hin rfl (by decide +kernel) rfl rfl (Nat.le_of_ble_eq_true rfl) dX6_init_34 (fun H locs hP hD hS => ?_)
  have hP : va_P (dC, dI) vwCl ([(o, .inr (6, [.ref q5, .ref q16, .ref q27, .null, .null, .null, .int 0, .int 0]))] ++ (wX3 q5 b9 cI v0 ++ (wX1 q16 b20 cI v0 ++ (wX4 (b20 3) b20_3 cI v0 ++ (wX1 q27 b31 cI v0 ++ (wX4 (b31 3) b31_3 cI v0)))))) H := hP
  have hD : va_D A ([(o, .inr (6, [.ref q5, .ref q16, .ref q27, .null, .null, .null, .int 0, .int 0]))] ++ (wX3 q5 b9 cI v0 ++ (wX1 q16 b20 cI v0 ++ (wX4 (b20 3) b20_3 cI v0 ++ (wX1 q27 b31 cI v0 ++ (wX4 (b31 3) b31_3 cI v0)))))) := hD
  refine lv_aload_n hx hb dX6_init_37 rfl (lv_at hl 0 rfl) ?_
  refine va_new (ci := 2) (fs := [.null, .null, .null, .null, .int 0, .int 0, .int 0, .int 0]) (C := RX2) (T := TX2) (N := 8) hx hb hts hw_X2 tyX2 tyX2_ok hown (hts _ (List.mem_cons_of_mem _ mw_149)) (hts _ (List.mem_cons_of_mem _ mw_150)) (hts _ (List.mem_cons_of_mem _ mw_57)) hK hP hD hS hA rfl (fun j hj => match j, hj with | 0, _ => rfl | 1, _ => rfl | 2, _ => rfl | 3, _ => rfl | 4, _ => rfl | 5, _ => rfl | 6, _ => rfl | 7, _ => rfl | j + 8, h => absurd h (by omega)) (Nat.le_of_ble_eq_true rfl) (Nat.le_of_ble_eq_true rfl) dX6_init_38 (fun q38 H hP hD hS => ?_)
  have hP : va_P (dC, dI) vwCl ([(o, .inr (6, [.ref q5, .ref q16, .ref q27, .null, .null, .null, .int 0, .int 0]))] ++ (wX3 q5 b9 cI v0 ++ (wX1 q16 b20 cI v0 ++ (wX4 (b20 3) b20_3 cI v0 ++ (wX1 q27 b31 cI v0 ++ (wX4 (b31 3) b31_3 cI v0 ++ ([(q38, .inr (2, [.null, .null, .null, .null, .int 0, .int 0, .int 0, .int 0]))]))))))) H := hP
  have hD : va_D A ([(o, .inr (6, [.ref q5, .ref q16, .ref q27, .null, .null, .null, .int 0, .int 0]))] ++ (wX3 q5 b9 cI v0 ++ (wX1 q16 b20 cI v0 ++ (wX4 (b20 3) b20_3 cI v0 ++ (wX1 q27 b31 cI v0 ++ (wX4 (b31 3) b31_3 cI v0 ++ ([(q38, .inr (2, [.null, .null, .null, .null, .int 0, .int 0, .int 0, .int 0]))]))))))) := hD
  refine W.widen (k := 17) (n := 116) (Nat.le_of_ble_eq_true rfl) (Nat.le_of_ble_eq_true rfl) ?_
  refine lv_dup hx hb dX6_init_41 rfl ?_
  have hPc := hP.sub (ws' := [(q38, .inr (2, [.null, .null, .null, .null, .int 0, .int 0, .int 0, .int 0]))]) [17] rfl
  have hDc := hD.sub (ws' := [(q38, .inr (2, [.null, .null, .null, .null, .int 0, .int 0, .int 0, .int 0]))]) [17] (by decide) rfl
  have hFc := va_free (wc := [(q38, .inr (2, [.null, .null, .null, .null, .int 0, .int 0, .int 0, .int 0]))]) hD hS hA [17] rfl
  refine va_callv (va_runIN (As := []) (rest := [.ref q38, .ref o]) ⟨hx, hb, hml, hown, hts⟩ (k_X2_init l dC dI cI cII q38 _) ⟨va_cnB 0 hts (hw_gi mw_153) rfl rfl rfl hN.2.2.2.2.2.2.2.2.1 (hts _ (List.mem_cons_of_mem _ mw_57)) (by decide +kernel) ⟨Nat.le_of_ble_eq_true rfl, Nat.le_of_ble_eq_true rfl⟩, rfl, (hts _ (List.mem_cons_of_mem _ mw_152))⟩ ⟨kB_blind, fun U hU hW => ⟨rfl, kB_go hPc hDc hK hN hao hU hW⟩⟩ rfl rfl hl.1 rfl (lv_room (Nat.le_of_ble_eq_true rfl)) dX6_init_42 ⟨Nat.le_of_ble_eq_true rfl, Nat.le_of_ble_eq_true rfl⟩) hS (fun q _ h => hFc q h) hFc (fun u t H1 locs ht hvm hw hB hz1 hk1 hS => ?_)
  obtain ⟨b42, hP1, hD1⟩ := hB
  rw [ht] at hP1
  obtain ⟨hP, hD⟩ := va_join (wr := ([(o, .inr (6, [.ref q5, .ref q16, .ref q27, .null, .null, .null, .int 0, .int 0]))] ++ (wX3 q5 b9 cI v0 ++ (wX1 q16 b20 cI v0 ++ (wX4 (b20 3) b20_3 cI v0 ++ (wX1 q27 b31 cI v0 ++ (wX4 (b31 3) b31_3 cI v0))))))) (w1 := (wX2 q38 b42 cI v0)) hP hD [17] [0, 1, 2, 3, 4, 5, 6, 7, 8, 9, 10, 11, 12, 13, 14, 15, 16] rfl rfl (by decide +kernel) (by decide +kernel) hk1 hFc hP1 hD1
  generalize H1 = H at hP hS ⊢
  have hP : va_P (dC, dI) vwCl ([(o, .inr (6, [.ref q5, .ref q16, .ref q27, .null, .null, .null, .int 0, .int 0]))] ++ (wX3 q5 b9 cI v0 ++ (wX1 q16 b20 cI v0 ++ (wX4 (b20 3) b20_3 cI v0 ++ (wX1 q27 b31 cI v0 ++ (wX4 (b31 3) b31_3 cI v0 ++ (wX2 q38 b42 cI v0))))))) H := hP
  have hD : va_D A ([(o, .inr (6, [.ref q5, .ref q16, .ref q27, .null, .null, .null, .int 0, .int 0]))] ++ (wX3 q5 b9 cI v0 ++ (wX1 q16 b20 cI v0 ++ (wX4 (b20 3) b20_3 cI v0 ++ (wX1 q27 b31 cI v0 ++ (wX4 (b31 3) b31_3 cI v0 ++ (wX2 q38 b42 cI v0))))))) := hD
  refine W.widen (k := 21) (n := 151) (Nat.le_of_ble_eq_true rfl) (Nat.le_of_ble_eq_true rfl) ?_
  refine va_putF (D := (dC, dI)) (ci := 6) (v := .ref q38) (ty := (.object "HermitHours$Day")) (C := RX6) (T := TX6) (N := 8) hx hb hts hw_X6 tyX6 tyX6_ok nmX6 hown hK hP hD hS 0 rfl rfl 3 (by decide) (hts _ (List.mem_cons_of_mem _ mw_236)) (fun _ h9 => h9) rfl hin rfl (by decide +kernel) rfl rfl (Nat.le_of_ble_eq_true rfl) dX6_init_45 (fun H locs hP hD hS => ?_)
  have hP : va_P (dC, dI) vwCl ([(o, .inr (6, [.ref q5, .ref q16, .ref q27, .ref q38, .null, .null, .int 0, .int 0]))] ++ (wX3 q5 b9 cI v0 ++ (wX1 q16 b20 cI v0 ++ (wX4 (b20 3) b20_3 cI v0 ++ (wX1 q27 b31 cI v0 ++ (wX4 (b31 3) b31_3 cI v0 ++ (wX2 q38 b42 cI v0))))))) H := hP
  have hD : va_D A ([(o, .inr (6, [.ref q5, .ref q16, .ref q27, .ref q38, .null, .null, .int 0, .int 0]))] ++ (wX3 q5 b9 cI v0 ++ (wX1 q16 b20 cI v0 ++ (wX4 (b20 3) b20_3 cI v0 ++ (wX1 q27 b31 cI v0 ++ (wX4 (b31 3) b31_3 cI v0 ++ (wX2 q38 b42 cI v0))))))) := hD
  refine lv_aload_n hx hb dX6_init_48 rfl (lv_at hl 0 rfl) ?_
  refine va_new (ci := 5) (fs := [.null, .null, .null, .null]) (C := RX5) (T := TX5) (N := 4) hx hb hts hw_X5 tyX5 tyX5_ok hown (hts _ (List.mem_cons_of_mem _ mw_188)) (hts _ (List.mem_cons_of_mem _ mw_189)) (hts _ (List.mem_cons_of_mem _ mw_58)) hK hP hD hS hA rfl (fun j hj => match j, hj with | 0, _ => rfl | 1, _ => rfl | 2, _ => rfl | 3, _ => rfl | j + 4, h => absurd h (by omega)) (Nat.le_of_ble_eq_true rfl) (Nat.le_of_ble_eq_true rfl) dX6_init_49 (fun q49 H hP hD hS => ?_)
  have hP : va_P (dC, dI) vwCl ([(o, .inr (6, [.ref q5, .ref q16, .ref q27, .ref q38, .null, .null, .int 0, .int 0]))] ++ (wX3 q5 b9 cI v0 ++ (wX1 q16 b20 cI v0 ++ (wX4 (b20 3) b20_3 cI v0 ++ (wX1 q27 b31 cI v0 ++ (wX4 (b31 3) b31_3 cI v0 ++ (wX2 q38 b42 cI v0 ++ ([(q49, .inr (5, [.null, .null, .null, .null]))])))))))) H := hP
  have hD : va_D A ([(o, .inr (6, [.ref q5, .ref q16, .ref q27, .ref q38, .null, .null, .int 0, .int 0]))] ++ (wX3 q5 b9 cI v0 ++ (wX1 q16 b20 cI v0 ++ (wX4 (b20 3) b20_3 cI v0 ++ (wX1 q27 b31 cI v0 ++ (wX4 (b31 3) b31_3 cI v0 ++ (wX2 q38 b42 cI v0 ++ ([(q49, .inr (5, [.null, .null, .null, .null]))])))))))) := hD
  refine W.widen (k := 22) (n := 155) (Nat.le_of_ble_eq_true rfl) (Nat.le_of_ble_eq_true rfl) ?_
  refine lv_dup hx hb dX6_init_52 rfl ?_
  have hPc := hP.sub (ws' := [(q49, .inr (5, [.null, .null, .null, .null]))]) [22] rfl
  have hDc := hD.sub (ws' := [(q49, .inr (5, [.null, .null, .null, .null]))]) [22] (by decide) rfl
  have hFc := va_free (wc := [(q49, .inr (5, [.null, .null, .null, .null]))]) hD hS hA [22] rfl
  refine va_callv (va_runIN (As := []) (rest := [.ref q49, .ref o]) ⟨hx, hb, hml, hown, hts⟩ (k_X5_init l dC dI cI cII q49 _) ⟨va_cnB 0 hts (hw_gi mw_192) rfl rfl rfl hN.2.2.2.2.2.2.2.2.2.1 (hts _ (List.mem_cons_of_mem _ mw_58)) (by decide +kernel) ⟨Nat.le_of_ble_eq_true rfl, Nat.le_of_ble_eq_true rfl⟩, rfl, (hts _ (List.mem_cons_of_mem _ mw_191))⟩ ⟨kB_blind, fun U hU hW => ⟨rfl, kB_go hPc hDc hK hN hao hU hW⟩⟩ rfl rfl hl.1 rfl (lv_room (Nat.le_of_ble_eq_true rfl)) dX6_init_53 ⟨Nat.le_of_ble_eq_true rfl, Nat.le_of_ble_eq_true rfl⟩) hS (fun q _ h => hFc q h) hFc (fun u t H1 locs ht hvm hw hB hz1 hk1 hS => ?_)
  obtain ⟨b53, rb53, b53_0, hP1, hD1⟩ := hB
  rw [ht] at hP1
  obtain ⟨hP, hD⟩ := va_join (wr := ([(o, .inr (6, [.ref q5, .ref q16, .ref q27, .ref q38, .null, .null, .int 0, .int 0]))] ++ (wX3 q5 b9 cI v0 ++ (wX1 q16 b20 cI v0 ++ (wX4 (b20 3) b20_3 cI v0 ++ (wX1 q27 b31 cI v0 ++ (wX4 (b31 3) b31_3 cI v0 ++ (wX2 q38 b42 cI v0)))))))) (w1 := (wX5 q49 b53 rb53 cI cII v0 w0 ++ (wX2 (b53 0) b53_0 cI v0))) hP hD [22] [0, 1, 2, 3, 4, 5, 6, 7, 8, 9, 10, 11, 12, 13, 14, 15, 16, 17, 18, 19, 20, 21] rfl rfl (by decide +kernel) (by decide +kernel) hk1 hFc hP1 hD1
  generalize H1 = H at hP hS ⊢
  have hP : va_P (dC, dI) vwCl ([(o, .inr (6, [.ref q5, .ref q16, .ref q27, .ref q38, .null, .null, .int 0, .int 0]))] ++ (wX3 q5 b9 cI v0 ++ (wX1 q16 b20 cI v0 ++ (wX4 (b20 3) b20_3 cI v0 ++ (wX1 q27 b31 cI v0 ++ (wX4 (b31 3) b31_3 cI v0 ++ (wX2 q38 b42 cI v0 ++ (wX5 q49 b53 rb53 cI cII v0 w0 ++ (wX2 (b53 0) b53_0 cI v0))))))))) H := hP
  have hD : va_D A ([(o, .inr (6, [.ref q5, .ref q16, .ref q27, .ref q38, .null, .null, .int 0, .int 0]))] ++ (wX3 q5 b9 cI v0 ++ (wX1 q16 b20 cI v0 ++ (wX4 (b20 3) b20_3 cI v0 ++ (wX1 q27 b31 cI v0 ++ (wX4 (b31 3) b31_3 cI v0 ++ (wX2 q38 b42 cI v0 ++ (wX5 q49 b53 rb53 cI cII v0 w0 ++ (wX2 (b53 0) b53_0 cI v0))))))))) := hD
  refine W.widen (k := 40) (n := 424) (Nat.le_of_ble_eq_true rfl) (Nat.le_of_ble_eq_true rfl) ?_
  refine va_putF (D := (dC, dI)) (ci := 6) (v := .ref q49) (ty := (.object "HermitHours$Trials")) (C := RX6) (T := TX6) (N := 8) hx hb hts hw_X6 tyX6 tyX6_ok nmX6 hown hK hP hD hS 0 rfl rfl 4 (by decide) (hts _ (List.mem_cons_of_mem _ mw_237)) (fun _ h9 => h9) rfl hin rfl (by decide +kernel) rfl rfl (Nat.le_of_ble_eq_true rfl) dX6_init_56 (fun H locs hP hD hS => ?_)
  have hP : va_P (dC, dI) vwCl ([(o, .inr (6, [.ref q5, .ref q16, .ref q27, .ref q38, .ref q49, .null, .int 0, .int 0]))] ++ (wX3 q5 b9 cI v0 ++ (wX1 q16 b20 cI v0 ++ (wX4 (b20 3) b20_3 cI v0 ++ (wX1 q27 b31 cI v0 ++ (wX4 (b31 3) b31_3 cI v0 ++ (wX2 q38 b42 cI v0 ++ (wX5 q49 b53 rb53 cI cII v0 w0 ++ (wX2 (b53 0) b53_0 cI v0))))))))) H := hP
  have hD : va_D A ([(o, .inr (6, [.ref q5, .ref q16, .ref q27, .ref q38, .ref q49, .null, .int 0, .int 0]))] ++ (wX3 q5 b9 cI v0 ++ (wX1 q16 b20 cI v0 ++ (wX4 (b20 3) b20_3 cI v0 ++ (wX1 q27 b31 cI v0 ++ (wX4 (b31 3) b31_3 cI v0 ++ (wX2 q38 b42 cI v0 ++ (wX5 q49 b53 rb53 cI cII v0 w0 ++ (wX2 (b53 0) b53_0 cI v0))))))))) := hD
  refine lv_aload_n hx hb dX6_init_59 rfl (lv_at hl 0 rfl) ?_
  refine va_new (ci := 0) (fs := [.null, .null, .int 0, .int 0]) (C := RX0) (T := TX0) (N := 4) hx hb hts hw_X0 tyX0 tyX0_ok hown (hts _ (List.mem_cons_of_mem _ mw_213)) (hts _ (List.mem_cons_of_mem _ mw_214)) (hts _ (List.mem_cons_of_mem _ mw_59)) hK hP hD hS hA rfl (fun j hj => match j, hj with | 0, _ => rfl | 1, _ => rfl | 2, _ => rfl | 3, _ => rfl | j + 4, h => absurd h (by omega)) (Nat.le_of_ble_eq_true rfl) (Nat.le_of_ble_eq_true rfl) dX6_init_60 (fun q60 H hP hD hS => ?_)
  have hP : va_P (dC, dI) vwCl ([(o, .inr (6, [.ref q5, .ref q16, .ref q27, .ref q38, .ref q49, .null, .int 0, .int 0]))] ++ (wX3 q5 b9 cI v0 ++ (wX1 q16 b20 cI v0 ++ (wX4 (b20 3) b20_3 cI v0 ++ (wX1 q27 b31 cI v0 ++ (wX4 (b31 3) b31_3 cI v0 ++ (wX2 q38 b42 cI v0 ++ (wX5 q49 b53 rb53 cI cII v0 w0 ++ (wX2 (b53 0) b53_0 cI v0 ++ ([(q60, .inr (0, [.null, .null, .int 0, .int 0]))])))))))))) H := hP
  have hD : va_D A ([(o, .inr (6, [.ref q5, .ref q16, .ref q27, .ref q38, .ref q49, .null, .int 0, .int 0]))] ++ (wX3 q5 b9 cI v0 ++ (wX1 q16 b20 cI v0 ++ (wX4 (b20 3) b20_3 cI v0 ++ (wX1 q27 b31 cI v0 ++ (wX4 (b31 3) b31_3 cI v0 ++ (wX2 q38 b42 cI v0 ++ (wX5 q49 b53 rb53 cI cII v0 w0 ++ (wX2 (b53 0) b53_0 cI v0 ++ ([(q60, .inr (0, [.null, .null, .int 0, .int 0]))])))))))))) := hD
  refine W.widen (k := 41) (n := 428) (Nat.le_of_ble_eq_true rfl) (Nat.le_of_ble_eq_true rfl) ?_
  refine lv_dup hx hb dX6_init_63 rfl ?_
  have hPc := hP.sub (ws' := [(q60, .inr (0, [.null, .null, .int 0, .int 0]))]) [41] rfl
  have hDc := hD.sub (ws' := [(q60, .inr (0, [.null, .null, .int 0, .int 0]))]) [41] (by decide) rfl
  have hFc := va_free (wc := [(q60, .inr (0, [.null, .null, .int 0, .int 0]))]) hD hS hA [41] rfl
  refine va_callv (va_runIN (As := []) (rest := [.ref q60, .ref o]) ⟨hx, hb, hml, hown, hts⟩ (k_X0_init l dC dI cI cII q60 _) ⟨va_cnB 0 hts (hw_gi mw_217) rfl rfl rfl hN.2.2.2.2.2.2.2.2.2.2.2 (hts _ (List.mem_cons_of_mem _ mw_59)) (by decide +kernel) ⟨Nat.le_of_ble_eq_true rfl, Nat.le_of_ble_eq_true rfl⟩, rfl, (hts _ (List.mem_cons_of_mem _ mw_216))⟩ ⟨kB_blind, fun U hU hW => ⟨rfl, kB_go hPc hDc hK hN hao hU hW⟩⟩ rfl rfl hl.1 rfl (lv_room (Nat.le_of_ble_eq_true rfl)) dX6_init_64 ⟨Nat.le_of_ble_eq_true rfl, Nat.le_of_ble_eq_true rfl⟩) hS (fun q _ h => hFc q h) hFc (fun u t H1 locs ht hvm hw hB hz1 hk1 hS => ?_)
  obtain ⟨b64, hP1, hD1⟩ := hB
  rw [ht] at hP1
  obtain ⟨hP, hD⟩ := va_join (wr := ([(o, .inr (6, [.ref q5, .ref q16, .ref q27, .ref q38, .ref q49, .null, .int 0, .int 0]))] ++ (wX3 q5 b9 cI v0 ++ (wX1 q16 b20 cI v0 ++ (wX4 (b20 3) b20_3 cI v0 ++ (wX1 q27 b31 cI v0 ++ (wX4 (b31 3) b31_3 cI v0 ++ (wX2 q38 b42 cI v0 ++ (wX5 q49 b53 rb53 cI cII v0 w0 ++ (wX2 (b53 0) b53_0 cI v0)))))))))) (w1 := (wX0 q60 b64 cI v0)) hP hD [41] [0, 1, 2, 3, 4, 5, 6, 7, 8, 9, 10, 11, 12, 13, 14, 15, 16, 17, 18, 19, 20, 21, 22, 23, 24, 25, 26, 27, 28, 29, 30, 31, 32, 33, 34, 35, 36, 37, 38, 39, 40] rfl rfl (by decide +kernel) (by decide +kernel) hk1 hFc hP1 hD1
  generalize H1 = H at hP hS ⊢
  have hP : va_P (dC, dI) vwCl ([(o, .inr (6, [.ref q5, .ref q16, .ref q27, .ref q38, .ref q49, .null, .int 0, .int 0]))] ++ (wX3 q5 b9 cI v0 ++ (wX1 q16 b20 cI v0 ++ (wX4 (b20 3) b20_3 cI v0 ++ (wX1 q27 b31 cI v0 ++ (wX4 (b31 3) b31_3 cI v0 ++ (wX2 q38 b42 cI v0 ++ (wX5 q49 b53 rb53 cI cII v0 w0 ++ (wX2 (b53 0) b53_0 cI v0 ++ (wX0 q60 b64 cI v0)))))))))) H := hP
  have hD : va_D A ([(o, .inr (6, [.ref q5, .ref q16, .ref q27, .ref q38, .ref q49, .null, .int 0, .int 0]))] ++ (wX3 q5 b9 cI v0 ++ (wX1 q16 b20 cI v0 ++ (wX4 (b20 3) b20_3 cI v0 ++ (wX1 q27 b31 cI v0 ++ (wX4 (b31 3) b31_3 cI v0 ++ (wX2 q38 b42 cI v0 ++ (wX5 q49 b53 rb53 cI cII v0 w0 ++ (wX2 (b53 0) b53_0 cI v0 ++ (wX0 q60 b64 cI v0)))))))))) := hD
  refine W.widen (k := 43) (n := 438) (Nat.le_of_ble_eq_true rfl) (Nat.le_of_ble_eq_true rfl) ?_
  refine va_putF (D := (dC, dI)) (ci := 6) (v := .ref q60) (ty := (.object "HermitHours$BestOrder")) (C := RX6) (T := TX6) (N := 8) hx hb hts hw_X6 tyX6 tyX6_ok nmX6 hown hK hP hD hS 0 rfl rfl 5 (by decide) (hts _ (List.mem_cons_of_mem _ mw_238)) (fun _ h9 => h9) rfl hin rfl (by decide +kernel) rfl rfl (Nat.le_of_ble_eq_true rfl) dX6_init_67 (fun H locs hP hD hS => ?_)
  have hP : va_P (dC, dI) vwCl ([(o, .inr (6, [.ref q5, .ref q16, .ref q27, .ref q38, .ref q49, .ref q60, .int 0, .int 0]))] ++ (wX3 q5 b9 cI v0 ++ (wX1 q16 b20 cI v0 ++ (wX4 (b20 3) b20_3 cI v0 ++ (wX1 q27 b31 cI v0 ++ (wX4 (b31 3) b31_3 cI v0 ++ (wX2 q38 b42 cI v0 ++ (wX5 q49 b53 rb53 cI cII v0 w0 ++ (wX2 (b53 0) b53_0 cI v0 ++ (wX0 q60 b64 cI v0)))))))))) H := hP
  have hD : va_D A ([(o, .inr (6, [.ref q5, .ref q16, .ref q27, .ref q38, .ref q49, .ref q60, .int 0, .int 0]))] ++ (wX3 q5 b9 cI v0 ++ (wX1 q16 b20 cI v0 ++ (wX4 (b20 3) b20_3 cI v0 ++ (wX1 q27 b31 cI v0 ++ (wX4 (b31 3) b31_3 cI v0 ++ (wX2 q38 b42 cI v0 ++ (wX5 q49 b53 rb53 cI cII v0 w0 ++ (wX2 (b53 0) b53_0 cI v0 ++ (wX0 q60 b64 cI v0)))))))))) := hD
  refine lv_aload_n hx hb dX6_init_70 rfl (lv_at hl 0 rfl) ?_
  refine lv_iconst (v := 0) hx hb dX6_init_71 (by decide) ?_
  refine va_put (D := (dC, dI)) (ci := 6) (v := .int 0) (ty := .boolean) (C := RX6) (T := TX6) (N := 8) hx hb hts hw_X6 tyX6 tyX6_ok nmX6 hown hK hP hD hS 0 rfl rfl 6 (by decide) (hts _ (List.mem_cons_of_mem _ mw_239)) (fun _ h9 => h9) rfl (by decide +kernel) rfl rfl (Nat.le_of_ble_eq_true rfl) dX6_init_72 (fun H locs hP hD hS => ?_)
  have hP : va_P (dC, dI) vwCl ([(o, .inr (6, [.ref q5, .ref q16, .ref q27, .ref q38, .ref q49, .ref q60, .int 0, .int 0]))] ++ (wX3 q5 b9 cI v0 ++ (wX1 q16 b20 cI v0 ++ (wX4 (b20 3) b20_3 cI v0 ++ (wX1 q27 b31 cI v0 ++ (wX4 (b31 3) b31_3 cI v0 ++ (wX2 q38 b42 cI v0 ++ (wX5 q49 b53 rb53 cI cII v0 w0 ++ (wX2 (b53 0) b53_0 cI v0 ++ (wX0 q60 b64 cI v0)))))))))) H := hP
  have hD : va_D A ([(o, .inr (6, [.ref q5, .ref q16, .ref q27, .ref q38, .ref q49, .ref q60, .int 0, .int 0]))] ++ (wX3 q5 b9 cI v0 ++ (wX1 q16 b20 cI v0 ++ (wX4 (b20 3) b20_3 cI v0 ++ (wX1 q27 b31 cI v0 ++ (wX4 (b31 3) b31_3 cI v0 ++ (wX2 q38 b42 cI v0 ++ (wX5 q49 b53 rb53 cI cII v0 w0 ++ (wX2 (b53 0) b53_0 cI v0 ++ (wX0 q60 b64 cI v0)))))))))) := hD
  refine lv_aload_n hx hb dX6_init_75 rfl (lv_at hl 0 rfl) ?_
  refine lv_iconst (v := 0) hx hb dX6_init_76 (by decide) ?_
  refine va_put (D := (dC, dI)) (ci := 6) (v := .int 0) (ty := .int) (C := RX6) (T := TX6) (N := 8) hx hb hts hw_X6 tyX6 tyX6_ok nmX6 hown hK hP hD hS 0 rfl rfl 7 (by decide) (hts _ (List.mem_cons_of_mem _ mw_240)) (fun _ h9 => h9) rfl (by decide +kernel) rfl rfl (Nat.le_of_ble_eq_true rfl) dX6_init_77 (fun H locs hP hD hS => ?_)
  have hP : va_P (dC, dI) vwCl ([(o, .inr (6, [.ref q5, .ref q16, .ref q27, .ref q38, .ref q49, .ref q60, .int 0, .int 0]))] ++ (wX3 q5 b9 cI v0 ++ (wX1 q16 b20 cI v0 ++ (wX4 (b20 3) b20_3 cI v0 ++ (wX1 q27 b31 cI v0 ++ (wX4 (b31 3) b31_3 cI v0 ++ (wX2 q38 b42 cI v0 ++ (wX5 q49 b53 rb53 cI cII v0 w0 ++ (wX2 (b53 0) b53_0 cI v0 ++ (wX0 q60 b64 cI v0)))))))))) H := hP
  have hD : va_D A ([(o, .inr (6, [.ref q5, .ref q16, .ref q27, .ref q38, .ref q49, .ref q60, .int 0, .int 0]))] ++ (wX3 q5 b9 cI v0 ++ (wX1 q16 b20 cI v0 ++ (wX4 (b20 3) b20_3 cI v0 ++ (wX1 q27 b31 cI v0 ++ (wX4 (b31 3) b31_3 cI v0 ++ (wX2 q38 b42 cI v0 ++ (wX5 q49 b53 rb53 cI cII v0 w0 ++ (wX2 (b53 0) b53_0 cI v0 ++ (wX0 q60 b64 cI v0)))))))))) := hD
  refine W.vret hx hb hr (fun t ht hW => ⟨⟨(), rfl, trivial, (fun k => if k = 0 then q5 else if k = 1 then q16 else if k = 2 then q27 else if k = 3 then q38 else if k = 4 then q49 else q60), b9, b20, b20_3, b31, b31_3, b42, b53, rb53, b53_0, b64, by rw [ht]; exact hP.sub [0, 1, 2, 3, 4, 5, 6, 7, 8, 9, 10, 11, 12, 13, 14, 15, 16, 17, 18, 19, 20, 21, 22, 23, 24, 25, 26, 27, 28, 29, 30, 31, 32, 33, 34, 35, 36, 37, 38, 39, 40, 41, 42, 43] rfl, hD.sub [0, 1, 2, 3, 4, 5, 6, 7, 8, 9, 10, 11, 12, 13, 14, 15, 16, 17, 18, 19, 20, 21, 22, 23, 24, 25, 26, 27, 28, 29, 30, 31, 32, 33, 34, 35, 36, 37, 38, 39, 40, 41, 42, 43] (by decide +kernel) rfl⟩, hS.F ht⟩) hS.2.2 dX6_init_80 hlocks
set_option maxHeartbeats 4000000 in
set_option maxRecDepth 100000 in
theorem k_X7_init (l : Launch) (dC : Nat → ClassId) (dI : Nat → Nat → Nat) (cI cII : ClassId) (o sz : Nat) :
    Met l yX7_init (wd yX7_init cX7_init 1 none) ({ frames := 1, cells := 12, slots := 256, locals := 14 } : Room) (va_Pc [.ref o] (kB (dC, dI) [(o, .inr (7, [.null, .int 0, .null, .int 0, .int 0, .int 0, .int 0, .int 0, .int 0, .int 0, .null, .null, .null, .int 0, .int 0, .int 0, .null, .null, .int 0, .null, .null, .int 0, .null, .int 0, .int 0, .int 0, .int 0, .null, .null, .long 0]))] cI cII sz)) (va_Qv (fun (_ : Unit) => True) (fun _ t => ∃ (a : Nat → Nat), va_P (dC, dI) vwCl (wX7 o a cI (oF v0 23 (-1)) 0) t.heap ∧ va_D (va_A [(o, .inr (7, [.null, .int 0, .null, .int 0, .int 0, .int 0, .int 0, .int 0, .int 0, .int 0, .null, .null, .null, .int 0, .int 0, .int 0, .null, .null, .int 0, .null, .null, .int 0, .null, .int 0, .int 0, .int 0, .int 0, .null, .null, .long 0]))] sz) (wX7 o a cI (oF v0 23 (-1)) 0)) (va_A [(o, .inr (7, [.null, .int 0, .null, .int 0, .int 0, .int 0, .int 0, .int 0, .int 0, .int 0, .null, .null, .null, .int 0, .int 0, .int 0, .null, .null, .int 0, .null, .null, .int 0, .null, .int 0, .int 0, .int 0, .int 0, .null, .null, .long 0]))] sz)) 12 256 (va_A [(o, .inr (7, [.null, .int 0, .null, .int 0, .int 0, .int 0, .int 0, .int 0, .int 0, .int 0, .null, .null, .null, .int 0, .int 0, .int 0, .null, .null, .int 0, .null, .null, .int 0, .null, .int 0, .int 0, .int 0, .int 0, .null, .null, .long 0]))] sz) := by
  refine Met.ofW (cc := cX7_init) (maxL := 1) (ret := none) (by decide) rfl ?_
  intro p e s m args below meth c s₁ B hml hv
  obtain ⟨rfl, ⟨hsz, hD0, hP, hK, hN⟩, hao⟩ := hv
  have hx := B.exec
  have hb := B.bytes
  have hr := B.returns
  have hts := atoms_spec (ws := (wd yX7_init cX7_init 1 none)) B.pre
  have hown : s.vm.findClass RX7 = some m.cls := findClass_of_methodNamed B.named
  have hlocks := B.notSynchronized
  have hin : meth.name = "<init>" := (name_of_methodNamed B.named B.method).1
  subst hsz
  have hD := hD0.self (sz := s.heap.size)
  generalize hAe : va_A [(o, .inr (7, [.null, .int 0, .null, .int 0, .int 0, .int 0, .int 0, .int 0, .int 0, .int 0, .null, .null, .null, .int 0, .int 0, .int 0, .null, .null, .int 0, .null, .null, .int 0, .null, .int 0, .int 0, .int 0, .int 0, .null, .null, .long 0]))] s.heap.size = A at hD ⊢
  have hA : ∀ q : Nat, s.heap.size ≤ q → A q := fun q h => by rw [← hAe]; exact Or.inr h
  have hS : va_S A s.heap s.heap [] := va_S.rf
  have hl := lv_entry ([.ref o]) (n := 1) (Nat.le_of_ble_eq_true rfl)
  rw [lg_entry_eq]
  generalize (lg_sl ([.ref o]) ++ List.replicate (1 - (lg_sl ([.ref o])).length) Slot.unset).toArray = ls at hl ⊢
  have hl : lv_has ls 1 [(0, .ref o)] := hl
  clear hAe hD0
  refine lv_aload_n hx hb dX7_init_0 rfl (lv_at hl 0 rfl) ?_
  refine W.objInit hx hb hown (hts _ (List.mem_cons_of_mem _ mw_597)) (hts _ (List.mem_cons_of_mem _ mw_70)) (hts _ (List.mem_cons_of_mem _ mw_71)) rfl (by rw [hml]; exact hl.1) rfl dX7_init_1 (Nat.le_of_ble_eq_true rfl) (Nat.le_of_ble_eq_true rfl) ?_
  refine W.eq (g2 := F0 m 4 ls []) rfl ?_
  refine lv_aload_n hx hb dX7_init_4 rfl (lv_at hl 0 rfl) ?_
  refine lv_bipush (v := 24) hx hb dX7_init_5 (by decide) ?_
  refine va_newa (atype := .int) (N' := 24) (a0 := (24, .inl (fun _ => 0))) hx hb (hts _ (List.mem_cons_of_mem _ mw_88)) rfl hK hP hD hS hA (fun _ => rfl) (by decide) (by decide) (by decide) (Nat.le_of_ble_eq_true rfl) (Nat.le_of_ble_eq_true rfl) dX7_init_7 (fun q7 cA7 H hK7 hP hD hS => ?_)
  have ec7 : cA7 = cI := hp_ci hK7
  rw [ec7] at hP hD
  have hP : va_P (dC, dI) vwCl ([(o, .inr (7, [.null, .int 0, .null, .int 0, .int 0, .int 0, .int 0, .int 0, .int 0, .int 0, .null, .null, .null, .int 0, .int 0, .int 0, .null, .null, .int 0, .null, .null, .int 0, .null, .int 0, .int 0, .int 0, .int 0, .null, .null, .long 0]))] ++ ([(q7, .inl (cI, 24, .inl (fun _ => 0)))])) H := hP
  have hD : va_D A ([(o, .inr (7, [.null, .int 0, .null, .int 0, .int 0, .int 0, .int 0, .int 0, .int 0, .int 0, .null, .null, .null, .int 0, .int 0, .int 0, .null, .null, .int 0, .null, .null, .int 0, .null, .int 0, .int 0, .int 0, .int 0, .null, .null, .long 0]))] ++ ([(q7, .inl (cI, 24, .inl (fun _ => 0)))])) := hD
  refine W.widen (k := 1) (n := 24) (Nat.le_of_ble_eq_true rfl) (Nat.le_of_ble_eq_true rfl) ?_
  refine va_putF (D := (dC, dI)) (ci := 7) (v := .ref q7) (ty := (.array .int)) (C := RX7) (T := TX7) (N := 30) hx hb hts hw_X7 tyX7 tyX7_ok nmX7 hown hK hP hD hS 0 rfl rfl 0 (by decide) (hts _ (List.mem_cons_of_mem _ mw_598)) (fun _ h9 => h9) rfl hin rfl (by decide +kernel) rfl rfl (Nat.le_of_ble_eq_true rfl) dX7_init_9 (fun H locs hP hD hS => ?_)
  have hP : va_P (dC, dI) vwCl ([(o, .inr (7, [.ref q7, .int 0, .null, .int 0, .int 0, .int 0, .int 0, .int 0, .int 0, .int 0, .null, .null, .null, .int 0, .int 0, .int 0, .null, .null, .int 0, .null, .null, .int 0, .null, .int 0, .int 0, .int 0, .int 0, .null, .null, .long 0]))] ++ ([(q7, .inl (cI, 24, .inl (fun _ => 0)))])) H := hP
  have hD : va_D A ([(o, .inr (7, [.ref q7, .int 0, .null, .int 0, .int 0, .int 0, .int 0, .int 0, .int 0, .int 0, .null, .null, .null, .int 0, .int 0, .int 0, .null, .null, .int 0, .null, .null, .int 0, .null, .int 0, .int 0, .int 0, .int 0, .null, .null, .long 0]))] ++ ([(q7, .inl (cI, 24, .inl (fun _ => 0)))])) := hD
  refine lv_aload_n hx hb dX7_init_12 rfl (lv_at hl 0 rfl) ?_
  refine lv_bipush (v := 15) hx hb dX7_init_13 (by decide) ?_
  refine va_newa (atype := .int) (N' := 15) (a0 := (15, .inl (fun _ => 0))) hx hb (hts _ (List.mem_cons_of_mem _ mw_88)) rfl hK hP hD hS hA (fun _ => rfl) (by decide) (by decide) (by decide) (Nat.le_of_ble_eq_true rfl) (Nat.le_of_ble_eq_true rfl) dX7_init_15 (fun q15 cA15 H hK15 hP hD hS => ?_)
  have ec15 : cA15 = cI := hp_ci hK15
  rw [ec15] at hP hD
  have hP : va_P (dC, dI) vwCl ([(o, .inr (7, [.ref q7, .int 0, .null, .int 0, .int 0, .int 0, .int 0, .int 0, .int 0, .int 0, .null, .null, .null, .int 0, .int 0, .int 0, .null, .null, .int 0, .null, .null, .int 0, .null, .int 0, .int 0, .int 0, .int 0, .null, .null, .long 0]))] ++ ([(q7, .inl (cI, 24, .inl (fun _ => 0)))] ++ ([(q15, .inl (cI, 15, .inl (fun _ => 0)))]))) H := hP
  have hD : va_D A ([(o, .inr (7, [.ref q7, .int 0, .null, .int 0, .int 0, .int 0, .int 0, .int 0, .int 0, .int 0, .null, .null, .null, .int 0, .int 0, .int 0, .null, .null, .int 0, .null, .null, .int 0, .null, .int 0, .int 0, .int 0, .int 0, .null, .null, .long 0]))] ++ ([(q7, .inl (cI, 24, .inl (fun _ => 0)))] ++ ([(q15, .inl (cI, 15, .inl (fun _ => 0)))]))) := hD
  refine W.widen (k := 2) (n := 39) (Nat.le_of_ble_eq_true rfl) (Nat.le_of_ble_eq_true rfl) ?_
  refine va_putF (D := (dC, dI)) (ci := 7) (v := .ref q15) (ty := (.array .int)) (C := RX7) (T := TX7) (N := 30) hx hb hts hw_X7 tyX7 tyX7_ok nmX7 hown hK hP hD hS 0 rfl rfl 2 (by decide) (hts _ (List.mem_cons_of_mem _ mw_600)) (fun _ h9 => h9) rfl hin rfl (by decide +kernel) rfl rfl (Nat.le_of_ble_eq_true rfl) dX7_init_17 (fun H locs hP hD hS => ?_)
  have hP : va_P (dC, dI) vwCl ([(o, .inr (7, [.ref q7, .int 0, .ref q15, .int 0, .int 0, .int 0, .int 0, .int 0, .int 0, .int 0, .null, .null, .null, .int 0, .int 0, .int 0, .null, .null, .int 0, .null, .null, .int 0, .null, .int 0, .int 0, .int 0, .int 0, .null, .null, .long 0]))] ++ ([(q7, .inl (cI, 24, .inl (fun _ => 0)))] ++ ([(q15, .inl (cI, 15, .inl (fun _ => 0)))]))) H := hP
  have hD : va_D A ([(o, .inr (7, [.ref q7, .int 0, .ref q15, .int 0, .int 0, .int 0, .int 0, .int 0, .int 0, .int 0, .null, .null, .null, .int 0, .int 0, .int 0, .null, .null, .int 0, .null, .null, .int 0, .null, .int 0, .int 0, .int 0, .int 0, .null, .null, .long 0]))] ++ ([(q7, .inl (cI, 24, .inl (fun _ => 0)))] ++ ([(q15, .inl (cI, 15, .inl (fun _ => 0)))]))) := hD
  refine lv_aload_n hx hb dX7_init_20 rfl (lv_at hl 0 rfl) ?_
  refine lv_bipush (v := 15) hx hb dX7_init_21 (by decide) ?_
  refine va_newa (atype := .int) (N' := 15) (a0 := (15, .inl (fun _ => 0))) hx hb (hts _ (List.mem_cons_of_mem _ mw_88)) rfl hK hP hD hS hA (fun _ => rfl) (by decide) (by decide) (by decide) (Nat.le_of_ble_eq_true rfl) (Nat.le_of_ble_eq_true rfl) dX7_init_23 (fun q23 cA23 H hK23 hP hD hS => ?_)
  have ec23 : cA23 = cI := hp_ci hK23
  rw [ec23] at hP hD
  have hP : va_P (dC, dI) vwCl ([(o, .inr (7, [.ref q7, .int 0, .ref q15, .int 0, .int 0, .int 0, .int 0, .int 0, .int 0, .int 0, .null, .null, .null, .int 0, .int 0, .int 0, .null, .null, .int 0, .null, .null, .int 0, .null, .int 0, .int 0, .int 0, .int 0, .null, .null, .long 0]))] ++ ([(q7, .inl (cI, 24, .inl (fun _ => 0)))] ++ ([(q15, .inl (cI, 15, .inl (fun _ => 0)))] ++ ([(q23, .inl (cI, 15, .inl (fun _ => 0)))])))) H := hP
  have hD : va_D A ([(o, .inr (7, [.ref q7, .int 0, .ref q15, .int 0, .int 0, .int 0, .int 0, .int 0, .int 0, .int 0, .null, .null, .null, .int 0, .int 0, .int 0, .null, .null, .int 0, .null, .null, .int 0, .null, .int 0, .int 0, .int 0, .int 0, .null, .null, .long 0]))] ++ ([(q7, .inl (cI, 24, .inl (fun _ => 0)))] ++ ([(q15, .inl (cI, 15, .inl (fun _ => 0)))] ++ ([(q23, .inl (cI, 15, .inl (fun _ => 0)))])))) := hD
  refine W.widen (k := 3) (n := 54) (Nat.le_of_ble_eq_true rfl) (Nat.le_of_ble_eq_true rfl) ?_
  refine va_putF (D := (dC, dI)) (ci := 7) (v := .ref q23) (ty := (.array .int)) (C := RX7) (T := TX7) (N := 30) hx hb hts hw_X7 tyX7 tyX7_ok nmX7 hown hK hP hD hS 0 rfl rfl 10 (by decide) (hts _ (List.mem_cons_of_mem _ mw_608)) (fun _ h9 => h9) rfl hin rfl (by decide +kernel) rfl rfl (Nat.le_of_ble_eq_true rfl) dX7_init_25 (fun H locs hP hD hS => ?_)
  have hP : va_P (dC, dI) vwCl ([(o, .inr (7, [.ref q7, .int 0, .ref q15, .int 0, .int 0, .int 0, .int 0, .int 0, .int 0, .int 0, .ref q23, .null, .null, .int 0, .int 0, .int 0, .null, .null, .int 0, .null, .null, .int 0, .null, .int 0, .int 0, .int 0, .int 0, .null, .null, .long 0]))] ++ ([(q7, .inl (cI, 24, .inl (fun _ => 0)))] ++ ([(q15, .inl (cI, 15, .inl (fun _ => 0)))] ++ ([(q23, .inl (cI, 15, .inl (fun _ => 0)))])))) H := hP
  have hD : va_D A ([(o, .inr (7, [.ref q7, .int 0, .ref q15, .int 0, .int 0, .int 0, .int 0, .int 0, .int 0, .int 0, .ref q23, .null, .null, .int 0, .int 0, .int 0, .null, .null, .int 0, .null, .null, .int 0, .null, .int 0, .int 0, .int 0, .int 0, .null, .null, .long 0]))] ++ ([(q7, .inl (cI, 24, .inl (fun _ => 0)))] ++ ([(q15, .inl (cI, 15, .inl (fun _ => 0)))] ++ ([(q23, .inl (cI, 15, .inl (fun _ => 0)))])))) := hD
  refine lv_aload_n hx hb dX7_init_28 rfl (lv_at hl 0 rfl) ?_
  refine lv_iconst (v := 5) hx hb dX7_init_29 (by decide) ?_
  refine va_newa (atype := .int) (N' := 5) (a0 := (5, .inl (fun _ => 0))) hx hb (hts _ (List.mem_cons_of_mem _ mw_88)) rfl hK hP hD hS hA (fun _ => rfl) (by decide) (by decide) (by decide) (Nat.le_of_ble_eq_true rfl) (Nat.le_of_ble_eq_true rfl) dX7_init_30 (fun q30 cA30 H hK30 hP hD hS => ?_)
  have ec30 : cA30 = cI := hp_ci hK30
  rw [ec30] at hP hD
  have hP : va_P (dC, dI) vwCl ([(o, .inr (7, [.ref q7, .int 0, .ref q15, .int 0, .int 0, .int 0, .int 0, .int 0, .int 0, .int 0, .ref q23, .null, .null, .int 0, .int 0, .int 0, .null, .null, .int 0, .null, .null, .int 0, .null, .int 0, .int 0, .int 0, .int 0, .null, .null, .long 0]))] ++ ([(q7, .inl (cI, 24, .inl (fun _ => 0)))] ++ ([(q15, .inl (cI, 15, .inl (fun _ => 0)))] ++ ([(q23, .inl (cI, 15, .inl (fun _ => 0)))] ++ ([(q30, .inl (cI, 5, .inl (fun _ => 0)))]))))) H := hP
  have hD : va_D A ([(o, .inr (7, [.ref q7, .int 0, .ref q15, .int 0, .int 0, .int 0, .int 0, .int 0, .int 0, .int 0, .ref q23, .null, .null, .int 0, .int 0, .int 0, .null, .null, .int 0, .null, .null, .int 0, .null, .int 0, .int 0, .int 0, .int 0, .null, .null, .long 0]))] ++ ([(q7, .inl (cI, 24, .inl (fun _ => 0)))] ++ ([(q15, .inl (cI, 15, .inl (fun _ => 0)))] ++ ([(q23, .inl (cI, 15, .inl (fun _ => 0)))] ++ ([(q30, .inl (cI, 5, .inl (fun _ => 0)))]))))) := hD
  refine W.widen (k := 4) (n := 59) (Nat.le_of_ble_eq_true rfl) (Nat.le_of_ble_eq_true rfl) ?_
  refine va_putF (D := (dC, dI)) (ci := 7) (v := .ref q30) (ty := (.array .int)) (C := RX7) (T := TX7) (N := 30) hx hb hts hw_X7 tyX7 tyX7_ok nmX7 hown hK hP hD hS 0 rfl rfl 11 (by decide) (hts _ (List.mem_cons_of_mem _ mw_609)) (fun _ h9 => h9) rfl hin rfl (by decide +kernel) rfl rfl (Nat.le_of_ble_eq_true rfl) dX7_init_32 (fun H locs hP hD hS => ?_)
  have hP : va_P (dC, dI) vwCl ([(o, .inr (7, [.ref q7, .int 0, .ref q15, .int 0, .int 0, .int 0, .int 0, .int 0, .int 0, .int 0, .ref q23, .ref q30, .null, .int 0, .int 0, .int 0, .null, .null, .int 0, .null, .null, .int 0, .null, .int 0, .int 0, .int 0, .int 0, .null, .null, .long 0]))] ++ ([(q7, .inl (cI, 24, .inl (fun _ => 0)))] ++ ([(q15, .inl (cI, 15, .inl (fun _ => 0)))] ++ ([(q23, .inl (cI, 15, .inl (fun _ => 0)))] ++ ([(q30, .inl (cI, 5, .inl (fun _ => 0)))]))))) H := hP
  have hD : va_D A ([(o, .inr (7, [.ref q7, .int 0, .ref q15, .int 0, .int 0, .int 0, .int 0, .int 0, .int 0, .int 0, .ref q23, .ref q30, .null, .int 0, .int 0, .int 0, .null, .null, .int 0, .null, .null, .int 0, .null, .int 0, .int 0, .int 0, .int 0, .null, .null, .long 0]))] ++ ([(q7, .inl (cI, 24, .inl (fun _ => 0)))] ++ ([(q15, .inl (cI, 15, .inl (fun _ => 0)))] ++ ([(q23, .inl (cI, 15, .inl (fun _ => 0)))] ++ ([(q30, .inl (cI, 5, .inl (fun _ => 0)))]))))) := hD
  refine lv_aload_n hx hb dX7_init_35 rfl (lv_at hl 0 rfl) ?_
  refine lv_iconst (v := 5) hx hb dX7_init_36 (by decide) ?_
  refine va_newa (atype := .int) (N' := 5) (a0 := (5, .inl (fun _ => 0))) hx hb (hts _ (List.mem_cons_of_mem _ mw_88)) rfl hK hP hD hS hA (fun _ => rfl) (by decide) (by decide) (by decide) (Nat.le_of_ble_eq_true rfl) (Nat.le_of_ble_eq_true rfl) dX7_init_37 (fun q37 cA37 H hK37 hP hD hS => ?_)
  have ec37 : cA37 = cI := hp_ci hK37
  rw [ec37] at hP hD
  have hP : va_P (dC, dI) vwCl ([(o, .inr (7, [.ref q7, .int 0, .ref q15, .int 0, .int 0, .int 0, .int 0, .int 0, .int 0, .int 0, .ref q23, .ref q30, .null, .int 0, .int 0, .int 0, .null, .null, .int 0, .null, .null, .int 0, .null, .int 0, .int 0, .int 0, .int 0, .null, .null, .long 0]))] ++ ([(q7, .inl (cI, 24, .inl (fun _ => 0)))] ++ ([(q15, .inl (cI, 15, .inl (fun _ => 0)))] ++ ([(q23, .inl (cI, 15, .inl (fun _ => 0)))] ++ ([(q30, .inl (cI, 5, .inl (fun _ => 0)))] ++ ([(q37, .inl (cI, 5, .inl (fun _ => 0)))])))))) H := hP
  have hD : va_D A ([(o, .inr (7, [.ref q7, .int 0, .ref q15, .int 0, .int 0, .int 0, .int 0, .int 0, .int 0, .int 0, .ref q23, .ref q30, .null, .int 0, .int 0, .int 0, .null, .null, .int 0, .null, .null, .int 0, .null, .int 0, .int 0, .int 0, .int 0, .null, .null, .long 0]))] ++ ([(q7, .inl (cI, 24, .inl (fun _ => 0)))] ++ ([(q15, .inl (cI, 15, .inl (fun _ => 0)))] ++ ([(q23, .inl (cI, 15, .inl (fun _ => 0)))] ++ ([(q30, .inl (cI, 5, .inl (fun _ => 0)))] ++ ([(q37, .inl (cI, 5, .inl (fun _ => 0)))])))))) := hD
  refine W.widen (k := 5) (n := 64) (Nat.le_of_ble_eq_true rfl) (Nat.le_of_ble_eq_true rfl) ?_
  refine va_putF (D := (dC, dI)) (ci := 7) (v := .ref q37) (ty := (.array .int)) (C := RX7) (T := TX7) (N := 30) hx hb hts hw_X7 tyX7 tyX7_ok nmX7 hown hK hP hD hS 0 rfl rfl 12 (by decide) (hts _ (List.mem_cons_of_mem _ mw_610)) (fun _ h9 => h9) rfl hin rfl (by decide +kernel) rfl rfl (Nat.le_of_ble_eq_true rfl) dX7_init_39 (fun H locs hP hD hS => ?_)
  have hP : va_P (dC, dI) vwCl ([(o, .inr (7, [.ref q7, .int 0, .ref q15, .int 0, .int 0, .int 0, .int 0, .int 0, .int 0, .int 0, .ref q23, .ref q30, .ref q37, .int 0, .int 0, .int 0, .null, .null, .int 0, .null, .null, .int 0, .null, .int 0, .int 0, .int 0, .int 0, .null, .null, .long 0]))] ++ ([(q7, .inl (cI, 24, .inl (fun _ => 0)))] ++ ([(q15, .inl (cI, 15, .inl (fun _ => 0)))] ++ ([(q23, .inl (cI, 15, .inl (fun _ => 0)))] ++ ([(q30, .inl (cI, 5, .inl (fun _ => 0)))] ++ ([(q37, .inl (cI, 5, .inl (fun _ => 0)))])))))) H := hP
  have hD : va_D A ([(o, .inr (7, [.ref q7, .int 0, .ref q15, .int 0, .int 0, .int 0, .int 0, .int 0, .int 0, .int 0, .ref q23, .ref q30, .ref q37, .int 0, .int 0, .int 0, .null, .null, .int 0, .null, .null, .int 0, .null, .int 0, .int 0, .int 0, .int 0, .null, .null, .long 0]))] ++ ([(q7, .inl (cI, 24, .inl (fun _ => 0)))] ++ ([(q15, .inl (cI, 15, .inl (fun _ => 0)))] ++ ([(q23, .inl (cI, 15, .inl (fun _ => 0)))] ++ ([(q30, .inl (cI, 5, .inl (fun _ => 0)))] ++ ([(q37, .inl (cI, 5, .inl (fun _ => 0)))])))))) := hD
  refine lv_aload_n hx hb dX7_init_42 rfl (lv_at hl 0 rfl) ?_
  refine lv_iconst (v := 5) hx hb dX7_init_43 (by decide) ?_
  refine va_newa (atype := .int) (N' := 5) (a0 := (5, .inl (fun _ => 0))) hx hb (hts _ (List.mem_cons_of_mem _ mw_88)) rfl hK hP hD hS hA (fun _ => rfl) (by decide) (by decide) (by decide) (Nat.le_of_ble_eq_true rfl) (Nat.le_of_ble_eq_true rfl) dX7_init_44 (fun q44 cA44 H hK44 hP hD hS => ?_)
  have ec44 : cA44 = cI := hp_ci hK44
  rw [ec44] at hP hD
  have hP : va_P (dC, dI) vwCl ([(o, .inr (7, [.ref q7, .int 0, .ref q15, .int 0, .int 0, .int 0, .int 0, .int 0, .int 0, .int 0, .ref q23, .ref q30, .ref q37, .int 0, .int 0, .int 0, .null, .null, .int 0, .null, .null, .int 0, .null, .int 0, .int 0, .int 0, .int 0, .null, .null, .long 0]))] ++ ([(q7, .inl (cI, 24, .inl (fun _ => 0)))] ++ ([(q15, .inl (cI, 15, .inl (fun _ => 0)))] ++ ([(q23, .inl (cI, 15, .inl (fun _ => 0)))] ++ ([(q30, .inl (cI, 5, .inl (fun _ => 0)))] ++ ([(q37, .inl (cI, 5, .inl (fun _ => 0)))] ++ ([(q44, .inl (cI, 5, .inl (fun _ => 0)))]))))))) H := hP
  have hD : va_D A ([(o, .inr (7, [.ref q7, .int 0, .ref q15, .int 0, .int 0, .int 0, .int 0, .int 0, .int 0, .int 0, .ref q23, .ref q30, .ref q37, .int 0, .int 0, .int 0, .null, .null, .int 0, .null, .null, .int 0, .null, .int 0, .int 0, .int 0, .int 0, .null, .null, .long 0]))] ++ ([(q7, .inl (cI, 24, .inl (fun _ => 0)))] ++ ([(q15, .inl (cI, 15, .inl (fun _ => 0)))] ++ ([(q23, .inl (cI, 15, .inl (fun _ => 0)))] ++ ([(q30, .inl (cI, 5, .inl (fun _ => 0)))] ++ ([(q37, .inl (cI, 5, .inl (fun _ => 0)))] ++ ([(q44, .inl (cI, 5, .inl (fun _ => 0)))]))))))) := hD
  refine W.widen (k := 6) (n := 69) (Nat.le_of_ble_eq_true rfl) (Nat.le_of_ble_eq_true rfl) ?_
  refine va_putF (D := (dC, dI)) (ci := 7) (v := .ref q44) (ty := (.array .int)) (C := RX7) (T := TX7) (N := 30) hx hb hts hw_X7 tyX7 tyX7_ok nmX7 hown hK hP hD hS 0 rfl rfl 16 (by decide) (hts _ (List.mem_cons_of_mem _ mw_614)) (fun _ h9 => h9) rfl hin rfl (by decide +kernel) rfl rfl (Nat.le_of_ble_eq_true rfl) dX7_init_46 (fun H locs hP hD hS => ?_)
  have hP : va_P (dC, dI) vwCl ([(o, .inr (7, [.ref q7, .int 0, .ref q15, .int 0, .int 0, .int 0, .int 0, .int 0, .int 0, .int 0, .ref q23, .ref q30, .ref q37, .int 0, .int 0, .int 0, .ref q44, .null, .int 0, .null, .null, .int 0, .null, .int 0, .int 0, .int 0, .int 0, .null, .null, .long 0]))] ++ ([(q7, .inl (cI, 24, .inl (fun _ => 0)))] ++ ([(q15, .inl (cI, 15, .inl (fun _ => 0)))] ++ ([(q23, .inl (cI, 15, .inl (fun _ => 0)))] ++ ([(q30, .inl (cI, 5, .inl (fun _ => 0)))] ++ ([(q37, .inl (cI, 5, .inl (fun _ => 0)))] ++ ([(q44, .inl (cI, 5, .inl (fun _ => 0)))]))))))) H := hP
  have hD : va_D A ([(o, .inr (7, [.ref q7, .int 0, .ref q15, .int 0, .int 0, .int 0, .int 0, .int 0, .int 0, .int 0, .ref q23, .ref q30, .ref q37, .int 0, .int 0, .int 0, .ref q44, .null, .int 0, .null, .null, .int 0, .null, .int 0, .int 0, .int 0, .int 0, .null, .null, .long 0]))] ++ ([(q7, .inl (cI, 24, .inl (fun _ => 0)))] ++ ([(q15, .inl (cI, 15, .inl (fun _ => 0)))] ++ ([(q23, .inl (cI, 15, .inl (fun _ => 0)))] ++ ([(q30, .inl (cI, 5, .inl (fun _ => 0)))] ++ ([(q37, .inl (cI, 5, .inl (fun _ => 0)))] ++ ([(q44, .inl (cI, 5, .inl (fun _ => 0)))]))))))) := hD
  refine lv_aload_n hx hb dX7_init_49 rfl (lv_at hl 0 rfl) ?_
  refine lv_iconst (v := 5) hx hb dX7_init_50 (by decide) ?_
  refine va_newa (atype := .int) (N' := 5) (a0 := (5, .inl (fun _ => 0))) hx hb (hts _ (List.mem_cons_of_mem _ mw_88)) rfl hK hP hD hS hA (fun _ => rfl) (by decide) (by decide) (by decide) (Nat.le_of_ble_eq_true rfl) (Nat.le_of_ble_eq_true rfl) dX7_init_51 (fun q51 cA51 H hK51 hP hD hS => ?_)
  have ec51 : cA51 = cI := hp_ci hK51
  rw [ec51] at hP hD
  have hP : va_P (dC, dI) vwCl ([(o, .inr (7, [.ref q7, .int 0, .ref q15, .int 0, .int 0, .int 0, .int 0, .int 0, .int 0, .int 0, .ref q23, .ref q30, .ref q37, .int 0, .int 0, .int 0, .ref q44, .null, .int 0, .null, .null, .int 0, .null, .int 0, .int 0, .int 0, .int 0, .null, .null, .long 0]))] ++ ([(q7, .inl (cI, 24, .inl (fun _ => 0)))] ++ ([(q15, .inl (cI, 15, .inl (fun _ => 0)))] ++ ([(q23, .inl (cI, 15, .inl (fun _ => 0)))] ++ ([(q30, .inl (cI, 5, .inl (fun _ => 0)))] ++ ([(q37, .inl (cI, 5, .inl (fun _ => 0)))] ++ ([(q44, .inl (cI, 5, .inl (fun _ => 0)))] ++ ([(q51, .inl (cI, 5, .inl (fun _ => 0)))])))))))) H := hP
  have hD : va_D A ([(o, .inr (7, [.ref q7, .int 0, .ref q15, .int 0, .int 0, .int 0, .int 0, .int 0, .int 0, .int 0, .ref q23, .ref q30, .ref q37, .int 0, .int 0, .int 0, .ref q44, .null, .int 0, .null, .null, .int 0, .null, .int 0, .int 0, .int 0, .int 0, .null, .null, .long 0]))] ++ ([(q7, .inl (cI, 24, .inl (fun _ => 0)))] ++ ([(q15, .inl (cI, 15, .inl (fun _ => 0)))] ++ ([(q23, .inl (cI, 15, .inl (fun _ => 0)))] ++ ([(q30, .inl (cI, 5, .inl (fun _ => 0)))] ++ ([(q37, .inl (cI, 5, .inl (fun _ => 0)))] ++ ([(q44, .inl (cI, 5, .inl (fun _ => 0)))] ++ ([(q51, .inl (cI, 5, .inl (fun _ => 0)))])))))))) := hD
  refine W.widen (k := 7) (n := 74) (Nat.le_of_ble_eq_true rfl) (Nat.le_of_ble_eq_true rfl) ?_
  refine va_putF (D := (dC, dI)) (ci := 7) (v := .ref q51) (ty := (.array .int)) (C := RX7) (T := TX7) (N := 30) hx hb hts hw_X7 tyX7 tyX7_ok nmX7 hown hK hP hD hS 0 rfl rfl 17 (by decide) (hts _ (List.mem_cons_of_mem _ mw_615)) (fun _ h9 => h9) rfl hin rfl (by decide +kernel) rfl rfl (Nat.le_of_ble_eq_true rfl) dX7_init_53 (fun H locs hP hD hS => ?_)
  have hP : va_P (dC, dI) vwCl ([(o, .inr (7, [.ref q7, .int 0, .ref q15, .int 0, .int 0, .int 0, .int 0, .int 0, .int 0, .int 0, .ref q23, .ref q30, .ref q37, .int 0, .int 0, .int 0, .ref q44, .ref q51, .int 0, .null, .null, .int 0, .null, .int 0, .int 0, .int 0, .int 0, .null, .null, .long 0]))] ++ ([(q7, .inl (cI, 24, .inl (fun _ => 0)))] ++ ([(q15, .inl (cI, 15, .inl (fun _ => 0)))] ++ ([(q23, .inl (cI, 15, .inl (fun _ => 0)))] ++ ([(q30, .inl (cI, 5, .inl (fun _ => 0)))] ++ ([(q37, .inl (cI, 5, .inl (fun _ => 0)))] ++ ([(q44, .inl (cI, 5, .inl (fun _ => 0)))] ++ ([(q51, .inl (cI, 5, .inl (fun _ => 0)))])))))))) H := hP
  have hD : va_D A ([(o, .inr (7, [.ref q7, .int 0, .ref q15, .int 0, .int 0, .int 0, .int 0, .int 0, .int 0, .int 0, .ref q23, .ref q30, .ref q37, .int 0, .int 0, .int 0, .ref q44, .ref q51, .int 0, .null, .null, .int 0, .null, .int 0, .int 0, .int 0, .int 0, .null, .null, .long 0]))] ++ ([(q7, .inl (cI, 24, .inl (fun _ => 0)))] ++ ([(q15, .inl (cI, 15, .inl (fun _ => 0)))] ++ ([(q23, .inl (cI, 15, .inl (fun _ => 0)))] ++ ([(q30, .inl (cI, 5, .inl (fun _ => 0)))] ++ ([(q37, .inl (cI, 5, .inl (fun _ => 0)))] ++ ([(q44, .inl (cI, 5, .inl (fun _ => 0)))] ++ ([(q51, .inl (cI, 5, .inl (fun _ => 0)))])))))))) := hD
  refine lv_aload_n hx hb dX7_init_56 rfl (lv_at hl 0 rfl) ?_
  refine lv_bipush (v := 16) hx hb dX7_init_57 (by decide) ?_
  refine va_newa (atype := .int) (N' := 16) (a0 := (16, .inl (fun _ => 0))) hx hb (hts _ (List.mem_cons_of_mem _ mw_88)) rfl hK hP hD hS hA (fun _ => rfl) (by decide) (by decide) (by decide) (Nat.le_of_ble_eq_true rfl) (Nat.le_of_ble_eq_true rfl) dX7_init_59 (fun q59 cA59 H hK59 hP hD hS => ?_)
  have ec59 : cA59 = cI := hp_ci hK59
  rw [ec59] at hP hD
  have hP : va_P (dC, dI) vwCl ([(o, .inr (7, [.ref q7, .int 0, .ref q15, .int 0, .int 0, .int 0, .int 0, .int 0, .int 0, .int 0, .ref q23, .ref q30, .ref q37, .int 0, .int 0, .int 0, .ref q44, .ref q51, .int 0, .null, .null, .int 0, .null, .int 0, .int 0, .int 0, .int 0, .null, .null, .long 0]))] ++ ([(q7, .inl (cI, 24, .inl (fun _ => 0)))] ++ ([(q15, .inl (cI, 15, .inl (fun _ => 0)))] ++ ([(q23, .inl (cI, 15, .inl (fun _ => 0)))] ++ ([(q30, .inl (cI, 5, .inl (fun _ => 0)))] ++ ([(q37, .inl (cI, 5, .inl (fun _ => 0)))] ++ ([(q44, .inl (cI, 5, .inl (fun _ => 0)))] ++ ([(q51, .inl (cI, 5, .inl (fun _ => 0)))] ++ ([(q59, .inl (cI, 16, .inl (fun _ => 0)))]))))))))) H := hP
  have hD : va_D A ([(o, .inr (7, [.ref q7, .int 0, .ref q15, .int 0, .int 0, .int 0, .int 0, .int 0, .int 0, .int 0, .ref q23, .ref q30, .ref q37, .int 0, .int 0, .int 0, .ref q44, .ref q51, .int 0, .null, .null, .int 0, .null, .int 0, .int 0, .int 0, .int 0, .null, .null, .long 0]))] ++ ([(q7, .inl (cI, 24, .inl (fun _ => 0)))] ++ ([(q15, .inl (cI, 15, .inl (fun _ => 0)))] ++ ([(q23, .inl (cI, 15, .inl (fun _ => 0)))] ++ ([(q30, .inl (cI, 5, .inl (fun _ => 0)))] ++ ([(q37, .inl (cI, 5, .inl (fun _ => 0)))] ++ ([(q44, .inl (cI, 5, .inl (fun _ => 0)))] ++ ([(q51, .inl (cI, 5, .inl (fun _ => 0)))] ++ ([(q59, .inl (cI, 16, .inl (fun _ => 0)))]))))))))) := hD
  refine W.widen (k := 8) (n := 90) (Nat.le_of_ble_eq_true rfl) (Nat.le_of_ble_eq_true rfl) ?_
  refine va_putF (D := (dC, dI)) (ci := 7) (v := .ref q59) (ty := (.array .int)) (C := RX7) (T := TX7) (N := 30) hx hb hts hw_X7 tyX7 tyX7_ok nmX7 hown hK hP hD hS 0 rfl rfl 19 (by decide) (hts _ (List.mem_cons_of_mem _ mw_617)) (fun _ h9 => h9) rfl hin rfl (by decide +kernel) rfl rfl (Nat.le_of_ble_eq_true rfl) dX7_init_61 (fun H locs hP hD hS => ?_)
  have hP : va_P (dC, dI) vwCl ([(o, .inr (7, [.ref q7, .int 0, .ref q15, .int 0, .int 0, .int 0, .int 0, .int 0, .int 0, .int 0, .ref q23, .ref q30, .ref q37, .int 0, .int 0, .int 0, .ref q44, .ref q51, .int 0, .ref q59, .null, .int 0, .null, .int 0, .int 0, .int 0, .int 0, .null, .null, .long 0]))] ++ ([(q7, .inl (cI, 24, .inl (fun _ => 0)))] ++ ([(q15, .inl (cI, 15, .inl (fun _ => 0)))] ++ ([(q23, .inl (cI, 15, .inl (fun _ => 0)))] ++ ([(q30, .inl (cI, 5, .inl (fun _ => 0)))] ++ ([(q37, .inl (cI, 5, .inl (fun _ => 0)))] ++ ([(q44, .inl (cI, 5, .inl (fun _ => 0)))] ++ ([(q51, .inl (cI, 5, .inl (fun _ => 0)))] ++ ([(q59, .inl (cI, 16, .inl (fun _ => 0)))]))))))))) H := hP
  have hD : va_D A ([(o, .inr (7, [.ref q7, .int 0, .ref q15, .int 0, .int 0, .int 0, .int 0, .int 0, .int 0, .int 0, .ref q23, .ref q30, .ref q37, .int 0, .int 0, .int 0, .ref q44, .ref q51, .int 0, .ref q59, .null, .int 0, .null, .int 0, .int 0, .int 0, .int 0, .null, .null, .long 0]))] ++ ([(q7, .inl (cI, 24, .inl (fun _ => 0)))] ++ ([(q15, .inl (cI, 15, .inl (fun _ => 0)))] ++ ([(q23, .inl (cI, 15, .inl (fun _ => 0)))] ++ ([(q30, .inl (cI, 5, .inl (fun _ => 0)))] ++ ([(q37, .inl (cI, 5, .inl (fun _ => 0)))] ++ ([(q44, .inl (cI, 5, .inl (fun _ => 0)))] ++ ([(q51, .inl (cI, 5, .inl (fun _ => 0)))] ++ ([(q59, .inl (cI, 16, .inl (fun _ => 0)))]))))))))) := hD
  refine lv_aload_n hx hb dX7_init_64 rfl (lv_at hl 0 rfl) ?_
  refine lv_bipush (v := 120) hx hb dX7_init_65 (by decide) ?_
  refine va_newa (atype := .int) (N' := 120) (a0 := (120, .inl (fun _ => 0))) hx hb (hts _ (List.mem_cons_of_mem _ mw_88)) rfl hK hP hD hS hA (fun _ => rfl) (by decide) (by decide) (by decide) (Nat.le_of_ble_eq_true rfl) (Nat.le_of_ble_eq_true rfl) dX7_init_67 (fun q67 cA67 H hK67 hP hD hS => ?_)
  have ec67 : cA67 = cI := hp_ci hK67
  rw [ec67] at hP hD
  have hP : va_P (dC, dI) vwCl ([(o, .inr (7, [.ref q7, .int 0, .ref q15, .int 0, .int 0, .int 0, .int 0, .int 0, .int 0, .int 0, .ref q23, .ref q30, .ref q37, .int 0, .int 0, .int 0, .ref q44, .ref q51, .int 0, .ref q59, .null, .int 0, .null, .int 0, .int 0, .int 0, .int 0, .null, .null, .long 0]))] ++ ([(q7, .inl (cI, 24, .inl (fun _ => 0)))] ++ ([(q15, .inl (cI, 15, .inl (fun _ => 0)))] ++ ([(q23, .inl (cI, 15, .inl (fun _ => 0)))] ++ ([(q30, .inl (cI, 5, .inl (fun _ => 0)))] ++ ([(q37, .inl (cI, 5, .inl (fun _ => 0)))] ++ ([(q44, .inl (cI, 5, .inl (fun _ => 0)))] ++ ([(q51, .inl (cI, 5, .inl (fun _ => 0)))] ++ ([(q59, .inl (cI, 16, .inl (fun _ => 0)))] ++ ([(q67, .inl (cI, 120, .inl (fun _ => 0)))])))))))))) H := hP
  have hD : va_D A ([(o, .inr (7, [.ref q7, .int 0, .ref q15, .int 0, .int 0, .int 0, .int 0, .int 0, .int 0, .int 0, .ref q23, .ref q30, .ref q37, .int 0, .int 0, .int 0, .ref q44, .ref q51, .int 0, .ref q59, .null, .int 0, .null, .int 0, .int 0, .int 0, .int 0, .null, .null, .long 0]))] ++ ([(q7, .inl (cI, 24, .inl (fun _ => 0)))] ++ ([(q15, .inl (cI, 15, .inl (fun _ => 0)))] ++ ([(q23, .inl (cI, 15, .inl (fun _ => 0)))] ++ ([(q30, .inl (cI, 5, .inl (fun _ => 0)))] ++ ([(q37, .inl (cI, 5, .inl (fun _ => 0)))] ++ ([(q44, .inl (cI, 5, .inl (fun _ => 0)))] ++ ([(q51, .inl (cI, 5, .inl (fun _ => 0)))] ++ ([(q59, .inl (cI, 16, .inl (fun _ => 0)))] ++ ([(q67, .inl (cI, 120, .inl (fun _ => 0)))])))))))))) := hD
  refine W.widen (k := 9) (n := 210) (Nat.le_of_ble_eq_true rfl) (Nat.le_of_ble_eq_true rfl) ?_
  refine va_putF (D := (dC, dI)) (ci := 7) (v := .ref q67) (ty := (.array .int)) (C := RX7) (T := TX7) (N := 30) hx hb hts hw_X7 tyX7 tyX7_ok nmX7 hown hK hP hD hS 0 rfl rfl 20 (by decide) (hts _ (List.mem_cons_of_mem _ mw_618)) (fun _ h9 => h9) rfl hin rfl (by decide +kernel) rfl rfl (Nat.le_of_ble_eq_true rfl) dX7_init_69 (fun H locs hP hD hS => ?_)
  have hP : va_P (dC, dI) vwCl ([(o, .inr (7, [.ref q7, .int 0, .ref q15, .int 0, .int 0, .int 0, .int 0, .int 0, .int 0, .int 0, .ref q23, .ref q30, .ref q37, .int 0, .int 0, .int 0, .ref q44, .ref q51, .int 0, .ref q59, .ref q67, .int 0, .null, .int 0, .int 0, .int 0, .int 0, .null, .null, .long 0]))] ++ ([(q7, .inl (cI, 24, .inl (fun _ => 0)))] ++ ([(q15, .inl (cI, 15, .inl (fun _ => 0)))] ++ ([(q23, .inl (cI, 15, .inl (fun _ => 0)))] ++ ([(q30, .inl (cI, 5, .inl (fun _ => 0)))] ++ ([(q37, .inl (cI, 5, .inl (fun _ => 0)))] ++ ([(q44, .inl (cI, 5, .inl (fun _ => 0)))] ++ ([(q51, .inl (cI, 5, .inl (fun _ => 0)))] ++ ([(q59, .inl (cI, 16, .inl (fun _ => 0)))] ++ ([(q67, .inl (cI, 120, .inl (fun _ => 0)))])))))))))) H := hP
  have hD : va_D A ([(o, .inr (7, [.ref q7, .int 0, .ref q15, .int 0, .int 0, .int 0, .int 0, .int 0, .int 0, .int 0, .ref q23, .ref q30, .ref q37, .int 0, .int 0, .int 0, .ref q44, .ref q51, .int 0, .ref q59, .ref q67, .int 0, .null, .int 0, .int 0, .int 0, .int 0, .null, .null, .long 0]))] ++ ([(q7, .inl (cI, 24, .inl (fun _ => 0)))] ++ ([(q15, .inl (cI, 15, .inl (fun _ => 0)))] ++ ([(q23, .inl (cI, 15, .inl (fun _ => 0)))] ++ ([(q30, .inl (cI, 5, .inl (fun _ => 0)))] ++ ([(q37, .inl (cI, 5, .inl (fun _ => 0)))] ++ ([(q44, .inl (cI, 5, .inl (fun _ => 0)))] ++ ([(q51, .inl (cI, 5, .inl (fun _ => 0)))] ++ ([(q59, .inl (cI, 16, .inl (fun _ => 0)))] ++ ([(q67, .inl (cI, 120, .inl (fun _ => 0)))])))))))))) := hD
  refine lv_aload_n hx hb dX7_init_72 rfl (lv_at hl 0 rfl) ?_
  refine lv_bipush (v := 15) hx hb dX7_init_73 (by decide) ?_
  refine va_newa (atype := .int) (N' := 15) (a0 := (15, .inl (fun _ => 0))) hx hb (hts _ (List.mem_cons_of_mem _ mw_88)) rfl hK hP hD hS hA (fun _ => rfl) (by decide) (by decide) (by decide) (Nat.le_of_ble_eq_true rfl) (Nat.le_of_ble_eq_true rfl) dX7_init_75 (fun q75 cA75 H hK75 hP hD hS => ?_)
  have ec75 : cA75 = cI := hp_ci hK75
  rw [ec75] at hP hD
  have hP : va_P (dC, dI) vwCl ([(o, .inr (7, [.ref q7, .int 0, .ref q15, .int 0, .int 0, .int 0, .int 0, .int 0, .int 0, .int 0, .ref q23, .ref q30, .ref q37, .int 0, .int 0, .int 0, .ref q44, .ref q51, .int 0, .ref q59, .ref q67, .int 0, .null, .int 0, .int 0, .int 0, .int 0, .null, .null, .long 0]))] ++ ([(q7, .inl (cI, 24, .inl (fun _ => 0)))] ++ ([(q15, .inl (cI, 15, .inl (fun _ => 0)))] ++ ([(q23, .inl (cI, 15, .inl (fun _ => 0)))] ++ ([(q30, .inl (cI, 5, .inl (fun _ => 0)))] ++ ([(q37, .inl (cI, 5, .inl (fun _ => 0)))] ++ ([(q44, .inl (cI, 5, .inl (fun _ => 0)))] ++ ([(q51, .inl (cI, 5, .inl (fun _ => 0)))] ++ ([(q59, .inl (cI, 16, .inl (fun _ => 0)))] ++ ([(q67, .inl (cI, 120, .inl (fun _ => 0)))] ++ ([(q75, .inl (cI, 15, .inl (fun _ => 0)))]))))))))))) H := hP
  have hD : va_D A ([(o, .inr (7, [.ref q7, .int 0, .ref q15, .int 0, .int 0, .int 0, .int 0, .int 0, .int 0, .int 0, .ref q23, .ref q30, .ref q37, .int 0, .int 0, .int 0, .ref q44, .ref q51, .int 0, .ref q59, .ref q67, .int 0, .null, .int 0, .int 0, .int 0, .int 0, .null, .null, .long 0]))] ++ ([(q7, .inl (cI, 24, .inl (fun _ => 0)))] ++ ([(q15, .inl (cI, 15, .inl (fun _ => 0)))] ++ ([(q23, .inl (cI, 15, .inl (fun _ => 0)))] ++ ([(q30, .inl (cI, 5, .inl (fun _ => 0)))] ++ ([(q37, .inl (cI, 5, .inl (fun _ => 0)))] ++ ([(q44, .inl (cI, 5, .inl (fun _ => 0)))] ++ ([(q51, .inl (cI, 5, .inl (fun _ => 0)))] ++ ([(q59, .inl (cI, 16, .inl (fun _ => 0)))] ++ ([(q67, .inl (cI, 120, .inl (fun _ => 0)))] ++ ([(q75, .inl (cI, 15, .inl (fun _ => 0)))]))))))))))) := hD
  refine W.widen (k := 10) (n := 225) (Nat.le_of_ble_eq_true rfl) (Nat.le_of_ble_eq_true rfl) ?_
  refine va_putF (D := (dC, dI)) (ci := 7) (v := .ref q75) (ty := (.array .int)) (C := RX7) (T := TX7) (N := 30) hx hb hts hw_X7 tyX7 tyX7_ok nmX7 hown hK hP hD hS 0 rfl rfl 22 (by decide) (hts _ (List.mem_cons_of_mem _ mw_620)) (fun _ h9 => h9) rfl hin rfl (by decide +kernel) rfl rfl (Nat.le_of_ble_eq_true rfl) dX7_init_77 (fun H locs hP hD hS => ?_)
  have hP : va_P (dC, dI) vwCl ([(o, .inr (7, [.ref q7, .int 0, .ref q15, .int 0, .int 0, .int 0, .int 0, .int 0, .int 0, .int 0, .ref q23, .ref q30, .ref q37, .int 0, .int 0, .int 0, .ref q44, .ref q51, .int 0, .ref q59, .ref q67, .int 0, .ref q75, .int 0, .int 0, .int 0, .int 0, .null, .null, .long 0]))] ++ ([(q7, .inl (cI, 24, .inl (fun _ => 0)))] ++ ([(q15, .inl (cI, 15, .inl (fun _ => 0)))] ++ ([(q23, .inl (cI, 15, .inl (fun _ => 0)))] ++ ([(q30, .inl (cI, 5, .inl (fun _ => 0)))] ++ ([(q37, .inl (cI, 5, .inl (fun _ => 0)))] ++ ([(q44, .inl (cI, 5, .inl (fun _ => 0)))] ++ ([(q51, .inl (cI, 5, .inl (fun _ => 0)))] ++ ([(q59, .inl (cI, 16, .inl (fun _ => 0)))] ++ ([(q67, .inl (cI, 120, .inl (fun _ => 0)))] ++ ([(q75, .inl (cI, 15, .inl (fun _ => 0)))]))))))))))) H := hP
  have hD : va_D A ([(o, .inr (7, [.ref q7, .int 0, .ref q15, .int 0, .int 0, .int 0, .int 0, .int 0, .int 0, .int 0, .ref q23, .ref q30, .ref q37, .int 0, .int 0, .int 0, .ref q44, .ref q51, .int 0, .ref q59, .ref q67, .int 0, .ref q75, .int 0, .int 0, .int 0, .int 0, .null, .null, .long 0]))] ++ ([(q7, .inl (cI, 24, .inl (fun _ => 0)))] ++ ([(q15, .inl (cI, 15, .inl (fun _ => 0)))] ++ ([(q23, .inl (cI, 15, .inl (fun _ => 0)))] ++ ([(q30, .inl (cI, 5, .inl (fun _ => 0)))] ++ ([(q37, .inl (cI, 5, .inl (fun _ => 0)))] ++ ([(q44, .inl (cI, 5, .inl (fun _ => 0)))] ++ ([(q51, .inl (cI, 5, .inl (fun _ => 0)))] ++ ([(q59, .inl (cI, 16, .inl (fun _ => 0)))] ++ ([(q67, .inl (cI, 120, .inl (fun _ => 0)))] ++ ([(q75, .inl (cI, 15, .inl (fun _ => 0)))]))))))))))) := hD
  refine lv_aload_n hx hb dX7_init_80 rfl (lv_at hl 0 rfl) ?_
  refine lv_bipush (v := 15) hx hb dX7_init_81 (by decide) ?_
  refine va_newa (atype := .int) (N' := 15) (a0 := (15, .inl (fun _ => 0))) hx hb (hts _ (List.mem_cons_of_mem _ mw_88)) rfl hK hP hD hS hA (fun _ => rfl) (by decide) (by decide) (by decide) (Nat.le_of_ble_eq_true rfl) (Nat.le_of_ble_eq_true rfl) dX7_init_83 (fun q83 cA83 H hK83 hP hD hS => ?_)
  have ec83 : cA83 = cI := hp_ci hK83
  rw [ec83] at hP hD
  have hP : va_P (dC, dI) vwCl ([(o, .inr (7, [.ref q7, .int 0, .ref q15, .int 0, .int 0, .int 0, .int 0, .int 0, .int 0, .int 0, .ref q23, .ref q30, .ref q37, .int 0, .int 0, .int 0, .ref q44, .ref q51, .int 0, .ref q59, .ref q67, .int 0, .ref q75, .int 0, .int 0, .int 0, .int 0, .null, .null, .long 0]))] ++ ([(q7, .inl (cI, 24, .inl (fun _ => 0)))] ++ ([(q15, .inl (cI, 15, .inl (fun _ => 0)))] ++ ([(q23, .inl (cI, 15, .inl (fun _ => 0)))] ++ ([(q30, .inl (cI, 5, .inl (fun _ => 0)))] ++ ([(q37, .inl (cI, 5, .inl (fun _ => 0)))] ++ ([(q44, .inl (cI, 5, .inl (fun _ => 0)))] ++ ([(q51, .inl (cI, 5, .inl (fun _ => 0)))] ++ ([(q59, .inl (cI, 16, .inl (fun _ => 0)))] ++ ([(q67, .inl (cI, 120, .inl (fun _ => 0)))] ++ ([(q75, .inl (cI, 15, .inl (fun _ => 0)))] ++ ([(q83, .inl (cI, 15, .inl (fun _ => 0)))])))))))))))) H := hP
  have hD : va_D A ([(o, .inr (7, [.ref q7, .int 0, .ref q15, .int 0, .int 0, .int 0, .int 0, .int 0, .int 0, .int 0, .ref q23, .ref q30, .ref q37, .int 0, .int 0, .int 0, .ref q44, .ref q51, .int 0, .ref q59, .ref q67, .int 0, .ref q75, .int 0, .int 0, .int 0, .int 0, .null, .null, .long 0]))] ++ ([(q7, .inl (cI, 24, .inl (fun _ => 0)))] ++ ([(q15, .inl (cI, 15, .inl (fun _ => 0)))] ++ ([(q23, .inl (cI, 15, .inl (fun _ => 0)))] ++ ([(q30, .inl (cI, 5, .inl (fun _ => 0)))] ++ ([(q37, .inl (cI, 5, .inl (fun _ => 0)))] ++ ([(q44, .inl (cI, 5, .inl (fun _ => 0)))] ++ ([(q51, .inl (cI, 5, .inl (fun _ => 0)))] ++ ([(q59, .inl (cI, 16, .inl (fun _ => 0)))] ++ ([(q67, .inl (cI, 120, .inl (fun _ => 0)))] ++ ([(q75, .inl (cI, 15, .inl (fun _ => 0)))] ++ ([(q83, .inl (cI, 15, .inl (fun _ => 0)))])))))))))))) := hD
  refine W.widen (k := 11) (n := 240) (Nat.le_of_ble_eq_true rfl) (Nat.le_of_ble_eq_true rfl) ?_
  refine va_putF (D := (dC, dI)) (ci := 7) (v := .ref q83) (ty := (.array .int)) (C := RX7) (T := TX7) (N := 30) hx hb hts hw_X7 tyX7 tyX7_ok nmX7 hown hK hP hD hS 0 rfl rfl 27 (by decide) (hts _ (List.mem_cons_of_mem _ mw_625)) (fun _ h9 => h9) rfl hin rfl (by decide +kernel) rfl rfl (Nat.le_of_ble_eq_true rfl) dX7_init_85 (fun H locs hP hD hS => ?_)
  have hP : va_P (dC, dI) vwCl ([(o, .inr (7, [.ref q7, .int 0, .ref q15, .int 0, .int 0, .int 0, .int 0, .int 0, .int 0, .int 0, .ref q23, .ref q30, .ref q37, .int 0, .int 0, .int 0, .ref q44, .ref q51, .int 0, .ref q59, .ref q67, .int 0, .ref q75, .int 0, .int 0, .int 0, .int 0, .ref q83, .null, .long 0]))] ++ ([(q7, .inl (cI, 24, .inl (fun _ => 0)))] ++ ([(q15, .inl (cI, 15, .inl (fun _ => 0)))] ++ ([(q23, .inl (cI, 15, .inl (fun _ => 0)))] ++ ([(q30, .inl (cI, 5, .inl (fun _ => 0)))] ++ ([(q37, .inl (cI, 5, .inl (fun _ => 0)))] ++ ([(q44, .inl (cI, 5, .inl (fun _ => 0)))] ++ ([(q51, .inl (cI, 5, .inl (fun _ => 0)))] ++ ([(q59, .inl (cI, 16, .inl (fun _ => 0)))] ++ ([(q67, .inl (cI, 120, .inl (fun _ => 0)))] ++ ([(q75, .inl (cI, 15, .inl (fun _ => 0)))] ++ ([(q83, .inl (cI, 15, .inl (fun _ => 0)))])))))))))))) H := hP
  have hD : va_D A ([(o, .inr (7, [.ref q7, .int 0, .ref q15, .int 0, .int 0, .int 0, .int 0, .int 0, .int 0, .int 0, .ref q23, .ref q30, .ref q37, .int 0, .int 0, .int 0, .ref q44, .ref q51, .int 0, .ref q59, .ref q67, .int 0, .ref q75, .int 0, .int 0, .int 0, .int 0, .ref q83, .null, .long 0]))] ++ ([(q7, .inl (cI, 24, .inl (fun _ => 0)))] ++ ([(q15, .inl (cI, 15, .inl (fun _ => 0)))] ++ ([(q23, .inl (cI, 15, .inl (fun _ => 0)))] ++ ([(q30, .inl (cI, 5, .inl (fun _ => 0)))] ++ ([(q37, .inl (cI, 5, .inl (fun _ => 0)))] ++ ([(q44, .inl (cI, 5, .inl (fun _ => 0)))] ++ ([(q51, .inl (cI, 5, .inl (fun _ => 0)))] ++ ([(q59, .inl (cI, 16, .inl (fun _ => 0)))] ++ ([(q67, .inl (cI, 120, .inl (fun _ => 0)))] ++ ([(q75, .inl (cI, 15, .inl (fun _ => 0)))] ++ ([(q83, .inl (cI, 15, .inl (fun _ => 0)))])))))))))))) := hD
  refine lv_aload_n hx hb dX7_init_88 rfl (lv_at hl 0 rfl) ?_
  refine lv_bipush (v := 16) hx hb dX7_init_89 (by decide) ?_
  refine va_newa (atype := .int) (N' := 16) (a0 := (16, .inl (fun _ => 0))) hx hb (hts _ (List.mem_cons_of_mem _ mw_88)) rfl hK hP hD hS hA (fun _ => rfl) (by decide) (by decide) (by decide) (Nat.le_of_ble_eq_true rfl) (Nat.le_of_ble_eq_true rfl) dX7_init_91 (fun q91 cA91 H hK91 hP hD hS => ?_)
  have ec91 : cA91 = cI := hp_ci hK91
  rw [ec91] at hP hD
  have hP : va_P (dC, dI) vwCl ([(o, .inr (7, [.ref q7, .int 0, .ref q15, .int 0, .int 0, .int 0, .int 0, .int 0, .int 0, .int 0, .ref q23, .ref q30, .ref q37, .int 0, .int 0, .int 0, .ref q44, .ref q51, .int 0, .ref q59, .ref q67, .int 0, .ref q75, .int 0, .int 0, .int 0, .int 0, .ref q83, .null, .long 0]))] ++ ([(q7, .inl (cI, 24, .inl (fun _ => 0)))] ++ ([(q15, .inl (cI, 15, .inl (fun _ => 0)))] ++ ([(q23, .inl (cI, 15, .inl (fun _ => 0)))] ++ ([(q30, .inl (cI, 5, .inl (fun _ => 0)))] ++ ([(q37, .inl (cI, 5, .inl (fun _ => 0)))] ++ ([(q44, .inl (cI, 5, .inl (fun _ => 0)))] ++ ([(q51, .inl (cI, 5, .inl (fun _ => 0)))] ++ ([(q59, .inl (cI, 16, .inl (fun _ => 0)))] ++ ([(q67, .inl (cI, 120, .inl (fun _ => 0)))] ++ ([(q75, .inl (cI, 15, .inl (fun _ => 0)))] ++ ([(q83, .inl (cI, 15, .inl (fun _ => 0)))] ++ ([(q91, .inl (cI, 16, .inl (fun _ => 0)))]))))))))))))) H := hP
  have hD : va_D A ([(o, .inr (7, [.ref q7, .int 0, .ref q15, .int 0, .int 0, .int 0, .int 0, .int 0, .int 0, .int 0, .ref q23, .ref q30, .ref q37, .int 0, .int 0, .int 0, .ref q44, .ref q51, .int 0, .ref q59, .ref q67, .int 0, .ref q75, .int 0, .int 0, .int 0, .int 0, .ref q83, .null, .long 0]))] ++ ([(q7, .inl (cI, 24, .inl (fun _ => 0)))] ++ ([(q15, .inl (cI, 15, .inl (fun _ => 0)))] ++ ([(q23, .inl (cI, 15, .inl (fun _ => 0)))] ++ ([(q30, .inl (cI, 5, .inl (fun _ => 0)))] ++ ([(q37, .inl (cI, 5, .inl (fun _ => 0)))] ++ ([(q44, .inl (cI, 5, .inl (fun _ => 0)))] ++ ([(q51, .inl (cI, 5, .inl (fun _ => 0)))] ++ ([(q59, .inl (cI, 16, .inl (fun _ => 0)))] ++ ([(q67, .inl (cI, 120, .inl (fun _ => 0)))] ++ ([(q75, .inl (cI, 15, .inl (fun _ => 0)))] ++ ([(q83, .inl (cI, 15, .inl (fun _ => 0)))] ++ ([(q91, .inl (cI, 16, .inl (fun _ => 0)))]))))))))))))) := hD
  refine W.widen (k := 12) (n := 256) (Nat.le_of_ble_eq_true rfl) (Nat.le_of_ble_eq_true rfl) ?_
  refine va_putF (D := (dC, dI)) (ci := 7) (v := .ref q91) (ty := (.array .int)) (C := RX7) (T := TX7) (N := 30) hx hb hts hw_X7 tyX7 tyX7_ok nmX7 hown hK hP hD hS 0 rfl rfl 28 (by decide) (hts _ (List.mem_cons_of_mem _ mw_626)) (fun _ h9 => h9) rfl hin rfl (by decide +kernel) rfl rfl (Nat.le_of_ble_eq_true rfl) dX7_init_93 (fun H locs hP hD hS => ?_)
  have hP : va_P (dC, dI) vwCl ([(o, .inr (7, [.ref q7, .int 0, .ref q15, .int 0, .int 0, .int 0, .int 0, .int 0, .int 0, .int 0, .ref q23, .ref q30, .ref q37, .int 0, .int 0, .int 0, .ref q44, .ref q51, .int 0, .ref q59, .ref q67, .int 0, .ref q75, .int 0, .int 0, .int 0, .int 0, .ref q83, .ref q91, .long 0]))] ++ ([(q7, .inl (cI, 24, .inl (fun _ => 0)))] ++ ([(q15, .inl (cI, 15, .inl (fun _ => 0)))] ++ ([(q23, .inl (cI, 15, .inl (fun _ => 0)))] ++ ([(q30, .inl (cI, 5, .inl (fun _ => 0)))] ++ ([(q37, .inl (cI, 5, .inl (fun _ => 0)))] ++ ([(q44, .inl (cI, 5, .inl (fun _ => 0)))] ++ ([(q51, .inl (cI, 5, .inl (fun _ => 0)))] ++ ([(q59, .inl (cI, 16, .inl (fun _ => 0)))] ++ ([(q67, .inl (cI, 120, .inl (fun _ => 0)))] ++ ([(q75, .inl (cI, 15, .inl (fun _ => 0)))] ++ ([(q83, .inl (cI, 15, .inl (fun _ => 0)))] ++ ([(q91, .inl (cI, 16, .inl (fun _ => 0)))]))))))))))))) H := hP
  have hD : va_D A ([(o, .inr (7, [.ref q7, .int 0, .ref q15, .int 0, .int 0, .int 0, .int 0, .int 0, .int 0, .int 0, .ref q23, .ref q30, .ref q37, .int 0, .int 0, .int 0, .ref q44, .ref q51, .int 0, .ref q59, .ref q67, .int 0, .ref q75, .int 0, .int 0, .int 0, .int 0, .ref q83, .ref q91, .long 0]))] ++ ([(q7, .inl (cI, 24, .inl (fun _ => 0)))] ++ ([(q15, .inl (cI, 15, .inl (fun _ => 0)))] ++ ([(q23, .inl (cI, 15, .inl (fun _ => 0)))] ++ ([(q30, .inl (cI, 5, .inl (fun _ => 0)))] ++ ([(q37, .inl (cI, 5, .inl (fun _ => 0)))] ++ ([(q44, .inl (cI, 5, .inl (fun _ => 0)))] ++ ([(q51, .inl (cI, 5, .inl (fun _ => 0)))] ++ ([(q59, .inl (cI, 16, .inl (fun _ => 0)))] ++ ([(q67, .inl (cI, 120, .inl (fun _ => 0)))] ++ ([(q75, .inl (cI, 15, .inl (fun _ => 0)))] ++ ([(q83, .inl (cI, 15, .inl (fun _ => 0)))] ++ ([(q91, .inl (cI, 16, .inl (fun _ => 0)))]))))))))))))) := hD
  refine lv_aload_n hx hb dX7_init_96 rfl (lv_at hl 0 rfl) ?_
  refine lv_iconst (v := (-1)) hx hb dX7_init_97 (by decide) ?_
  refine va_put (D := (dC, dI)) (ci := 7) (v := .int (-1)) (ty := .int) (C := RX7) (T := TX7) (N := 30) hx hb hts hw_X7 tyX7 tyX7_ok nmX7 hown hK hP hD hS 0 rfl rfl 23 (by decide) (hts _ (List.mem_cons_of_mem _ mw_621)) (fun _ h9 => h9) rfl (by decide +kernel) rfl rfl (Nat.le_of_ble_eq_true rfl) dX7_init_98 (fun H locs hP hD hS => ?_)
  have hP : va_P (dC, dI) vwCl ([(o, .inr (7, [.ref q7, .int 0, .ref q15, .int 0, .int 0, .int 0, .int 0, .int 0, .int 0, .int 0, .ref q23, .ref q30, .ref q37, .int 0, .int 0, .int 0, .ref q44, .ref q51, .int 0, .ref q59, .ref q67, .int 0, .ref q75, .int (-1), .int 0, .int 0, .int 0, .ref q83, .ref q91, .long 0]))] ++ ([(q7, .inl (cI, 24, .inl (fun _ => 0)))] ++ ([(q15, .inl (cI, 15, .inl (fun _ => 0)))] ++ ([(q23, .inl (cI, 15, .inl (fun _ => 0)))] ++ ([(q30, .inl (cI, 5, .inl (fun _ => 0)))] ++ ([(q37, .inl (cI, 5, .inl (fun _ => 0)))] ++ ([(q44, .inl (cI, 5, .inl (fun _ => 0)))] ++ ([(q51, .inl (cI, 5, .inl (fun _ => 0)))] ++ ([(q59, .inl (cI, 16, .inl (fun _ => 0)))] ++ ([(q67, .inl (cI, 120, .inl (fun _ => 0)))] ++ ([(q75, .inl (cI, 15, .inl (fun _ => 0)))] ++ ([(q83, .inl (cI, 15, .inl (fun _ => 0)))] ++ ([(q91, .inl (cI, 16, .inl (fun _ => 0)))]))))))))))))) H := hP
  have hD : va_D A ([(o, .inr (7, [.ref q7, .int 0, .ref q15, .int 0, .int 0, .int 0, .int 0, .int 0, .int 0, .int 0, .ref q23, .ref q30, .ref q37, .int 0, .int 0, .int 0, .ref q44, .ref q51, .int 0, .ref q59, .ref q67, .int 0, .ref q75, .int (-1), .int 0, .int 0, .int 0, .ref q83, .ref q91, .long 0]))] ++ ([(q7, .inl (cI, 24, .inl (fun _ => 0)))] ++ ([(q15, .inl (cI, 15, .inl (fun _ => 0)))] ++ ([(q23, .inl (cI, 15, .inl (fun _ => 0)))] ++ ([(q30, .inl (cI, 5, .inl (fun _ => 0)))] ++ ([(q37, .inl (cI, 5, .inl (fun _ => 0)))] ++ ([(q44, .inl (cI, 5, .inl (fun _ => 0)))] ++ ([(q51, .inl (cI, 5, .inl (fun _ => 0)))] ++ ([(q59, .inl (cI, 16, .inl (fun _ => 0)))] ++ ([(q67, .inl (cI, 120, .inl (fun _ => 0)))] ++ ([(q75, .inl (cI, 15, .inl (fun _ => 0)))] ++ ([(q83, .inl (cI, 15, .inl (fun _ => 0)))] ++ ([(q91, .inl (cI, 16, .inl (fun _ => 0)))]))))))))))))) := hD
  refine W.vret hx hb hr (fun t ht hW => ⟨⟨(), rfl, trivial, (fun k => if k = 0 then q7 else if k = 2 then q15 else if k = 10 then q23 else if k = 11 then q30 else if k = 12 then q37 else if k = 16 then q44 else if k = 17 then q51 else if k = 19 then q59 else if k = 20 then q67 else if k = 22 then q75 else if k = 27 then q83 else q91), by rw [ht]; exact hP.sub [0, 1, 2, 3, 4, 5, 6, 7, 8, 9, 10, 11, 12] rfl, hD.sub [0, 1, 2, 3, 4, 5, 6, 7, 8, 9, 10, 11, 12] (by decide +kernel) rfl⟩, hS.F ht⟩) hS.2.2 dX7_init_101 hlocks

