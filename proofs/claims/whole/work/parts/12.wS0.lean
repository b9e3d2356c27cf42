set_option maxHeartbeats 4000000 in
set_option maxRecDepth 100000 in
theorem w_X0_begin_l12 {p : Program} {l : Launch} {e : Env} {s : State} {m : MethodId} {args : Array Value} {below : List Frame} {meth : Method} {c : Code} {dC : Nat → ClassId} {dI : Nat → Nat → Nat} {cI cII : ClassId} {o_t : Nat} {a_t : Nat → Nat} {A : Nat → Prop} (C0 : hC p s m args meth c dC dI cI cII RX0 cX0_begin 3 (wd yX0_begin cX0_begin 3 none) none) (hA : ∀ q, s.heap.size ≤ q → A q)      :
    ∀ (n : Nat) (y : obV × Int32) (r : obV), f_X0_begin_l12    n y = some r → ∀ (H : Heap) (locs : List Loc) (ls : Array Slot), va_P (dC, dI) vwCl (wX0 o_t a_t cI y.1) H → va_D A (wX0 o_t a_t cI y.1) → va_S A s.heap H locs → lv_has ls 3 [(0, .ref o_t), (2, .int y.2)] → W p l e ({ frames := 0, cells := 0, slots := 0, locals := 0 } : Room) s m args below meth c H locs 0 0 (MQ below (va_Qv (fun (_ : Unit) => True) (fun _ t => va_P (dC, dI) vwCl (wX0 o_t a_t cI r) t.heap ∧ va_D A (wX0 o_t a_t cI r)) A) args s 0 0 A) (F0 m 12 ls []) := by
  obtain ⟨hx, hb, hml, hown, hts, hr, hlocks, hK, hN⟩ := C0
  refine lp_W ?_
  intro k12 ih12 y r hf H locs ls hP hD hS hl
  obtain ⟨v_t, x2⟩ := y
  have hf : f_X0_begin_b12  v_t x2  k12 = some r := hf
  have hP : va_P (dC, dI) vwCl (wX0 o_t a_t cI v_t) H := hP
  have hD : va_D A (wX0 o_t a_t cI v_t) := hD
  have hl : lv_has ls 3 [(0, .ref o_t), (2, .int x2)] := hl
  unfold f_X0_begin_b12 at hf
  refine lv_iload_n hx hb dX0_begin_12 rfl (lv_at hl 1 rfl) ?_
  refine lv_iconst (v := 5) hx hb dX0_begin_13 (by decide) ?_
  refine lv_icmp_ge (tgt := 30) hx hb dX0_begin_14 (by decide) (fun c_14 => ?_) (fun c_14 => ?_)
  · have hf := ho_t hf c_14
    obtain rfl := Option.some.inj hf
    exact W.vret hx hb hr (fun t ht hW => ⟨⟨(), rfl, trivial, by rw [ht]; exact hP, hD⟩, hS.F ht⟩) hS.2.2 dX0_begin_30 hlocks
  · have hf := ho_f hf c_14
    refine lv_aload_n hx hb dX0_begin_17 rfl (lv_at hl 0 rfl) ?_
    refine va_get (D := (dC, dI)) (ci := 0) (v := .ref (a_t 0)) (C := RX0) (T := TX0) (N := 4) hx hb hts hw_X0 hown hK hP 0 rfl rfl 0 (by decide) (hts _ (List.mem_cons_of_mem _ mw_219)) (fun _ h9 => h9) rfl dX0_begin_18 ?_
    refine lv_iload_n hx hb dX0_begin_21 rfl (lv_at hl 1 rfl) ?_
    refine lv_iload_n hx hb dX0_begin_22 rfl (lv_at hl 1 rfl) ?_
    obtain ⟨h_23, hf⟩ := ho_g hf
    refine va_iast (n := 5) (f := (v_t.2 0)) hx hb hK hP hD hS 1 0 rfl rfl h_23 dX0_begin_23 (fun H locs hP hD hS => ?_)
    have hP : va_P (dC, dI) vwCl (wX0 o_t a_t cI (oA v_t 0 (Int32.toNatClampNeg x2) x2)) H := hP
    have hD : va_D A (wX0 o_t a_t cI (oA v_t 0 (Int32.toNatClampNeg x2) x2)) := hD
    obtain ⟨v_t_23, e_v_t_23⟩ : ∃ z : obV, z = (oA v_t 0 (Int32.toNatClampNeg x2) x2) := ⟨_, rfl⟩
    rw [← e_v_t_23] at hP hD
    have hf := ho_l hf v_t_23 e_v_t_23
    refine lv_iinc (v := (x2 + 1)) (lv' := [(2, .int (x2 + 1)), (0, .ref o_t)]) hx hb dX0_begin_24 hl (k := 1) rfl (hp_inc (by decide)) (by decide) rfl (fun ls hl => ?_)
    refine lv_goto (tgt := 12) hx hb dX0_begin_27 (by decide) ?_
    exact ih12 (v_t_23, (x2 + 1)) _ hf _ _ _ hP hD hS (lv_sub hl [1, 0] rfl)
set_option maxHeartbeats 4000000 in
set_option maxRecDepth 100000 in
theorem c_X0_begin (l : Launch) (dC : Nat → ClassId) (dI : Nat → Nat → Nat) (cI cII : ClassId) (o_t : Nat) (a_t : Nat → Nat) (v_t : obV) (x1 : Int32) (sz : Nat) (r : obV) (hf : f_X0_begin  v_t x1 = some r) :
    Met l yX0_begin (wd yX0_begin cX0_begin 3 none) ({ frames := 0, cells := 0, slots := 0, locals := 0 } : Room) (va_Pc [.ref o_t, .int x1] (qB (dC, dI) vwCl (wX0 o_t a_t cI v_t) (hTY cI cII) sz)) (va_Qv (fun (_ : Unit) => True) (fun _ t => va_P (dC, dI) vwCl (wX0 o_t a_t cI r) t.heap ∧ va_D (va_A (wX0 o_t a_t cI v_t) sz) (wX0 o_t a_t cI r)) (va_A (wX0 o_t a_t cI v_t) sz)) 0 0 (va_A (wX0 o_t a_t cI v_t) sz) := by
  refine Met.ofW (cc := cX0_begin) (maxL := 3) (ret := none) (by decide) rfl ?_
  intro p e s m args below meth c s₁ B hml hv
  obtain ⟨rfl, hsz, hD0, hP, hK, hN⟩ := hv
  have hx := B.exec
  have hb := B.bytes
  have hr := B.returns
  have hts := atoms_spec (ws := (wd yX0_begin cX0_begin 3 none)) B.pre
  have hown : s.vm.findClass RX0 = some m.cls := findClass_of_methodNamed B.named
  have hlocks := B.notSynchronized
  subst hsz
  have hD := hD0.self (sz := s.heap.size)
  generalize hAe : va_A (wX0 o_t a_t cI v_t) s.heap.size = A at hD ⊢
  have hA : ∀ q : Nat, s.heap.size ≤ q → A q := fun q h => by rw [← hAe]; exact Or.inr h
  have hS : va_S A s.heap s.heap [] := va_S.rf
  have hl := lv_entry ([.ref o_t, .int x1]) (n := 3) (Nat.le_of_ble_eq_true rfl)
  rw [lg_entry_eq]
  generalize (lg_sl ([.ref o_t, .int x1]) ++ List.replicate (3 - (lg_sl ([.ref o_t, .int x1])).length) Slot.unset).toArray = ls at hl ⊢
  have hl : lv_has ls 3 [(0, .ref o_t), (1, .int x1)] := hl
  clear hAe hD0
  unfold f_X0_begin at hf
  refine lv_aload_n hx hb dX0_begin_0 rfl (lv_at hl 0 rfl) ?_
  refine lv_iload_n hx hb dX0_begin_1 rfl (lv_at hl 1 rfl) ?_
  refine va_put (D := (dC, dI)) (ci := 0) (v := .int x1) (ty := .int) (C := RX0) (T := TX0) (N := 4) hx hb hts hw_X0 tyX0 tyX0_ok nmX0 hown hK hP hD hS 0 rfl rfl 2 (by decide) (hts _ (List.mem_cons_of_mem _ mw_221)) (fun _ h9 => h9) rfl (by decide +kernel) rfl rfl (Nat.le_of_ble_eq_true rfl) dX0_begin_2 (fun H locs hP hD hS => ?_)
  have hP : va_P (dC, dI) vwCl (wX0 o_t a_t cI (oF v_t 2 x1)) H := hP
  have hD : va_D A (wX0 o_t a_t cI (oF v_t 2 x1)) := hD
  obtain ⟨v_t_2, e_v_t_2⟩ : ∃ z : obV, z = (oF v_t 2 x1) := ⟨_, rfl⟩
  rw [← e_v_t_2] at hP hD
  have hf := ho_l hf v_t_2 e_v_t_2
  refine lv_aload_n hx hb dX0_begin_5 rfl (lv_at hl 0 rfl) ?_
  refine lv_iconst (v := (-1)) hx hb dX0_begin_6 (by decide) ?_
  refine va_put (D := (dC, dI)) (ci := 0) (v := .int (-1)) (ty := .int) (C := RX0) (T := TX0) (N := 4) hx hb hts hw_X0 tyX0 tyX0_ok nmX0 hown hK hP hD hS 0 rfl rfl 3 (by decide) (hts _ (List.mem_cons_of_mem _ mw_222)) (fun _ h9 => h9) rfl (by decide +kernel) rfl rfl (Nat.le_of_ble_eq_true rfl) dX0_begin_7 (fun H locs hP hD hS => ?_)
  have hP : va_P (dC, dI) vwCl (wX0 o_t a_t cI (oF v_t_2 3 (-1))) H := hP
  have hD : va_D A (wX0 o_t a_t cI (oF v_t_2 3 (-1))) := hD
  obtain ⟨v_t_7, e_v_t_7⟩ : ∃ z : obV, z = (oF v_t_2 3 (-1)) := ⟨_, rfl⟩
  rw [← e_v_t_7] at hP hD
  have hf := ho_l hf v_t_7 e_v_t_7
  refine lv_iconst (v := 0) hx hb dX0_begin_10 (by decide) ?_
  refine lv_istore_n (lv' := [(2, .int 0), (0, .ref o_t), (1, .int x1)]) hx hb dX0_begin_11 rfl hl (by decide) rfl (fun ls hl => ?_)
  exact w_X0_begin_l12 ⟨hx, hb, hml, hown, hts, hr, hlocks, hK, hN⟩ hA  _ _ _ hf _ _ _ hP hD hS (lv_sub hl [1, 0] rfl)
set_option maxHeartbeats 4000000 in
set_option maxRecDepth 100000 in
theorem c_X1_wears (l : Launch) (dC : Nat → ClassId) (dI : Nat → Nat → Nat) (cI cII : ClassId) (o_t : Nat) (a_t : Nat → Nat) (v_t : obV) (x1 : Int32) (r : Int32) (hf : f_X1_wears  v_t x1 = some r) :
    Met l yX1_wears (wd yX1_wears cX1_wears 2 (some .int)) ({ frames := 0, cells := 0, slots := 0, locals := 0 } : Room) (va_Pc [.ref o_t, .int x1] (pB (dC, dI) vwCl (wX1 o_t a_t cI v_t) (hTY cI cII))) (vp_Si (fun z => r = z)) 0 0 (fun _ => False) := by
  refine Met.ofW (cc := cX1_wears) (maxL := 2) (ret := (some .int)) (by decide) rfl ?_
  intro p e s m args below meth c s₁ B hml hv
  obtain ⟨rfl, hP, hK, hN⟩ := hv
  have hx := B.exec
  have hb := B.bytes
  have hr := B.returns
  have hts := atoms_spec (ws := (wd yX1_wears cX1_wears 2 (some .int))) B.pre
  have hown : s.vm.findClass RX1 = some m.cls := findClass_of_methodNamed B.named
  have hlocks := B.notSynchronized
  have hl := lv_entry ([.ref o_t, .int x1]) (n := 2) (Nat.le_of_ble_eq_true rfl)
  rw [lg_entry_eq]
  generalize (lg_sl ([.ref o_t, .int x1]) ++ List.replicate (2 - (lg_sl ([.ref o_t, .int x1])).length) Slot.unset).toArray = ls at hl ⊢
  have hl : lv_has ls 2 [(0, .ref o_t), (1, .int x1)] := hl
  unfold f_X1_wears at hf
  refine lv_aload_n hx hb dX1_wears_0 rfl (lv_at hl 0 rfl) ?_
  refine va_get (D := (dC, dI)) (ci := 1) (v := .ref (a_t 0)) (C := RX1) (T := TX1) (N := 7) hx hb hts hw_X1 hown hK hP 0 rfl rfl 0 (by decide) (hts _ (List.mem_cons_of_mem _ mw_113)) (fun _ h9 => h9) rfl dX1_wears_1 ?_
  refine lv_iload_n hx hb dX1_wears_4 rfl (lv_at hl 1 rfl) ?_
  obtain ⟨h_5, hf⟩ := ho_g hf
  refine va_iald (n := 5) (f := (v_t.2 0)) hx hb hK hP 1 0 rfl rfl h_5 dX1_wears_5 ?_
  refine lv_iconst (v := 3) hx hb dX1_wears_6 (by decide) ?_
  refine lv_icmp_ne (tgt := 14) hx hb dX1_wears_7 (by decide) (fun c_7 => ?_) (fun c_7 => ?_)
  · have hf := ho_f hf c_7
    refine lv_iconst (v := 1) hx hb dX1_wears_14 (by decide) ?_
    obtain rfl := Option.some.inj hf
    exact W.iret (v := 1) hx hb hr (fun t ht hW => ⟨_, rfl, rfl, ht⟩) (fun q hq => by cases hq) dX1_wears_15 hlocks
  · have hf := ho_t hf c_7
    refine lv_iconst (v := 3) hx hb dX1_wears_10 (by decide) ?_
    refine lv_goto (tgt := 15) hx hb dX1_wears_11 (by decide) ?_
    obtain rfl := Option.some.inj hf
    exact W.iret (v := 3) hx hb hr (fun t ht hW => ⟨_, rfl, rfl, ht⟩) (fun q hq => by cases hq) dX1_wears_15 hlocks
set_option maxHeartbeats 4000000 in
set_option maxRecDepth 100000 in
theorem c_X6_leastSaying (l : Launch) (dC : Nat → ClassId) (dI : Nat → Nat → Nat) (cI cII : ClassId)   (x0 : Int32) (x1 : Int32) (r : Int32) (hf : f_X6_leastSaying   x0 x1 = some r) :
    Met l yX6_leastSaying (wd yX6_leastSaying cX6_leastSaying 5 (some .int)) ({ frames := 1, cells := 0, slots := 0, locals := 21 } : Room) (va_Pc [.int x0, .int x1] (pB (dC, dI) vwCl ([] : va_W) (hTY cI cII))) (vp_Si (fun z => r = z)) 0 0 (fun _ => False) := by
  refine Met.ofW (cc := cX6_leastSaying) (maxL := 5) (ret := (some .int)) (by decide) rfl ?_
  intro p e s m args below meth c s₁ B hml hv
  obtain ⟨rfl, hP, hK, hN⟩ := hv
  have hx := B.exec
  have hb := B.bytes
  have hr := B.returns
  have hts := atoms_spec (ws := (wd yX6_leastSaying cX6_leastSaying 5 (some .int))) B.pre
  have hown : s.vm.findClass RX6 = some m.cls := findClass_of_methodNamed B.named
  have hlocks := B.notSynchronized
  have hl := lv_entry ([.int x0, .int x1]) (n := 5) (Nat.le_of_ble_eq_true rfl)
  rw [lg_entry_eq]
  generalize (lg_sl ([.int x0, .int x1]) ++ List.replicate (5 - (lg_sl ([.int x0, .int x1])).length) Slot.unset).toArray = ls at hl ⊢
  have hl : lv_has ls 5 [(0, .int x0), (1, .int x1)] := hl
  unfold f_X6_leastSaying at hf
  refine lv_iload_n hx hb dX6_leastSaying_0 rfl (lv_at hl 0 rfl) ?_
  refine lv_iconst (v := 1) hx hb dX6_leastSaying_1 (by decide) ?_
  refine lv_iadd hx hb dX6_leastSaying_2 ?_
  refine lv_bipush (v := 6) hx hb dX6_leastSaying_3 (by decide) ?_
  refine lv_irem hx hb dX6_leastSaying_5 (by decide) ?_
  refine lv_istore_n (lv' := [(2, .int ((x0 + 1) - (x0 + 1) / 6 * 6)), (0, .int x0), (1, .int x1)]) hx hb dX6_leastSaying_6 rfl hl (by decide) rfl (fun ls hl => ?_)
  refine lv_iload_n hx hb dX6_leastSaying_7 rfl (lv_at hl 1 rfl) ?_
  refine lv_iload_n hx hb dX6_leastSaying_8 rfl (lv_at hl 0 rfl) ?_
  refine va_mmin hx hb (hml.trans hl.1.symm) hown (hts _ (List.mem_cons_of_mem _ mw_368)) (hts _ (List.mem_cons_of_mem _ mw_314)) (hts _ (List.mem_cons_of_mem _ mw_61)) (hts _ (List.mem_cons_of_mem _ mw_315)) (Nat.le_of_ble_eq_true rfl) (Nat.le_of_ble_eq_true rfl) (Nat.zero_le _) (Nat.zero_le _) dX6_leastSaying_9 ?_
  refine lv_topi (fun z_12 e_12 => ?_)
  have hf := ho_l hf z_12 e_12
  refine lv_istore_n (lv' := [(3, .int z_12), (2, .int ((x0 + 1) - (x0 + 1) / 6 * 6)), (0, .int x0), (1, .int x1)]) hx hb dX6_leastSaying_12 rfl hl (by decide) rfl (fun ls hl => ?_)
  refine lv_iload_n hx hb dX6_leastSaying_13 rfl (lv_at hl 2 rfl) ?_
  refine lv_iload_n hx hb dX6_leastSaying_14 rfl (lv_at hl 1 rfl) ?_
  refine va_mmax hx hb (hml.trans hl.1.symm) hown (hts _ (List.mem_cons_of_mem _ mw_369)) (hts _ (List.mem_cons_of_mem _ mw_370)) (hts _ (List.mem_cons_of_mem _ mw_61)) (hts _ (List.mem_cons_of_mem _ mw_371)) (Nat.le_of_ble_eq_true rfl) (Nat.le_of_ble_eq_true rfl) (Nat.zero_le _) (Nat.zero_le _) dX6_leastSaying_15 ?_
  refine lv_topi (fun z_18 e_18 => ?_)
  have hf := ho_l hf z_18 e_18
  refine lv_istore (lv' := [(4, .int z_18), (3, .int z_12), (2, .int ((x0 + 1) - (x0 + 1) / 6 * 6)), (0, .int x0), (1, .int x1)]) hx hb dX6_leastSaying_18 hl (by decide) rfl (fun ls hl => ?_)
  refine lv_iload_n hx hb dX6_leastSaying_20 rfl (lv_at hl 4 rfl) ?_
  refine lv_iconst (v := 1) hx hb dX6_leastSaying_21 (by decide) ?_
  refine lv_iload_n hx hb dX6_leastSaying_22 rfl (lv_at hl 1 rfl) ?_
  refine lv_ishl hx hb dX6_leastSaying_23 ?_
  refine lv_iand hx hb dX6_leastSaying_24 ?_
  refine lv_if_ne (tgt := 30) hx hb dX6_leastSaying_25 (by decide) (fun c_25 => ?_) (fun c_25 => ?_)
  · have hf := ho_f hf c_25
    refine lv_iload_n hx hb dX6_leastSaying_30 rfl (lv_at hl 4 rfl) ?_
    refine lv_iconst (v := 1) hx hb dX6_leastSaying_31 (by decide) ?_
    refine lv_iload hx hb dX6_leastSaying_32 (lv_at hl 0 rfl) ?_
    refine lv_ishl hx hb dX6_leastSaying_34 ?_
    refine lv_iand hx hb dX6_leastSaying_35 ?_
    refine lv_if_ne (tgt := 44) hx hb dX6_leastSaying_36 (by decide) (fun c_36 => ?_) (fun c_36 => ?_)
    · have hf := ho_f hf c_36
      refine lv_iconst (v := (-1)) hx hb dX6_leastSaying_44 (by decide) ?_
      obtain rfl := Option.some.inj hf
      exact W.iret (v := (-1)) hx hb hr (fun t ht hW => ⟨_, rfl, rfl, ht⟩) (fun q hq => by cases hq) dX6_leastSaying_45 hlocks
    · have hf := ho_t hf c_36
      refine lv_iload hx hb dX6_leastSaying_39 (lv_at hl 0 rfl) ?_
      refine lv_goto (tgt := 45) hx hb dX6_leastSaying_41 (by decide) ?_
      obtain rfl := Option.some.inj hf
      exact W.iret (v := z_18) hx hb hr (fun t ht hW => ⟨_, rfl, rfl, ht⟩) (fun q hq => by cases hq) dX6_leastSaying_45 hlocks
  · have hf := ho_t hf c_25
    refine lv_iload_n hx hb dX6_leastSaying_28 rfl (lv_at hl 1 rfl) ?_
    obtain rfl := Option.some.inj hf
    exact W.iret (v := z_12) hx hb hr (fun t ht hW => ⟨_, rfl, rfl, ht⟩) (fun q hq => by cases hq) dX6_leastSaying_29 hlocks
set_option maxHeartbeats 4000000 in
set_option maxRecDepth 100000 in
theorem c_J6_bitCount_0f7a4 (l : Launch) (dC : Nat → ClassId) (dI : Nat → Nat → Nat) (cI cII : ClassId)   (x0 : Int32) (r : Int32) (hf : f_J6_bitCount_0f7a4   x0 = some r) :
    Met l yJ6_bitCount_0f7a4 (wd yJ6_bitCount_0f7a4 cJ6_bitCount_0f7a4 1 (some .int)) ({ frames := 0, cells := 0, slots := 0, locals := 0 } : Room) (va_Pc [.int x0] (pB (dC, dI) vwCl ([] : va_W) (hTY cI cII))) (vp_Si (fun z => r = z)) 0 0 (fun _ => False) := by
  refine Met.ofW (cc := cJ6_bitCount_0f7a4) (maxL := 1) (ret := (some .int)) (by decide) rfl ?_
  intro p e s m args below meth c s₁ B hml hv
  obtain ⟨rfl, hP, hK, hN⟩ := hv
  have hx := B.exec
  have hb := B.bytes
  have hr := B.returns
  have hts := atoms_spec (ws := (wd yJ6_bitCount_0f7a4 cJ6_bitCount_0f7a4 1 (some .int))) B.pre
  have hown : s.vm.findClass RJ6 = some m.cls := findClass_of_methodNamed B.named
  have hlocks := B.notSynchronized
  have hl := lv_entry ([.int x0]) (n := 1) (Nat.le_of_ble_eq_true rfl)
  rw [lg_entry_eq]
  generalize (lg_sl ([.int x0]) ++ List.replicate (1 - (lg_sl ([.int x0])).length) Slot.unset).toArray = ls at hl ⊢
  have hl : lv_has ls 1 [(0, .int x0)] := hl
  unfold f_J6_bitCount_0f7a4 at hf
  refine lv_iload_n hx hb dJ6_bitCount_0f7a4_0 rfl (lv_at hl 0 rfl) ?_
  refine lv_iload_n hx hb dJ6_bitCount_0f7a4_1 rfl (lv_at hl 0 rfl) ?_
  refine lv_iconst (v := 1) hx hb dJ6_bitCount_0f7a4_2 (by decide) ?_
  refine lv_iushr (v := (ushr x0 1)) hx hb dJ6_bitCount_0f7a4_3 rfl ?_
  refine lv_ldcw (v := 1431655765) hx hb hown (hts _ (List.mem_cons_of_mem _ mw_458)) dJ6_bitCount_0f7a4_4 ?_
  refine lv_iand hx hb dJ6_bitCount_0f7a4_7 ?_
  refine lv_isub hx hb dJ6_bitCount_0f7a4_8 ?_
  refine lv_istore_n (lv' := [(0, .int (x0 - ((ushr x0 1) &&& 1431655765)))]) hx hb dJ6_bitCount_0f7a4_9 rfl hl (by decide) rfl (fun ls hl => ?_)
  refine lv_iload_n hx hb dJ6_bitCount_0f7a4_10 rfl (lv_at hl 0 rfl) ?_
  refine lv_ldcw (v := 858993459) hx hb hown (hts _ (List.mem_cons_of_mem _ mw_459)) dJ6_bitCount_0f7a4_11 ?_
  refine lv_iand hx hb dJ6_bitCount_0f7a4_14 ?_
  refine lv_iload_n hx hb dJ6_bitCount_0f7a4_15 rfl (lv_at hl 0 rfl) ?_
  refine lv_iconst (v := 2) hx hb dJ6_bitCount_0f7a4_16 (by decide) ?_
  refine lv_iushr (v := (ushr (x0 - ((ushr x0 1) &&& 1431655765)) 2)) hx hb dJ6_bitCount_0f7a4_17 rfl ?_
  refine lv_ldcw (v := 858993459) hx hb hown (hts _ (List.mem_cons_of_mem _ mw_459)) dJ6_bitCount_0f7a4_18 ?_
  refine lv_iand hx hb dJ6_bitCount_0f7a4_21 ?_
  refine lv_iadd hx hb dJ6_bitCount_0f7a4_22 ?_
  refine lv_topi (fun z_23 e_23 => ?_)
  have hf := ho_l hf z_23 e_23
  refine lv_istore_n (lv' := [(0, .int z_23)]) hx hb dJ6_bitCount_0f7a4_23 rfl hl (by decide) rfl (fun ls hl => ?_)
  refine lv_iload_n hx hb dJ6_bitCount_0f7a4_24 rfl (lv_at hl 0 rfl) ?_
  refine lv_iload_n hx hb dJ6_bitCount_0f7a4_25 rfl (lv_at hl 0 rfl) ?_
  refine lv_iconst (v := 4) hx hb dJ6_bitCount_0f7a4_26 (by decide) ?_
  refine lv_iushr (v := (ushr z_23 4)) hx hb dJ6_bitCount_0f7a4_27 rfl ?_
  refine lv_iadd hx hb dJ6_bitCount_0f7a4_28 ?_
  refine lv_ldcw (v := 252645135) hx hb hown (hts _ (List.mem_cons_of_mem _ mw_460)) dJ6_bitCount_0f7a4_29 ?_
  refine lv_iand hx hb dJ6_bitCount_0f7a4_32 ?_
  refine lv_istore_n (lv' := [(0, .int ((z_23 + (ushr z_23 4)) &&& 252645135))]) hx hb dJ6_bitCount_0f7a4_33 rfl hl (by decide) rfl (fun ls hl => ?_)
  refine lv_iload_n hx hb dJ6_bitCount_0f7a4_34 rfl (lv_at hl 0 rfl) ?_
  refine lv_iload_n hx hb dJ6_bitCount_0f7a4_35 rfl (lv_at hl 0 rfl) ?_
  refine lv_bipush (v := 8) hx hb dJ6_bitCount_0f7a4_36 (by decide) ?_
  refine lv_iushr (v := (ushr ((z_23 + (ushr z_23 4)) &&& 252645135) 8)) hx hb dJ6_bitCount_0f7a4_38 rfl ?_
  refine lv_iadd hx hb dJ6_bitCount_0f7a4_39 ?_
  refine lv_topi (fun z_40 e_40 => ?_)
  have hf := ho_l hf z_40 e_40
  refine lv_istore_n (lv' := [(0, .int z_40)]) hx hb dJ6_bitCount_0f7a4_40 rfl hl (by decide) rfl (fun ls hl => ?_)
  refine lv_iload_n hx hb dJ6_bitCount_0f7a4_41 rfl (lv_at hl 0 rfl) ?_
  refine lv_iload_n hx hb dJ6_bitCount_0f7a4_42 rfl (lv_at hl 0 rfl) ?_
  refine lv_bipush (v := 16) hx hb dJ6_bitCount_0f7a4_43 (by decide) ?_
  refine lv_iushr (v := (ushr z_40 16)) hx hb dJ6_bitCount_0f7a4_45 rfl ?_
  refine lv_iadd hx hb dJ6_bitCount_0f7a4_46 ?_
  refine lv_istore_n (lv' := [(0, .int (z_40 + (ushr z_40 16)))]) hx hb dJ6_bitCount_0f7a4_47 rfl hl (by decide) rfl (fun ls hl => ?_)
  refine lv_iload_n hx hb dJ6_bitCount_0f7a4_48 rfl (lv_at hl 0 rfl) ?_
  refine lv_bipush (v := 63) hx hb dJ6_bitCount_0f7a4_49 (by decide) ?_
  refine lv_iand hx hb dJ6_bitCount_0f7a4_51 ?_
  obtain rfl := Option.some.inj hf
  exact W.iret (v := ((z_40 + (ushr z_40 16)) &&& 63)) hx hb hr (fun t ht hW => ⟨_, rfl, rfl, ht⟩) (fun q hq => by cases hq) dJ6_bitCount_0f7a4_52 hlocks
set_option maxHeartbeats 4000000 in
set_option maxRecDepth 100000 in
theorem w_X0_helpedWhenTried_l10 {p : Program} {l : Launch} {e : Env} {s : State} {m : MethodId} {args : Array Value} {below : List Frame} {meth : Method} {c : Code} {dC : Nat → ClassId} {dI : Nat → Nat → Nat} {cI cII : ClassId} {o_t : Nat} {a_t : Nat → Nat} {o_a1 : Nat} {a_a1 : Nat → Nat} (C0 : hC p s m args meth c dC dI cI cII RX0 cX0_helpedWhenTried 7 (wd yX0_helpedWhenTried cX0_helpedWhenTried 7 (some .int)) (some .int))  {v_t : obV} {v_a1 : obV}   (hP : va_P (dC, dI) vwCl (wX0 o_t a_t cI v_t ++ (wX1 o_a1 a_a1 cI v_a1)) s.heap) :
    ∀ (n : Nat) (y : Int32 × Int32 × Int32) (r : Int32), f_X0_helpedWhenTried_l10  v_t v_a1  n y = some r → ∀ (ls : Array Slot), lv_has ls 7 [(0, .ref o_t), (1, .ref o_a1), (2, .int y.1), (3, .int y.2.1), (4, .int y.2.2)] → W p l e ({ frames := 2, cells := 0, slots := 0, locals := 45 } : Room) s m args below meth c s.heap [] 0 0 (MQ below (vp_Si (fun z => r = z)) args s 0 0 (fun _ => False)) (F0 m 10 ls []) := by
  obtain ⟨hx, hb, hml, hown, hts, hr, hlocks, hK, hN⟩ := C0
  refine lp_W ?_
  intro k10 ih10 y r hf ls hl
  obtain ⟨x2, x3, x4⟩ := y
  have hf : f_X0_helpedWhenTried_b10  v_t v_a1 x2 x3 x4  k10 = some r := hf
  have hl : lv_has ls 7 [(0, .ref o_t), (1, .ref o_a1), (2, .int x2), (3, .int x3), (4, .int x4)] := hl
  unfold f_X0_helpedWhenTried_b10 at hf
  refine lv_iload hx hb dX0_helpedWhenTried_10 (lv_at hl 4 rfl) ?_
  refine lv_aload_n hx hb dX0_helpedWhenTried_12 rfl (lv_at hl 0 rfl) ?_
  refine va_get (D := (dC, dI)) (ci := 0) (v := .int (v_t.1 2)) (C := RX0) (T := TX0) (N := 4) hx hb hts hw_X0 hown hK hP 0 rfl rfl 2 (by decide) (hts _ (List.mem_cons_of_mem _ mw_221)) (fun _ h9 => h9) rfl dX0_helpedWhenTried_13 ?_
  refine lv_icmp_ge (tgt := 76) hx hb dX0_helpedWhenTried_16 (by decide) (fun c_16 => ?_) (fun c_16 => ?_)
  · have hf := ho_t hf c_16
    refine lv_iload_n hx hb dX0_helpedWhenTried_76 rfl (lv_at hl 3 rfl) ?_
    obtain ⟨u_77, e_77, hf⟩ := ho_b hf
    have hPc := hP.sub (ws' := ([] : va_W)) [] rfl
    refine vp_callSi (va_runS (As := [.int x3]) (rest := []) ⟨hx, hb, hml, hown, hts⟩ (c_J6_bitCount_0f7a4 l dC dI cI cII (x3) u_77 e_77) (va_cwS 1 hts (hw_giS mw_484 mw_456 mw_63 mw_457) rfl rfl rfl (by decide +kernel) ⟨Nat.le_of_ble_eq_true rfl, Nat.le_of_ble_eq_true rfl⟩) ⟨pB_blind, fun U hU hW => ⟨rfl, pB_go hPc hK hN hU hW⟩⟩ rfl rfl hl.1 rfl (lv_room (Nat.le_of_ble_eq_true rfl)) dX0_helpedWhenTried_77 ⟨Nat.zero_le _, Nat.zero_le _⟩).run (fun z_77 ez_77 => ?_)
    subst ez_77
    obtain rfl := Option.some.inj hf
    exact W.iret (v := u_77) hx hb hr (fun t ht hW => ⟨_, rfl, rfl, ht⟩) (fun q hq => by cases hq) dX0_helpedWhenTried_80 hlocks
  · have hf := ho_f hf c_16
    refine lv_aload_n hx hb dX0_helpedWhenTried_19 rfl (lv_at hl 0 rfl) ?_
    refine va_get (D := (dC, dI)) (ci := 0) (v := .ref (a_t 0)) (C := RX0) (T := TX0) (N := 4) hx hb hts hw_X0 hown hK hP 0 rfl rfl 0 (by decide) (hts _ (List.mem_cons_of_mem _ mw_219)) (fun _ h9 => h9) rfl dX0_helpedWhenTried_20 ?_
    refine lv_iload hx hb dX0_helpedWhenTried_23 (lv_at hl 4 rfl) ?_
    obtain ⟨h_25, hf⟩ := ho_g hf
    refine va_iald (n := 5) (f := (v_t.2 0)) hx hb hK hP 1 0 rfl rfl h_25 dX0_helpedWhenTried_25 ?_
    refine lv_istore (lv' := [(5, .int ((v_t.2 0) (Int32.toNatClampNeg x4))), (0, .ref o_t), (1, .ref o_a1), (2, .int x2), (3, .int x3), (4, .int x4)]) hx hb dX0_helpedWhenTried_26 hl (by decide) rfl (fun ls hl => ?_)
    refine lv_iload_n hx hb dX0_helpedWhenTried_28 rfl (lv_at hl 3 rfl) ?_
    refine lv_aload_n hx hb dX0_helpedWhenTried_29 rfl (lv_at hl 2 rfl) ?_
    refine lv_iload hx hb dX0_helpedWhenTried_30 (lv_at hl 0 rfl) ?_
    obtain ⟨u_32, e_32, hf⟩ := ho_b hf
    have hPc := hP.sub (ws' := (wX1 o_a1 a_a1 cI v_a1)) [3, 4, 5, 6] rfl
    refine vp_callSi (va_runV (As := [.int ((v_t.2 0) (Int32.toNatClampNeg x4))]) (rest := [.int x2]) ⟨hx, hb, hml, hown, hts⟩ (c_X1_wears l dC dI cI cII o_a1 a_a1 v_a1 (((v_t.2 0) (Int32.toNatClampNeg x4))) u_32 e_32) (cwV 1 hts (hw_giV mw_482 mw_358 mw_359 mw_55 mw_360) rfl rfl rfl (by decide +kernel) ⟨Nat.le_of_ble_eq_true rfl, Nat.le_of_ble_eq_true rfl⟩) ⟨pB_blind, va_recv hK hPc (ci := 1) (q0 := 0) rfl rfl, fun U hU hW => ⟨rfl, pB_go hPc hK hN hU hW⟩⟩ rfl rfl hl.1 rfl (lv_room (Nat.le_of_ble_eq_true rfl)) dX0_helpedWhenTried_32 ⟨Nat.zero_le _, Nat.zero_le _⟩).run (fun z_32 ez_32 => ?_)
    subst ez_32
    refine lv_isub hx hb dX0_helpedWhenTried_35 ?_
    refine lv_istore_n (lv' := [(2, .int (x2 - u_32)), (5, .int ((v_t.2 0) (Int32.toNatClampNeg x4))), (0, .ref o_t), (1, .ref o_a1), (3, .int x3), (4, .int x4)]) hx hb dX0_helpedWhenTried_36 rfl hl (by decide) rfl (fun ls hl => ?_)
    refine lv_iload_n hx hb dX0_helpedWhenTried_37 rfl (lv_at hl 0 rfl) ?_
    refine lv_if_ge (tgt := 44) hx hb dX0_helpedWhenTried_38 (by decide) (fun c_38 => ?_) (fun c_38 => ?_)
    · have hf := ho_t hf c_38
      refine lv_aload_n hx hb dX0_helpedWhenTried_44 rfl (lv_at hl 3 rfl) ?_
      refine va_get (D := (dC, dI)) (ci := 1) (v := .ref (a_a1 1)) (C := RX1) (T := TX1) (N := 7) hx hb hts hw_X1 hown hK hP 3 rfl rfl 1 (by decide) (hts _ (List.mem_cons_of_mem _ mw_116)) (fun _ h9 => h9) rfl dX0_helpedWhenTried_45 ?_
      refine lv_iload hx hb dX0_helpedWhenTried_48 (lv_at hl 1 rfl) ?_
      obtain ⟨h_50, hf⟩ := ho_g hf
      refine va_iald (n := 5) (f := (v_a1.2 1)) hx hb hK hP 5 0 rfl rfl h_50 dX0_helpedWhenTried_50 ?_
      refine lv_iload_n hx hb dX0_helpedWhenTried_51 rfl (lv_at hl 4 rfl) ?_
      obtain ⟨u_52, e_52, hf⟩ := ho_b hf
      have hPc := hP.sub (ws' := ([] : va_W)) [] rfl
      refine vp_callSi (va_runSN (As := [.int ((v_a1.2 1) (Int32.toNatClampNeg ((v_t.2 0) (Int32.toNatClampNeg x4)))), .int x3]) (rest := []) ⟨hx, hb, hml, hown, hts⟩ (c_X6_leastSaying l dC dI cI cII (((v_a1.2 1) (Int32.toNatClampNeg ((v_t.2 0) (Int32.toNatClampNeg x4))))) (x3) u_52 e_52) ⟨va_cnB 2 hts (hw_gi mw_367) rfl rfl rfl hN.2.2.2.2.1 (hts _ (List.mem_cons_of_mem _ mw_53)) (by decide +kernel) ⟨Nat.le_of_ble_eq_true rfl, Nat.le_of_ble_eq_true rfl⟩, (hts _ (List.mem_cons_of_mem _ mw_366)), trivial⟩ ⟨pB_blind, fun U hU hW => ⟨rfl, pB_go hPc hK hN hU hW⟩⟩ rfl rfl hl.1 rfl (lv_room (Nat.le_of_ble_eq_true rfl)) dX0_helpedWhenTried_52 ⟨Nat.zero_le _, Nat.zero_le _⟩).run (fun z_52 ez_52 => ?_)
      subst ez_52
      refine lv_istore (lv' := [(6, .int u_52), (2, .int (x2 - u_32)), (5, .int ((v_t.2 0) (Int32.toNatClampNeg x4))), (0, .ref o_t), (1, .ref o_a1), (3, .int x3), (4, .int x4)]) hx hb dX0_helpedWhenTried_55 hl (by decide) rfl (fun ls hl => ?_)
      refine lv_iload hx hb dX0_helpedWhenTried_57 (lv_at hl 0 rfl) ?_
      refine lv_iconst (v := (-1)) hx hb dX0_helpedWhenTried_59 (by decide) ?_
      refine lv_icmp_eq (tgt := 70) hx hb dX0_helpedWhenTried_60 (by decide) (fun c_60 => ?_) (fun c_60 => ?_)
      · have hf := ho_t hf c_60
        refine lv_iinc (v := (x4 + 1)) (lv' := [(4, .int (x4 + 1)), (6, .int u_52), (2, .int (x2 - u_32)), (5, .int ((v_t.2 0) (Int32.toNatClampNeg x4))), (0, .ref o_t), (1, .ref o_a1), (3, .int x3)]) hx hb dX0_helpedWhenTried_70 hl (k := 6) rfl (hp_inc (by decide)) (by decide) rfl (fun ls hl => ?_)
        refine lv_goto (tgt := 10) hx hb dX0_helpedWhenTried_73 (by decide) ?_
        exact ih10 ((x2 - u_32), x3, (x4 + 1)) _ hf _ (lv_sub hl [4, 5, 2, 6, 0] rfl)
      · have hf := ho_f hf c_60
        refine lv_iload_n hx hb dX0_helpedWhenTried_63 rfl (lv_at hl 5 rfl) ?_
        refine lv_iconst (v := 1) hx hb dX0_helpedWhenTried_64 (by decide) ?_
        refine lv_iload hx hb dX0_helpedWhenTried_65 (lv_at hl 0 rfl) ?_
        refine lv_ishl hx hb dX0_helpedWhenTried_67 ?_
        refine lv_ior hx hb dX0_helpedWhenTried_68 ?_
        refine lv_istore_n (lv' := [(3, .int (x3 ||| (1 <<< (u_52 &&& 31)))), (6, .int u_52), (2, .int (x2 - u_32)), (5, .int ((v_t.2 0) (Int32.toNatClampNeg x4))), (0, .ref o_t), (1, .ref o_a1), (4, .int x4)]) hx hb dX0_helpedWhenTried_69 rfl hl (by decide) rfl (fun ls hl => ?_)
        refine lv_iinc (v := (x4 + 1)) (lv' := [(4, .int (x4 + 1)), (3, .int (x3 ||| (1 <<< (u_52 &&& 31)))), (6, .int u_52), (2, .int (x2 - u_32)), (5, .int ((v_t.2 0) (Int32.toNatClampNeg x4))), (0, .ref o_t), (1, .ref o_a1)]) hx hb dX0_helpedWhenTried_70 hl (k := 6) rfl (hp_inc (by decide)) (by decide) rfl (fun ls hl => ?_)
        refine lv_goto (tgt := 10) hx hb dX0_helpedWhenTried_73 (by decide) ?_
        exact ih10 ((x2 - u_32), (x3 ||| (1 <<< (u_52 &&& 31))), (x4 + 1)) _ hf _ (lv_sub hl [5, 6, 3, 1, 0] rfl)
    · have hf := ho_f hf c_38
      refine lv_goto (tgt := 76) hx hb dX0_helpedWhenTried_41 (by decide) ?_
      refine lv_iload_n hx hb dX0_helpedWhenTried_76 rfl (lv_at hl 4 rfl) ?_
      obtain ⟨u_77, e_77, hf⟩ := ho_b hf
      have hPc := hP.sub (ws' := ([] : va_W)) [] rfl
      refine vp_callSi (va_runS (As := [.int x3]) (rest := []) ⟨hx, hb, hml, hown, hts⟩ (c_J6_bitCount_0f7a4 l dC dI cI cII (x3) u_77 e_77) (va_cwS 1 hts (hw_giS mw_484 mw_456 mw_63 mw_457) rfl rfl rfl (by decide +kernel) ⟨Nat.le_of_ble_eq_true rfl, Nat.le_of_ble_eq_true rfl⟩) ⟨pB_blind, fun U hU hW => ⟨rfl, pB_go hPc hK hN hU hW⟩⟩ rfl rfl hl.1 rfl (lv_room (Nat.le_of_ble_eq_true rfl)) dX0_helpedWhenTried_77 ⟨Nat.zero_le _, Nat.zero_le _⟩).run (fun z_77 ez_77 => ?_)
      subst ez_77
      obtain rfl := Option.some.inj hf
      exact W.iret (v := u_77) hx hb hr (fun t ht hW => ⟨_, rfl, rfl, ht⟩) (fun q hq => by cases hq) dX0_helpedWhenTried_80 hlocks
set_option maxHeartbeats 4000000 in
set_option maxRecDepth 100000 in
theorem c_X0_helpedWhenTried (l : Launch) (dC : Nat → ClassId) (dI : Nat → Nat → Nat) (cI cII : ClassId) (o_t : Nat) (a_t : Nat → Nat) (o_a1 : Nat) (a_a1 : Nat → Nat) (v_t : obV) (v_a1 : obV)  (r : Int32) (hf : f_X0_helpedWhenTried  v_t v_a1  = some r) :
    Met l yX0_helpedWhenTried (wd yX0_helpedWhenTried cX0_helpedWhenTried 7 (some .int)) ({ frames := 2, cells := 0, slots := 0, locals := 45 } : Room) (va_Pc [.ref o_t, .ref o_a1] (pB (dC, dI) vwCl (wX0 o_t a_t cI v_t ++ (wX1 o_a1 a_a1 cI v_a1)) (hTY cI cII))) (vp_Si (fun z => r = z)) 0 0 (fun _ => False) := by
  refine Met.ofW (cc := cX0_helpedWhenTried) (maxL := 7) (ret := (some .int)) (by decide) rfl ?_
  intro p e s m args below meth c s₁ B hml hv
  obtain ⟨rfl, hP, hK, hN⟩ := hv
  have hx := B.exec
  have hb := B.bytes
  have hr := B.returns
  have hts := atoms_spec (ws := (wd yX0_helpedWhenTried cX0_helpedWhenTried 7 (some .int))) B.pre
  have hown : s.vm.findClass RX0 = some m.cls := findClass_of_methodNamed B.named
  have hlocks := B.notSynchronized
  have hl := lv_entry ([.ref o_t, .ref o_a1]) (n := 7) (Nat.le_of_ble_eq_true rfl)
  rw [lg_entry_eq]
  generalize (lg_sl ([.ref o_t, .ref o_a1]) ++ List.replicate (7 - (lg_sl ([.ref o_t, .ref o_a1])).length) Slot.unset).toArray = ls at hl ⊢
  have hl : lv_has ls 7 [(0, .ref o_t), (1, .ref o_a1)] := hl
  unfold f_X0_helpedWhenTried at hf
  refine lv_aload_n hx hb dX0_helpedWhenTried_0 rfl (lv_at hl 1 rfl) ?_
  refine va_get (D := (dC, dI)) (ci := 1) (v := .int (v_a1.1 5)) (C := RX1) (T := TX1) (N := 7) hx hb hts hw_X1 hown hK hP 3 rfl rfl 5 (by decide) (hts _ (List.mem_cons_of_mem _ mw_129)) (fun _ h9 => h9) rfl dX0_helpedWhenTried_1 ?_
  refine lv_istore_n (lv' := [(2, .int (v_a1.1 5)), (0, .ref o_t), (1, .ref o_a1)]) hx hb dX0_helpedWhenTried_4 rfl hl (by decide) rfl (fun ls hl => ?_)
  refine lv_iconst (v := 0) hx hb dX0_helpedWhenTried_5 (by decide) ?_
  refine lv_istore_n (lv' := [(3, .int 0), (2, .int (v_a1.1 5)), (0, .ref o_t), (1, .ref o_a1)]) hx hb dX0_helpedWhenTried_6 rfl hl (by decide) rfl (fun ls hl => ?_)
  refine lv_iconst (v := 0) hx hb dX0_helpedWhenTried_7 (by decide) ?_
  refine lv_istore (lv' := [(4, .int 0), (3, .int 0), (2, .int (v_a1.1 5)), (0, .ref o_t), (1, .ref o_a1)]) hx hb dX0_helpedWhenTried_8 hl (by decide) rfl (fun ls hl => ?_)
  exact w_X0_helpedWhenTried_l10 ⟨hx, hb, hml, hown, hts, hr, hlocks, hK, hN⟩  hP _ _ _ hf _ (lv_sub hl [3, 4, 2, 1, 0] rfl)
set_option maxHeartbeats 4000000 in
set_option maxRecDepth 100000 in
theorem c_X0_swap (l : Launch) (dC : Nat → ClassId) (dI : Nat → Nat → Nat) (cI cII : ClassId) (o_t : Nat) (a_t : Nat → Nat) (v_t : obV) (x1 : Int32) (x2 : Int32) (sz : Nat) (r : obV) (hf : f_X0_swap  v_t x1 x2 = some r) :
    Met l yX0_swap (wd yX0_swap cX0_swap 4 none) ({ frames := 0, cells := 0, slots := 0, locals := 0 } : Room) (va_Pc [.ref o_t, .int x1, .int x2] (qB (dC, dI) vwCl (wX0 o_t a_t cI v_t) (hTY cI cII) sz)) (va_Qv (fun (_ : Unit) => True) (fun _ t => va_P (dC, dI) vwCl (wX0 o_t a_t cI r) t.heap ∧ va_D (va_A (wX0 o_t a_t cI v_t) sz) (wX0 o_t a_t cI r)) (va_A (wX0 o_t a_t cI v_t) sz)) 0 0 (va_A (wX0 o_t a_t cI v_t) sz) := by
  refine Met.ofW (cc := cX0_swap) (maxL := 4) (ret := none) (by decide) rfl ?_
  intro p e s m args below meth c s₁ B hml hv
  obtain ⟨rfl, hsz, hD0, hP, hK, hN⟩ := hv
  have hx := B.exec
  have hb := B.bytes
  have hr := B.returns
  have hts := atoms_spec (ws := (wd yX0_swap cX0_swap 4 none)) B.pre
  have hown : s.vm.findClass RX0 = some m.cls := findClass_of_methodNamed B.named
  have hlocks := B.notSynchronized
  subst hsz
  have hD := hD0.self (sz := s.heap.size)
  generalize hAe : va_A (wX0 o_t a_t cI v_t) s.heap.size = A at hD ⊢
  have hA : ∀ q : Nat, s.heap.size ≤ q → A q := fun q h => by rw [← hAe]; exact Or.inr h
  have hS : va_S A s.heap s.heap [] := va_S.rf
  have hl := lv_entry ([.ref o_t, .int x1, .int x2]) (n := 4) (Nat.le_of_ble_eq_true rfl)
  rw [lg_entry_eq]
  generalize (lg_sl ([.ref o_t, .int x1, .int x2]) ++ List.replicate (4 - (lg_sl ([.ref o_t, .int x1, .int x2])).length) Slot.unset).toArray = ls at hl ⊢
  have hl : lv_has ls 4 [(0, .ref o_t), (1, .int x1), (2, .int x2)] := hl
  clear hAe hD0
  unfold f_X0_swap at hf
  refine lv_aload_n hx hb dX0_swap_0 rfl (lv_at hl 0 rfl) ?_
  refine va_get (D := (dC, dI)) (ci := 0) (v := .ref (a_t 0)) (C := RX0) (T := TX0) (N := 4) hx hb hts hw_X0 hown hK hP 0 rfl rfl 0 (by decide) (hts _ (List.mem_cons_of_mem _ mw_219)) (fun _ h9 => h9) rfl dX0_swap_1 ?_
  refine lv_iload_n hx hb dX0_swap_4 rfl (lv_at hl 1 rfl) ?_
  obtain ⟨h_5, hf⟩ := ho_g hf
  refine va_iald (n := 5) (f := (v_t.2 0)) hx hb hK hP 1 0 rfl rfl h_5 dX0_swap_5 ?_
  refine lv_istore_n (lv' := [(3, .int ((v_t.2 0) (Int32.toNatClampNeg x1))), (0, .ref o_t), (1, .int x1), (2, .int x2)]) hx hb dX0_swap_6 rfl hl (by decide) rfl (fun ls hl => ?_)
  refine lv_aload_n hx hb dX0_swap_7 rfl (lv_at hl 1 rfl) ?_
  refine va_get (D := (dC, dI)) (ci := 0) (v := .ref (a_t 0)) (C := RX0) (T := TX0) (N := 4) hx hb hts hw_X0 hown hK hP 0 rfl rfl 0 (by decide) (hts _ (List.mem_cons_of_mem _ mw_219)) (fun _ h9 => h9) rfl dX0_swap_8 ?_
  refine lv_iload_n hx hb dX0_swap_11 rfl (lv_at hl 2 rfl) ?_
  refine lv_aload_n hx hb dX0_swap_12 rfl (lv_at hl 1 rfl) ?_
  refine va_get (D := (dC, dI)) (ci := 0) (v := .ref (a_t 0)) (C := RX0) (T := TX0) (N := 4) hx hb hts hw_X0 hown hK hP 0 rfl rfl 0 (by decide) (hts _ (List.mem_cons_of_mem _ mw_219)) (fun _ h9 => h9) rfl dX0_swap_13 ?_
  refine lv_iload_n hx hb dX0_swap_16 rfl (lv_at hl 3 rfl) ?_
  obtain ⟨h_17, hf⟩ := ho_g hf
  refine va_iald (n := 5) (f := (v_t.2 0)) hx hb hK hP 1 0 rfl rfl h_17 dX0_swap_17 ?_
  obtain ⟨h_18, hf⟩ := ho_g hf
  refine va_iast (n := 5) (f := (v_t.2 0)) hx hb hK hP hD hS 1 0 rfl rfl h_18 dX0_swap_18 (fun H locs hP hD hS => ?_)
  have hP : va_P (dC, dI) vwCl (wX0 o_t a_t cI (oA v_t 0 (Int32.toNatClampNeg x1) ((v_t.2 0) (Int32.toNatClampNeg x2)))) H := hP
  have hD : va_D A (wX0 o_t a_t cI (oA v_t 0 (Int32.toNatClampNeg x1) ((v_t.2 0) (Int32.toNatClampNeg x2)))) := hD
  obtain ⟨v_t_18, e_v_t_18⟩ : ∃ z : obV, z = (oA v_t 0 (Int32.toNatClampNeg x1) ((v_t.2 0) (Int32.toNatClampNeg x2))) := ⟨_, rfl⟩
  rw [← e_v_t_18] at hP hD
  have hf := ho_l hf v_t_18 e_v_t_18
  refine lv_aload_n hx hb dX0_swap_19 rfl (lv_at hl 1 rfl) ?_
  refine va_get (D := (dC, dI)) (ci := 0) (v := .ref (a_t 0)) (C := RX0) (T := TX0) (N := 4) hx hb hts hw_X0 hown hK hP 0 rfl rfl 0 (by decide) (hts _ (List.mem_cons_of_mem _ mw_219)) (fun _ h9 => h9) rfl dX0_swap_20 ?_
  refine lv_iload_n hx hb dX0_swap_23 rfl (lv_at hl 3 rfl) ?_
  refine lv_iload_n hx hb dX0_swap_24 rfl (lv_at hl 0 rfl) ?_
  obtain ⟨h_25, hf⟩ := ho_g hf
  refine va_iast (n := 5) (f := (v_t_18.2 0)) hx hb hK hP hD hS 1 0 rfl rfl h_25 dX0_swap_25 (fun H locs hP hD hS => ?_)
  have hP : va_P (dC, dI) vwCl (wX0 o_t a_t cI (oA v_t_18 0 (Int32.toNatClampNeg x2) ((v_t.2 0) (Int32.toNatClampNeg x1)))) H := hP
  have hD : va_D A (wX0 o_t a_t cI (oA v_t_18 0 (Int32.toNatClampNeg x2) ((v_t.2 0) (Int32.toNatClampNeg x1)))) := hD
  obtain ⟨v_t_25, e_v_t_25⟩ : ∃ z : obV, z = (oA v_t_18 0 (Int32.toNatClampNeg x2) ((v_t.2 0) (Int32.toNatClampNeg x1))) := ⟨_, rfl⟩
  rw [← e_v_t_25] at hP hD
  have hf := ho_l hf v_t_25 e_v_t_25
  obtain rfl := Option.some.inj hf
  exact W.vret hx hb hr (fun t ht hW => ⟨⟨(), rfl, trivial, by rw [ht]; exact hP, hD⟩, hS.F ht⟩) hS.2.2 dX0_swap_26 hlocks
set_option maxHeartbeats 4000000 in
set_option maxRecDepth 100000 in
theorem w_X0_turnToNext_l91 {p : Program} {l : Launch} {e : Env} {s : State} {m : MethodId} {args : Array Value} {below : List Frame} {meth : Method} {c : Code} {dC : Nat → ClassId} {dI : Nat → Nat → Nat} {cI cII : ClassId} {o_t : Nat} {a_t : Nat → Nat} {A : Nat → Prop} (C0 : hC p s m args meth c dC dI cI cII RX0 cX0_turnToNext 5 (wd yX0_turnToNext cX0_turnToNext 5 (some .boolean)) (some .boolean)) (hA : ∀ q, s.heap.size ≤ q → A q)      :
    ∀ (n : Nat) (y : obV × Int32 × Int32) (r : Int32 × obV), f_X0_turnToNext_l91    n y = some r → ∀ (H : Heap) (locs : List Loc) (ls : Array Slot), va_P (dC, dI) vwCl (wX0 o_t a_t cI y.1) H → va_D A (wX0 o_t a_t cI y.1) → va_S A s.heap H locs → lv_has ls 5 [(0, .ref o_t), (3, .int y.2.1), (4, .int y.2.2)] → W p l e ({ frames := 1, cells := 0, slots := 0, locals := 23 } : Room) s m args below meth c H locs 0 0 (MQ below (va_Qi (fun (z : Int32) (_ : Unit) => r.1 = z) (fun _ t => va_P (dC, dI) vwCl (wX0 o_t a_t cI r.2) t.heap ∧ va_D A (wX0 o_t a_t cI r.2)) A) args s 0 0 A) (F0 m 91 ls []) := by
  obtain ⟨hx, hb, hml, hown, hts, hr, hlocks, hK, hN⟩ := C0
  refine lp_W ?_
  intro k91 ih91 y r hf H locs ls hP hD hS hl
  obtain ⟨v_t, x3, x4⟩ := y
  have hf : f_X0_turnToNext_b91  v_t x3 x4  k91 = some r := hf
  have hP : va_P (dC, dI) vwCl (wX0 o_t a_t cI v_t) H := hP
  have hD : va_D A (wX0 o_t a_t cI v_t) := hD
  have hl : lv_has ls 5 [(0, .ref o_t), (3, .int x3), (4, .int x4)] := hl
  unfold f_X0_turnToNext_b91 at hf
  refine lv_iload_n hx hb dX0_turnToNext_91 rfl (lv_at hl 1 rfl) ?_
  refine lv_iload hx hb dX0_turnToNext_92 (lv_at hl 2 rfl) ?_
  refine lv_icmp_ge (tgt := 113) hx hb dX0_turnToNext_94 (by decide) (fun c_94 => ?_) (fun c_94 => ?_)
  · have hf := ho_t hf c_94
    refine lv_iconst (v := 1) hx hb dX0_turnToNext_113 (by decide) ?_
    obtain rfl := Option.some.inj hf
    exact W.zret (v := 1) hx hb hr (by decide) (fun t ht hW => ⟨⟨_, (), rfl, rfl, by rw [ht]; exact hP, hD⟩, hS.F ht⟩) hS.2.2 dX0_turnToNext_114 hlocks
  · have hf := ho_f hf c_94
    refine lv_aload_n hx hb dX0_turnToNext_97 rfl (lv_at hl 0 rfl) ?_
    refine lv_iload_n hx hb dX0_turnToNext_98 rfl (lv_at hl 1 rfl) ?_
    refine lv_iload hx hb dX0_turnToNext_99 (lv_at hl 2 rfl) ?_
    obtain ⟨u_101, e_101, hf⟩ := ho_b hf
    have hFc := va_free (wc := (wX0 o_t a_t cI v_t)) hD hS hA [0, 1, 2] rfl
    refine va_callv (va_runV (As := [.int x3, .int x4]) (rest := []) ⟨hx, hb, hml, hown, hts⟩ (c_X0_swap l dC dI cI cII o_t a_t v_t (x3) (x4) _ u_101 e_101) (cwV 2 hts (hw_giV mw_490 mw_492 mw_12 mw_59 mw_493) rfl rfl rfl (by decide +kernel) ⟨Nat.le_of_ble_eq_true rfl, Nat.le_of_ble_eq_true rfl⟩) ⟨qB_blind, va_recv hK hP (ci := 0) (q0 := 0) rfl rfl, fun U hU hW => ⟨rfl, qB_go hP hD hK hN hU hW⟩⟩ rfl rfl hl.1 rfl (lv_room (Nat.le_of_ble_eq_true rfl)) dX0_turnToNext_101 ⟨Nat.zero_le _, Nat.zero_le _⟩) hS (fun q _ h => hFc q h) hFc (fun u t H1 locs ht hvm hw hB hz1 hk1 hS => ?_)
    obtain ⟨hP1, hD1⟩ := hB
    rw [ht] at hP1
    clear hP hD
    generalize H1 = H at hP1 hS ⊢
    have hP : va_P (dC, dI) vwCl (wX0 o_t a_t cI u_101) H := hP1
    have hD : va_D A (wX0 o_t a_t cI u_101) := hD1.weaken (fun _ q _ h => hFc q.1 h)
    refine lv_iinc (v := (x3 + 1)) (lv' := [(3, .int (x3 + 1)), (0, .ref o_t), (4, .int x4)]) hx hb dX0_turnToNext_104 hl (k := 1) rfl (hp_inc (by decide)) (by decide) rfl (fun ls hl => ?_)
    refine lv_iinc (v := (x4 + (-1))) (lv' := [(4, .int (x4 + (-1))), (3, .int (x3 + 1)), (0, .ref o_t)]) hx hb dX0_turnToNext_107 hl (k := 2) rfl (hp_inc (by decide)) (by decide) rfl (fun ls hl => ?_)
    refine lv_goto (tgt := 91) hx hb dX0_turnToNext_110 (by decide) ?_
    exact ih91 (u_101, (x3 + 1), (x4 + (-1))) _ hf _ _ _ hP hD hS (lv_sub hl [2, 1, 0] rfl)
set_option maxHeartbeats 4000000 in
set_option maxRecDepth 100000 in
theorem w_X0_turnToNext_b73 {p : Program} {l : Launch} {e : Env} {s : State} {m : MethodId} {args : Array Value} {below : List Frame} {meth : Method} {c : Code} {dC : Nat → ClassId} {dI : Nat → Nat → Nat} {cI cII : ClassId} {o_t : Nat} {a_t : Nat → Nat} {A : Nat → Prop} (C0 : hC p s m args meth c dC dI cI cII RX0 cX0_turnToNext 5 (wd yX0_turnToNext cX0_turnToNext 5 (some .boolean)) (some .boolean)) (hA : ∀ q, s.heap.size ≤ q → A q)  {v_t : obV} {x1 : Int32} {x2 : Int32}    {H : Heap} {locs : List Loc} (hP : va_P (dC, dI) vwCl (wX0 o_t a_t cI v_t) H) (hD : va_D A (wX0 o_t a_t cI v_t)) (hS : va_S A s.heap H locs) {r : Int32 × obV} (hf : f_X0_turnToNext_b73  v_t x1 x2  = some r) {ls : Array Slot} (hl : lv_has ls 5 [(0, .ref o_t), (1, .int x1), (2, .int x2)]) :
    W p l e ({ frames := 1, cells := 0, slots := 0, locals := 23 } : Room) s m args below meth c H locs 0 0 (MQ below (va_Qi (fun (z : Int32) (_ : Unit) => r.1 = z) (fun _ t => va_P (dC, dI) vwCl (wX0 o_t a_t cI r.2) t.heap ∧ va_D A (wX0 o_t a_t cI r.2)) A) args s 0 0 A) (F0 m 73 ls []) := by
  obtain ⟨hx, hb, hml, hown, hts, hr, hlocks, hK, hN⟩ := C0
  unfold f_X0_turnToNext_b73 at hf
  refine lv_aload_n hx hb dX0_turnToNext_73 rfl (lv_at hl 0 rfl) ?_
  refine lv_iload_n hx hb dX0_turnToNext_74 rfl (lv_at hl 1 rfl) ?_
  refine lv_iload_n hx hb dX0_turnToNext_75 rfl (lv_at hl 2 rfl) ?_
  obtain ⟨u_76, e_76, hf⟩ := ho_b hf
  have hFc := va_free (wc := (wX0 o_t a_t cI v_t)) hD hS hA [0, 1, 2] rfl
  refine va_callv (va_runV (As := [.int x1, .int x2]) (rest := []) ⟨hx, hb, hml, hown, hts⟩ (c_X0_swap l dC dI cI cII o_t a_t v_t (x1) (x2) _ u_76 e_76) (cwV 2 hts (hw_giV mw_490 mw_492 mw_12 mw_59 mw_493) rfl rfl rfl (by decide +kernel) ⟨Nat.le_of_ble_eq_true rfl, Nat.le_of_ble_eq_true rfl⟩) ⟨qB_blind, va_recv hK hP (ci := 0) (q0 := 0) rfl rfl, fun U hU hW => ⟨rfl, qB_go hP hD hK hN hU hW⟩⟩ rfl rfl hl.1 rfl (lv_room (Nat.le_of_ble_eq_true rfl)) dX0_turnToNext_76 ⟨Nat.zero_le _, Nat.zero_le _⟩) hS (fun q _ h => hFc q h) hFc (fun u t H1 locs ht hvm hw hB hz1 hk1 hS => ?_)
  obtain ⟨hP1, hD1⟩ := hB
  rw [ht] at hP1
  clear hP hD
  generalize H1 = H at hP1 hS ⊢
  have hP : va_P (dC, dI) vwCl (wX0 o_t a_t cI u_76) H := hP1
  have hD : va_D A (wX0 o_t a_t cI u_76) := hD1.weaken (fun _ q _ h => hFc q.1 h)
  refine lv_iload_n hx hb dX0_turnToNext_79 rfl (lv_at hl 1 rfl) ?_
  refine lv_iconst (v := 1) hx hb dX0_turnToNext_80 (by decide) ?_
  refine lv_iadd hx hb dX0_turnToNext_81 ?_
  refine lv_istore_n (lv' := [(3, .int (x1 + 1)), (0, .ref o_t), (1, .int x1), (2, .int x2)]) hx hb dX0_turnToNext_82 rfl hl (by decide) rfl (fun ls hl => ?_)
  refine lv_aload_n hx hb dX0_turnToNext_83 rfl (lv_at hl 1 rfl) ?_
  refine va_get (D := (dC, dI)) (ci := 0) (v := .int (u_76.1 2)) (C := RX0) (T := TX0) (N := 4) hx hb hts hw_X0 hown hK hP 0 rfl rfl 2 (by decide) (hts _ (List.mem_cons_of_mem _ mw_221)) (fun _ h9 => h9) rfl dX0_turnToNext_84 ?_
  refine lv_iconst (v := 1) hx hb dX0_turnToNext_87 (by decide) ?_
  refine lv_isub hx hb dX0_turnToNext_88 ?_
  refine lv_istore (lv' := [(4, .int ((u_76.1 2) - 1)), (3, .int (x1 + 1)), (0, .ref o_t), (1, .int x1), (2, .int x2)]) hx hb dX0_turnToNext_89 hl (by decide) rfl (fun ls hl => ?_)
  exact w_X0_turnToNext_l91 ⟨hx, hb, hml, hown, hts, hr, hlocks, hK, hN⟩ hA  _ _ _ hf _ _ _ hP hD hS (lv_sub hl [2, 1, 0] rfl)
set_option maxHeartbeats 4000000 in
set_option maxRecDepth 100000 in
theorem w_X0_turnToNext_l47 {p : Program} {l : Launch} {e : Env} {s : State} {m : MethodId} {args : Array Value} {below : List Frame} {meth : Method} {c : Code} {dC : Nat → ClassId} {dI : Nat → Nat → Nat} {cI cII : ClassId} {o_t : Nat} {a_t : Nat → Nat} {A : Nat → Prop} (C0 : hC p s m args meth c dC dI cI cII RX0 cX0_turnToNext 5 (wd yX0_turnToNext cX0_turnToNext 5 (some .boolean)) (some .boolean)) (hA : ∀ q, s.heap.size ≤ q → A q)  {v_t : obV} {x1 : Int32}    :
    ∀ (n : Nat) (y : Int32) (r : Int32 × obV), f_X0_turnToNext_l47  v_t x1  n y = some r → ∀ (H : Heap) (locs : List Loc) (ls : Array Slot), va_P (dC, dI) vwCl (wX0 o_t a_t cI v_t) H → va_D A (wX0 o_t a_t cI v_t) → va_S A s.heap H locs → lv_has ls 5 [(0, .ref o_t), (1, .int x1), (2, .int y)] → W p l e ({ frames := 1, cells := 0, slots := 0, locals := 23 } : Room) s m args below meth c H locs 0 0 (MQ below (va_Qi (fun (z : Int32) (_ : Unit) => r.1 = z) (fun _ t => va_P (dC, dI) vwCl (wX0 o_t a_t cI r.2) t.heap ∧ va_D A (wX0 o_t a_t cI r.2)) A) args s 0 0 A) (F0 m 47 ls []) := by
  obtain ⟨hx, hb, hml, hown, hts, hr, hlocks, hK, hN⟩ := C0
  refine lp_W ?_
  intro k47 ih47 y r hf H locs ls hP hD hS hl
  obtain ⟨x2, rfl⟩ : ∃ z, z = y := ⟨_, rfl⟩
  have hf : f_X0_turnToNext_b47  v_t x1 x2  k47 = some r := hf
  have hP : va_P (dC, dI) vwCl (wX0 o_t a_t cI v_t) H := hP
  have hD : va_D A (wX0 o_t a_t cI v_t) := hD
  have hl : lv_has ls 5 [(0, .ref o_t), (1, .int x1), (2, .int x2)] := hl
  unfold f_X0_turnToNext_b47 at hf
  refine lv_iload_n hx hb dX0_turnToNext_47 rfl (lv_at hl 2 rfl) ?_
  refine lv_iload_n hx hb dX0_turnToNext_48 rfl (lv_at hl 1 rfl) ?_
  refine lv_icmp_le (tgt := 73) hx hb dX0_turnToNext_49 (by decide) (fun c_49 => ?_) (fun c_49 => ?_)
  · have hf := ho_t hf c_49
    exact w_X0_turnToNext_b73 ⟨hx, hb, hml, hown, hts, hr, hlocks, hK, hN⟩ hA  hP hD hS hf (lv_sub hl [0, 1, 2] rfl)
  · have hf := ho_f hf c_49
    refine lv_aload_n hx hb dX0_turnToNext_52 rfl (lv_at hl 0 rfl) ?_
    refine va_get (D := (dC, dI)) (ci := 0) (v := .ref (a_t 0)) (C := RX0) (T := TX0) (N := 4) hx hb hts hw_X0 hown hK hP 0 rfl rfl 0 (by decide) (hts _ (List.mem_cons_of_mem _ mw_219)) (fun _ h9 => h9) rfl dX0_turnToNext_53 ?_
    refine lv_iload_n hx hb dX0_turnToNext_56 rfl (lv_at hl 2 rfl) ?_
    obtain ⟨h_57, hf⟩ := ho_g hf
    refine va_iald (n := 5) (f := (v_t.2 0)) hx hb hK hP 1 0 rfl rfl h_57 dX0_turnToNext_57 ?_
    refine lv_aload_n hx hb dX0_turnToNext_58 rfl (lv_at hl 0 rfl) ?_
    refine va_get (D := (dC, dI)) (ci := 0) (v := .ref (a_t 0)) (C := RX0) (T := TX0) (N := 4) hx hb hts hw_X0 hown hK hP 0 rfl rfl 0 (by decide) (hts _ (List.mem_cons_of_mem _ mw_219)) (fun _ h9 => h9) rfl dX0_turnToNext_59 ?_
    refine lv_iload_n hx hb dX0_turnToNext_62 rfl (lv_at hl 1 rfl) ?_
    obtain ⟨h_63, hf⟩ := ho_g hf
    refine va_iald (n := 5) (f := (v_t.2 0)) hx hb hK hP 1 0 rfl rfl h_63 dX0_turnToNext_63 ?_
    refine lv_icmp_ge (tgt := 73) hx hb dX0_turnToNext_64 (by decide) (fun c_64 => ?_) (fun c_64 => ?_)
    · have hf := ho_t hf c_64
      exact w_X0_turnToNext_b73 ⟨hx, hb, hml, hown, hts, hr, hlocks, hK, hN⟩ hA  hP hD hS hf (lv_sub hl [0, 1, 2] rfl)
    · have hf := ho_f hf c_64
      refine lv_iinc (v := (x2 + (-1))) (lv' := [(2, .int (x2 + (-1))), (0, .ref o_t), (1, .int x1)]) hx hb dX0_turnToNext_67 hl (k := 2) rfl (hp_inc (by decide)) (by decide) rfl (fun ls hl => ?_)
      refine lv_goto (tgt := 47) hx hb dX0_turnToNext_70 (by decide) ?_
      exact ih47 (x2 + (-1)) _ hf _ _ _ hP hD hS (lv_sub hl [1, 2, 0] rfl)
set_option maxHeartbeats 4000000 in
set_option maxRecDepth 100000 in
theorem w_X0_turnToNext_b34 {p : Program} {l : Launch} {e : Env} {s : State} {m : MethodId} {args : Array Value} {below : List Frame} {meth : Method} {c : Code} {dC : Nat → ClassId} {dI : Nat → Nat → Nat} {cI cII : ClassId} {o_t : Nat} {a_t : Nat → Nat} {A : Nat → Prop} (C0 : hC p s m args meth c dC dI cI cII RX0 cX0_turnToNext 5 (wd yX0_turnToNext cX0_turnToNext 5 (some .boolean)) (some .boolean)) (hA : ∀ q, s.heap.size ≤ q → A q)  {v_t : obV} {x1 : Int32}    {H : Heap} {locs : List Loc} (hP : va_P (dC, dI) vwCl (wX0 o_t a_t cI v_t) H) (hD : va_D A (wX0 o_t a_t cI v_t)) (hS : va_S A s.heap H locs) {r : Int32 × obV} (hf : f_X0_turnToNext_b34  v_t x1  = some r) {ls : Array Slot} (hl : lv_has ls 5 [(0, .ref o_t), (1, .int x1)]) :
    W p l e ({ frames := 1, cells := 0, slots := 0, locals := 23 } : Room) s m args below meth c H locs 0 0 (MQ below (va_Qi (fun (z : Int32) (_ : Unit) => r.1 = z) (fun _ t => va_P (dC, dI) vwCl (wX0 o_t a_t cI r.2) t.heap ∧ va_D A (wX0 o_t a_t cI r.2)) A) args s 0 0 A) (F0 m 34 ls []) := by
  obtain ⟨hx, hb, hml, hown, hts, hr, hlocks, hK, hN⟩ := C0
  unfold f_X0_turnToNext_b34 at hf
  refine lv_iload_n hx hb dX0_turnToNext_34 rfl (lv_at hl 1 rfl) ?_
  refine lv_if_ge (tgt := 40) hx hb dX0_turnToNext_35 (by decide) (fun c_35 => ?_) (fun c_35 => ?_)
  · have hf := ho_t hf c_35
    refine lv_aload_n hx hb dX0_turnToNext_40 rfl (lv_at hl 0 rfl) ?_
    refine va_get (D := (dC, dI)) (ci := 0) (v := .int (v_t.1 2)) (C := RX0) (T := TX0) (N := 4) hx hb hts hw_X0 hown hK hP 0 rfl rfl 2 (by decide) (hts _ (List.mem_cons_of_mem _ mw_221)) (fun _ h9 => h9) rfl dX0_turnToNext_41 ?_
    refine lv_iconst (v := 1) hx hb dX0_turnToNext_44 (by decide) ?_
    refine lv_isub hx hb dX0_turnToNext_45 ?_
    refine lv_istore_n (lv' := [(2, .int ((v_t.1 2) - 1)), (0, .ref o_t), (1, .int x1)]) hx hb dX0_turnToNext_46 rfl hl (by decide) rfl (fun ls hl => ?_)
    exact w_X0_turnToNext_l47 ⟨hx, hb, hml, hown, hts, hr, hlocks, hK, hN⟩ hA  _ _ _ hf _ _ _ hP hD hS (lv_sub hl [1, 2, 0] rfl)
  · have hf := ho_f hf c_35
    refine lv_iconst (v := 0) hx hb dX0_turnToNext_38 (by decide) ?_
    obtain rfl := Option.some.inj hf
    exact W.zret (v := 0) hx hb hr (by decide) (fun t ht hW => ⟨⟨_, (), rfl, rfl, by rw [ht]; exact hP, hD⟩, hS.F ht⟩) hS.2.2 dX0_turnToNext_39 hlocks
set_option maxHeartbeats 4000000 in
set_option maxRecDepth 100000 in
theorem w_X0_turnToNext_l7 {p : Program} {l : Launch} {e : Env} {s : State} {m : MethodId} {args : Array Value} {below : List Frame} {meth : Method} {c : Code} {dC : Nat → ClassId} {dI : Nat → Nat → Nat} {cI cII : ClassId} {o_t : Nat} {a_t : Nat → Nat} {A : Nat → Prop} (C0 : hC p s m args meth c dC dI cI cII RX0 cX0_turnToNext 5 (wd yX0_turnToNext cX0_turnToNext 5 (some .boolean)) (some .boolean)) (hA : ∀ q, s.heap.size ≤ q → A q)  {v_t : obV}    :
    ∀ (n : Nat) (y : Int32) (r : Int32 × obV), f_X0_turnToNext_l7  v_t  n y = some r → ∀ (H : Heap) (locs : List Loc) (ls : Array Slot), va_P (dC, dI) vwCl (wX0 o_t a_t cI v_t) H → va_D A (wX0 o_t a_t cI v_t) → va_S A s.heap H locs → lv_has ls 5 [(0, .ref o_t), (1, .int y)] → W p l e ({ frames := 1, cells := 0, slots := 0, locals := 23 } : Room) s m args below meth c H locs 0 0 (MQ below (va_Qi (fun (z : Int32) (_ : Unit) => r.1 = z) (fun _ t => va_P (dC, dI) vwCl (wX0 o_t a_t cI r.2) t.heap ∧ va_D A (wX0 o_t a_t cI r.2)) A) args s 0 0 A) (F0 m 7 ls []) := by
  obtain ⟨hx, hb, hml, hown, hts, hr, hlocks, hK, hN⟩ := C0
  refine lp_W ?_
  intro k7 ih7 y r hf H locs ls hP hD hS hl
  obtain ⟨x1, rfl⟩ : ∃ z, z = y := ⟨_, rfl⟩
  have hf : f_X0_turnToNext_b7  v_t x1  k7 = some r := hf
  have hP : va_P (dC, dI) vwCl (wX0 o_t a_t cI v_t) H := hP
  have hD : va_D A (wX0 o_t a_t cI v_t) := hD
  have hl : lv_has ls 5 [(0, .ref o_t), (1, .int x1)] := hl
  unfold f_X0_turnToNext_b7 at hf
  refine lv_iload_n hx hb dX0_turnToNext_7 rfl (lv_at hl 1 rfl) ?_
  refine lv_if_lt (tgt := 34) hx hb dX0_turnToNext_8 (by decide) (fun c_8 => ?_) (fun c_8 => ?_)
  · have hf := ho_t hf c_8
    exact w_X0_turnToNext_b34 ⟨hx, hb, hml, hown, hts, hr, hlocks, hK, hN⟩ hA  hP hD hS hf (lv_sub hl [0, 1] rfl)
  · have hf := ho_f hf c_8
    refine lv_aload_n hx hb dX0_turnToNext_11 rfl (lv_at hl 0 rfl) ?_
    refine va_get (D := (dC, dI)) (ci := 0) (v := .ref (a_t 0)) (C := RX0) (T := TX0) (N := 4) hx hb hts hw_X0 hown hK hP 0 rfl rfl 0 (by decide) (hts _ (List.mem_cons_of_mem _ mw_219)) (fun _ h9 => h9) rfl dX0_turnToNext_12 ?_
    refine lv_iload_n hx hb dX0_turnToNext_15 rfl (lv_at hl 1 rfl) ?_
    obtain ⟨h_16, hf⟩ := ho_g hf
    refine va_iald (n := 5) (f := (v_t.2 0)) hx hb hK hP 1 0 rfl rfl h_16 dX0_turnToNext_16 ?_
    refine lv_aload_n hx hb dX0_turnToNext_17 rfl (lv_at hl 0 rfl) ?_
    refine va_get (D := (dC, dI)) (ci := 0) (v := .ref (a_t 0)) (C := RX0) (T := TX0) (N := 4) hx hb hts hw_X0 hown hK hP 0 rfl rfl 0 (by decide) (hts _ (List.mem_cons_of_mem _ mw_219)) (fun _ h9 => h9) rfl dX0_turnToNext_18 ?_
    refine lv_iload_n hx hb dX0_turnToNext_21 rfl (lv_at hl 1 rfl) ?_
    refine lv_iconst (v := 1) hx hb dX0_turnToNext_22 (by decide) ?_
    refine lv_iadd hx hb dX0_turnToNext_23 ?_
    obtain ⟨h_24, hf⟩ := ho_g hf
    refine va_iald (n := 5) (f := (v_t.2 0)) hx hb hK hP 1 0 rfl rfl h_24 dX0_turnToNext_24 ?_
    refine lv_icmp_le (tgt := 34) hx hb dX0_turnToNext_25 (by decide) (fun c_25 => ?_) (fun c_25 => ?_)
    · have hf := ho_t hf c_25
      exact w_X0_turnToNext_b34 ⟨hx, hb, hml, hown, hts, hr, hlocks, hK, hN⟩ hA  hP hD hS hf (lv_sub hl [0, 1] rfl)
    · have hf := ho_f hf c_25
      refine lv_iinc (v := (x1 + (-1))) (lv' := [(1, .int (x1 + (-1))), (0, .ref o_t)]) hx hb dX0_turnToNext_28 hl (k := 1) rfl (hp_inc (by decide)) (by decide) rfl (fun ls hl => ?_)
      refine lv_goto (tgt := 7) hx hb dX0_turnToNext_31 (by decide) ?_
      exact ih7 (x1 + (-1)) _ hf _ _ _ hP hD hS (lv_sub hl [1, 0] rfl)
set_option maxHeartbeats 4000000 in
set_option maxRecDepth 100000 in
theorem c_X0_turnToNext (l : Launch) (dC : Nat → ClassId) (dI : Nat → Nat → Nat) (cI cII : ClassId) (o_t : Nat) (a_t : Nat → Nat) (v_t : obV)  (sz : Nat) (r : Int32 × obV) (hf : f_X0_turnToNext  v_t  = some r) :
    Met l yX0_turnToNext (wd yX0_turnToNext cX0_turnToNext 5 (some .boolean)) ({ frames := 1, cells := 0, slots := 0, locals := 23 } : Room) (va_Pc [.ref o_t] (qB (dC, dI) vwCl (wX0 o_t a_t cI v_t) (hTY cI cII) sz)) (va_Qi (fun (z : Int32) (_ : Unit) => r.1 = z) (fun _ t => va_P (dC, dI) vwCl (wX0 o_t a_t cI r.2) t.heap ∧ va_D (va_A (wX0 o_t a_t cI v_t) sz) (wX0 o_t a_t cI r.2)) (va_A (wX0 o_t a_t cI v_t) sz)) 0 0 (va_A (wX0 o_t a_t cI v_t) sz) := by
  refine Met.ofW (cc := cX0_turnToNext) (maxL := 5) (ret := (some .boolean)) (by decide) rfl ?_
  intro p e s m args below meth c s₁ B hml hv
  obtain ⟨rfl, hsz, hD0, hP, hK, hN⟩ := hv
  have hx := B.exec
  have hb := B.bytes
  have hr := B.returns
  have hts := atoms_spec (ws := (wd yX0_turnToNext cX0_turnToNext 5 (some .boolean))) B.pre
  have hown : s.vm.findClass RX0 = some m.cls := findClass_of_methodNamed B.named
  have hlocks := B.notSynchronized
  subst hsz
  have hD := hD0.self (sz := s.heap.size)
  generalize hAe : va_A (wX0 o_t a_t cI v_t) s.heap.size = A at hD ⊢
  have hA : ∀ q : Nat, s.heap.size ≤ q → A q := fun q h => by rw [← hAe]; exact Or.inr h
  have hS : va_S A s.heap s.heap [] := va_S.rf
  have hl := lv_entry ([.ref o_t]) (n := 5) (Nat.le_of_ble_eq_true rfl)
  rw [lg_entry_eq]
  generalize (lg_sl ([.ref o_t]) ++ List.replicate (5 - (lg_sl ([.ref o_t])).length) Slot.unset).toArray = ls at hl ⊢
  have hl : lv_has ls 5 [(0, .ref o_t)] := hl
  clear hAe hD0
  unfold f_X0_turnToNext at hf
  refine lv_aload_n hx hb dX0_turnToNext_0 rfl (lv_at hl 0 rfl) ?_
  refine va_get (D := (dC, dI)) (ci := 0) (v := .int (v_t.1 2)) (C := RX0) (T := TX0) (N := 4) hx hb hts hw_X0 hown hK hP 0 rfl rfl 2 (by decide) (hts _ (List.mem_cons_of_mem _ mw_221)) (fun _ h9 => h9) rfl dX0_turnToNext_1 ?_
  refine lv_iconst (v := 2) hx hb dX0_turnToNext_4 (by decide) ?_
  refine lv_isub hx hb dX0_turnToNext_5 ?_
  refine lv_istore_n (lv' := [(1, .int ((v_t.1 2) - 2)), (0, .ref o_t)]) hx hb dX0_turnToNext_6 rfl hl (by decide) rfl (fun ls hl => ?_)
  exact w_X0_turnToNext_l7 ⟨hx, hb, hml, hown, hts, hr, hlocks, hK, hN⟩ hA  _ _ _ hf _ _ _ hP hD hS (lv_sub hl [1, 0] rfl)
set_option maxHeartbeats 4000000 in
set_option maxRecDepth 100000 in
theorem w_X0_find_b58 {p : Program} {l : Launch} {e : Env} {s : State} {m : MethodId} {args : Array Value} {below : List Frame} {meth : Method} {c : Code} {dC : Nat → ClassId} {dI : Nat → Nat → Nat} {cI cII : ClassId} {o_t : Nat} {a_t : Nat → Nat} {o_a1 : Nat} {a_a1 : Nat → Nat} {A : Nat → Prop} (C0 : hC p s m args meth c dC dI cI cII RX0 cX0_find 5 (wd yX0_find cX0_find 5 none) none) (hA : ∀ q, s.heap.size ≤ q → A q)  {v_t : obV} {v_a1 : obV} {x3 : Int32} {k12 : obV × Int32 × Int32 → Option (obV)} (ih12 : ∀ (y : obV × Int32 × Int32) (r : obV), k12 y = some r → ∀ (H : Heap) (locs : List Loc) (ls : Array Slot), va_P (dC, dI) vwCl (wX0 o_t a_t cI y.1 ++ (wX1 o_a1 a_a1 cI v_a1)) H → va_D A (wX0 o_t a_t cI y.1 ++ (wX1 o_a1 a_a1 cI v_a1)) → va_S A s.heap H locs → lv_has ls 5 [(0, .ref o_t), (1, .ref o_a1), (2, .int y.2.1), (3, .int y.2.2)] → W p l e ({ frames := 3, cells := 0, slots := 0, locals := 71 } : Room) s m args below meth c H locs 0 0 (MQ below (va_Qv (fun (_ : Unit) => True) (fun _ t => va_P (dC, dI) vwCl (wX0 o_t a_t cI r ++ (wX1 o_a1 a_a1 cI v_a1)) t.heap ∧ va_D A (wX0 o_t a_t cI r ++ (wX1 o_a1 a_a1 cI v_a1))) A) args s 0 0 A) (F0 m 12 ls []))  {H : Heap} {locs : List Loc} (hP : va_P (dC, dI) vwCl (wX0 o_t a_t cI v_t ++ (wX1 o_a1 a_a1 cI v_a1)) H) (hD : va_D A (wX0 o_t a_t cI v_t ++ (wX1 o_a1 a_a1 cI v_a1))) (hS : va_S A s.heap H locs) {r : obV} (hf : f_X0_find_b58  v_t v_a1 x3 k12 = some r) {ls : Array Slot} (hl : lv_has ls 5 [(0, .ref o_t), (1, .ref o_a1), (3, .int x3)]) :
    W p l e ({ frames := 3, cells := 0, slots := 0, locals := 71 } : Room) s m args below meth c H locs 0 0 (MQ below (va_Qv (fun (_ : Unit) => True) (fun _ t => va_P (dC, dI) vwCl (wX0 o_t a_t cI r ++ (wX1 o_a1 a_a1 cI v_a1)) t.heap ∧ va_D A (wX0 o_t a_t cI r ++ (wX1 o_a1 a_a1 cI v_a1))) A) args s 0 0 A) (F0 m 58 ls []) := by
  obtain ⟨hx, hb, hml, hown, hts, hr, hlocks, hK, hN⟩ := C0
  unfold f_X0_find_b58 at hf
  refine lv_aload_n hx hb dX0_find_58 rfl (lv_at hl 0 rfl) ?_
  obtain ⟨u_59, e_59, hf⟩ := ho_b hf
  have hPc := hP.sub (ws' := (wX0 o_t a_t cI v_t)) [0, 1, 2] rfl
  have hDc := hD.sub (ws' := (wX0 o_t a_t cI v_t)) [0, 1, 2] (by decide) rfl
  have hFc := va_free (wc := (wX0 o_t a_t cI v_t)) hD hS hA [0, 1, 2] rfl
  refine va_calli (va_runV (As := []) (rest := []) ⟨hx, hb, hml, hown, hts⟩ (c_X0_turnToNext l dC dI cI cII o_t a_t v_t _ u_59 e_59) (cwV 0 hts (hw_giV mw_486 mw_488 mw_11 mw_59 mw_489) rfl rfl rfl (by decide +kernel) ⟨Nat.le_of_ble_eq_true rfl, Nat.le_of_ble_eq_true rfl⟩) ⟨qB_blind, va_recv hK hPc (ci := 0) (q0 := 0) rfl rfl, fun U hU hW => ⟨rfl, qB_go hPc hDc hK hN hU hW⟩⟩ rfl rfl hl.1 rfl (lv_room (Nat.le_of_ble_eq_true rfl)) dX0_find_59 ⟨Nat.zero_le _, Nat.zero_le _⟩) hS (fun q _ h => hFc q h) hFc (fun z_59 u t H1 locs ht hvm ez_59 hB hz1 hk1 hS => ?_)
  subst ez_59
  obtain ⟨hP1, hD1⟩ := hB
  rw [ht] at hP1
  obtain ⟨hP, hD⟩ := va_join (wr := (wX1 o_a1 a_a1 cI v_a1)) (w1 := (wX0 o_t a_t cI u_59.2)) hP hD [0, 1, 2] [3, 4, 5, 6] rfl rfl (by decide) (by decide) hk1 hFc hP1 hD1
  generalize H1 = H at hP hS ⊢
  have hP : va_P (dC, dI) vwCl (wX0 o_t a_t cI u_59.2 ++ (wX1 o_a1 a_a1 cI v_a1)) H := hP.sub [4, 5, 6, 0, 1, 2, 3] rfl
  have hD : va_D A (wX0 o_t a_t cI u_59.2 ++ (wX1 o_a1 a_a1 cI v_a1)) := hD.sub [4, 5, 6, 0, 1, 2, 3] (by decide) rfl
  refine lv_istore_n (lv' := [(2, .int u_59.1), (0, .ref o_t), (1, .ref o_a1), (3, .int x3)]) hx hb dX0_find_62 rfl hl (by decide) rfl (fun ls hl => ?_)
  refine lv_iinc (v := (x3 + 1)) (lv' := [(3, .int (x3 + 1)), (2, .int u_59.1), (0, .ref o_t), (1, .ref o_a1)]) hx hb dX0_find_63 hl (k := 3) rfl (hp_inc (by decide)) (by decide) rfl (fun ls hl => ?_)
  refine lv_goto (tgt := 12) hx hb dX0_find_66 (by decide) ?_
  exact ih12 (u_59.2, u_59.1, (x3 + 1)) _ hf _ _ _ hP hD hS (lv_sub hl [2, 3, 1, 0] rfl)
set_option maxHeartbeats 4000000 in
set_option maxRecDepth 100000 in
theorem w_X0_find_l12 {p : Program} {l : Launch} {e : Env} {s : State} {m : MethodId} {args : Array Value} {below : List Frame} {meth : Method} {c : Code} {dC : Nat → ClassId} {dI : Nat → Nat → Nat} {cI cII : ClassId} {o_t : Nat} {a_t : Nat → Nat} {o_a1 : Nat} {a_a1 : Nat → Nat} {A : Nat → Prop} (C0 : hC p s m args meth c dC dI cI cII RX0 cX0_find 5 (wd yX0_find cX0_find 5 none) none) (hA : ∀ q, s.heap.size ≤ q → A q)  {v_a1 : obV}    :
    ∀ (n : Nat) (y : obV × Int32 × Int32) (r : obV), f_X0_find_l12  v_a1  n y = some r → ∀ (H : Heap) (locs : List Loc) (ls : Array Slot), va_P (dC, dI) vwCl (wX0 o_t a_t cI y.1 ++ (wX1 o_a1 a_a1 cI v_a1)) H → va_D A (wX0 o_t a_t cI y.1 ++ (wX1 o_a1 a_a1 cI v_a1)) → va_S A s.heap H locs → lv_has ls 5 [(0, .ref o_t), (1, .ref o_a1), (2, .int y.2.1), (3, .int y.2.2)] → W p l e ({ frames := 3, cells := 0, slots := 0, locals := 71 } : Room) s m args below meth c H locs 0 0 (MQ below (va_Qv (fun (_ : Unit) => True) (fun _ t => va_P (dC, dI) vwCl (wX0 o_t a_t cI r ++ (wX1 o_a1 a_a1 cI v_a1)) t.heap ∧ va_D A (wX0 o_t a_t cI r ++ (wX1 o_a1 a_a1 cI v_a1))) A) args s 0 0 A) (F0 m 12 ls []) := by
  obtain ⟨hx, hb, hml, hown, hts, hr, hlocks, hK, hN⟩ := C0
  refine lp_W ?_
  intro k12 ih12 y r hf H locs ls hP hD hS hl
  obtain ⟨v_t, x2, x3⟩ := y
  have hf : f_X0_find_b12  v_t v_a1 x2 x3  k12 = some r := hf
  have hP : va_P (dC, dI) vwCl (wX0 o_t a_t cI v_t ++ (wX1 o_a1 a_a1 cI v_a1)) H := hP
  have hD : va_D A (wX0 o_t a_t cI v_t ++ (wX1 o_a1 a_a1 cI v_a1)) := hD
  have hl : lv_has ls 5 [(0, .ref o_t), (1, .ref o_a1), (2, .int x2), (3, .int x3)] := hl
  unfold f_X0_find_b12 at hf
  refine lv_iload_n hx hb dX0_find_12 rfl (lv_at hl 3 rfl) ?_
  refine lv_bipush (v := 120) hx hb dX0_find_13 (by decide) ?_
  refine lv_icmp_ge (tgt := 69) hx hb dX0_find_15 (by decide) (fun c_15 => ?_) (fun c_15 => ?_)
  · have hf := ho_t hf c_15
    obtain rfl := Option.some.inj hf
    exact W.vret hx hb hr (fun t ht hW => ⟨⟨(), rfl, trivial, by rw [ht]; exact hP, hD⟩, hS.F ht⟩) hS.2.2 dX0_find_69 hlocks
  · have hf := ho_f hf c_15
    refine lv_iload_n hx hb dX0_find_18 rfl (lv_at hl 2 rfl) ?_
    refine lv_if_eq (tgt := 69) hx hb dX0_find_19 (by decide) (fun c_19 => ?_) (fun c_19 => ?_)
    · have hf := ho_t hf c_19
      obtain rfl := Option.some.inj hf
      exact W.vret hx hb hr (fun t ht hW => ⟨⟨(), rfl, trivial, by rw [ht]; exact hP, hD⟩, hS.F ht⟩) hS.2.2 dX0_find_69 hlocks
    · have hf := ho_f hf c_19
      refine lv_aload_n hx hb dX0_find_22 rfl (lv_at hl 0 rfl) ?_
      refine lv_aload_n hx hb dX0_find_23 rfl (lv_at hl 1 rfl) ?_
      obtain ⟨u_24, e_24, hf⟩ := ho_b hf
      refine vp_callSi (va_runV (As := [.ref o_a1]) (rest := []) ⟨hx, hb, hml, hown, hts⟩ (c_X0_helpedWhenTried l dC dI cI cII o_t a_t o_a1 a_a1 v_t v_a1 u_24 e_24) (cwV 1 hts (hw_giV mw_478 mw_480 mw_10 mw_59 mw_481) rfl rfl rfl (by decide +kernel) ⟨Nat.le_of_ble_eq_true rfl, Nat.le_of_ble_eq_true rfl⟩) ⟨pB_blind, va_recv hK hP (ci := 0) (q0 := 0) rfl rfl, fun U hU hW => ⟨rfl, pB_go hP hK hN hU hW⟩⟩ rfl rfl hl.1 rfl (lv_room (Nat.le_of_ble_eq_true rfl)) dX0_find_24 ⟨Nat.zero_le _, Nat.zero_le _⟩).run (fun z_24 ez_24 => ?_)
      subst ez_24
      refine lv_istore (lv' := [(4, .int u_24), (0, .ref o_t), (1, .ref o_a1), (2, .int x2), (3, .int x3)]) hx hb dX0_find_27 hl (by decide) rfl (fun ls hl => ?_)
      refine lv_iload hx hb dX0_find_29 (lv_at hl 0 rfl) ?_
      refine lv_aload_n hx hb dX0_find_31 rfl (lv_at hl 1 rfl) ?_
      refine va_get (D := (dC, dI)) (ci := 0) (v := .int (v_t.1 3)) (C := RX0) (T := TX0) (N := 4) hx hb hts hw_X0 hown hK hP 0 rfl rfl 3 (by decide) (hts _ (List.mem_cons_of_mem _ mw_222)) (fun _ h9 => h9) rfl dX0_find_32 ?_
      refine lv_icmp_le (tgt := 58) hx hb dX0_find_35 (by decide) (fun c_35 => ?_) (fun c_35 => ?_)
      · have hf := ho_t hf c_35
        exact w_X0_find_b58 ⟨hx, hb, hml, hown, hts, hr, hlocks, hK, hN⟩ hA ih12 hP hD hS hf (lv_sub hl [1, 2, 4] rfl)
      · have hf := ho_f hf c_35
        refine lv_aload_n hx hb dX0_find_38 rfl (lv_at hl 1 rfl) ?_
        refine lv_iload hx hb dX0_find_39 (lv_at hl 0 rfl) ?_
        refine va_put (D := (dC, dI)) (ci := 0) (v := .int u_24) (ty := .int) (C := RX0) (T := TX0) (N := 4) hx hb hts hw_X0 tyX0 tyX0_ok nmX0 hown hK hP hD hS 0 rfl rfl 3 (by decide) (hts _ (List.mem_cons_of_mem _ mw_222)) (fun _ h9 => h9) rfl (by decide +kernel) rfl rfl (Nat.le_of_ble_eq_true rfl) dX0_find_41 (fun H locs hP hD hS => ?_)
        have hP : va_P (dC, dI) vwCl (wX0 o_t a_t cI (oF v_t 3 u_24) ++ (wX1 o_a1 a_a1 cI v_a1)) H := hP
        have hD : va_D A (wX0 o_t a_t cI (oF v_t 3 u_24) ++ (wX1 o_a1 a_a1 cI v_a1)) := hD
        obtain ⟨v_t_41, e_v_t_41⟩ : ∃ z : obV, z = (oF v_t 3 u_24) := ⟨_, rfl⟩
        rw [← e_v_t_41] at hP hD
        have hf := ho_l hf v_t_41 e_v_t_41
        refine lv_aload_n hx hb dX0_find_44 rfl (lv_at hl 1 rfl) ?_
        refine va_get (D := (dC, dI)) (ci := 0) (v := .ref (a_t 0)) (C := RX0) (T := TX0) (N := 4) hx hb hts hw_X0 hown hK hP 0 rfl rfl 0 (by decide) (hts _ (List.mem_cons_of_mem _ mw_219)) (fun _ h9 => h9) rfl dX0_find_45 ?_
        refine lv_iconst (v := 0) hx hb dX0_find_48 (by decide) ?_
        refine lv_aload_n hx hb dX0_find_49 rfl (lv_at hl 1 rfl) ?_
        refine va_get (D := (dC, dI)) (ci := 0) (v := .ref (a_t 1)) (C := RX0) (T := TX0) (N := 4) hx hb hts hw_X0 hown hK hP 0 rfl rfl 1 (by decide) (hts _ (List.mem_cons_of_mem _ mw_220)) (fun _ h9 => h9) rfl dX0_find_50 ?_
        refine lv_iconst (v := 0) hx hb dX0_find_53 (by decide) ?_
        refine lv_iconst (v := 5) hx hb dX0_find_54 (by decide) ?_
        refine va_copyi (n0 := 5) (n1 := 5) (f := (v_t_41.2 0)) (g := (v_t_41.2 1)) hx hb (hml.trans hl.1.symm) hown (hts _ (List.mem_cons_of_mem _ mw_485)) (hts _ (List.mem_cons_of_mem _ mw_336)) (hts _ (List.mem_cons_of_mem _ mw_335)) (hts _ (List.mem_cons_of_mem _ mw_62)) hK hP hD hS 1 2 0 0 rfl rfl rfl rfl rfl (by decide) (by decide) (by decide) (by decide) (by decide) (fun _ _ => rfl) (Nat.le_of_ble_eq_true rfl) (Nat.le_of_ble_eq_true rfl) dX0_find_55 (fun H locs hP hD hS => ?_)
        have hP : va_P (dC, dI) vwCl (wX0 o_t a_t cI (oC v_t_41 1 (va_cpy (v_t_41.2 0) (v_t_41.2 1) 0 0 5)) ++ (wX1 o_a1 a_a1 cI v_a1)) H := hP
        have hD : va_D A (wX0 o_t a_t cI (oC v_t_41 1 (va_cpy (v_t_41.2 0) (v_t_41.2 1) 0 0 5)) ++ (wX1 o_a1 a_a1 cI v_a1)) := hD
        obtain ⟨v_t_55, e_v_t_55⟩ : ∃ z : obV, z = (oC v_t_41 1 (va_cpy (v_t_41.2 0) (v_t_41.2 1) 0 0 5)) := ⟨_, rfl⟩
        rw [← e_v_t_55] at hP hD
        have hf := ho_l hf v_t_55 e_v_t_55
        exact w_X0_find_b58 ⟨hx, hb, hml, hown, hts, hr, hlocks, hK, hN⟩ hA ih12 hP hD hS hf (lv_sub hl [1, 2, 4] rfl)
set_option maxHeartbeats 4000000 in
set_option maxRecDepth 100000 in
theorem c_X0_find (l : Launch) (dC : Nat → ClassId) (dI : Nat → Nat → Nat) (cI cII : ClassId) (o_t : Nat) (a_t : Nat → Nat) (o_a1 : Nat) (a_a1 : Nat → Nat) (v_t : obV) (v_a1 : obV)  (sz : Nat) (r : obV) (hf : f_X0_find  v_t v_a1  = some r) :
    Met l yX0_find (wd yX0_find cX0_find 5 none) ({ frames := 3, cells := 0, slots := 0, locals := 71 } : Room) (va_Pc [.ref o_t, .ref o_a1] (qB (dC, dI) vwCl (wX0 o_t a_t cI v_t ++ (wX1 o_a1 a_a1 cI v_a1)) (hTY cI cII) sz)) (va_Qv (fun (_ : Unit) => True) (fun _ t => va_P (dC, dI) vwCl (wX0 o_t a_t cI r ++ (wX1 o_a1 a_a1 cI v_a1)) t.heap ∧ va_D (va_A (wX0 o_t a_t cI v_t ++ (wX1 o_a1 a_a1 cI v_a1)) sz) (wX0 o_t a_t cI r ++ (wX1 o_a1 a_a1 cI v_a1))) (va_A (wX0 o_t a_t cI v_t ++ (wX1 o_a1 a_a1 cI v_a1)) sz)) 0 0 (va_A (wX0 o_t a_t cI v_t ++ (wX1 o_a1 a_a1 cI v_a1)) sz) := by
  refine Met.ofW (cc := cX0_find) (maxL := 5) (ret := none) (by decide) rfl ?_
  intro p e s m args below meth c s₁ B hml hv
  obtain ⟨rfl, hsz, hD0, hP, hK, hN⟩ := hv
  have hx := B.exec
  have hb := B.bytes
  have hr := B.returns
  have hts := atoms_spec (ws := (wd yX0_find cX0_find 5 none)) B.pre
  have hown : s.vm.findClass RX0 = some m.cls := findClass_of_methodNamed B.named
  have hlocks := B.notSynchronized
  subst hsz
  have hD := hD0.self (sz := s.heap.size)
  generalize hAe : va_A (wX0 o_t a_t cI v_t ++ (wX1 o_a1 a_a1 cI v_a1)) s.heap.size = A at hD ⊢
  have hA : ∀ q : Nat, s.heap.size ≤ q → A q := fun q h => by rw [← hAe]; exact Or.inr h
  have hS : va_S A s.heap s.heap [] := va_S.rf
  have hl := lv_entry ([.ref o_t, .ref o_a1]) (n := 5) (Nat.le_of_ble_eq_true rfl)
  rw [lg_entry_eq]
  generalize (lg_sl ([.ref o_t, .ref o_a1]) ++ List.replicate (5 - (lg_sl ([.ref o_t, .ref o_a1])).length) Slot.unset).toArray = ls at hl ⊢
  have hl : lv_has ls 5 [(0, .ref o_t), (1, .ref o_a1)] := hl
  clear hAe hD0
  unfold f_X0_find at hf
  refine lv_aload_n hx hb dX0_find_0 rfl (lv_at hl 0 rfl) ?_
  refine lv_aload_n hx hb dX0_find_1 rfl (lv_at hl 1 rfl) ?_
  refine va_get (D := (dC, dI)) (ci := 1) (v := .int (v_a1.1 4)) (C := RX1) (T := TX1) (N := 7) hx hb hts hw_X1 hown hK hP 3 rfl rfl 4 (by decide) (hts _ (List.mem_cons_of_mem _ mw_124)) (fun _ h9 => h9) rfl dX0_find_2 ?_
  obtain ⟨u_5, e_5, hf⟩ := ho_b hf
  have hPc := hP.sub (ws' := (wX0 o_t a_t cI v_t)) [0, 1, 2] rfl
  have hDc := hD.sub (ws' := (wX0 o_t a_t cI v_t)) [0, 1, 2] (by decide) rfl
  have hFc := va_free (wc := (wX0 o_t a_t cI v_t)) hD hS hA [0, 1, 2] rfl
  refine va_callv (va_runV (As := [.int (v_a1.1 4)]) (rest := []) ⟨hx, hb, hml, hown, hts⟩ (c_X0_begin l dC dI cI cII o_t a_t v_t ((v_a1.1 4)) _ u_5 e_5) (cwV 1 hts (hw_giV mw_474 mw_476 mw_9 mw_59 mw_477) rfl rfl rfl (by decide +kernel) ⟨Nat.le_of_ble_eq_true rfl, Nat.le_of_ble_eq_true rfl⟩) ⟨qB_blind, va_recv hK hPc (ci := 0) (q0 := 0) rfl rfl, fun U hU hW => ⟨rfl, qB_go hPc hDc hK hN hU hW⟩⟩ rfl rfl hl.1 rfl (lv_room (Nat.le_of_ble_eq_true rfl)) dX0_find_5 ⟨Nat.zero_le _, Nat.zero_le _⟩) hS (fun q _ h => hFc q h) hFc (fun u t H1 locs ht hvm hw hB hz1 hk1 hS => ?_)
  obtain ⟨hP1, hD1⟩ := hB
  rw [ht] at hP1
  obtain ⟨hP, hD⟩ := va_join (wr := (wX1 o_a1 a_a1 cI v_a1)) (w1 := (wX0 o_t a_t cI u_5)) hP hD [0, 1, 2] [3, 4, 5, 6] rfl rfl (by decide) (by decide) hk1 hFc hP1 hD1
  generalize H1 = H at hP hS ⊢
  have hP : va_P (dC, dI) vwCl (wX0 o_t a_t cI u_5 ++ (wX1 o_a1 a_a1 cI v_a1)) H := hP.sub [4, 5, 6, 0, 1, 2, 3] rfl
  have hD : va_D A (wX0 o_t a_t cI u_5 ++ (wX1 o_a1 a_a1 cI v_a1)) := hD.sub [4, 5, 6, 0, 1, 2, 3] (by decide) rfl
  refine lv_iconst (v := 1) hx hb dX0_find_8 (by decide) ?_
  refine lv_istore_n (lv' := [(2, .int 1), (0, .ref o_t), (1, .ref o_a1)]) hx hb dX0_find_9 rfl hl (by decide) rfl (fun ls hl => ?_)
  refine lv_iconst (v := 0) hx hb dX0_find_10 (by decide) ?_
  refine lv_istore_n (lv' := [(3, .int 0), (2, .int 1), (0, .ref o_t), (1, .ref o_a1)]) hx hb dX0_find_11 rfl hl (by decide) rfl (fun ls hl => ?_)
  exact w_X0_find_l12 ⟨hx, hb, hml, hown, hts, hr, hlocks, hK, hN⟩ hA  _ _ _ hf _ _ _ hP hD hS (lv_sub hl [2, 3, 1, 0] rfl)
set_option maxHeartbeats 4000000 in
set_option maxRecDepth 100000 in
theorem c_X0_at (l : Launch) (dC : Nat → ClassId) (dI : Nat → Nat → Nat) (cI cII : ClassId) (o_t : Nat) (a_t : Nat → Nat) (v_t : obV) (x1 : Int32) (r : Int32) (hf : f_X0_at  v_t x1 = some r) :
    Met l yX0_at (wd yX0_at cX0_at 2 (some .int)) ({ frames := 0, cells := 0, slots := 0, locals := 0 } : Room) (va_Pc [.ref o_t, .int x1] (pB (dC, dI) vwCl (wX0 o_t a_t cI v_t) (hTY cI cII))) (vp_Si (fun z => r = z)) 0 0 (fun _ => False) := by
  refine Met.ofW (cc := cX0_at) (maxL := 2) (ret := (some .int)) (by decide) rfl ?_
  intro p e s m args below meth c s₁ B hml hv
  obtain ⟨rfl, hP, hK, hN⟩ := hv
  have hx := B.exec
  have hb := B.bytes
  have hr := B.returns
  have hts := atoms_spec (ws := (wd yX0_at cX0_at 2 (some .int))) B.pre
  have hown : s.vm.findClass RX0 = some m.cls := findClass_of_methodNamed B.named
  have hlocks := B.notSynchronized
  have hl := lv_entry ([.ref o_t, .int x1]) (n := 2) (Nat.le_of_ble_eq_true rfl)
  rw [lg_entry_eq]
  generalize (lg_sl ([.ref o_t, .int x1]) ++ List.replicate (2 - (lg_sl ([.ref o_t, .int x1])).length) Slot.unset).toArray = ls at hl ⊢
  have hl : lv_has ls 2 [(0, .ref o_t), (1, .int x1)] := hl
  unfold f_X0_at at hf
  refine lv_iload_n hx hb dX0_at_0 rfl (lv_at hl 1 rfl) ?_
  refine lv_if_lt (tgt := 21) hx hb dX0_at_1 (by decide) (fun c_1 => ?_) (fun c_1 => ?_)
  · have hf := ho_t hf c_1
    refine lv_iconst (v := (-1)) hx hb dX0_at_21 (by decide) ?_
    obtain rfl := Option.some.inj hf
    exact W.iret (v := (-1)) hx hb hr (fun t ht hW => ⟨_, rfl, rfl, ht⟩) (fun q hq => by cases hq) dX0_at_22 hlocks
  · have hf := ho_f hf c_1
    refine lv_iload_n hx hb dX0_at_4 rfl (lv_at hl 1 rfl) ?_
    refine lv_aload_n hx hb dX0_at_5 rfl (lv_at hl 0 rfl) ?_
    refine va_get (D := (dC, dI)) (ci := 0) (v := .int (v_t.1 2)) (C := RX0) (T := TX0) (N := 4) hx hb hts hw_X0 hown hK hP 0 rfl rfl 2 (by decide) (hts _ (List.mem_cons_of_mem _ mw_221)) (fun _ h9 => h9) rfl dX0_at_6 ?_
    refine lv_icmp_ge (tgt := 21) hx hb dX0_at_9 (by decide) (fun c_9 => ?_) (fun c_9 => ?_)
    · have hf := ho_t hf c_9
      refine lv_iconst (v := (-1)) hx hb dX0_at_21 (by decide) ?_
      obtain rfl := Option.some.inj hf
      exact W.iret (v := (-1)) hx hb hr (fun t ht hW => ⟨_, rfl, rfl, ht⟩) (fun q hq => by cases hq) dX0_at_22 hlocks
    · have hf := ho_f hf c_9
      refine lv_aload_n hx hb dX0_at_12 rfl (lv_at hl 0 rfl) ?_
      refine va_get (D := (dC, dI)) (ci := 0) (v := .ref (a_t 1)) (C := RX0) (T := TX0) (N := 4) hx hb hts hw_X0 hown hK hP 0 rfl rfl 1 (by decide) (hts _ (List.mem_cons_of_mem _ mw_220)) (fun _ h9 => h9) rfl dX0_at_13 ?_
      refine lv_iload_n hx hb dX0_at_16 rfl (lv_at hl 1 rfl) ?_
      obtain ⟨h_17, hf⟩ := ho_g hf
      refine va_iald (n := 5) (f := (v_t.2 1)) hx hb hK hP 2 0 rfl rfl h_17 dX0_at_17 ?_
      refine lv_goto (tgt := 22) hx hb dX0_at_18 (by decide) ?_
      obtain rfl := Option.some.inj hf
      exact W.iret (v := ((v_t.2 1) (Int32.toNatClampNeg x1))) hx hb hr (fun t ht hW => ⟨_, rfl, rfl, ht⟩) (fun q hq => by cases hq) dX0_at_22 hlocks
set_option maxHeartbeats 4000000 in
set_option maxRecDepth 100000 in
theorem c_X3_pilgrims (l : Launch) (dC : Nat → ClassId) (dI : Nat → Nat → Nat) (cI cII : ClassId) (o_t : Nat) (a_t : Nat → Nat) (v_t : obV)  (r : Int32) (hf : f_X3_pilgrims  v_t  = some r) :
    Met l yX3_pilgrims (wd yX3_pilgrims cX3_pilgrims 1 (some .int)) ({ frames := 0, cells := 0, slots := 0, locals := 0 } : Room) (va_Pc [.ref o_t] (pB (dC, dI) vwCl (wX3 o_t a_t cI v_t) (hTY cI cII))) (vp_Si (fun z => r = z)) 0 0 (fun _ => False) := by
  refine Met.ofW (cc := cX3_pilgrims) (maxL := 1) (ret := (some .int)) (by decide) rfl ?_
  intro p e s m args below meth c s₁ B hml hv
  obtain ⟨rfl, hP, hK, hN⟩ := hv
  have hx := B.exec
  have hb := B.bytes
  have hr := B.returns
  have hts := atoms_spec (ws := (wd yX3_pilgrims cX3_pilgrims 1 (some .int))) B.pre
  have hown : s.vm.findClass RX3 = some m.cls := findClass_of_methodNamed B.named
  have hlocks := B.notSynchronized
  have hl := lv_entry ([.ref o_t]) (n := 1) (Nat.le_of_ble_eq_true rfl)
  rw [lg_entry_eq]
  generalize (lg_sl ([.ref o_t]) ++ List.replicate (1 - (lg_sl ([.ref o_t])).length) Slot.unset).toArray = ls at hl ⊢
  have hl : lv_has ls 1 [(0, .ref o_t)] := hl
  unfold f_X3_pilgrims at hf
  refine lv_aload_n hx hb dX3_pilgrims_0 rfl (lv_at hl 0 rfl) ?_
  refine va_get (D := (dC, dI)) (ci := 3) (v := .int (v_t.1 1)) (C := RX3) (T := TX3) (N := 2) hx hb hts hw_X3 hown hK hP 0 rfl rfl 1 (by decide) (hts _ (List.mem_cons_of_mem _ mw_81)) (fun _ h9 => h9) rfl dX3_pilgrims_1 ?_
  refine lv_iconst (v := 4) hx hb dX3_pilgrims_4 (by decide) ?_
  refine lv_idiv hx hb dX3_pilgrims_5 (by decide) ?_
  obtain rfl := Option.some.inj hf
  exact W.iret (v := ((v_t.1 1) / 4)) hx hb hr (fun t ht hW => ⟨_, rfl, rfl, ht⟩) (fun q hq => by cases hq) dX3_pilgrims_6 hlocks
set_option maxHeartbeats 4000000 in
set_option maxRecDepth 100000 in
theorem c_X6_kindByLetter (l : Launch) (dC : Nat → ClassId) (dI : Nat → Nat → Nat) (cI cII : ClassId)   (x0 : Int32) (r : Int32) (hf : f_X6_kindByLetter   x0 = some r) :
    Met l yX6_kindByLetter (wd yX6_kindByLetter cX6_kindByLetter 1 (some .int)) ({ frames := 0, cells := 0, slots := 0, locals := 0 } : Room) (va_Pc [.int x0] (pB (dC, dI) vwCl ([] : va_W) (hTY cI cII))) (vp_Si (fun z => r = z)) 0 0 (fun _ => False) := by
  refine Met.ofW (cc := cX6_kindByLetter) (maxL := 1) (ret := (some .int)) (by decide) rfl ?_
  intro p e s m args below meth c s₁ B hml hv
  obtain ⟨rfl, hP, hK, hN⟩ := hv
  have hx := B.exec
  have hb := B.bytes
  have hr := B.returns
  have hts := atoms_spec (ws := (wd yX6_kindByLetter cX6_kindByLetter 1 (some .int))) B.pre
  have hown : s.vm.findClass RX6 = some m.cls := findClass_of_methodNamed B.named
  have hlocks := B.notSynchronized
  have hl := lv_entry ([.int x0]) (n := 1) (Nat.le_of_ble_eq_true rfl)
  rw [lg_entry_eq]
  generalize (lg_sl ([.int x0]) ++ List.replicate (1 - (lg_sl ([.int x0])).length) Slot.unset).toArray = ls at hl ⊢
  have hl : lv_has ls 1 [(0, .int x0)] := hl
  unfold f_X6_kindByLetter at hf
  refine lv_iload_n hx hb dX6_kindByLetter_0 rfl (lv_at hl 0 rfl) ?_
  by_cases c_1_98 : x0 = 98
  · have hf := ho_t hf c_1_98
    refine lv_lookup (tgt := 60) hx hb dX6_kindByLetter_1 (by decide) (by rw [c_1_98] <;> rfl) (by decide) ?_
    refine lv_iconst (v := 4) hx hb dX6_kindByLetter_60 (by decide) ?_
    obtain rfl := Option.some.inj hf
    exact W.iret (v := 4) hx hb hr (fun t ht hW => ⟨_, rfl, rfl, ht⟩) (fun q hq => by cases hq) dX6_kindByLetter_61 hlocks
  have hf := ho_f hf c_1_98
  by_cases c_1_101 : x0 = 101
  · have hf := ho_t hf c_1_101
    refine lv_lookup (tgt := 56) hx hb dX6_kindByLetter_1 (by decide) (by rw [c_1_101] <;> rfl) (by decide) ?_
    refine lv_iconst (v := 2) hx hb dX6_kindByLetter_56 (by decide) ?_
    obtain rfl := Option.some.inj hf
    exact W.iret (v := 2) hx hb hr (fun t ht hW => ⟨_, rfl, rfl, ht⟩) (fun q hq => by cases hq) dX6_kindByLetter_57 hlocks
  have hf := ho_f hf c_1_101
  by_cases c_1_112 : x0 = 112
  · have hf := ho_t hf c_1_112
    refine lv_lookup (tgt := 52) hx hb dX6_kindByLetter_1 (by decide) (by rw [c_1_112] <;> rfl) (by decide) ?_
    refine lv_iconst (v := 0) hx hb dX6_kindByLetter_52 (by decide) ?_
    obtain rfl := Option.some.inj hf
    exact W.iret (v := 0) hx hb hr (fun t ht hW => ⟨_, rfl, rfl, ht⟩) (fun q hq => by cases hq) dX6_kindByLetter_53 hlocks
  have hf := ho_f hf c_1_112
  by_cases c_1_115 : x0 = 115
  · have hf := ho_t hf c_1_115
    refine lv_lookup (tgt := 58) hx hb dX6_kindByLetter_1 (by decide) (by rw [c_1_115] <;> rfl) (by decide) ?_
    refine lv_iconst (v := 3) hx hb dX6_kindByLetter_58 (by decide) ?_
    obtain rfl := Option.some.inj hf
    exact W.iret (v := 3) hx hb hr (fun t ht hW => ⟨_, rfl, rfl, ht⟩) (fun q hq => by cases hq) dX6_kindByLetter_59 hlocks
  have hf := ho_f hf c_1_115
  by_cases c_1_116 : x0 = 116
  · have hf := ho_t hf c_1_116
    refine lv_lookup (tgt := 54) hx hb dX6_kindByLetter_1 (by decide) (by rw [c_1_116] <;> rfl) (by decide) ?_
    refine lv_iconst (v := 1) hx hb dX6_kindByLetter_54 (by decide) ?_
    obtain rfl := Option.some.inj hf
    exact W.iret (v := 1) hx hb hr (fun t ht hW => ⟨_, rfl, rfl, ht⟩) (fun q hq => by cases hq) dX6_kindByLetter_55 hlocks
  have hf := ho_f hf c_1_116
  refine lv_lookup (off := 61) (tgt := 62) hx hb dX6_kindByLetter_1 (by decide) ((lv_osw c_1_98 (by decide)).trans ((lv_osw c_1_101 (by decide)).trans ((lv_osw c_1_112 (by decide)).trans ((lv_osw c_1_115 (by decide)).trans ((lv_osw c_1_116 (by decide)).trans rfl))))) (by decide) ?_
  refine lv_iconst (v := (-1)) hx hb dX6_kindByLetter_62 (by decide) ?_
  obtain rfl := Option.some.inj hf
  exact W.iret (v := (-1)) hx hb hr (fun t ht hW => ⟨_, rfl, rfl, ht⟩) (fun q hq => by cases hq) dX6_kindByLetter_63 hlocks
set_option maxHeartbeats 4000000 in
set_option maxRecDepth 100000 in
theorem c_X3_digit (l : Launch) (dC : Nat → ClassId) (dI : Nat → Nat → Nat) (cI cII : ClassId) (o_t : Nat) (a_t : Nat → Nat) (v_t : obV) (x1 : Int32) (r : Int32) (hf : f_X3_digit  v_t x1 = some r) :
    Met l yX3_digit (wd yX3_digit cX3_digit 2 (some .int)) ({ frames := 0, cells := 0, slots := 0, locals := 0 } : Room) (va_Pc [.ref o_t, .int x1] (pB (dC, dI) vwCl (wX3 o_t a_t cI v_t) (hTY cI cII))) (vp_Si (fun z => r = z)) 0 0 (fun _ => False) := by
  refine Met.ofW (cc := cX3_digit) (maxL := 2) (ret := (some .int)) (by decide) rfl ?_
  intro p e s m args below meth c s₁ B hml hv
  obtain ⟨rfl, hP, hK, hN⟩ := hv
  have hx := B.exec
  have hb := B.bytes
  have hr := B.returns
  have hts := atoms_spec (ws := (wd yX3_digit cX3_digit 2 (some .int))) B.pre
  have hown : s.vm.findClass RX3 = some m.cls := findClass_of_methodNamed B.named
  have hlocks := B.notSynchronized
  have hl := lv_entry ([.ref o_t, .int x1]) (n := 2) (Nat.le_of_ble_eq_true rfl)
  rw [lg_entry_eq]
  generalize (lg_sl ([.ref o_t, .int x1]) ++ List.replicate (2 - (lg_sl ([.ref o_t, .int x1])).length) Slot.unset).toArray = ls at hl ⊢
  have hl : lv_has ls 2 [(0, .ref o_t), (1, .int x1)] := hl
  unfold f_X3_digit at hf
  refine lv_aload_n hx hb dX3_digit_0 rfl (lv_at hl 0 rfl) ?_
  refine va_get (D := (dC, dI)) (ci := 3) (v := .ref (a_t 0)) (C := RX3) (T := TX3) (N := 2) hx hb hts hw_X3 hown hK hP 0 rfl rfl 0 (by decide) (hts _ (List.mem_cons_of_mem _ mw_78)) (fun _ h9 => h9) rfl dX3_digit_1 ?_
  refine lv_iload_n hx hb dX3_digit_4 rfl (lv_at hl 1 rfl) ?_
  obtain ⟨h_5, hf⟩ := ho_g hf
  refine va_iald (n := 24) (f := (v_t.2 0)) hx hb hK hP 1 0 rfl rfl h_5 dX3_digit_5 ?_
  refine lv_bipush (v := 48) hx hb dX3_digit_6 (by decide) ?_
  refine lv_isub hx hb dX3_digit_8 ?_
  obtain rfl := Option.some.inj hf
  exact W.iret (v := (((v_t.2 0) (Int32.toNatClampNeg x1)) - 48)) hx hb hr (fun t ht hW => ⟨_, rfl, rfl, ht⟩) (fun q hq => by cases hq) dX3_digit_9 hlocks
set_option maxHeartbeats 4000000 in
set_option maxRecDepth 100000 in
theorem w_X1_read_l14 {p : Program} {l : Launch} {e : Env} {s : State} {m : MethodId} {args : Array Value} {below : List Frame} {meth : Method} {c : Code} {dC : Nat → ClassId} {dI : Nat → Nat → Nat} {cI cII : ClassId} {o_t : Nat} {a_t : Nat → Nat} {o_a1 : Nat} {a_a1 : Nat → Nat} {a_t_seen : Nat → Nat} {A : Nat → Prop} (C0 : hC p s m args meth c dC dI cI cII RX1 cX1_read 3 (wd yX1_read cX1_read 3 none) none) (hA : ∀ q, s.heap.size ≤ q → A q)  {v_a1 : obV} {v_t_seen : obV}    :
    ∀ (n : Nat) (y : obV × Int32) (r : obV × obV), f_X1_read_l14  v_a1 v_t_seen  n y = some r → ∀ (H : Heap) (locs : List Loc) (ls : Array Slot), va_P (dC, dI) vwCl (wX1 o_t a_t cI y.1 ++ (wX3 o_a1 a_a1 cI v_a1 ++ (wX4 (a_t 3) a_t_seen cI v_t_seen))) H → va_D A (wX1 o_t a_t cI y.1 ++ (wX3 o_a1 a_a1 cI v_a1 ++ (wX4 (a_t 3) a_t_seen cI v_t_seen))) → va_S A s.heap H locs → lv_has ls 3 [(0, .ref o_t), (1, .ref o_a1), (2, .int y.2)] → W p l e ({ frames := 1, cells := 0, slots := 0, locals := 21 } : Room) s m args below meth c H locs 0 0 (MQ below (va_Qv (fun (_ : Unit) => True) (fun _ t => va_P (dC, dI) vwCl (wX1 o_t a_t cI r.1 ++ (wX3 o_a1 a_a1 cI v_a1 ++ (wX4 (a_t 3) a_t_seen cI r.2))) t.heap ∧ va_D A (wX1 o_t a_t cI r.1 ++ (wX3 o_a1 a_a1 cI v_a1 ++ (wX4 (a_t 3) a_t_seen cI r.2)))) A) args s 0 0 A) (F0 m 14 ls []) := by
  obtain ⟨hx, hb, hml, hown, hts, hr, hlocks, hK, hN⟩ := C0
  refine lp_W ?_
  intro k14 ih14 y r hf H locs ls hP hD hS hl
  obtain ⟨v_t, x2⟩ := y
  have hf : f_X1_read_b14  v_t v_a1 v_t_seen x2  k14 = some r := hf
  have hP : va_P (dC, dI) vwCl (wX1 o_t a_t cI v_t ++ (wX3 o_a1 a_a1 cI v_a1 ++ (wX4 (a_t 3) a_t_seen cI v_t_seen))) H := hP
  have hD : va_D A (wX1 o_t a_t cI v_t ++ (wX3 o_a1 a_a1 cI v_a1 ++ (wX4 (a_t 3) a_t_seen cI v_t_seen))) := hD
  have hl : lv_has ls 3 [(0, .ref o_t), (1, .ref o_a1), (2, .int x2)] := hl
  unfold f_X1_read_b14 at hf
  refine lv_iload_n hx hb dX1_read_14 rfl (lv_at hl 2 rfl) ?_
  refine lv_aload_n hx hb dX1_read_15 rfl (lv_at hl 0 rfl) ?_
  refine va_get (D := (dC, dI)) (ci := 1) (v := .int (v_t.1 4)) (C := RX1) (T := TX1) (N := 7) hx hb hts hw_X1 hown hK hP 0 rfl rfl 4 (by decide) (hts _ (List.mem_cons_of_mem _ mw_125)) (fun _ h9 => h9) rfl dX1_read_16 ?_
  refine lv_icmp_ge (tgt := 75) hx hb dX1_read_19 (by decide) (fun c_19 => ?_) (fun c_19 => ?_)
  · have hf := ho_t hf c_19
    refine lv_aload_n hx hb dX1_read_75 rfl (lv_at hl 0 rfl) ?_
    refine lv_aload_n hx hb dX1_read_76 rfl (lv_at hl 1 rfl) ?_
    refine lv_iconst (v := 4) hx hb dX1_read_77 (by decide) ?_
    refine lv_aload_n hx hb dX1_read_78 rfl (lv_at hl 0 rfl) ?_
    refine va_get (D := (dC, dI)) (ci := 1) (v := .int (v_t.1 4)) (C := RX1) (T := TX1) (N := 7) hx hb hts hw_X1 hown hK hP 0 rfl rfl 4 (by decide) (hts _ (List.mem_cons_of_mem _ mw_125)) (fun _ h9 => h9) rfl dX1_read_79 ?_
    refine lv_imul hx hb dX1_read_82 ?_
    obtain ⟨u_83, e_83, hf⟩ := ho_b hf
    have hPc := hP.sub (ws' := (wX3 o_a1 a_a1 cI v_a1)) [4, 5] rfl
    refine vp_callSi (va_runV (As := [.int (4 * (v_t.1 4))]) (rest := [.ref o_t]) ⟨hx, hb, hml, hown, hts⟩ (c_X3_digit l dC dI cI cII o_a1 a_a1 v_a1 ((4 * (v_t.1 4))) u_83 e_83) (cwV 1 hts (hw_giV mw_317 mw_286 mw_287 mw_54 mw_288) rfl rfl rfl (by decide +kernel) ⟨Nat.le_of_ble_eq_true rfl, Nat.le_of_ble_eq_true rfl⟩) ⟨pB_blind, va_recv hK hPc (ci := 3) (q0 := 0) rfl rfl, fun U hU hW => ⟨rfl, pB_go hPc hK hN hU hW⟩⟩ rfl rfl hl.1 rfl (lv_room (Nat.le_of_ble_eq_true rfl)) dX1_read_83 ⟨Nat.zero_le _, Nat.zero_le _⟩).run (fun z_83 ez_83 => ?_)
    subst ez_83
    refine va_put (D := (dC, dI)) (ci := 1) (v := .int u_83) (ty := .int) (C := RX1) (T := TX1) (N := 7) hx hb hts hw_X1 tyX1 tyX1_ok nmX1 hown hK hP hD hS 0 rfl rfl 5 (by decide) (hts _ (List.mem_cons_of_mem _ mw_128)) (fun _ h9 => h9) rfl (by decide +kernel) rfl rfl (Nat.le_of_ble_eq_true rfl) dX1_read_86 (fun H locs hP hD hS => ?_)
    have hP : va_P (dC, dI) vwCl (wX1 o_t a_t cI (oF v_t 5 u_83) ++ (wX3 o_a1 a_a1 cI v_a1 ++ (wX4 (a_t 3) a_t_seen cI v_t_seen))) H := hP
    have hD : va_D A (wX1 o_t a_t cI (oF v_t 5 u_83) ++ (wX3 o_a1 a_a1 cI v_a1 ++ (wX4 (a_t 3) a_t_seen cI v_t_seen))) := hD
    obtain ⟨v_t_86, e_v_t_86⟩ : ∃ z : obV, z = (oF v_t 5 u_83) := ⟨_, rfl⟩
    rw [← e_v_t_86] at hP hD
    have hf := ho_l hf v_t_86 e_v_t_86
    refine lv_aload_n hx hb dX1_read_89 rfl (lv_at hl 0 rfl) ?_
    refine lv_iconst (v := 0) hx hb dX1_read_90 (by decide) ?_
    refine va_put (D := (dC, dI)) (ci := 1) (v := .int 0) (ty := .int) (C := RX1) (T := TX1) (N := 7) hx hb hts hw_X1 tyX1 tyX1_ok nmX1 hown hK hP hD hS 0 rfl rfl 6 (by decide) (hts _ (List.mem_cons_of_mem _ mw_132)) (fun _ h9 => h9) rfl (by decide +kernel) rfl rfl (Nat.le_of_ble_eq_true rfl) dX1_read_91 (fun H locs hP hD hS => ?_)
    have hP : va_P (dC, dI) vwCl (wX1 o_t a_t cI (oF v_t_86 6 0) ++ (wX3 o_a1 a_a1 cI v_a1 ++ (wX4 (a_t 3) a_t_seen cI v_t_seen))) H := hP
    have hD : va_D A (wX1 o_t a_t cI (oF v_t_86 6 0) ++ (wX3 o_a1 a_a1 cI v_a1 ++ (wX4 (a_t 3) a_t_seen cI v_t_seen))) := hD
    obtain ⟨v_t_91, e_v_t_91⟩ : ∃ z : obV, z = (oF v_t_86 6 0) := ⟨_, rfl⟩
    rw [← e_v_t_91] at hP hD
    have hf := ho_l hf v_t_91 e_v_t_91
    refine lv_aload_n hx hb dX1_read_94 rfl (lv_at hl 0 rfl) ?_
    refine va_get (D := (dC, dI)) (ci := 1) (v := .ref (a_t 3)) (C := RX1) (T := TX1) (N := 7) hx hb hts hw_X1 hown hK hP 0 rfl rfl 3 (by decide) (hts _ (List.mem_cons_of_mem _ mw_122)) (fun _ h9 => h9) rfl dX1_read_95 ?_
    refine lv_iconst (v := 0) hx hb dX1_read_98 (by decide) ?_
    refine va_put (D := (dC, dI)) (ci := 4) (v := .int 0) (ty := .int) (C := RX4) (T := TX4) (N := 3) hx hb hts hw_X4 tyX4 tyX4_ok nmX4 hown hK hP hD hS 6 rfl rfl 2 (by decide) (hts _ (List.mem_cons_of_mem _ mw_104)) (fun _ h9 => h9) rfl (by decide +kernel) rfl rfl (Nat.le_of_ble_eq_true rfl) dX1_read_99 (fun H locs hP hD hS => ?_)
    have hP : va_P (dC, dI) vwCl (wX1 o_t a_t cI v_t_91 ++ (wX3 o_a1 a_a1 cI v_a1 ++ (wX4 (a_t 3) a_t_seen cI (oF v_t_seen 2 0)))) H := hP
    have hD : va_D A (wX1 o_t a_t cI v_t_91 ++ (wX3 o_a1 a_a1 cI v_a1 ++ (wX4 (a_t 3) a_t_seen cI (oF v_t_seen 2 0)))) := hD
    obtain ⟨v_t_seen_99, e_v_t_seen_99⟩ : ∃ z : obV, z = (oF v_t_seen 2 0) := ⟨_, rfl⟩
    rw [← e_v_t_seen_99] at hP hD
    have hf := ho_l hf v_t_seen_99 e_v_t_seen_99
    obtain rfl := Option.some.inj hf
    exact W.vret hx hb hr (fun t ht hW => ⟨⟨(), rfl, trivial, by rw [ht]; exact hP, hD⟩, hS.F ht⟩) hS.2.2 dX1_read_102 hlocks
  · have hf := ho_f hf c_19
    refine lv_aload_n hx hb dX1_read_22 rfl (lv_at hl 0 rfl) ?_
    refine va_get (D := (dC, dI)) (ci := 1) (v := .ref (a_t 0)) (C := RX1) (T := TX1) (N := 7) hx hb hts hw_X1 hown hK hP 0 rfl rfl 0 (by decide) (hts _ (List.mem_cons_of_mem _ mw_113)) (fun _ h9 => h9) rfl dX1_read_23 ?_
    refine lv_iload_n hx hb dX1_read_26 rfl (lv_at hl 2 rfl) ?_
    refine lv_aload_n hx hb dX1_read_27 rfl (lv_at hl 1 rfl) ?_
    refine va_get (D := (dC, dI)) (ci := 3) (v := .ref (a_a1 0)) (C := RX3) (T := TX3) (N := 2) hx hb hts hw_X3 hown hK hP 4 rfl rfl 0 (by decide) (hts _ (List.mem_cons_of_mem _ mw_79)) (fun _ h9 => h9) rfl dX1_read_28 ?_
    refine lv_iconst (v := 4) hx hb dX1_read_31 (by decide) ?_
    refine lv_iload_n hx hb dX1_read_32 rfl (lv_at hl 2 rfl) ?_
    refine lv_imul hx hb dX1_read_33 ?_
    obtain ⟨h_34, hf⟩ := ho_g hf
    refine va_iald (n := 24) (f := (v_a1.2 0)) hx hb hK hP 5 0 rfl rfl h_34 dX1_read_34 ?_
    obtain ⟨u_35, e_35, hf⟩ := ho_b hf
    have hPc := hP.sub (ws' := ([] : va_W)) [] rfl
    refine vp_callSi (va_runSN (As := [.int ((v_a1.2 0) (Int32.toNatClampNeg (4 * x2)))]) (rest := [.int x2, .ref (a_t 0)]) ⟨hx, hb, hml, hown, hts⟩ (c_X6_kindByLetter l dC dI cI cII (((v_a1.2 0) (Int32.toNatClampNeg (4 * x2)))) u_35 e_35) ⟨va_cnB 1 hts (hw_gi mw_292) rfl rfl rfl hN.2.2.1 (hts _ (List.mem_cons_of_mem _ mw_53)) (by decide +kernel) ⟨Nat.le_of_ble_eq_true rfl, Nat.le_of_ble_eq_true rfl⟩, (hts _ (List.mem_cons_of_mem _ mw_291)), trivial⟩ ⟨pB_blind, fun U hU hW => ⟨rfl, pB_go hPc hK hN hU hW⟩⟩ rfl rfl hl.1 rfl (lv_room (Nat.le_of_ble_eq_true rfl)) dX1_read_35 ⟨Nat.zero_le _, Nat.zero_le _⟩).run (fun z_35 ez_35 => ?_)
    subst ez_35
    obtain ⟨h_38, hf⟩ := ho_g hf
    refine va_iast (n := 5) (f := (v_t.2 0)) hx hb hK hP hD hS 1 0 rfl rfl h_38 dX1_read_38 (fun H locs hP hD hS => ?_)
    have hP : va_P (dC, dI) vwCl (wX1 o_t a_t cI (oA v_t 0 (Int32.toNatClampNeg x2) u_35) ++ (wX3 o_a1 a_a1 cI v_a1 ++ (wX4 (a_t 3) a_t_seen cI v_t_seen))) H := hP
    have hD : va_D A (wX1 o_t a_t cI (oA v_t 0 (Int32.toNatClampNeg x2) u_35) ++ (wX3 o_a1 a_a1 cI v_a1 ++ (wX4 (a_t 3) a_t_seen cI v_t_seen))) := hD
    obtain ⟨v_t_38, e_v_t_38⟩ : ∃ z : obV, z = (oA v_t 0 (Int32.toNatClampNeg x2) u_35) := ⟨_, rfl⟩
    rw [← e_v_t_38] at hP hD
    have hf := ho_l hf v_t_38 e_v_t_38
    refine lv_aload_n hx hb dX1_read_39 rfl (lv_at hl 0 rfl) ?_
    refine va_get (D := (dC, dI)) (ci := 1) (v := .ref (a_t 1)) (C := RX1) (T := TX1) (N := 7) hx hb hts hw_X1 hown hK hP 0 rfl rfl 1 (by decide) (hts _ (List.mem_cons_of_mem _ mw_115)) (fun _ h9 => h9) rfl dX1_read_40 ?_
    refine lv_iload_n hx hb dX1_read_43 rfl (lv_at hl 2 rfl) ?_
    refine lv_aload_n hx hb dX1_read_44 rfl (lv_at hl 1 rfl) ?_
    refine lv_iconst (v := 4) hx hb dX1_read_45 (by decide) ?_
    refine lv_iload_n hx hb dX1_read_46 rfl (lv_at hl 2 rfl) ?_
    refine lv_imul hx hb dX1_read_47 ?_
    refine lv_iconst (v := 1) hx hb dX1_read_48 (by decide) ?_
    refine lv_iadd hx hb dX1_read_49 ?_
    obtain ⟨u_50, e_50, hf⟩ := ho_b hf
    have hPc := hP.sub (ws' := (wX3 o_a1 a_a1 cI v_a1)) [4, 5] rfl
    refine vp_callSi (va_runV (As := [.int ((4 * x2) + 1)]) (rest := [.int x2, .ref (a_t 1)]) ⟨hx, hb, hml, hown, hts⟩ (c_X3_digit l dC dI cI cII o_a1 a_a1 v_a1 (((4 * x2) + 1)) u_50 e_50) (cwV 1 hts (hw_giV mw_317 mw_286 mw_287 mw_54 mw_288) rfl rfl rfl (by decide +kernel) ⟨Nat.le_of_ble_eq_true rfl, Nat.le_of_ble_eq_true rfl⟩) ⟨pB_blind, va_recv hK hPc (ci := 3) (q0 := 0) rfl rfl, fun U hU hW => ⟨rfl, pB_go hPc hK hN hU hW⟩⟩ rfl rfl hl.1 rfl (lv_room (Nat.le_of_ble_eq_true rfl)) dX1_read_50 ⟨Nat.zero_le _, Nat.zero_le _⟩).run (fun z_50 ez_50 => ?_)
    subst ez_50
    obtain ⟨h_53, hf⟩ := ho_g hf
    refine va_iast (n := 5) (f := (v_t_38.2 1)) hx hb hK hP hD hS 2 0 rfl rfl h_53 dX1_read_53 (fun H locs hP hD hS => ?_)
    have hP : va_P (dC, dI) vwCl (wX1 o_t a_t cI (oA v_t_38 1 (Int32.toNatClampNeg x2) u_50) ++ (wX3 o_a1 a_a1 cI v_a1 ++ (wX4 (a_t 3) a_t_seen cI v_t_seen))) H := hP
    have hD : va_D A (wX1 o_t a_t cI (oA v_t_38 1 (Int32.toNatClampNeg x2) u_50) ++ (wX3 o_a1 a_a1 cI v_a1 ++ (wX4 (a_t 3) a_t_seen cI v_t_seen))) := hD
    obtain ⟨v_t_53, e_v_t_53⟩ : ∃ z : obV, z = (oA v_t_38 1 (Int32.toNatClampNeg x2) u_50) := ⟨_, rfl⟩
    rw [← e_v_t_53] at hP hD
    have hf := ho_l hf v_t_53 e_v_t_53
    refine lv_aload_n hx hb dX1_read_54 rfl (lv_at hl 0 rfl) ?_
    refine va_get (D := (dC, dI)) (ci := 1) (v := .ref (a_t 2)) (C := RX1) (T := TX1) (N := 7) hx hb hts hw_X1 hown hK hP 0 rfl rfl 2 (by decide) (hts _ (List.mem_cons_of_mem _ mw_119)) (fun _ h9 => h9) rfl dX1_read_55 ?_
    refine lv_iload_n hx hb dX1_read_58 rfl (lv_at hl 2 rfl) ?_
    refine lv_aload_n hx hb dX1_read_59 rfl (lv_at hl 1 rfl) ?_
    refine lv_iconst (v := 4) hx hb dX1_read_60 (by decide) ?_
    refine lv_iload_n hx hb dX1_read_61 rfl (lv_at hl 2 rfl) ?_
    refine lv_imul hx hb dX1_read_62 ?_
    refine lv_iconst (v := 2) hx hb dX1_read_63 (by decide) ?_
    refine lv_iadd hx hb dX1_read_64 ?_
    obtain ⟨u_65, e_65, hf⟩ := ho_b hf
    have hPc := hP.sub (ws' := (wX3 o_a1 a_a1 cI v_a1)) [4, 5] rfl
    refine vp_callSi (va_runV (As := [.int ((4 * x2) + 2)]) (rest := [.int x2, .ref (a_t 2)]) ⟨hx, hb, hml, hown, hts⟩ (c_X3_digit l dC dI cI cII o_a1 a_a1 v_a1 (((4 * x2) + 2)) u_65 e_65) (cwV 1 hts (hw_giV mw_317 mw_286 mw_287 mw_54 mw_288) rfl rfl rfl (by decide +kernel) ⟨Nat.le_of_ble_eq_true rfl, Nat.le_of_ble_eq_true rfl⟩) ⟨pB_blind, va_recv hK hPc (ci := 3) (q0 := 0) rfl rfl, fun U hU hW => ⟨rfl, pB_go hPc hK hN hU hW⟩⟩ rfl rfl hl.1 rfl (lv_room (Nat.le_of_ble_eq_true rfl)) dX1_read_65 ⟨Nat.zero_le _, Nat.zero_le _⟩).run (fun z_65 ez_65 => ?_)
    subst ez_65
    obtain ⟨h_68, hf⟩ := ho_g hf
    refine va_iast (n := 5) (f := (v_t_53.2 2)) hx hb hK hP hD hS 3 0 rfl rfl h_68 dX1_read_68 (fun H locs hP hD hS => ?_)
    have hP : va_P (dC, dI) vwCl (wX1 o_t a_t cI (oA v_t_53 2 (Int32.toNatClampNeg x2) u_65) ++ (wX3 o_a1 a_a1 cI v_a1 ++ (wX4 (a_t 3) a_t_seen cI v_t_seen))) H := hP
    have hD : va_D A (wX1 o_t a_t cI (oA v_t_53 2 (Int32.toNatClampNeg x2) u_65) ++ (wX3 o_a1 a_a1 cI v_a1 ++ (wX4 (a_t 3) a_t_seen cI v_t_seen))) := hD
    obtain ⟨v_t_68, e_v_t_68⟩ : ∃ z : obV, z = (oA v_t_53 2 (Int32.toNatClampNeg x2) u_65) := ⟨_, rfl⟩
    rw [← e_v_t_68] at hP hD
    have hf := ho_l hf v_t_68 e_v_t_68
    refine lv_iinc (v := (x2 + 1)) (lv' := [(2, .int (x2 + 1)), (0, .ref o_t), (1, .ref o_a1)]) hx hb dX1_read_69 hl (k := 2) rfl (hp_inc (by decide)) (by decide) rfl (fun ls hl => ?_)
    refine lv_goto (tgt := 14) hx hb dX1_read_72 (by decide) ?_
    exact ih14 (v_t_68, (x2 + 1)) _ hf _ _ _ hP hD hS (lv_sub hl [1, 2, 0] rfl)
set_option maxHeartbeats 4000000 in
set_option maxRecDepth 100000 in
theorem c_X1_read (l : Launch) (dC : Nat → ClassId) (dI : Nat → Nat → Nat) (cI cII : ClassId) (o_t : Nat) (a_t : Nat → Nat) (o_a1 : Nat) (a_a1 : Nat → Nat) (a_t_seen : Nat → Nat) (v_t : obV) (v_a1 : obV) (v_t_seen : obV)  (sz : Nat) (r : obV × obV) (hf : f_X1_read  v_t v_a1 v_t_seen  = some r) :
    Met l yX1_read (wd yX1_read cX1_read 3 none) ({ frames := 1, cells := 0, slots := 0, locals := 21 } : Room) (va_Pc [.ref o_t, .ref o_a1] (qB (dC, dI) vwCl (wX1 o_t a_t cI v_t ++ (wX3 o_a1 a_a1 cI v_a1 ++ (wX4 (a_t 3) a_t_seen cI v_t_seen))) (hTY cI cII) sz)) (va_Qv (fun (_ : Unit) => True) (fun _ t => va_P (dC, dI) vwCl (wX1 o_t a_t cI r.1 ++ (wX3 o_a1 a_a1 cI v_a1 ++ (wX4 (a_t 3) a_t_seen cI r.2))) t.heap ∧ va_D (va_A (wX1 o_t a_t cI v_t ++ (wX3 o_a1 a_a1 cI v_a1 ++ (wX4 (a_t 3) a_t_seen cI v_t_seen))) sz) (wX1 o_t a_t cI r.1 ++ (wX3 o_a1 a_a1 cI v_a1 ++ (wX4 (a_t 3) a_t_seen cI r.2)))) (va_A (wX1 o_t a_t cI v_t ++ (wX3 o_a1 a_a1 cI v_a1 ++ (wX4 (a_t 3) a_t_seen cI v_t_seen))) sz)) 0 0 (va_A (wX1 o_t a_t cI v_t ++ (wX3 o_a1 a_a1 cI v_a1 ++ (wX4 (a_t 3) a_t_seen cI v_t_seen))) sz) := by
  refine Met.ofW (cc := cX1_read) (maxL := 3) (ret := none) (by decide) rfl ?_
  intro p e s m args below meth c s₁ B hml hv
  obtain ⟨rfl, hsz, hD0, hP, hK, hN⟩ := hv
  have hx := B.exec
  have hb := B.bytes
  have hr := B.returns
  have hts := atoms_spec (ws := (wd yX1_read cX1_read 3 none)) B.pre
  have hown : s.vm.findClass RX1 = some m.cls := findClass_of_methodNamed B.named
  have hlocks := B.notSynchronized
  subst hsz
  have hD := hD0.self (sz := s.heap.size)
  generalize hAe : va_A (wX1 o_t a_t cI v_t ++ (wX3 o_a1 a_a1 cI v_a1 ++ (wX4 (a_t 3) a_t_seen cI v_t_seen))) s.heap.size = A at hD ⊢
  have hA : ∀ q : Nat, s.heap.size ≤ q → A q := fun q h => by rw [← hAe]; exact Or.inr h
  have hS : va_S A s.heap s.heap [] := va_S.rf
  have hl := lv_entry ([.ref o_t, .ref o_a1]) (n := 3) (Nat.le_of_ble_eq_true rfl)
  rw [lg_entry_eq]
  generalize (lg_sl ([.ref o_t, .ref o_a1]) ++ List.replicate (3 - (lg_sl ([.ref o_t, .ref o_a1])).length) Slot.unset).toArray = ls at hl ⊢
  have hl : lv_has ls 3 [(0, .ref o_t), (1, .ref o_a1)] := hl
  clear hAe hD0
  unfold f_X1_read at hf
  refine lv_aload_n hx hb dX1_read_0 rfl (lv_at hl 0 rfl) ?_
  refine lv_aload_n hx hb dX1_read_1 rfl (lv_at hl 1 rfl) ?_
  obtain ⟨u_2, e_2, hf⟩ := ho_b hf
  have hPc := hP.sub (ws' := (wX3 o_a1 a_a1 cI v_a1)) [4, 5] rfl
  refine vp_callSi (va_runV (As := []) (rest := [.ref o_t]) ⟨hx, hb, hml, hown, hts⟩ (c_X3_pilgrims l dC dI cI cII o_a1 a_a1 v_a1 u_2 e_2) (cwV 0 hts (hw_giV mw_309 mw_310 mw_311 mw_54 mw_312) rfl rfl rfl (by decide +kernel) ⟨Nat.le_of_ble_eq_true rfl, Nat.le_of_ble_eq_true rfl⟩) ⟨pB_blind, va_recv hK hPc (ci := 3) (q0 := 0) rfl rfl, fun U hU hW => ⟨rfl, pB_go hPc hK hN hU hW⟩⟩ rfl rfl hl.1 rfl (lv_room (Nat.le_of_ble_eq_true rfl)) dX1_read_2 ⟨Nat.zero_le _, Nat.zero_le _⟩).run (fun z_2 ez_2 => ?_)
  subst ez_2
  refine lv_iconst (v := 5) hx hb dX1_read_5 (by decide) ?_
  refine va_mmin hx hb (hml.trans hl.1.symm) hown (hts _ (List.mem_cons_of_mem _ mw_313)) (hts _ (List.mem_cons_of_mem _ mw_314)) (hts _ (List.mem_cons_of_mem _ mw_61)) (hts _ (List.mem_cons_of_mem _ mw_315)) (Nat.le_of_ble_eq_true rfl) (Nat.le_of_ble_eq_true rfl) (Nat.zero_le _) (Nat.zero_le _) dX1_read_6 ?_
  refine va_put (D := (dC, dI)) (ci := 1) (v := .int (if 5 < u_2 then 5 else u_2)) (ty := .int) (C := RX1) (T := TX1) (N := 7) hx hb hts hw_X1 tyX1 tyX1_ok nmX1 hown hK hP hD hS 0 rfl rfl 4 (by decide) (hts _ (List.mem_cons_of_mem _ mw_125)) (fun _ h9 => h9) rfl (by decide +kernel) rfl rfl (Nat.le_of_ble_eq_true rfl) dX1_read_9 (fun H locs hP hD hS => ?_)
  have hP : va_P (dC, dI) vwCl (wX1 o_t a_t cI (oF v_t 4 (if 5 < u_2 then 5 else u_2)) ++ (wX3 o_a1 a_a1 cI v_a1 ++ (wX4 (a_t 3) a_t_seen cI v_t_seen))) H := hP
  have hD : va_D A (wX1 o_t a_t cI (oF v_t 4 (if 5 < u_2 then 5 else u_2)) ++ (wX3 o_a1 a_a1 cI v_a1 ++ (wX4 (a_t 3) a_t_seen cI v_t_seen))) := hD
  obtain ⟨v_t_9, e_v_t_9⟩ : ∃ z : obV, z = (oF v_t 4 (if 5 < u_2 then 5 else u_2)) := ⟨_, rfl⟩
  rw [← e_v_t_9] at hP hD
  have hf := ho_l hf v_t_9 e_v_t_9
  refine lv_iconst (v := 0) hx hb dX1_read_12 (by decide) ?_
  refine lv_istore_n (lv' := [(2, .int 0), (0, .ref o_t), (1, .ref o_a1)]) hx hb dX1_read_13 rfl hl (by decide) rfl (fun ls hl => ?_)
  exact w_X1_read_l14 ⟨hx, hb, hml, hown, hts, hr, hlocks, hK, hN⟩ hA  _ _ _ hf _ _ _ hP hD hS (lv_sub hl [1, 2, 0] rfl)
set_option maxHeartbeats 4000000 in
set_option maxRecDepth 100000 in
theorem c_X4_copy (l : Launch) (dC : Nat → ClassId) (dI : Nat → Nat → Nat) (cI cII : ClassId) (o_t : Nat) (a_t : Nat → Nat) (o_a1 : Nat) (a_a1 : Nat → Nat) (v_t : obV) (v_a1 : obV)  (sz : Nat) (r : obV) (hf : f_X4_copy  v_t v_a1  = some r) :
    Met l yX4_copy (wd yX4_copy cX4_copy 2 none) ({ frames := 1, cells := 0, slots := 0, locals := 40 } : Room) (va_Pc [.ref o_t, .ref o_a1] (qB (dC, dI) vwCl (wX4 o_t a_t cI v_t ++ (wX4 o_a1 a_a1 cI v_a1)) (hTY cI cII) sz)) (va_Qv (fun (_ : Unit) => True) (fun _ t => va_P (dC, dI) vwCl (wX4 o_t a_t cI r ++ (wX4 o_a1 a_a1 cI v_a1)) t.heap ∧ va_D (va_A (wX4 o_t a_t cI v_t ++ (wX4 o_a1 a_a1 cI v_a1)) sz) (wX4 o_t a_t cI r ++ (wX4 o_a1 a_a1 cI v_a1))) (va_A (wX4 o_t a_t cI v_t ++ (wX4 o_a1 a_a1 cI v_a1)) sz)) 0 0 (va_A (wX4 o_t a_t cI v_t ++ (wX4 o_a1 a_a1 cI v_a1)) sz) := by
  refine Met.ofW (cc := cX4_copy) (maxL := 2) (ret := none) (by decide) rfl ?_
  intro p e s m args below meth c s₁ B hml hv
  obtain ⟨rfl, hsz, hD0, hP, hK, hN⟩ := hv
  have hx := B.exec
  have hb := B.bytes
  have hr := B.returns
  have hts := atoms_spec (ws := (wd yX4_copy cX4_copy 2 none)) B.pre
  have hown : s.vm.findClass RX4 = some m.cls := findClass_of_methodNamed B.named
  have hlocks := B.notSynchronized
  subst hsz
  have hD := hD0.self (sz := s.heap.size)
  generalize hAe : va_A (wX4 o_t a_t cI v_t ++ (wX4 o_a1 a_a1 cI v_a1)) s.heap.size = A at hD ⊢
  have hA : ∀ q : Nat, s.heap.size ≤ q → A q := fun q h => by rw [← hAe]; exact Or.inr h
  have hS : va_S A s.heap s.heap [] := va_S.rf
  have hl := lv_entry ([.ref o_t, .ref o_a1]) (n := 2) (Nat.le_of_ble_eq_true rfl)
  rw [lg_entry_eq]
  generalize (lg_sl ([.ref o_t, .ref o_a1]) ++ List.replicate (2 - (lg_sl ([.ref o_t, .ref o_a1])).length) Slot.unset).toArray = ls at hl ⊢
  have hl : lv_has ls 2 [(0, .ref o_t), (1, .ref o_a1)] := hl
  clear hAe hD0
  unfold f_X4_copy at hf
  refine lv_aload_n hx hb dX4_copy_0 rfl (lv_at hl 1 rfl) ?_
  refine va_get (D := (dC, dI)) (ci := 4) (v := .ref (a_a1 0)) (C := RX4) (T := TX4) (N := 3) hx hb hts hw_X4 hown hK hP 3 rfl rfl 0 (by decide) (hts _ (List.mem_cons_of_mem _ mw_101)) (fun _ h9 => h9) rfl dX4_copy_1 ?_
  refine lv_iconst (v := 0) hx hb dX4_copy_4 (by decide) ?_
  refine lv_aload_n hx hb dX4_copy_5 rfl (lv_at hl 0 rfl) ?_
  refine va_get (D := (dC, dI)) (ci := 4) (v := .ref (a_t 0)) (C := RX4) (T := TX4) (N := 3) hx hb hts hw_X4 hown hK hP 0 rfl rfl 0 (by decide) (hts _ (List.mem_cons_of_mem _ mw_101)) (fun _ h9 => h9) rfl dX4_copy_6 ?_
  refine lv_iconst (v := 0) hx hb dX4_copy_9 (by decide) ?_
  refine lv_bipush (v := 8) hx hb dX4_copy_10 (by decide) ?_
  refine va_copyi (n0 := 8) (n1 := 8) (f := (v_a1.2 0)) (g := (v_t.2 0)) hx hb (hml.trans hl.1.symm) hown (hts _ (List.mem_cons_of_mem _ mw_555)) (hts _ (List.mem_cons_of_mem _ mw_336)) (hts _ (List.mem_cons_of_mem _ mw_335)) (hts _ (List.mem_cons_of_mem _ mw_62)) hK hP hD hS 4 1 0 0 rfl rfl rfl rfl rfl (by decide) (by decide) (by decide) (by decide) (by decide) (fun _ _ => rfl) (Nat.le_of_ble_eq_true rfl) (Nat.le_of_ble_eq_true rfl) dX4_copy_12 (fun H locs hP hD hS => ?_)
  have hP : va_P (dC, dI) vwCl (wX4 o_t a_t cI (oC v_t 0 (va_cpy (v_a1.2 0) (v_t.2 0) 0 0 8)) ++ (wX4 o_a1 a_a1 cI v_a1)) H := hP
  have hD : va_D A (wX4 o_t a_t cI (oC v_t 0 (va_cpy (v_a1.2 0) (v_t.2 0) 0 0 8)) ++ (wX4 o_a1 a_a1 cI v_a1)) := hD
  obtain ⟨v_t_12, e_v_t_12⟩ : ∃ z : obV, z = (oC v_t 0 (va_cpy (v_a1.2 0) (v_t.2 0) 0 0 8)) := ⟨_, rfl⟩
  rw [← e_v_t_12] at hP hD
  have hf := ho_l hf v_t_12 e_v_t_12
  refine lv_aload_n hx hb dX4_copy_15 rfl (lv_at hl 1 rfl) ?_
  refine va_get (D := (dC, dI)) (ci := 4) (v := .ref (a_a1 1)) (C := RX4) (T := TX4) (N := 3) hx hb hts hw_X4 hown hK hP 3 rfl rfl 1 (by decide) (hts _ (List.mem_cons_of_mem _ mw_102)) (fun _ h9 => h9) rfl dX4_copy_16 ?_
  refine lv_iconst (v := 0) hx hb dX4_copy_19 (by decide) ?_
  refine lv_aload_n hx hb dX4_copy_20 rfl (lv_at hl 0 rfl) ?_
  refine va_get (D := (dC, dI)) (ci := 4) (v := .ref (a_t 1)) (C := RX4) (T := TX4) (N := 3) hx hb hts hw_X4 hown hK hP 0 rfl rfl 1 (by decide) (hts _ (List.mem_cons_of_mem _ mw_102)) (fun _ h9 => h9) rfl dX4_copy_21 ?_
  refine lv_iconst (v := 0) hx hb dX4_copy_24 (by decide) ?_
  refine lv_bipush (v := 8) hx hb dX4_copy_25 (by decide) ?_
  refine va_copyi (n0 := 8) (n1 := 8) (f := (v_a1.2 1)) (g := (v_t_12.2 1)) hx hb (hml.trans hl.1.symm) hown (hts _ (List.mem_cons_of_mem _ mw_555)) (hts _ (List.mem_cons_of_mem _ mw_336)) (hts _ (List.mem_cons_of_mem _ mw_335)) (hts _ (List.mem_cons_of_mem _ mw_62)) hK hP hD hS 5 2 0 0 rfl rfl rfl rfl rfl (by decide) (by decide) (by decide) (by decide) (by decide) (fun _ _ => rfl) (Nat.le_of_ble_eq_true rfl) (Nat.le_of_ble_eq_true rfl) dX4_copy_27 (fun H locs hP hD hS => ?_)
  have hP : va_P (dC, dI) vwCl (wX4 o_t a_t cI (oC v_t_12 1 (va_cpy (v_a1.2 1) (v_t_12.2 1) 0 0 8)) ++ (wX4 o_a1 a_a1 cI v_a1)) H := hP
  have hD : va_D A (wX4 o_t a_t cI (oC v_t_12 1 (va_cpy (v_a1.2 1) (v_t_12.2 1) 0 0 8)) ++ (wX4 o_a1 a_a1 cI v_a1)) := hD
  obtain ⟨v_t_27, e_v_t_27⟩ : ∃ z : obV, z = (oC v_t_12 1 (va_cpy (v_a1.2 1) (v_t_12.2 1) 0 0 8)) := ⟨_, rfl⟩
  rw [← e_v_t_27] at hP hD
  have hf := ho_l hf v_t_27 e_v_t_27
  refine lv_aload_n hx hb dX4_copy_30 rfl (lv_at hl 0 rfl) ?_
  refine lv_aload_n hx hb dX4_copy_31 rfl (lv_at hl 1 rfl) ?_
  refine va_get (D := (dC, dI)) (ci := 4) (v := .int (v_a1.1 2)) (C := RX4) (T := TX4) (N := 3) hx hb hts hw_X4 hown hK hP 3 rfl rfl 2 (by decide) (hts _ (List.mem_cons_of_mem _ mw_103)) (fun _ h9 => h9) rfl dX4_copy_32 ?_
  refine va_put (D := (dC, dI)) (ci := 4) (v := .int (v_a1.1 2)) (ty := .int) (C := RX4) (T := TX4) (N := 3) hx hb hts hw_X4 tyX4 tyX4_ok nmX4 hown hK hP hD hS 0 rfl rfl 2 (by decide) (hts _ (List.mem_cons_of_mem _ mw_103)) (fun _ h9 => h9) rfl (by decide +kernel) rfl rfl (Nat.le_of_ble_eq_true rfl) dX4_copy_35 (fun H locs hP hD hS => ?_)
  have hP : va_P (dC, dI) vwCl (wX4 o_t a_t cI (oF v_t_27 2 (v_a1.1 2)) ++ (wX4 o_a1 a_a1 cI v_a1)) H := hP
  have hD : va_D A (wX4 o_t a_t cI (oF v_t_27 2 (v_a1.1 2)) ++ (wX4 o_a1 a_a1 cI v_a1)) := hD
  obtain ⟨v_t_35, e_v_t_35⟩ : ∃ z : obV, z = (oF v_t_27 2 (v_a1.1 2)) := ⟨_, rfl⟩
  rw [← e_v_t_35] at hP hD
  have hf := ho_l hf v_t_35 e_v_t_35
  obtain rfl := Option.some.inj hf
  exact W.vret hx hb hr (fun t ht hW => ⟨⟨(), rfl, trivial, by rw [ht]; exact hP, hD⟩, hS.F ht⟩) hS.2.2 dX4_copy_38 hlocks
set_option maxHeartbeats 4000000 in
set_option maxRecDepth 100000 in
theorem c_X1_copy (l : Launch) (dC : Nat → ClassId) (dI : Nat → Nat → Nat) (cI cII : ClassId) (o_t : Nat) (a_t : Nat → Nat) (o_a1 : Nat) (a_a1 : Nat → Nat) (a_t_seen : Nat → Nat) (a_a1_seen : Nat → Nat) (v_t : obV) (v_a1 : obV) (v_t_seen : obV) (v_a1_seen : obV)  (sz : Nat) (r : obV × obV) (hf : f_X1_copy  v_t v_a1 v_t_seen v_a1_seen  = some r) :
    Met l yX1_copy (wd yX1_copy cX1_copy 2 none) ({ frames := 2, cells := 0, slots := 0, locals := 61 } : Room) (va_Pc [.ref o_t, .ref o_a1] (qB (dC, dI) vwCl (wX1 o_t a_t cI v_t ++ (wX1 o_a1 a_a1 cI v_a1 ++ (wX4 (a_t 3) a_t_seen cI v_t_seen ++ (wX4 (a_a1 3) a_a1_seen cI v_a1_seen)))) (hTY cI cII) sz)) (va_Qv (fun (_ : Unit) => True) (fun _ t => va_P (dC, dI) vwCl (wX1 o_t a_t cI r.1 ++ (wX1 o_a1 a_a1 cI v_a1 ++ (wX4 (a_t 3) a_t_seen cI r.2 ++ (wX4 (a_a1 3) a_a1_seen cI v_a1_seen)))) t.heap ∧ va_D (va_A (wX1 o_t a_t cI v_t ++ (wX1 o_a1 a_a1 cI v_a1 ++ (wX4 (a_t 3) a_t_seen cI v_t_seen ++ (wX4 (a_a1 3) a_a1_seen cI v_a1_seen)))) sz) (wX1 o_t a_t cI r.1 ++ (wX1 o_a1 a_a1 cI v_a1 ++ (wX4 (a_t 3) a_t_seen cI r.2 ++ (wX4 (a_a1 3) a_a1_seen cI v_a1_seen))))) (va_A (wX1 o_t a_t cI v_t ++ (wX1 o_a1 a_a1 cI v_a1 ++ (wX4 (a_t 3) a_t_seen cI v_t_seen ++ (wX4 (a_a1 3) a_a1_seen cI v_a1_seen)))) sz)) 0 0 (va_A (wX1 o_t a_t cI v_t ++ (wX1 o_a1 a_a1 cI v_a1 ++ (wX4 (a_t 3) a_t_seen cI v_t_seen ++ (wX4 (a_a1 3) a_a1_seen cI v_a1_seen)))) sz) := by
  refine Met.ofW (cc := cX1_copy) (maxL := 2) (ret := none) (by decide) rfl ?_
  intro p e s m args below meth c s₁ B hml hv
  obtain ⟨rfl, hsz, hD0, hP, hK, hN⟩ := hv
  have hx := B.exec
  have hb := B.bytes
  have hr := B.returns
  have hts := atoms_spec (ws := (wd yX1_copy cX1_copy 2 none)) B.pre
  have hown : s.vm.findClass RX1 = some m.cls := findClass_of_methodNamed B.named
  have hlocks := B.notSynchronized
  subst hsz
  have hD := hD0.self (sz := s.heap.size)
  generalize hAe : va_A (wX1 o_t a_t cI v_t ++ (wX1 o_a1 a_a1 cI v_a1 ++ (wX4 (a_t 3) a_t_seen cI v_t_seen ++ (wX4 (a_a1 3) a_a1_seen cI v_a1_seen)))) s.heap.size = A at hD ⊢
  have hA : ∀ q : Nat, s.heap.size ≤ q → A q := fun q h => by rw [← hAe]; exact Or.inr h
  have hS : va_S A s.heap s.heap [] := va_S.rf
  have hl := lv_entry ([.ref o_t, .ref o_a1]) (n := 2) (Nat.le_of_ble_eq_true rfl)
  rw [lg_entry_eq]
  generalize (lg_sl ([.ref o_t, .ref o_a1]) ++ List.replicate (2 - (lg_sl ([.ref o_t, .ref o_a1])).length) Slot.unset).toArray = ls at hl ⊢
  have hl : lv_has ls 2 [(0, .ref o_t), (1, .ref o_a1)] := hl
  clear hAe hD0
  unfold f_X1_copy at hf
  refine lv_aload_n hx hb dX1_copy_0 rfl (lv_at hl 1 rfl) ?_
  refine va_get (D := (dC, dI)) (ci := 1) (v := .ref (a_a1 0)) (C := RX1) (T := TX1) (N := 7) hx hb hts hw_X1 hown hK hP 4 rfl rfl 0 (by decide) (hts _ (List.mem_cons_of_mem _ mw_113)) (fun _ h9 => h9) rfl dX1_copy_1 ?_
  refine lv_iconst (v := 0) hx hb dX1_copy_4 (by decide) ?_
  refine lv_aload_n hx hb dX1_copy_5 rfl (lv_at hl 0 rfl) ?_
  refine va_get (D := (dC, dI)) (ci := 1) (v := .ref (a_t 0)) (C := RX1) (T := TX1) (N := 7) hx hb hts hw_X1 hown hK hP 0 rfl rfl 0 (by decide) (hts _ (List.mem_cons_of_mem _ mw_113)) (fun _ h9 => h9) rfl dX1_copy_6 ?_
  refine lv_iconst (v := 0) hx hb dX1_copy_9 (by decide) ?_
  refine lv_iconst (v := 5) hx hb dX1_copy_10 (by decide) ?_
  refine va_copyi (n0 := 5) (n1 := 5) (f := (v_a1.2 0)) (g := (v_t.2 0)) hx hb (hml.trans hl.1.symm) hown (hts _ (List.mem_cons_of_mem _ mw_550)) (hts _ (List.mem_cons_of_mem _ mw_336)) (hts _ (List.mem_cons_of_mem _ mw_335)) (hts _ (List.mem_cons_of_mem _ mw_62)) hK hP hD hS 5 1 0 0 rfl rfl rfl rfl rfl (by decide) (by decide) (by decide) (by decide) (by decide) (fun _ _ => rfl) (Nat.le_of_ble_eq_true rfl) (Nat.le_of_ble_eq_true rfl) dX1_copy_11 (fun H locs hP hD hS => ?_)
  have hP : va_P (dC, dI) vwCl (wX1 o_t a_t cI (oC v_t 0 (va_cpy (v_a1.2 0) (v_t.2 0) 0 0 5)) ++ (wX1 o_a1 a_a1 cI v_a1 ++ (wX4 (a_t 3) a_t_seen cI v_t_seen ++ (wX4 (a_a1 3) a_a1_seen cI v_a1_seen)))) H := hP
  have hD : va_D A (wX1 o_t a_t cI (oC v_t 0 (va_cpy (v_a1.2 0) (v_t.2 0) 0 0 5)) ++ (wX1 o_a1 a_a1 cI v_a1 ++ (wX4 (a_t 3) a_t_seen cI v_t_seen ++ (wX4 (a_a1 3) a_a1_seen cI v_a1_seen)))) := hD
  obtain ⟨v_t_11, e_v_t_11⟩ : ∃ z : obV, z = (oC v_t 0 (va_cpy (v_a1.2 0) (v_t.2 0) 0 0 5)) := ⟨_, rfl⟩
  rw [← e_v_t_11] at hP hD
  have hf := ho_l hf v_t_11 e_v_t_11
  refine lv_aload_n hx hb dX1_copy_14 rfl (lv_at hl 1 rfl) ?_
  refine va_get (D := (dC, dI)) (ci := 1) (v := .ref (a_a1 1)) (C := RX1) (T := TX1) (N := 7) hx hb hts hw_X1 hown hK hP 4 rfl rfl 1 (by decide) (hts _ (List.mem_cons_of_mem _ mw_115)) (fun _ h9 => h9) rfl dX1_copy_15 ?_
  refine lv_iconst (v := 0) hx hb dX1_copy_18 (by decide) ?_
  refine lv_aload_n hx hb dX1_copy_19 rfl (lv_at hl 0 rfl) ?_
  refine va_get (D := (dC, dI)) (ci := 1) (v := .ref (a_t 1)) (C := RX1) (T := TX1) (N := 7) hx hb hts hw_X1 hown hK hP 0 rfl rfl 1 (by decide) (hts _ (List.mem_cons_of_mem _ mw_115)) (fun _ h9 => h9) rfl dX1_copy_20 ?_
  refine lv_iconst (v := 0) hx hb dX1_copy_23 (by decide) ?_
  refine lv_iconst (v := 5) hx hb dX1_copy_24 (by decide) ?_
  refine va_copyi (n0 := 5) (n1 := 5) (f := (v_a1.2 1)) (g := (v_t_11.2 1)) hx hb (hml.trans hl.1.symm) hown (hts _ (List.mem_cons_of_mem _ mw_550)) (hts _ (List.mem_cons_of_mem _ mw_336)) (hts _ (List.mem_cons_of_mem _ mw_335)) (hts _ (List.mem_cons_of_mem _ mw_62)) hK hP hD hS 6 2 0 0 rfl rfl rfl rfl rfl (by decide) (by decide) (by decide) (by decide) (by decide) (fun _ _ => rfl) (Nat.le_of_ble_eq_true rfl) (Nat.le_of_ble_eq_true rfl) dX1_copy_25 (fun H locs hP hD hS => ?_)
  have hP : va_P (dC, dI) vwCl (wX1 o_t a_t cI (oC v_t_11 1 (va_cpy (v_a1.2 1) (v_t_11.2 1) 0 0 5)) ++ (wX1 o_a1 a_a1 cI v_a1 ++ (wX4 (a_t 3) a_t_seen cI v_t_seen ++ (wX4 (a_a1 3) a_a1_seen cI v_a1_seen)))) H := hP
  have hD : va_D A (wX1 o_t a_t cI (oC v_t_11 1 (va_cpy (v_a1.2 1) (v_t_11.2 1) 0 0 5)) ++ (wX1 o_a1 a_a1 cI v_a1 ++ (wX4 (a_t 3) a_t_seen cI v_t_seen ++ (wX4 (a_a1 3) a_a1_seen cI v_a1_seen)))) := hD
  obtain ⟨v_t_25, e_v_t_25⟩ : ∃ z : obV, z = (oC v_t_11 1 (va_cpy (v_a1.2 1) (v_t_11.2 1) 0 0 5)) := ⟨_, rfl⟩
  rw [← e_v_t_25] at hP hD
  have hf := ho_l hf v_t_25 e_v_t_25
  refine lv_aload_n hx hb dX1_copy_28 rfl (lv_at hl 1 rfl) ?_
  refine va_get (D := (dC, dI)) (ci := 1) (v := .ref (a_a1 2)) (C := RX1) (T := TX1) (N := 7) hx hb hts hw_X1 hown hK hP 4 rfl rfl 2 (by decide) (hts _ (List.mem_cons_of_mem _ mw_119)) (fun _ h9 => h9) rfl dX1_copy_29 ?_
  refine lv_iconst (v := 0) hx hb dX1_copy_32 (by decide) ?_
  refine lv_aload_n hx hb dX1_copy_33 rfl (lv_at hl 0 rfl) ?_
  refine va_get (D := (dC, dI)) (ci := 1) (v := .ref (a_t 2)) (C := RX1) (T := TX1) (N := 7) hx hb hts hw_X1 hown hK hP 0 rfl rfl 2 (by decide) (hts _ (List.mem_cons_of_mem _ mw_119)) (fun _ h9 => h9) rfl dX1_copy_34 ?_
  refine lv_iconst (v := 0) hx hb dX1_copy_37 (by decide) ?_
  refine lv_iconst (v := 5) hx hb dX1_copy_38 (by decide) ?_
  refine va_copyi (n0 := 5) (n1 := 5) (f := (v_a1.2 2)) (g := (v_t_25.2 2)) hx hb (hml.trans hl.1.symm) hown (hts _ (List.mem_cons_of_mem _ mw_550)) (hts _ (List.mem_cons_of_mem _ mw_336)) (hts _ (List.mem_cons_of_mem _ mw_335)) (hts _ (List.mem_cons_of_mem _ mw_62)) hK hP hD hS 7 3 0 0 rfl rfl rfl rfl rfl (by decide) (by decide) (by decide) (by decide) (by decide) (fun _ _ => rfl) (Nat.le_of_ble_eq_true rfl) (Nat.le_of_ble_eq_true rfl) dX1_copy_39 (fun H locs hP hD hS => ?_)
  have hP : va_P (dC, dI) vwCl (wX1 o_t a_t cI (oC v_t_25 2 (va_cpy (v_a1.2 2) (v_t_25.2 2) 0 0 5)) ++ (wX1 o_a1 a_a1 cI v_a1 ++ (wX4 (a_t 3) a_t_seen cI v_t_seen ++ (wX4 (a_a1 3) a_a1_seen cI v_a1_seen)))) H := hP
  have hD : va_D A (wX1 o_t a_t cI (oC v_t_25 2 (va_cpy (v_a1.2 2) (v_t_25.2 2) 0 0 5)) ++ (wX1 o_a1 a_a1 cI v_a1 ++ (wX4 (a_t 3) a_t_seen cI v_t_seen ++ (wX4 (a_a1 3) a_a1_seen cI v_a1_seen)))) := hD
  obtain ⟨v_t_39, e_v_t_39⟩ : ∃ z : obV, z = (oC v_t_25 2 (va_cpy (v_a1.2 2) (v_t_25.2 2) 0 0 5)) := ⟨_, rfl⟩
  rw [← e_v_t_39] at hP hD
  have hf := ho_l hf v_t_39 e_v_t_39
  refine lv_aload_n hx hb dX1_copy_42 rfl (lv_at hl 0 rfl) ?_
  refine va_get (D := (dC, dI)) (ci := 1) (v := .ref (a_t 3)) (C := RX1) (T := TX1) (N := 7) hx hb hts hw_X1 hown hK hP 0 rfl rfl 3 (by decide) (hts _ (List.mem_cons_of_mem _ mw_122)) (fun _ h9 => h9) rfl dX1_copy_43 ?_
  refine lv_aload_n hx hb dX1_copy_46 rfl (lv_at hl 1 rfl) ?_
  refine va_get (D := (dC, dI)) (ci := 1) (v := .ref (a_a1 3)) (C := RX1) (T := TX1) (N := 7) hx hb hts hw_X1 hown hK hP 4 rfl rfl 3 (by decide) (hts _ (List.mem_cons_of_mem _ mw_122)) (fun _ h9 => h9) rfl dX1_copy_47 ?_
  obtain ⟨u_50, e_50, hf⟩ := ho_b hf
  have hPc := hP.sub (ws' := (wX4 (a_t 3) a_t_seen cI v_t_seen ++ (wX4 (a_a1 3) a_a1_seen cI v_a1_seen))) [8, 9, 10, 11, 12, 13] rfl
  have hDc := hD.sub (ws' := (wX4 (a_t 3) a_t_seen cI v_t_seen ++ (wX4 (a_a1 3) a_a1_seen cI v_a1_seen))) [8, 9, 10, 11, 12, 13] (by decide) rfl
  have hFc := va_free (wc := (wX4 (a_t 3) a_t_seen cI v_t_seen ++ (wX4 (a_a1 3) a_a1_seen cI v_a1_seen))) hD hS hA [8, 9, 10, 11, 12, 13] rfl
  refine va_callv (va_runV (As := [.ref (a_a1 3)]) (rest := []) ⟨hx, hb, hml, hown, hts⟩ (c_X4_copy l dC dI cI cII (a_t 3) a_t_seen (a_a1 3) a_a1_seen v_t_seen v_a1_seen _ u_50 e_50) (cwV 1 hts (hw_giV mw_551 mw_552 mw_553 mw_56 mw_554) rfl rfl rfl (by decide +kernel) ⟨Nat.le_of_ble_eq_true rfl, Nat.le_of_ble_eq_true rfl⟩) ⟨qB_blind, va_recv hK hPc (ci := 4) (q0 := 0) rfl rfl, fun U hU hW => ⟨rfl, qB_go hPc hDc hK hN hU hW⟩⟩ rfl rfl hl.1 rfl (lv_room (Nat.le_of_ble_eq_true rfl)) dX1_copy_50 ⟨Nat.zero_le _, Nat.zero_le _⟩) hS (fun q _ h => hFc q h) hFc (fun u t H1 locs ht hvm hw hB hz1 hk1 hS => ?_)
  obtain ⟨hP1, hD1⟩ := hB
  rw [ht] at hP1
  obtain ⟨hP, hD⟩ := va_join (wr := (wX1 o_t a_t cI v_t_39 ++ (wX1 o_a1 a_a1 cI v_a1))) (w1 := (wX4 (a_t 3) a_t_seen cI u_50 ++ (wX4 (a_a1 3) a_a1_seen cI v_a1_seen))) hP hD [8, 9, 10, 11, 12, 13] [0, 1, 2, 3, 4, 5, 6, 7] rfl rfl (by decide) (by decide) hk1 hFc hP1 hD1
  generalize H1 = H at hP hS ⊢
  have hP : va_P (dC, dI) vwCl (wX1 o_t a_t cI v_t_39 ++ (wX1 o_a1 a_a1 cI v_a1 ++ (wX4 (a_t 3) a_t_seen cI u_50 ++ (wX4 (a_a1 3) a_a1_seen cI v_a1_seen)))) H := hP.sub [0, 1, 2, 3, 4, 5, 6, 7, 8, 9, 10, 11, 12, 13] rfl
  have hD : va_D A (wX1 o_t a_t cI v_t_39 ++ (wX1 o_a1 a_a1 cI v_a1 ++ (wX4 (a_t 3) a_t_seen cI u_50 ++ (wX4 (a_a1 3) a_a1_seen cI v_a1_seen)))) := hD.sub [0, 1, 2, 3, 4, 5, 6, 7, 8, 9, 10, 11, 12, 13] (by decide) rfl
  refine lv_aload_n hx hb dX1_copy_53 rfl (lv_at hl 0 rfl) ?_
  refine lv_aload_n hx hb dX1_copy_54 rfl (lv_at hl 1 rfl) ?_
  refine va_get (D := (dC, dI)) (ci := 1) (v := .int (v_a1.1 4)) (C := RX1) (T := TX1) (N := 7) hx hb hts hw_X1 hown hK hP 4 rfl rfl 4 (by decide) (hts _ (List.mem_cons_of_mem _ mw_125)) (fun _ h9 => h9) rfl dX1_copy_55 ?_
  refine va_put (D := (dC, dI)) (ci := 1) (v := .int (v_a1.1 4)) (ty := .int) (C := RX1) (T := TX1) (N := 7) hx hb hts hw_X1 tyX1 tyX1_ok nmX1 hown hK hP hD hS 0 rfl rfl 4 (by decide) (hts _ (List.mem_cons_of_mem _ mw_125)) (fun _ h9 => h9) rfl (by decide +kernel) rfl rfl (Nat.le_of_ble_eq_true rfl) dX1_copy_58 (fun H locs hP hD hS => ?_)
  have hP : va_P (dC, dI) vwCl (wX1 o_t a_t cI (oF v_t_39 4 (v_a1.1 4)) ++ (wX1 o_a1 a_a1 cI v_a1 ++ (wX4 (a_t 3) a_t_seen cI u_50 ++ (wX4 (a_a1 3) a_a1_seen cI v_a1_seen)))) H := hP
  have hD : va_D A (wX1 o_t a_t cI (oF v_t_39 4 (v_a1.1 4)) ++ (wX1 o_a1 a_a1 cI v_a1 ++ (wX4 (a_t 3) a_t_seen cI u_50 ++ (wX4 (a_a1 3) a_a1_seen cI v_a1_seen)))) := hD
  obtain ⟨v_t_58, e_v_t_58⟩ : ∃ z : obV, z = (oF v_t_39 4 (v_a1.1 4)) := ⟨_, rfl⟩
  rw [← e_v_t_58] at hP hD
  have hf := ho_l hf v_t_58 e_v_t_58
  refine lv_aload_n hx hb dX1_copy_61 rfl (lv_at hl 0 rfl) ?_
  refine lv_aload_n hx hb dX1_copy_62 rfl (lv_at hl 1 rfl) ?_
  refine va_get (D := (dC, dI)) (ci := 1) (v := .int (v_a1.1 5)) (C := RX1) (T := TX1) (N := 7) hx hb hts hw_X1 hown hK hP 4 rfl rfl 5 (by decide) (hts _ (List.mem_cons_of_mem _ mw_128)) (fun _ h9 => h9) rfl dX1_copy_63 ?_
  refine va_put (D := (dC, dI)) (ci := 1) (v := .int (v_a1.1 5)) (ty := .int) (C := RX1) (T := TX1) (N := 7) hx hb hts hw_X1 tyX1 tyX1_ok nmX1 hown hK hP hD hS 0 rfl rfl 5 (by decide) (hts _ (List.mem_cons_of_mem _ mw_128)) (fun _ h9 => h9) rfl (by decide +kernel) rfl rfl (Nat.le_of_ble_eq_true rfl) dX1_copy_66 (fun H locs hP hD hS => ?_)
  have hP : va_P (dC, dI) vwCl (wX1 o_t a_t cI (oF v_t_58 5 (v_a1.1 5)) ++ (wX1 o_a1 a_a1 cI v_a1 ++ (wX4 (a_t 3) a_t_seen cI u_50 ++ (wX4 (a_a1 3) a_a1_seen cI v_a1_seen)))) H := hP
  have hD : va_D A (wX1 o_t a_t cI (oF v_t_58 5 (v_a1.1 5)) ++ (wX1 o_a1 a_a1 cI v_a1 ++ (wX4 (a_t 3) a_t_seen cI u_50 ++ (wX4 (a_a1 3) a_a1_seen cI v_a1_seen)))) := hD
  obtain ⟨v_t_66, e_v_t_66⟩ : ∃ z : obV, z = (oF v_t_58 5 (v_a1.1 5)) := ⟨_, rfl⟩
  rw [← e_v_t_66] at hP hD
  have hf := ho_l hf v_t_66 e_v_t_66
  refine lv_aload_n hx hb dX1_copy_69 rfl (lv_at hl 0 rfl) ?_
  refine lv_aload_n hx hb dX1_copy_70 rfl (lv_at hl 1 rfl) ?_
  refine va_get (D := (dC, dI)) (ci := 1) (v := .int (v_a1.1 6)) (C := RX1) (T := TX1) (N := 7) hx hb hts hw_X1 hown hK hP 4 rfl rfl 6 (by decide) (hts _ (List.mem_cons_of_mem _ mw_132)) (fun _ h9 => h9) rfl dX1_copy_71 ?_
  refine va_put (D := (dC, dI)) (ci := 1) (v := .int (v_a1.1 6)) (ty := .int) (C := RX1) (T := TX1) (N := 7) hx hb hts hw_X1 tyX1 tyX1_ok nmX1 hown hK hP hD hS 0 rfl rfl 6 (by decide) (hts _ (List.mem_cons_of_mem _ mw_132)) (fun _ h9 => h9) rfl (by decide +kernel) rfl rfl (Nat.le_of_ble_eq_true rfl) dX1_copy_74 (fun H locs hP hD hS => ?_)
  have hP : va_P (dC, dI) vwCl (wX1 o_t a_t cI (oF v_t_66 6 (v_a1.1 6)) ++ (wX1 o_a1 a_a1 cI v_a1 ++ (wX4 (a_t 3) a_t_seen cI u_50 ++ (wX4 (a_a1 3) a_a1_seen cI v_a1_seen)))) H := hP
  have hD : va_D A (wX1 o_t a_t cI (oF v_t_66 6 (v_a1.1 6)) ++ (wX1 o_a1 a_a1 cI v_a1 ++ (wX4 (a_t 3) a_t_seen cI u_50 ++ (wX4 (a_a1 3) a_a1_seen cI v_a1_seen)))) := hD
  obtain ⟨v_t_74, e_v_t_74⟩ : ∃ z : obV, z = (oF v_t_66 6 (v_a1.1 6)) := ⟨_, rfl⟩
  rw [← e_v_t_74] at hP hD
  have hf := ho_l hf v_t_74 e_v_t_74
  obtain rfl := Option.some.inj hf
  exact W.vret hx hb hr (fun t ht hW => ⟨⟨(), rfl, trivial, by rw [ht]; exact hP, hD⟩, hS.F ht⟩) hS.2.2 dX1_copy_77 hlocks
set_option maxHeartbeats 4000000 in
set_option maxRecDepth 100000 in
theorem c_X1_isNone (l : Launch) (dC : Nat → ClassId) (dI : Nat → Nat → Nat) (cI cII : ClassId) (o_t : Nat) (a_t : Nat → Nat) (v_t : obV)  (r : Int32) (hf : f_X1_isNone  v_t  = some r) :
    Met l yX1_isNone (wd yX1_isNone cX1_isNone 1 (some .boolean)) ({ frames := 0, cells := 0, slots := 0, locals := 0 } : Room) (va_Pc [.ref o_t] (pB (dC, dI) vwCl (wX1 o_t a_t cI v_t) (hTY cI cII))) (vp_Si (fun z => r = z)) 0 0 (fun _ => False) := by
  refine Met.ofW (cc := cX1_isNone) (maxL := 1) (ret := (some .boolean)) (by decide) rfl ?_
  intro p e s m args below meth c s₁ B hml hv
  obtain ⟨rfl, hP, hK, hN⟩ := hv
  have hx := B.exec
  have hb := B.bytes
  have hr := B.returns
  have hts := atoms_spec (ws := (wd yX1_isNone cX1_isNone 1 (some .boolean))) B.pre
  have hown : s.vm.findClass RX1 = some m.cls := findClass_of_methodNamed B.named
  have hlocks := B.notSynchronized
  have hl := lv_entry ([.ref o_t]) (n := 1) (Nat.le_of_ble_eq_true rfl)
  rw [lg_entry_eq]
  generalize (lg_sl ([.ref o_t]) ++ List.replicate (1 - (lg_sl ([.ref o_t])).length) Slot.unset).toArray = ls at hl ⊢
  have hl : lv_has ls 1 [(0, .ref o_t)] := hl
  unfold f_X1_isNone at hf
  refine lv_aload_n hx hb dX1_isNone_0 rfl (lv_at hl 0 rfl) ?_
  refine va_get (D := (dC, dI)) (ci := 1) (v := .int (v_t.1 4)) (C := RX1) (T := TX1) (N := 7) hx hb hts hw_X1 hown hK hP 0 rfl rfl 4 (by decide) (hts _ (List.mem_cons_of_mem _ mw_125)) (fun _ h9 => h9) rfl dX1_isNone_1 ?_
  refine lv_if_ne (tgt := 11) hx hb dX1_isNone_4 (by decide) (fun c_4 => ?_) (fun c_4 => ?_)
  · have hf := ho_f hf c_4
    refine lv_iconst (v := 0) hx hb dX1_isNone_11 (by decide) ?_
    obtain rfl := Option.some.inj hf
    exact W.zret (v := 0) hx hb hr (by decide) (fun t ht hW => ⟨_, rfl, rfl, ht⟩) (fun q hq => by cases hq) dX1_isNone_12 hlocks
  · have hf := ho_t hf c_4
    refine lv_iconst (v := 1) hx hb dX1_isNone_7 (by decide) ?_
    refine lv_goto (tgt := 12) hx hb dX1_isNone_8 (by decide) ?_
    obtain rfl := Option.some.inj hf
    exact W.zret (v := 1) hx hb hr (by decide) (fun t ht hW => ⟨_, rfl, rfl, ht⟩) (fun q hq => by cases hq) dX1_isNone_12 hlocks
set_option maxHeartbeats 4000000 in
set_option maxRecDepth 100000 in
theorem c_X1_has (l : Launch) (dC : Nat → ClassId) (dI : Nat → Nat → Nat) (cI cII : ClassId) (o_t : Nat) (a_t : Nat → Nat) (v_t : obV) (x1 : Int32) (r : Int32) (hf : f_X1_has  v_t x1 = some r) :
    Met l yX1_has (wd yX1_has cX1_has 2 (some .boolean)) ({ frames := 0, cells := 0, slots := 0, locals := 0 } : Room) (va_Pc [.ref o_t, .int x1] (pB (dC, dI) vwCl (wX1 o_t a_t cI v_t) (hTY cI cII))) (vp_Si (fun z => r = z)) 0 0 (fun _ => False) := by
  refine Met.ofW (cc := cX1_has) (maxL := 2) (ret := (some .boolean)) (by decide) rfl ?_
  intro p e s m args below meth c s₁ B hml hv
  obtain ⟨rfl, hP, hK, hN⟩ := hv
  have hx := B.exec
  have hb := B.bytes
  have hr := B.returns
  have hts := atoms_spec (ws := (wd yX1_has cX1_has 2 (some .boolean))) B.pre
  have hown : s.vm.findClass RX1 = some m.cls := findClass_of_methodNamed B.named
  have hlocks := B.notSynchronized
  have hl := lv_entry ([.ref o_t, .int x1]) (n := 2) (Nat.le_of_ble_eq_true rfl)
  rw [lg_entry_eq]
  generalize (lg_sl ([.ref o_t, .int x1]) ++ List.replicate (2 - (lg_sl ([.ref o_t, .int x1])).length) Slot.unset).toArray = ls at hl ⊢
  have hl : lv_has ls 2 [(0, .ref o_t), (1, .int x1)] := hl
  unfold f_X1_has at hf
  refine lv_iload_n hx hb dX1_has_0 rfl (lv_at hl 1 rfl) ?_
  refine lv_if_lt (tgt := 16) hx hb dX1_has_1 (by decide) (fun c_1 => ?_) (fun c_1 => ?_)
  · have hf := ho_t hf c_1
    refine lv_iconst (v := 0) hx hb dX1_has_16 (by decide) ?_
    obtain rfl := Option.some.inj hf
    exact W.zret (v := 0) hx hb hr (by decide) (fun t ht hW => ⟨_, rfl, rfl, ht⟩) (fun q hq => by cases hq) dX1_has_17 hlocks
  · have hf := ho_f hf c_1
    refine lv_iload_n hx hb dX1_has_4 rfl (lv_at hl 1 rfl) ?_
    refine lv_aload_n hx hb dX1_has_5 rfl (lv_at hl 0 rfl) ?_
    refine va_get (D := (dC, dI)) (ci := 1) (v := .int (v_t.1 4)) (C := RX1) (T := TX1) (N := 7) hx hb hts hw_X1 hown hK hP 0 rfl rfl 4 (by decide) (hts _ (List.mem_cons_of_mem _ mw_125)) (fun _ h9 => h9) rfl dX1_has_6 ?_
    refine lv_icmp_ge (tgt := 16) hx hb dX1_has_9 (by decide) (fun c_9 => ?_) (fun c_9 => ?_)
    · have hf := ho_t hf c_9
      refine lv_iconst (v := 0) hx hb dX1_has_16 (by decide) ?_
      obtain rfl := Option.some.inj hf
      exact W.zret (v := 0) hx hb hr (by decide) (fun t ht hW => ⟨_, rfl, rfl, ht⟩) (fun q hq => by cases hq) dX1_has_17 hlocks
    · have hf := ho_f hf c_9
      refine lv_iconst (v := 1) hx hb dX1_has_12 (by decide) ?_
      refine lv_goto (tgt := 17) hx hb dX1_has_13 (by decide) ?_
      obtain rfl := Option.some.inj hf
      exact W.zret (v := 1) hx hb hr (by decide) (fun t ht hW => ⟨_, rfl, rfl, ht⟩) (fun q hq => by cases hq) dX1_has_17 hlocks
set_option maxHeartbeats 4000000 in
set_option maxRecDepth 100000 in
theorem c_X1_isKind (l : Launch) (dC : Nat → ClassId) (dI : Nat → Nat → Nat) (cI cII : ClassId) (o_t : Nat) (a_t : Nat → Nat) (v_t : obV) (x1 : Int32) (x2 : Int32) (r : Int32) (hf : f_X1_isKind  v_t x1 x2 = some r) :
    Met l yX1_isKind (wd yX1_isKind cX1_isKind 4 (some .boolean)) ({ frames := 0, cells := 0, slots := 0, locals := 0 } : Room) (va_Pc [.ref o_t, .int x1, .int x2] (pB (dC, dI) vwCl (wX1 o_t a_t cI v_t) (hTY cI cII))) (vp_Si (fun z => r = z)) 0 0 (fun _ => False) := by
  refine Met.ofW (cc := cX1_isKind) (maxL := 4) (ret := (some .boolean)) (by decide) rfl ?_
  intro p e s m args below meth c s₁ B hml hv
  obtain ⟨rfl, hP, hK, hN⟩ := hv
  have hx := B.exec
  have hb := B.bytes
  have hr := B.returns
  have hts := atoms_spec (ws := (wd yX1_isKind cX1_isKind 4 (some .boolean))) B.pre
  have hown : s.vm.findClass RX1 = some m.cls := findClass_of_methodNamed B.named
  have hlocks := B.notSynchronized
  have hl := lv_entry ([.ref o_t, .int x1, .int x2]) (n := 4) (Nat.le_of_ble_eq_true rfl)
  rw [lg_entry_eq]
  generalize (lg_sl ([.ref o_t, .int x1, .int x2]) ++ List.replicate (4 - (lg_sl ([.ref o_t, .int x1, .int x2])).length) Slot.unset).toArray = ls at hl ⊢
  have hl : lv_has ls 4 [(0, .ref o_t), (1, .int x1), (2, .int x2)] := hl
  unfold f_X1_isKind at hf
  refine lv_aload_n hx hb dX1_isKind_0 rfl (lv_at hl 0 rfl) ?_
  refine va_get (D := (dC, dI)) (ci := 1) (v := .ref (a_t 0)) (C := RX1) (T := TX1) (N := 7) hx hb hts hw_X1 hown hK hP 0 rfl rfl 0 (by decide) (hts _ (List.mem_cons_of_mem _ mw_113)) (fun _ h9 => h9) rfl dX1_isKind_1 ?_
  refine lv_iload_n hx hb dX1_isKind_4 rfl (lv_at hl 1 rfl) ?_
  obtain ⟨h_5, hf⟩ := ho_g hf
  refine va_iald (n := 5) (f := (v_t.2 0)) hx hb hK hP 1 0 rfl rfl h_5 dX1_isKind_5 ?_
  refine lv_istore_n (lv' := [(3, .int ((v_t.2 0) (Int32.toNatClampNeg x1))), (0, .ref o_t), (1, .int x1), (2, .int x2)]) hx hb dX1_isKind_6 rfl hl (by decide) rfl (fun ls hl => ?_)
  refine lv_iload_n hx hb dX1_isKind_7 rfl (lv_at hl 3 rfl) ?_
  refine lv_if_eq (tgt := 26) hx hb dX1_isKind_8 (by decide) (fun c_8 => ?_) (fun c_8 => ?_)
  · have hf := ho_t hf c_8
    refine lv_iconst (v := 1) hx hb dX1_isKind_26 (by decide) ?_
    refine lv_goto (tgt := 31) hx hb dX1_isKind_27 (by decide) ?_
    obtain rfl := Option.some.inj hf
    exact W.zret (v := 1) hx hb hr (by decide) (fun t ht hW => ⟨_, rfl, rfl, ht⟩) (fun q hq => by cases hq) dX1_isKind_31 hlocks
  · have hf := ho_f hf c_8
    refine lv_iload_n hx hb dX1_isKind_11 rfl (lv_at hl 3 rfl) ?_
    refine lv_iload_n hx hb dX1_isKind_12 rfl (lv_at hl 0 rfl) ?_
    refine lv_icmp_eq (tgt := 26) hx hb dX1_isKind_13 (by decide) (fun c_13 => ?_) (fun c_13 => ?_)
    · have hf := ho_t hf c_13
      refine lv_iconst (v := 1) hx hb dX1_isKind_26 (by decide) ?_
      refine lv_goto (tgt := 31) hx hb dX1_isKind_27 (by decide) ?_
      obtain rfl := Option.some.inj hf
      exact W.zret (v := 1) hx hb hr (by decide) (fun t ht hW => ⟨_, rfl, rfl, ht⟩) (fun q hq => by cases hq) dX1_isKind_31 hlocks
    · have hf := ho_f hf c_13
      refine lv_iload_n hx hb dX1_isKind_16 rfl (lv_at hl 3 rfl) ?_
      refine lv_iconst (v := 2) hx hb dX1_isKind_17 (by decide) ?_
      refine lv_icmp_ne (tgt := 30) hx hb dX1_isKind_18 (by decide) (fun c_18 => ?_) (fun c_18 => ?_)
      · have hf := ho_f hf c_18
        refine lv_iconst (v := 0) hx hb dX1_isKind_30 (by decide) ?_
        obtain rfl := Option.some.inj hf
        exact W.zret (v := 0) hx hb hr (by decide) (fun t ht hW => ⟨_, rfl, rfl, ht⟩) (fun q hq => by cases hq) dX1_isKind_31 hlocks
      · have hf := ho_t hf c_18
        refine lv_iload_n hx hb dX1_isKind_21 rfl (lv_at hl 0 rfl) ?_
        refine lv_iconst (v := 4) hx hb dX1_isKind_22 (by decide) ?_
        refine lv_icmp_ne (tgt := 30) hx hb dX1_isKind_23 (by decide) (fun c_23 => ?_) (fun c_23 => ?_)
        · have hf := ho_f hf c_23
          refine lv_iconst (v := 0) hx hb dX1_isKind_30 (by decide) ?_
          obtain rfl := Option.some.inj hf
          exact W.zret (v := 0) hx hb hr (by decide) (fun t ht hW => ⟨_, rfl, rfl, ht⟩) (fun q hq => by cases hq) dX1_isKind_31 hlocks
        · have hf := ho_t hf c_23
          refine lv_iconst (v := 1) hx hb dX1_isKind_26 (by decide) ?_
          refine lv_goto (tgt := 31) hx hb dX1_isKind_27 (by decide) ?_
          obtain rfl := Option.some.inj hf
          exact W.zret (v := 1) hx hb hr (by decide) (fun t ht hW => ⟨_, rfl, rfl, ht⟩) (fun q hq => by cases hq) dX1_isKind_31 hlocks
set_option maxHeartbeats 4000000 in
set_option maxRecDepth 100000 in
theorem c_X1_stays (l : Launch) (dC : Nat → ClassId) (dI : Nat → Nat → Nat) (cI cII : ClassId) (o_t : Nat) (a_t : Nat → Nat) (v_t : obV) (x1 : Int32) (r : Int32) (hf : f_X1_stays  v_t x1 = some r) :
    Met l yX1_stays (wd yX1_stays cX1_stays 2 (some .int)) ({ frames := 0, cells := 0, slots := 0, locals := 0 } : Room) (va_Pc [.ref o_t, .int x1] (pB (dC, dI) vwCl (wX1 o_t a_t cI v_t) (hTY cI cII))) (vp_Si (fun z => r = z)) 0 0 (fun _ => False) := by
  refine Met.ofW (cc := cX1_stays) (maxL := 2) (ret := (some .int)) (by decide) rfl ?_
  intro p e s m args below meth c s₁ B hml hv
  obtain ⟨rfl, hP, hK, hN⟩ := hv
  have hx := B.exec
  have hb := B.bytes
  have hr := B.returns
  have hts := atoms_spec (ws := (wd yX1_stays cX1_stays 2 (some .int))) B.pre
  have hown : s.vm.findClass RX1 = some m.cls := findClass_of_methodNamed B.named
  have hlocks := B.notSynchronized
  have hl := lv_entry ([.ref o_t, .int x1]) (n := 2) (Nat.le_of_ble_eq_true rfl)
  rw [lg_entry_eq]
  generalize (lg_sl ([.ref o_t, .int x1]) ++ List.replicate (2 - (lg_sl ([.ref o_t, .int x1])).length) Slot.unset).toArray = ls at hl ⊢
  have hl : lv_has ls 2 [(0, .ref o_t), (1, .int x1)] := hl
  unfold f_X1_stays at hf
  refine lv_aload_n hx hb dX1_stays_0 rfl (lv_at hl 0 rfl) ?_
  refine va_get (D := (dC, dI)) (ci := 1) (v := .ref (a_t 0)) (C := RX1) (T := TX1) (N := 7) hx hb hts hw_X1 hown hK hP 0 rfl rfl 0 (by decide) (hts _ (List.mem_cons_of_mem _ mw_113)) (fun _ h9 => h9) rfl dX1_stays_1 ?_
  refine lv_iload_n hx hb dX1_stays_4 rfl (lv_at hl 1 rfl) ?_
  obtain ⟨h_5, hf⟩ := ho_g hf
  refine va_iald (n := 5) (f := (v_t.2 0)) hx hb hK hP 1 0 rfl rfl h_5 dX1_stays_5 ?_
  refine lv_iconst (v := 1) hx hb dX1_stays_6 (by decide) ?_
  refine lv_icmp_eq (tgt := 20) hx hb dX1_stays_7 (by decide) (fun c_7 => ?_) (fun c_7 => ?_)
  · have hf := ho_t hf c_7
    refine lv_iconst (v := 2) hx hb dX1_stays_20 (by decide) ?_
    refine lv_goto (tgt := 25) hx hb dX1_stays_21 (by decide) ?_
    obtain rfl := Option.some.inj hf
    exact W.iret (v := 2) hx hb hr (fun t ht hW => ⟨_, rfl, rfl, ht⟩) (fun q hq => by cases hq) dX1_stays_25 hlocks
  · have hf := ho_f hf c_7
    refine lv_aload_n hx hb dX1_stays_10 rfl (lv_at hl 0 rfl) ?_
    refine va_get (D := (dC, dI)) (ci := 1) (v := .ref (a_t 0)) (C := RX1) (T := TX1) (N := 7) hx hb hts hw_X1 hown hK hP 0 rfl rfl 0 (by decide) (hts _ (List.mem_cons_of_mem _ mw_113)) (fun _ h9 => h9) rfl dX1_stays_11 ?_
    refine lv_iload_n hx hb dX1_stays_14 rfl (lv_at hl 1 rfl) ?_
    obtain ⟨h_15, hf⟩ := ho_g hf
    refine va_iald (n := 5) (f := (v_t.2 0)) hx hb hK hP 1 0 rfl rfl h_15 dX1_stays_15 ?_
    refine lv_iconst (v := 4) hx hb dX1_stays_16 (by decide) ?_
    refine lv_icmp_ne (tgt := 24) hx hb dX1_stays_17 (by decide) (fun c_17 => ?_) (fun c_17 => ?_)
    · have hf := ho_f hf c_17
      refine lv_iconst (v := 1) hx hb dX1_stays_24 (by decide) ?_
      obtain rfl := Option.some.inj hf
      exact W.iret (v := 1) hx hb hr (fun t ht hW => ⟨_, rfl, rfl, ht⟩) (fun q hq => by cases hq) dX1_stays_25 hlocks
    · have hf := ho_t hf c_17
      refine lv_iconst (v := 2) hx hb dX1_stays_20 (by decide) ?_
      refine lv_goto (tgt := 25) hx hb dX1_stays_21 (by decide) ?_
      obtain rfl := Option.some.inj hf
      exact W.iret (v := 2) hx hb hr (fun t ht hW => ⟨_, rfl, rfl, ht⟩) (fun q hq => by cases hq) dX1_stays_25 hlocks
set_option maxHeartbeats 4000000 in
set_option maxRecDepth 100000 in
theorem w_X1_allStay_l4 {p : Program} {l : Launch} {e : Env} {s : State} {m : MethodId} {args : Array Value} {below : List Frame} {meth : Method} {c : Code} {dC : Nat → ClassId} {dI : Nat → Nat → Nat} {cI cII : ClassId} {o_t : Nat} {a_t : Nat → Nat} (C0 : hC p s m args meth c dC dI cI cII RX1 cX1_allStay 3 (wd yX1_allStay cX1_allStay 3 (some .int)) (some .int))  {v_t : obV}   (hP : va_P (dC, dI) vwCl (wX1 o_t a_t cI v_t) s.heap) :
    ∀ (n : Nat) (y : Int32 × Int32) (r : Int32), f_X1_allStay_l4  v_t  n y = some r → ∀ (ls : Array Slot), lv_has ls 3 [(0, .ref o_t), (1, .int y.1), (2, .int y.2)] → W p l e ({ frames := 1, cells := 0, slots := 0, locals := 21 } : Room) s m args below meth c s.heap [] 0 0 (MQ below (vp_Si (fun z => r = z)) args s 0 0 (fun _ => False)) (F0 m 4 ls []) := by
  obtain ⟨hx, hb, hml, hown, hts, hr, hlocks, hK, hN⟩ := C0
  refine lp_W ?_
  intro k4 ih4 y r hf ls hl
  obtain ⟨x1, x2⟩ := y
  have hf : f_X1_allStay_b4  v_t x1 x2  k4 = some r := hf
  have hl : lv_has ls 3 [(0, .ref o_t), (1, .int x1), (2, .int x2)] := hl
  unfold f_X1_allStay_b4 at hf
  refine lv_iload_n hx hb dX1_allStay_4 rfl (lv_at hl 2 rfl) ?_
  refine lv_aload_n hx hb dX1_allStay_5 rfl (lv_at hl 0 rfl) ?_
  refine va_get (D := (dC, dI)) (ci := 1) (v := .int (v_t.1 4)) (C := RX1) (T := TX1) (N := 7) hx hb hts hw_X1 hown hK hP 0 rfl rfl 4 (by decide) (hts _ (List.mem_cons_of_mem _ mw_125)) (fun _ h9 => h9) rfl dX1_allStay_6 ?_
  refine lv_icmp_ge (tgt := 26) hx hb dX1_allStay_9 (by decide) (fun c_9 => ?_) (fun c_9 => ?_)
  · have hf := ho_t hf c_9
    refine lv_iload_n hx hb dX1_allStay_26 rfl (lv_at hl 1 rfl) ?_
    obtain rfl := Option.some.inj hf
    exact W.iret (v := x1) hx hb hr (fun t ht hW => ⟨_, rfl, rfl, ht⟩) (fun q hq => by cases hq) dX1_allStay_27 hlocks
  · have hf := ho_f hf c_9
    refine lv_iload_n hx hb dX1_allStay_12 rfl (lv_at hl 1 rfl) ?_
    refine lv_aload_n hx hb dX1_allStay_13 rfl (lv_at hl 0 rfl) ?_
    refine lv_iload_n hx hb dX1_allStay_14 rfl (lv_at hl 2 rfl) ?_
    obtain ⟨u_15, e_15, hf⟩ := ho_b hf
    refine vp_callSi (va_runV (As := [.int x2]) (rest := [.int x1]) ⟨hx, hb, hml, hown, hts⟩ (c_X1_stays l dC dI cI cII o_t a_t v_t (x2) u_15 e_15) (cwV 1 hts (hw_giV mw_568 mw_373 mw_374 mw_55 mw_375) rfl rfl rfl (by decide +kernel) ⟨Nat.le_of_ble_eq_true rfl, Nat.le_of_ble_eq_true rfl⟩) ⟨pB_blind, va_recv hK hP (ci := 1) (q0 := 0) rfl rfl, fun U hU hW => ⟨rfl, pB_go hP hK hN hU hW⟩⟩ rfl rfl hl.1 rfl (lv_room (Nat.le_of_ble_eq_true rfl)) dX1_allStay_15 ⟨Nat.zero_le _, Nat.zero_le _⟩).run (fun z_15 ez_15 => ?_)
    subst ez_15
    refine lv_iadd hx hb dX1_allStay_18 ?_
    refine lv_istore_n (lv' := [(1, .int (x1 + u_15)), (0, .ref o_t), (2, .int x2)]) hx hb dX1_allStay_19 rfl hl (by decide) rfl (fun ls hl => ?_)
    refine lv_iinc (v := (x2 + 1)) (lv' := [(2, .int (x2 + 1)), (1, .int (x1 + u_15)), (0, .ref o_t)]) hx hb dX1_allStay_20 hl (k := 2) rfl (hp_inc (by decide)) (by decide) rfl (fun ls hl => ?_)
    refine lv_goto (tgt := 4) hx hb dX1_allStay_23 (by decide) ?_
    exact ih4 ((x1 + u_15), (x2 + 1)) _ hf _ (lv_sub hl [2, 1, 0] rfl)
set_option maxHeartbeats 4000000 in
set_option maxRecDepth 100000 in
theorem c_X1_allStay (l : Launch) (dC : Nat → ClassId) (dI : Nat → Nat → Nat) (cI cII : ClassId) (o_t : Nat) (a_t : Nat → Nat) (v_t : obV)  (r : Int32) (hf : f_X1_allStay  v_t  = some r) :
    Met l yX1_allStay (wd yX1_allStay cX1_allStay 3 (some .int)) ({ frames := 1, cells := 0, slots := 0, locals := 21 } : Room) (va_Pc [.ref o_t] (pB (dC, dI) vwCl (wX1 o_t a_t cI v_t) (hTY cI cII))) (vp_Si (fun z => r = z)) 0 0 (fun _ => False) := by
  refine Met.ofW (cc := cX1_allStay) (maxL := 3) (ret := (some .int)) (by decide) rfl ?_
  intro p e s m args below meth c s₁ B hml hv
  obtain ⟨rfl, hP, hK, hN⟩ := hv
  have hx := B.exec
  have hb := B.bytes
  have hr := B.returns
  have hts := atoms_spec (ws := (wd yX1_allStay cX1_allStay 3 (some .int))) B.pre
  have hown : s.vm.findClass RX1 = some m.cls := findClass_of_methodNamed B.named
  have hlocks := B.notSynchronized
  have hl := lv_entry ([.ref o_t]) (n := 3) (Nat.le_of_ble_eq_true rfl)
  rw [lg_entry_eq]
  generalize (lg_sl ([.ref o_t]) ++ List.replicate (3 - (lg_sl ([.ref o_t])).length) Slot.unset).toArray = ls at hl ⊢
  have hl : lv_has ls 3 [(0, .ref o_t)] := hl
  unfold f_X1_allStay at hf
  refine lv_iconst (v := 0) hx hb dX1_allStay_0 (by decide) ?_
  refine lv_istore_n (lv' := [(1, .int 0), (0, .ref o_t)]) hx hb dX1_allStay_1 rfl hl (by decide) rfl (fun ls hl => ?_)
  refine lv_iconst (v := 0) hx hb dX1_allStay_2 (by decide) ?_
  refine lv_istore_n (lv' := [(2, .int 0), (1, .int 0), (0, .ref o_t)]) hx hb dX1_allStay_3 rfl hl (by decide) rfl (fun ls hl => ?_)
  exact w_X1_allStay_l4 ⟨hx, hb, hml, hown, hts, hr, hlocks, hK, hN⟩  hP _ _ _ hf _ (lv_sub hl [2, 1, 0] rfl)
set_option maxHeartbeats 4000000 in
set_option maxRecDepth 100000 in
theorem w_X1_unlikeTroubles_l4 {p : Program} {l : Launch} {e : Env} {s : State} {m : MethodId} {args : Array Value} {below : List Frame} {meth : Method} {c : Code} {dC : Nat → ClassId} {dI : Nat → Nat → Nat} {cI cII : ClassId} {o_t : Nat} {a_t : Nat → Nat} (C0 : hC p s m args meth c dC dI cI cII RX1 cX1_unlikeTroubles 3 (wd yX1_unlikeTroubles cX1_unlikeTroubles 3 (some .int)) (some .int))  {v_t : obV}   (hP : va_P (dC, dI) vwCl (wX1 o_t a_t cI v_t) s.heap) :
    ∀ (n : Nat) (y : Int32 × Int32) (r : Int32), f_X1_unlikeTroubles_l4  v_t  n y = some r → ∀ (ls : Array Slot), lv_has ls 3 [(0, .ref o_t), (1, .int y.1), (2, .int y.2)] → W p l e ({ frames := 1, cells := 0, slots := 0, locals := 20 } : Room) s m args below meth c s.heap [] 0 0 (MQ below (vp_Si (fun z => r = z)) args s 0 0 (fun _ => False)) (F0 m 4 ls []) := by
  obtain ⟨hx, hb, hml, hown, hts, hr, hlocks, hK, hN⟩ := C0
  refine lp_W ?_
  intro k4 ih4 y r hf ls hl
  obtain ⟨x1, x2⟩ := y
  have hf : f_X1_unlikeTroubles_b4  v_t x1 x2  k4 = some r := hf
  have hl : lv_has ls 3 [(0, .ref o_t), (1, .int x1), (2, .int x2)] := hl
  unfold f_X1_unlikeTroubles_b4 at hf
  refine lv_iload_n hx hb dX1_unlikeTroubles_4 rfl (lv_at hl 2 rfl) ?_
  refine lv_aload_n hx hb dX1_unlikeTroubles_5 rfl (lv_at hl 0 rfl) ?_
  refine va_get (D := (dC, dI)) (ci := 1) (v := .int (v_t.1 4)) (C := RX1) (T := TX1) (N := 7) hx hb hts hw_X1 hown hK hP 0 rfl rfl 4 (by decide) (hts _ (List.mem_cons_of_mem _ mw_125)) (fun _ h9 => h9) rfl dX1_unlikeTroubles_6 ?_
  refine lv_icmp_ge (tgt := 29) hx hb dX1_unlikeTroubles_9 (by decide) (fun c_9 => ?_) (fun c_9 => ?_)
  · have hf := ho_t hf c_9
    refine lv_iload_n hx hb dX1_unlikeTroubles_29 rfl (lv_at hl 1 rfl) ?_
    obtain ⟨u_30, e_30, hf⟩ := ho_b hf
    have hPc := hP.sub (ws' := ([] : va_W)) [] rfl
    refine vp_callSi (va_runS (As := [.int x1]) (rest := []) ⟨hx, hb, hml, hown, hts⟩ (c_J6_bitCount_0f7a4 l dC dI cI cII (x1) u_30 e_30) (va_cwS 1 hts (hw_giS mw_573 mw_456 mw_63 mw_457) rfl rfl rfl (by decide +kernel) ⟨Nat.le_of_ble_eq_true rfl, Nat.le_of_ble_eq_true rfl⟩) ⟨pB_blind, fun U hU hW => ⟨rfl, pB_go hPc hK hN hU hW⟩⟩ rfl rfl hl.1 rfl (lv_room (Nat.le_of_ble_eq_true rfl)) dX1_unlikeTroubles_30 ⟨Nat.zero_le _, Nat.zero_le _⟩).run (fun z_30 ez_30 => ?_)
    subst ez_30
    obtain rfl := Option.some.inj hf
    exact W.iret (v := u_30) hx hb hr (fun t ht hW => ⟨_, rfl, rfl, ht⟩) (fun q hq => by cases hq) dX1_unlikeTroubles_33 hlocks
  · have hf := ho_f hf c_9
    refine lv_iload_n hx hb dX1_unlikeTroubles_12 rfl (lv_at hl 1 rfl) ?_
    refine lv_iconst (v := 1) hx hb dX1_unlikeTroubles_13 (by decide) ?_
    refine lv_aload_n hx hb dX1_unlikeTroubles_14 rfl (lv_at hl 0 rfl) ?_
    refine va_get (D := (dC, dI)) (ci := 1) (v := .ref (a_t 1)) (C := RX1) (T := TX1) (N := 7) hx hb hts hw_X1 hown hK hP 0 rfl rfl 1 (by decide) (hts _ (List.mem_cons_of_mem _ mw_115)) (fun _ h9 => h9) rfl dX1_unlikeTroubles_15 ?_
    refine lv_iload_n hx hb dX1_unlikeTroubles_18 rfl (lv_at hl 2 rfl) ?_
    obtain ⟨h_19, hf⟩ := ho_g hf
    refine va_iald (n := 5) (f := (v_t.2 1)) hx hb hK hP 2 0 rfl rfl h_19 dX1_unlikeTroubles_19 ?_
    refine lv_ishl hx hb dX1_unlikeTroubles_20 ?_
    refine lv_ior hx hb dX1_unlikeTroubles_21 ?_
    refine lv_topi (fun z_22 e_22 => ?_)
    have hf := ho_l hf z_22 e_22
    refine lv_istore_n (lv' := [(1, .int z_22), (0, .ref o_t), (2, .int x2)]) hx hb dX1_unlikeTroubles_22 rfl hl (by decide) rfl (fun ls hl => ?_)
    refine lv_iinc (v := (x2 + 1)) (lv' := [(2, .int (x2 + 1)), (1, .int z_22), (0, .ref o_t)]) hx hb dX1_unlikeTroubles_23 hl (k := 2) rfl (hp_inc (by decide)) (by decide) rfl (fun ls hl => ?_)
    refine lv_goto (tgt := 4) hx hb dX1_unlikeTroubles_26 (by decide) ?_
    exact ih4 (z_22, (x2 + 1)) _ hf _ (lv_sub hl [2, 1, 0] rfl)
set_option maxHeartbeats 4000000 in
set_option maxRecDepth 100000 in
theorem c_X1_unlikeTroubles (l : Launch) (dC : Nat → ClassId) (dI : Nat → Nat → Nat) (cI cII : ClassId) (o_t : Nat) (a_t : Nat → Nat) (v_t : obV)  (r : Int32) (hf : f_X1_unlikeTroubles  v_t  = some r) :
    Met l yX1_unlikeTroubles (wd yX1_unlikeTroubles cX1_unlikeTroubles 3 (some .int)) ({ frames := 1, cells := 0, slots := 0, locals := 20 } : Room) (va_Pc [.ref o_t] (pB (dC, dI) vwCl (wX1 o_t a_t cI v_t) (hTY cI cII))) (vp_Si (fun z => r = z)) 0 0 (fun _ => False) := by
  refine Met.ofW (cc := cX1_unlikeTroubles) (maxL := 3) (ret := (some .int)) (by decide) rfl ?_
  intro p e s m args below meth c s₁ B hml hv
  obtain ⟨rfl, hP, hK, hN⟩ := hv
  have hx := B.exec
  have hb := B.bytes
  have hr := B.returns
  have hts := atoms_spec (ws := (wd yX1_unlikeTroubles cX1_unlikeTroubles 3 (some .int))) B.pre
  have hown : s.vm.findClass RX1 = some m.cls := findClass_of_methodNamed B.named
  have hlocks := B.notSynchronized
  have hl := lv_entry ([.ref o_t]) (n := 3) (Nat.le_of_ble_eq_true rfl)
  rw [lg_entry_eq]
  generalize (lg_sl ([.ref o_t]) ++ List.replicate (3 - (lg_sl ([.ref o_t])).length) Slot.unset).toArray = ls at hl ⊢
  have hl : lv_has ls 3 [(0, .ref o_t)] := hl
  unfold f_X1_unlikeTroubles at hf
  refine lv_iconst (v := 0) hx hb dX1_unlikeTroubles_0 (by decide) ?_
  refine lv_istore_n (lv' := [(1, .int 0), (0, .ref o_t)]) hx hb dX1_unlikeTroubles_1 rfl hl (by decide) rfl (fun ls hl => ?_)
  refine lv_iconst (v := 0) hx hb dX1_unlikeTroubles_2 (by decide) ?_
  refine lv_istore_n (lv' := [(2, .int 0), (1, .int 0), (0, .ref o_t)]) hx hb dX1_unlikeTroubles_3 rfl hl (by decide) rfl (fun ls hl => ?_)
  exact w_X1_unlikeTroubles_l4 ⟨hx, hb, hml, hown, hts, hr, hlocks, hK, hN⟩  hP _ _ _ hf _ (lv_sub hl [2, 1, 0] rfl)
set_option maxHeartbeats 4000000 in
set_option maxRecDepth 100000 in
theorem c_X2_takeComings (l : Launch) (dC : Nat → ClassId) (dI : Nat → Nat → Nat) (cI cII : ClassId) (o_t : Nat) (a_t : Nat → Nat) (o_a1 : Nat) (a_a1 : Nat → Nat) (v_t : obV) (v_a1 : obV)  (sz : Nat) (r : obV) (hf : f_X2_takeComings  v_t v_a1  = some r) :
    Met l yX2_takeComings (wd yX2_takeComings cX2_takeComings 2 none) ({ frames := 1, cells := 0, slots := 0, locals := 40 } : Room) (va_Pc [.ref o_t, .ref o_a1] (qB (dC, dI) vwCl (wX2 o_t a_t cI v_t ++ (wX1 o_a1 a_a1 cI v_a1)) (hTY cI cII) sz)) (va_Qv (fun (_ : Unit) => True) (fun _ t => va_P (dC, dI) vwCl (wX2 o_t a_t cI r ++ (wX1 o_a1 a_a1 cI v_a1)) t.heap ∧ va_D (va_A (wX2 o_t a_t cI v_t ++ (wX1 o_a1 a_a1 cI v_a1)) sz) (wX2 o_t a_t cI r ++ (wX1 o_a1 a_a1 cI v_a1))) (va_A (wX2 o_t a_t cI v_t ++ (wX1 o_a1 a_a1 cI v_a1)) sz)) 0 0 (va_A (wX2 o_t a_t cI v_t ++ (wX1 o_a1 a_a1 cI v_a1)) sz) := by
  refine Met.ofW (cc := cX2_takeComings) (maxL := 2) (ret := none) (by decide) rfl ?_
  intro p e s m args below meth c s₁ B hml hv
  obtain ⟨rfl, hsz, hD0, hP, hK, hN⟩ := hv
  have hx := B.exec
  have hb := B.bytes
  have hr := B.returns
  have hts := atoms_spec (ws := (wd yX2_takeComings cX2_takeComings 2 none)) B.pre
  have hown : s.vm.findClass RX2 = some m.cls := findClass_of_methodNamed B.named
  have hlocks := B.notSynchronized
  subst hsz
  have hD := hD0.self (sz := s.heap.size)
  generalize hAe : va_A (wX2 o_t a_t cI v_t ++ (wX1 o_a1 a_a1 cI v_a1)) s.heap.size = A at hD ⊢
  have hA : ∀ q : Nat, s.heap.size ≤ q → A q := fun q h => by rw [← hAe]; exact Or.inr h
  have hS : va_S A s.heap s.heap [] := va_S.rf
  have hl := lv_entry ([.ref o_t, .ref o_a1]) (n := 2) (Nat.le_of_ble_eq_true rfl)
  rw [lg_entry_eq]
  generalize (lg_sl ([.ref o_t, .ref o_a1]) ++ List.replicate (2 - (lg_sl ([.ref o_t, .ref o_a1])).length) Slot.unset).toArray = ls at hl ⊢
  have hl : lv_has ls 2 [(0, .ref o_t), (1, .ref o_a1)] := hl
  clear hAe hD0
  unfold f_X2_takeComings at hf
  refine lv_aload_n hx hb dX2_takeComings_0 rfl (lv_at hl 1 rfl) ?_
  refine va_get (D := (dC, dI)) (ci := 1) (v := .ref (a_a1 2)) (C := RX1) (T := TX1) (N := 7) hx hb hts hw_X1 hown hK hP 5 rfl rfl 2 (by decide) (hts _ (List.mem_cons_of_mem _ mw_120)) (fun _ h9 => h9) rfl dX2_takeComings_1 ?_
  refine lv_iconst (v := 0) hx hb dX2_takeComings_4 (by decide) ?_
  refine lv_aload_n hx hb dX2_takeComings_5 rfl (lv_at hl 0 rfl) ?_
  refine va_get (D := (dC, dI)) (ci := 2) (v := .ref (a_t 0)) (C := RX2) (T := TX2) (N := 8) hx hb hts hw_X2 hown hK hP 0 rfl rfl 0 (by decide) (hts _ (List.mem_cons_of_mem _ mw_155)) (fun _ h9 => h9) rfl dX2_takeComings_6 ?_
  refine lv_iconst (v := 0) hx hb dX2_takeComings_9 (by decide) ?_
  refine lv_iconst (v := 5) hx hb dX2_takeComings_10 (by decide) ?_
  refine va_copyi (n0 := 5) (n1 := 5) (f := (v_a1.2 2)) (g := (v_t.2 0)) hx hb (hml.trans hl.1.symm) hown (hts _ (List.mem_cons_of_mem _ mw_334)) (hts _ (List.mem_cons_of_mem _ mw_336)) (hts _ (List.mem_cons_of_mem _ mw_335)) (hts _ (List.mem_cons_of_mem _ mw_62)) hK hP hD hS 8 1 0 0 rfl rfl rfl rfl rfl (by decide) (by decide) (by decide) (by decide) (by decide) (fun _ _ => rfl) (Nat.le_of_ble_eq_true rfl) (Nat.le_of_ble_eq_true rfl) dX2_takeComings_11 (fun H locs hP hD hS => ?_)
  have hP : va_P (dC, dI) vwCl (wX2 o_t a_t cI (oC v_t 0 (va_cpy (v_a1.2 2) (v_t.2 0) 0 0 5)) ++ (wX1 o_a1 a_a1 cI v_a1)) H := hP
  have hD : va_D A (wX2 o_t a_t cI (oC v_t 0 (va_cpy (v_a1.2 2) (v_t.2 0) 0 0 5)) ++ (wX1 o_a1 a_a1 cI v_a1)) := hD
  obtain ⟨v_t_11, e_v_t_11⟩ : ∃ z : obV, z = (oC v_t 0 (va_cpy (v_a1.2 2) (v_t.2 0) 0 0 5)) := ⟨_, rfl⟩
  rw [← e_v_t_11] at hP hD
  have hf := ho_l hf v_t_11 e_v_t_11
  obtain rfl := Option.some.inj hf
  exact W.vret hx hb hr (fun t ht hW => ⟨⟨(), rfl, trivial, by rw [ht]; exact hP, hD⟩, hS.F ht⟩) hS.2.2 dX2_takeComings_14 hlocks
set_option maxHeartbeats 4000000 in
set_option maxRecDepth 100000 in
theorem w_X2_begin_l28 {p : Program} {l : Launch} {e : Env} {s : State} {m : MethodId} {args : Array Value} {below : List Frame} {meth : Method} {c : Code} {dC : Nat → ClassId} {dI : Nat → Nat → Nat} {cI cII : ClassId} {o_t : Nat} {a_t : Nat → Nat} {o_a1 : Nat} {a_a1 : Nat → Nat} {A : Nat → Prop} (C0 : hC p s m args meth c dC dI cI cII RX2 cX2_begin 3 (wd yX2_begin cX2_begin 3 none) none) (hA : ∀ q, s.heap.size ≤ q → A q)  {v_a1 : obV}    :
    ∀ (n : Nat) (y : obV × Int32) (r : obV), f_X2_begin_l28  v_a1  n y = some r → ∀ (H : Heap) (locs : List Loc) (ls : Array Slot), va_P (dC, dI) vwCl (wX2 o_t a_t cI y.1 ++ (wX1 o_a1 a_a1 cI v_a1)) H → va_D A (wX2 o_t a_t cI y.1 ++ (wX1 o_a1 a_a1 cI v_a1)) → va_S A s.heap H locs → lv_has ls 3 [(0, .ref o_t), (2, .int y.2)] → W p l e ({ frames := 0, cells := 0, slots := 0, locals := 0 } : Room) s m args below meth c H locs 0 0 (MQ below (va_Qv (fun (_ : Unit) => True) (fun _ t => va_P (dC, dI) vwCl (wX2 o_t a_t cI r ++ (wX1 o_a1 a_a1 cI v_a1)) t.heap ∧ va_D A (wX2 o_t a_t cI r ++ (wX1 o_a1 a_a1 cI v_a1))) A) args s 0 0 A) (F0 m 28 ls []) := by
  obtain ⟨hx, hb, hml, hown, hts, hr, hlocks, hK, hN⟩ := C0
  refine lp_W ?_
  intro k28 ih28 y r hf H locs ls hP hD hS hl
  obtain ⟨v_t, x2⟩ := y
  have hf : f_X2_begin_b28  v_t v_a1 x2  k28 = some r := hf
  have hP : va_P (dC, dI) vwCl (wX2 o_t a_t cI v_t ++ (wX1 o_a1 a_a1 cI v_a1)) H := hP
  have hD : va_D A (wX2 o_t a_t cI v_t ++ (wX1 o_a1 a_a1 cI v_a1)) := hD
  have hl : lv_has ls 3 [(0, .ref o_t), (2, .int x2)] := hl
  unfold f_X2_begin_b28 at hf
  refine lv_iload_n hx hb dX2_begin_28 rfl (lv_at hl 1 rfl) ?_
  refine lv_aload_n hx hb dX2_begin_29 rfl (lv_at hl 0 rfl) ?_
  refine va_get (D := (dC, dI)) (ci := 2) (v := .int (v_t.1 4)) (C := RX2) (T := TX2) (N := 8) hx hb hts hw_X2 hown hK hP 0 rfl rfl 4 (by decide) (hts _ (List.mem_cons_of_mem _ mw_165)) (fun _ h9 => h9) rfl dX2_begin_30 ?_
  refine lv_icmp_ge (tgt := 56) hx hb dX2_begin_33 (by decide) (fun c_33 => ?_) (fun c_33 => ?_)
  · have hf := ho_t hf c_33
    obtain rfl := Option.some.inj hf
    exact W.vret hx hb hr (fun t ht hW => ⟨⟨(), rfl, trivial, by rw [ht]; exact hP, hD⟩, hS.F ht⟩) hS.2.2 dX2_begin_56 hlocks
  · have hf := ho_f hf c_33
    refine lv_aload_n hx hb dX2_begin_36 rfl (lv_at hl 0 rfl) ?_
    refine va_get (D := (dC, dI)) (ci := 2) (v := .ref (a_t 1)) (C := RX2) (T := TX2) (N := 8) hx hb hts hw_X2 hown hK hP 0 rfl rfl 1 (by decide) (hts _ (List.mem_cons_of_mem _ mw_158)) (fun _ h9 => h9) rfl dX2_begin_37 ?_
    refine lv_iload_n hx hb dX2_begin_40 rfl (lv_at hl 1 rfl) ?_
    refine lv_iconst (v := (-1)) hx hb dX2_begin_41 (by decide) ?_
    obtain ⟨h_42, hf⟩ := ho_g hf
    refine va_iast (n := 5) (f := (v_t.2 1)) hx hb hK hP hD hS 2 0 rfl rfl h_42 dX2_begin_42 (fun H locs hP hD hS => ?_)
    have hP : va_P (dC, dI) vwCl (wX2 o_t a_t cI (oA v_t 1 (Int32.toNatClampNeg x2) (-1)) ++ (wX1 o_a1 a_a1 cI v_a1)) H := hP
    have hD : va_D A (wX2 o_t a_t cI (oA v_t 1 (Int32.toNatClampNeg x2) (-1)) ++ (wX1 o_a1 a_a1 cI v_a1)) := hD
    obtain ⟨v_t_42, e_v_t_42⟩ : ∃ z : obV, z = (oA v_t 1 (Int32.toNatClampNeg x2) (-1)) := ⟨_, rfl⟩
    rw [← e_v_t_42] at hP hD
    have hf := ho_l hf v_t_42 e_v_t_42
    refine lv_aload_n hx hb dX2_begin_43 rfl (lv_at hl 0 rfl) ?_
    refine va_get (D := (dC, dI)) (ci := 2) (v := .ref (a_t 2)) (C := RX2) (T := TX2) (N := 8) hx hb hts hw_X2 hown hK hP 0 rfl rfl 2 (by decide) (hts _ (List.mem_cons_of_mem _ mw_160)) (fun _ h9 => h9) rfl dX2_begin_44 ?_
    refine lv_iload_n hx hb dX2_begin_47 rfl (lv_at hl 1 rfl) ?_
    refine lv_iconst (v := (-1)) hx hb dX2_begin_48 (by decide) ?_
    obtain ⟨h_49, hf⟩ := ho_g hf
    refine va_iast (n := 5) (f := (v_t_42.2 2)) hx hb hK hP hD hS 3 0 rfl rfl h_49 dX2_begin_49 (fun H locs hP hD hS => ?_)
    have hP : va_P (dC, dI) vwCl (wX2 o_t a_t cI (oA v_t_42 2 (Int32.toNatClampNeg x2) (-1)) ++ (wX1 o_a1 a_a1 cI v_a1)) H := hP
    have hD : va_D A (wX2 o_t a_t cI (oA v_t_42 2 (Int32.toNatClampNeg x2) (-1)) ++ (wX1 o_a1 a_a1 cI v_a1)) := hD
    obtain ⟨v_t_49, e_v_t_49⟩ : ∃ z : obV, z = (oA v_t_42 2 (Int32.toNatClampNeg x2) (-1)) := ⟨_, rfl⟩
    rw [← e_v_t_49] at hP hD
    have hf := ho_l hf v_t_49 e_v_t_49
    refine lv_iinc (v := (x2 + 1)) (lv' := [(2, .int (x2 + 1)), (0, .ref o_t)]) hx hb dX2_begin_50 hl (k := 1) rfl (hp_inc (by decide)) (by decide) rfl (fun ls hl => ?_)
    refine lv_goto (tgt := 28) hx hb dX2_begin_53 (by decide) ?_
    exact ih28 (v_t_49, (x2 + 1)) _ hf _ _ _ hP hD hS (lv_sub hl [1, 0] rfl)
set_option maxHeartbeats 4000000 in
set_option maxRecDepth 100000 in
theorem c_X2_begin (l : Launch) (dC : Nat → ClassId) (dI : Nat → Nat → Nat) (cI cII : ClassId) (o_t : Nat) (a_t : Nat → Nat) (o_a1 : Nat) (a_a1 : Nat → Nat) (v_t : obV) (v_a1 : obV)  (sz : Nat) (r : obV) (hf : f_X2_begin  v_t v_a1  = some r) :
    Met l yX2_begin (wd yX2_begin cX2_begin 3 none) ({ frames := 0, cells := 0, slots := 0, locals := 0 } : Room) (va_Pc [.ref o_t, .ref o_a1] (qB (dC, dI) vwCl (wX2 o_t a_t cI v_t ++ (wX1 o_a1 a_a1 cI v_a1)) (hTY cI cII) sz)) (va_Qv (fun (_ : Unit) => True) (fun _ t => va_P (dC, dI) vwCl (wX2 o_t a_t cI r ++ (wX1 o_a1 a_a1 cI v_a1)) t.heap ∧ va_D (va_A (wX2 o_t a_t cI v_t ++ (wX1 o_a1 a_a1 cI v_a1)) sz) (wX2 o_t a_t cI r ++ (wX1 o_a1 a_a1 cI v_a1))) (va_A (wX2 o_t a_t cI v_t ++ (wX1 o_a1 a_a1 cI v_a1)) sz)) 0 0 (va_A (wX2 o_t a_t cI v_t ++ (wX1 o_a1 a_a1 cI v_a1)) sz) := by
  refine Met.ofW (cc := cX2_begin) (maxL := 3) (ret := none) (by decide) rfl ?_
  intro p e s m args below meth c s₁ B hml hv
  obtain ⟨rfl, hsz, hD0, hP, hK, hN⟩ := hv
  have hx := B.exec
  have hb := B.bytes
  have hr := B.returns
  have hts := atoms_spec (ws := (wd yX2_begin cX2_begin 3 none)) B.pre
  have hown : s.vm.findClass RX2 = some m.cls := findClass_of_methodNamed B.named
  have hlocks := B.notSynchronized
  subst hsz
  have hD := hD0.self (sz := s.heap.size)
  generalize hAe : va_A (wX2 o_t a_t cI v_t ++ (wX1 o_a1 a_a1 cI v_a1)) s.heap.size = A at hD ⊢
  have hA : ∀ q : Nat, s.heap.size ≤ q → A q := fun q h => by rw [← hAe]; exact Or.inr h
  have hS : va_S A s.heap s.heap [] := va_S.rf
  have hl := lv_entry ([.ref o_t, .ref o_a1]) (n := 3) (Nat.le_of_ble_eq_true rfl)
  rw [lg_entry_eq]
  generalize (lg_sl ([.ref o_t, .ref o_a1]) ++ List.replicate (3 - (lg_sl ([.ref o_t, .ref o_a1])).length) Slot.unset).toArray = ls at hl ⊢
  have hl : lv_has ls 3 [(0, .ref o_t), (1, .ref o_a1)] := hl
  clear hAe hD0
  unfold f_X2_begin at hf
  refine lv_aload_n hx hb dX2_begin_0 rfl (lv_at hl 0 rfl) ?_
  refine lv_aload_n hx hb dX2_begin_1 rfl (lv_at hl 1 rfl) ?_
  refine va_get (D := (dC, dI)) (ci := 1) (v := .int (v_a1.1 4)) (C := RX1) (T := TX1) (N := 7) hx hb hts hw_X1 hown hK hP 5 rfl rfl 4 (by decide) (hts _ (List.mem_cons_of_mem _ mw_127)) (fun _ h9 => h9) rfl dX2_begin_2 ?_
  refine va_put (D := (dC, dI)) (ci := 2) (v := .int (v_a1.1 4)) (ty := .int) (C := RX2) (T := TX2) (N := 8) hx hb hts hw_X2 tyX2 tyX2_ok nmX2 hown hK hP hD hS 0 rfl rfl 4 (by decide) (hts _ (List.mem_cons_of_mem _ mw_165)) (fun _ h9 => h9) rfl (by decide +kernel) rfl rfl (Nat.le_of_ble_eq_true rfl) dX2_begin_5 (fun H locs hP hD hS => ?_)
  have hP : va_P (dC, dI) vwCl (wX2 o_t a_t cI (oF v_t 4 (v_a1.1 4)) ++ (wX1 o_a1 a_a1 cI v_a1)) H := hP
  have hD : va_D A (wX2 o_t a_t cI (oF v_t 4 (v_a1.1 4)) ++ (wX1 o_a1 a_a1 cI v_a1)) := hD
  obtain ⟨v_t_5, e_v_t_5⟩ : ∃ z : obV, z = (oF v_t 4 (v_a1.1 4)) := ⟨_, rfl⟩
  rw [← e_v_t_5] at hP hD
  have hf := ho_l hf v_t_5 e_v_t_5
  refine lv_aload_n hx hb dX2_begin_8 rfl (lv_at hl 0 rfl) ?_
  refine lv_aload_n hx hb dX2_begin_9 rfl (lv_at hl 1 rfl) ?_
  refine va_get (D := (dC, dI)) (ci := 1) (v := .int (v_a1.1 5)) (C := RX1) (T := TX1) (N := 7) hx hb hts hw_X1 hown hK hP 5 rfl rfl 5 (by decide) (hts _ (List.mem_cons_of_mem _ mw_130)) (fun _ h9 => h9) rfl dX2_begin_10 ?_
  refine va_put (D := (dC, dI)) (ci := 2) (v := .int (v_a1.1 5)) (ty := .int) (C := RX2) (T := TX2) (N := 8) hx hb hts hw_X2 tyX2 tyX2_ok nmX2 hown hK hP hD hS 0 rfl rfl 5 (by decide) (hts _ (List.mem_cons_of_mem _ mw_166)) (fun _ h9 => h9) rfl (by decide +kernel) rfl rfl (Nat.le_of_ble_eq_true rfl) dX2_begin_13 (fun H locs hP hD hS => ?_)
  have hP : va_P (dC, dI) vwCl (wX2 o_t a_t cI (oF v_t_5 5 (v_a1.1 5)) ++ (wX1 o_a1 a_a1 cI v_a1)) H := hP
  have hD : va_D A (wX2 o_t a_t cI (oF v_t_5 5 (v_a1.1 5)) ++ (wX1 o_a1 a_a1 cI v_a1)) := hD
  obtain ⟨v_t_13, e_v_t_13⟩ : ∃ z : obV, z = (oF v_t_5 5 (v_a1.1 5)) := ⟨_, rfl⟩
  rw [← e_v_t_13] at hP hD
  have hf := ho_l hf v_t_13 e_v_t_13
  refine lv_aload_n hx hb dX2_begin_16 rfl (lv_at hl 0 rfl) ?_
  refine lv_iconst (v := 0) hx hb dX2_begin_17 (by decide) ?_
  refine va_put (D := (dC, dI)) (ci := 2) (v := .int 0) (ty := .int) (C := RX2) (T := TX2) (N := 8) hx hb hts hw_X2 tyX2 tyX2_ok nmX2 hown hK hP hD hS 0 rfl rfl 6 (by decide) (hts _ (List.mem_cons_of_mem _ mw_168)) (fun _ h9 => h9) rfl (by decide +kernel) rfl rfl (Nat.le_of_ble_eq_true rfl) dX2_begin_18 (fun H locs hP hD hS => ?_)
  have hP : va_P (dC, dI) vwCl (wX2 o_t a_t cI (oF v_t_13 6 0) ++ (wX1 o_a1 a_a1 cI v_a1)) H := hP
  have hD : va_D A (wX2 o_t a_t cI (oF v_t_13 6 0) ++ (wX1 o_a1 a_a1 cI v_a1)) := hD
  obtain ⟨v_t_18, e_v_t_18⟩ : ∃ z : obV, z = (oF v_t_13 6 0) := ⟨_, rfl⟩
  rw [← e_v_t_18] at hP hD
  have hf := ho_l hf v_t_18 e_v_t_18
  refine lv_aload_n hx hb dX2_begin_21 rfl (lv_at hl 0 rfl) ?_
  refine lv_iconst (v := (-1)) hx hb dX2_begin_22 (by decide) ?_
  refine va_put (D := (dC, dI)) (ci := 2) (v := .int (-1)) (ty := .int) (C := RX2) (T := TX2) (N := 8) hx hb hts hw_X2 tyX2 tyX2_ok nmX2 hown hK hP hD hS 0 rfl rfl 7 (by decide) (hts _ (List.mem_cons_of_mem _ mw_169)) (fun _ h9 => h9) rfl (by decide +kernel) rfl rfl (Nat.le_of_ble_eq_true rfl) dX2_begin_23 (fun H locs hP hD hS => ?_)
  have hP : va_P (dC, dI) vwCl (wX2 o_t a_t cI (oF v_t_18 7 (-1)) ++ (wX1 o_a1 a_a1 cI v_a1)) H := hP
  have hD : va_D A (wX2 o_t a_t cI (oF v_t_18 7 (-1)) ++ (wX1 o_a1 a_a1 cI v_a1)) := hD
  obtain ⟨v_t_23, e_v_t_23⟩ : ∃ z : obV, z = (oF v_t_18 7 (-1)) := ⟨_, rfl⟩
  rw [← e_v_t_23] at hP hD
  have hf := ho_l hf v_t_23 e_v_t_23
  refine lv_iconst (v := 0) hx hb dX2_begin_26 (by decide) ?_
  refine lv_istore_n (lv' := [(2, .int 0), (0, .ref o_t), (1, .ref o_a1)]) hx hb dX2_begin_27 rfl hl (by decide) rfl (fun ls hl => ?_)
  exact w_X2_begin_l28 ⟨hx, hb, hml, hown, hts, hr, hlocks, hK, hN⟩ hA  _ _ _ hf _ _ _ hP hD hS (lv_sub hl [1, 0] rfl)
set_option maxHeartbeats 4000000 in
set_option maxRecDepth 100000 in
theorem c_X2_isAhead (l : Launch) (dC : Nat → ClassId) (dI : Nat → Nat → Nat) (cI cII : ClassId) (o_t : Nat) (a_t : Nat → Nat) (o_a1 : Nat) (a_a1 : Nat → Nat) (v_t : obV) (v_a1 : obV) (x2 : Int32) (x3 : Int32) (r : Int32) (hf : f_X2_isAhead  v_t v_a1 x2 x3 = some r) :
    Met l yX2_isAhead (wd yX2_isAhead cX2_isAhead 5 (some .boolean)) ({ frames := 1, cells := 0, slots := 0, locals := 23 } : Room) (va_Pc [.ref o_t, .ref o_a1, .int x2, .int x3] (pB (dC, dI) vwCl (wX2 o_t a_t cI v_t ++ (wX1 o_a1 a_a1 cI v_a1)) (hTY cI cII))) (vp_Si (fun z => r = z)) 0 0 (fun _ => False) := by
  refine Met.ofW (cc := cX2_isAhead) (maxL := 5) (ret := (some .boolean)) (by decide) rfl ?_
  intro p e s m args below meth c s₁ B hml hv
  obtain ⟨rfl, hP, hK, hN⟩ := hv
  have hx := B.exec
  have hb := B.bytes
  have hr := B.returns
  have hts := atoms_spec (ws := (wd yX2_isAhead cX2_isAhead 5 (some .boolean))) B.pre
  have hown : s.vm.findClass RX2 = some m.cls := findClass_of_methodNamed B.named
  have hlocks := B.notSynchronized
  have hl := lv_entry ([.ref o_t, .ref o_a1, .int x2, .int x3]) (n := 5) (Nat.le_of_ble_eq_true rfl)
  rw [lg_entry_eq]
  generalize (lg_sl ([.ref o_t, .ref o_a1, .int x2, .int x3]) ++ List.replicate (5 - (lg_sl ([.ref o_t, .ref o_a1, .int x2, .int x3])).length) Slot.unset).toArray = ls at hl ⊢
  have hl : lv_has ls 5 [(0, .ref o_t), (1, .ref o_a1), (2, .int x2), (3, .int x3)] := hl
  unfold f_X2_isAhead at hf
  refine lv_aload_n hx hb dX2_isAhead_0 rfl (lv_at hl 1 rfl) ?_
  refine lv_iload_n hx hb dX2_isAhead_1 rfl (lv_at hl 2 rfl) ?_
  refine lv_iconst (v := 2) hx hb dX2_isAhead_2 (by decide) ?_
  obtain ⟨u_3, e_3, hf⟩ := ho_b hf
  have hPc := hP.sub (ws' := (wX1 o_a1 a_a1 cI v_a1)) [5, 6, 7, 8] rfl
  refine vp_callSi (va_runV (As := [.int x2, .int 2]) (rest := []) ⟨hx, hb, hml, hown, hts⟩ (c_X1_isKind l dC dI cI cII o_a1 a_a1 v_a1 (x2) (2) u_3 e_3) (cwV 2 hts (hw_giV mw_353 mw_354 mw_355 mw_55 mw_356) rfl rfl rfl (by decide +kernel) ⟨Nat.le_of_ble_eq_true rfl, Nat.le_of_ble_eq_true rfl⟩) ⟨pB_blind, va_recv hK hPc (ci := 1) (q0 := 0) rfl rfl, fun U hU hW => ⟨rfl, pB_go hPc hK hN hU hW⟩⟩ rfl rfl hl.1 rfl (lv_room (Nat.le_of_ble_eq_true rfl)) dX2_isAhead_3 ⟨Nat.zero_le _, Nat.zero_le _⟩).run (fun z_3 ez_3 => ?_)
  subst ez_3
  refine lv_istore (lv' := [(4, .int u_3), (0, .ref o_t), (1, .ref o_a1), (2, .int x2), (3, .int x3)]) hx hb dX2_isAhead_6 hl (by decide) rfl (fun ls hl => ?_)
  refine lv_iload hx hb dX2_isAhead_8 (lv_at hl 0 rfl) ?_
  refine lv_aload_n hx hb dX2_isAhead_10 rfl (lv_at hl 2 rfl) ?_
  refine lv_iload_n hx hb dX2_isAhead_11 rfl (lv_at hl 4 rfl) ?_
  refine lv_iconst (v := 2) hx hb dX2_isAhead_12 (by decide) ?_
  obtain ⟨u_13, e_13, hf⟩ := ho_b hf
  have hPc := hP.sub (ws' := (wX1 o_a1 a_a1 cI v_a1)) [5, 6, 7, 8] rfl
  refine vp_callSi (va_runV (As := [.int x3, .int 2]) (rest := [.int u_3]) ⟨hx, hb, hml, hown, hts⟩ (c_X1_isKind l dC dI cI cII o_a1 a_a1 v_a1 (x3) (2) u_13 e_13) (cwV 2 hts (hw_giV mw_353 mw_354 mw_355 mw_55 mw_356) rfl rfl rfl (by decide +kernel) ⟨Nat.le_of_ble_eq_true rfl, Nat.le_of_ble_eq_true rfl⟩) ⟨pB_blind, va_recv hK hPc (ci := 1) (q0 := 0) rfl rfl, fun U hU hW => ⟨rfl, pB_go hPc hK hN hU hW⟩⟩ rfl rfl hl.1 rfl (lv_room (Nat.le_of_ble_eq_true rfl)) dX2_isAhead_13 ⟨Nat.zero_le _, Nat.zero_le _⟩).run (fun z_13 ez_13 => ?_)
  subst ez_13
  refine lv_icmp_eq (tgt := 22) hx hb dX2_isAhead_16 (by decide) (fun c_16 => ?_) (fun c_16 => ?_)
  · have hf := ho_t hf c_16
    refine lv_aload_n hx hb dX2_isAhead_22 rfl (lv_at hl 1 rfl) ?_
    refine va_get (D := (dC, dI)) (ci := 2) (v := .ref (a_t 0)) (C := RX2) (T := TX2) (N := 8) hx hb hts hw_X2 hown hK hP 0 rfl rfl 0 (by decide) (hts _ (List.mem_cons_of_mem _ mw_155)) (fun _ h9 => h9) rfl dX2_isAhead_23 ?_
    refine lv_iload_n hx hb dX2_isAhead_26 rfl (lv_at hl 3 rfl) ?_
    obtain ⟨h_27, hf⟩ := ho_g hf
    refine va_iald (n := 5) (f := (v_t.2 0)) hx hb hK hP 1 0 rfl rfl h_27 dX2_isAhead_27 ?_
    refine lv_aload_n hx hb dX2_isAhead_28 rfl (lv_at hl 1 rfl) ?_
    refine va_get (D := (dC, dI)) (ci := 2) (v := .ref (a_t 0)) (C := RX2) (T := TX2) (N := 8) hx hb hts hw_X2 hown hK hP 0 rfl rfl 0 (by decide) (hts _ (List.mem_cons_of_mem _ mw_155)) (fun _ h9 => h9) rfl dX2_isAhead_29 ?_
    refine lv_iload_n hx hb dX2_isAhead_32 rfl (lv_at hl 4 rfl) ?_
    obtain ⟨h_33, hf⟩ := ho_g hf
    refine va_iald (n := 5) (f := (v_t.2 0)) hx hb hK hP 1 0 rfl rfl h_33 dX2_isAhead_33 ?_
    refine lv_icmp_ge (tgt := 41) hx hb dX2_isAhead_34 (by decide) (fun c_34 => ?_) (fun c_34 => ?_)
    · have hf := ho_t hf c_34
      refine lv_iconst (v := 0) hx hb dX2_isAhead_41 (by decide) ?_
      obtain rfl := Option.some.inj hf
      exact W.zret (v := 0) hx hb hr (by decide) (fun t ht hW => ⟨_, rfl, rfl, ht⟩) (fun q hq => by cases hq) dX2_isAhead_42 hlocks
    · have hf := ho_f hf c_34
      refine lv_iconst (v := 1) hx hb dX2_isAhead_37 (by decide) ?_
      refine lv_goto (tgt := 42) hx hb dX2_isAhead_38 (by decide) ?_
      obtain rfl := Option.some.inj hf
      exact W.zret (v := 1) hx hb hr (by decide) (fun t ht hW => ⟨_, rfl, rfl, ht⟩) (fun q hq => by cases hq) dX2_isAhead_42 hlocks
  · have hf := ho_f hf c_16
    refine lv_iload hx hb dX2_isAhead_19 (lv_at hl 0 rfl) ?_
    obtain ⟨h_21, hf⟩ := ho_g hf
    obtain rfl := Option.some.inj hf
    exact W.zret (v := u_3) hx hb hr (hp_z h_21) (fun t ht hW => ⟨_, rfl, rfl, ht⟩) (fun q hq => by cases hq) dX2_isAhead_21 hlocks
set_option maxHeartbeats 4000000 in
set_option maxRecDepth 100000 in
theorem w_X2_firstInLine_b41 {p : Program} {l : Launch} {e : Env} {s : State} {m : MethodId} {args : Array Value} {below : List Frame} {meth : Method} {c : Code} {dC : Nat → ClassId} {dI : Nat → Nat → Nat} {cI cII : ClassId} {o_t : Nat} {a_t : Nat → Nat} {o_a1 : Nat} {a_a1 : Nat → Nat} (C0 : hC p s m args meth c dC dI cI cII RX2 cX2_firstInLine 6 (wd yX2_firstInLine cX2_firstInLine 6 (some .int)) (some .int))  {v_t : obV} {v_a1 : obV} {x2 : Int32} {x3 : Int32} {x4 : Int32} {s0 : Int32} {k5 : Int32 × Int32 → Option (Int32)} (ih5 : ∀ (y : Int32 × Int32) (r : Int32), k5 y = some r → ∀ (ls : Array Slot), lv_has ls 6 [(0, .ref o_t), (1, .ref o_a1), (2, .int x2), (3, .int y.1), (4, .int y.2)] → W p l e ({ frames := 2, cells := 0, slots := 0, locals := 47 } : Room) s m args below meth c s.heap [] 0 0 (MQ below (vp_Si (fun z => r = z)) args s 0 0 (fun _ => False)) (F0 m 5 ls [])) (hP : va_P (dC, dI) vwCl (wX2 o_t a_t cI v_t ++ (wX1 o_a1 a_a1 cI v_a1)) s.heap) {r : Int32} (hf : f_X2_firstInLine_b41  v_t v_a1 x2 x3 x4 s0 k5 = some r) {ls : Array Slot} (hl : lv_has ls 6 [(0, .ref o_t), (1, .ref o_a1), (2, .int x2), (3, .int x3), (4, .int x4)]) :
    W p l e ({ frames := 2, cells := 0, slots := 0, locals := 47 } : Room) s m args below meth c s.heap [] 0 0 (MQ below (vp_Si (fun z => r = z)) args s 0 0 (fun _ => False)) (F0 m 41 ls [.int s0]) := by
  obtain ⟨hx, hb, hml, hown, hts, hr, hlocks, hK, hN⟩ := C0
  unfold f_X2_firstInLine_b41 at hf
  refine lv_istore (lv' := [(5, .int s0), (0, .ref o_t), (1, .ref o_a1), (2, .int x2), (3, .int x3), (4, .int x4)]) hx hb dX2_firstInLine_41 hl (by decide) rfl (fun ls hl => ?_)
  refine lv_iload hx hb dX2_firstInLine_43 (lv_at hl 0 rfl) ?_
  refine lv_if_eq (tgt := 67) hx hb dX2_firstInLine_45 (by decide) (fun c_45 => ?_) (fun c_45 => ?_)
  · have hf := ho_t hf c_45
    refine lv_iinc (v := (x4 + 1)) (lv' := [(4, .int (x4 + 1)), (5, .int s0), (0, .ref o_t), (1, .ref o_a1), (2, .int x2), (3, .int x3)]) hx hb dX2_firstInLine_67 hl (k := 5) rfl (hp_inc (by decide)) (by decide) rfl (fun ls hl => ?_)
    refine lv_goto (tgt := 5) hx hb dX2_firstInLine_70 (by decide) ?_
    exact ih5 (x3, (x4 + 1)) _ hf _ (lv_sub hl [2, 3, 4, 5, 0] rfl)
  · have hf := ho_f hf c_45
    refine lv_iload_n hx hb dX2_firstInLine_48 rfl (lv_at hl 4 rfl) ?_
    refine lv_iconst (v := (-1)) hx hb dX2_firstInLine_49 (by decide) ?_
    refine lv_icmp_eq (tgt := 64) hx hb dX2_firstInLine_50 (by decide) (fun c_50 => ?_) (fun c_50 => ?_)
    · have hf := ho_t hf c_50
      refine lv_iload hx hb dX2_firstInLine_64 (lv_at hl 5 rfl) ?_
      refine lv_istore_n (lv' := [(3, .int x4), (5, .int s0), (0, .ref o_t), (1, .ref o_a1), (2, .int x2), (4, .int x4)]) hx hb dX2_firstInLine_66 rfl hl (by decide) rfl (fun ls hl => ?_)
      refine lv_iinc (v := (x4 + 1)) (lv' := [(4, .int (x4 + 1)), (3, .int x4), (5, .int s0), (0, .ref o_t), (1, .ref o_a1), (2, .int x2)]) hx hb dX2_firstInLine_67 hl (k := 5) rfl (hp_inc (by decide)) (by decide) rfl (fun ls hl => ?_)
      refine lv_goto (tgt := 5) hx hb dX2_firstInLine_70 (by decide) ?_
      exact ih5 (x4, (x4 + 1)) _ hf _ (lv_sub hl [3, 4, 5, 1, 0] rfl)
    · have hf := ho_f hf c_50
      refine lv_aload_n hx hb dX2_firstInLine_53 rfl (lv_at hl 1 rfl) ?_
      refine lv_aload_n hx hb dX2_firstInLine_54 rfl (lv_at hl 2 rfl) ?_
      refine lv_iload hx hb dX2_firstInLine_55 (lv_at hl 5 rfl) ?_
      refine lv_iload_n hx hb dX2_firstInLine_57 rfl (lv_at hl 4 rfl) ?_
      obtain ⟨u_58, e_58, hf⟩ := ho_b hf
      refine vp_callSi (va_runV (As := [.ref o_a1, .int x4, .int x3]) (rest := []) ⟨hx, hb, hml, hown, hts⟩ (c_X2_isAhead l dC dI cI cII o_t a_t o_a1 a_a1 v_t v_a1 (x4) (x3) u_58 e_58) (cwV 3 hts (hw_giV mw_349 mw_351 mw_3 mw_57 mw_352) rfl rfl rfl (by decide +kernel) ⟨Nat.le_of_ble_eq_true rfl, Nat.le_of_ble_eq_true rfl⟩) ⟨pB_blind, va_recv hK hP (ci := 2) (q0 := 0) rfl rfl, fun U hU hW => ⟨rfl, pB_go hP hK hN hU hW⟩⟩ rfl rfl hl.1 rfl (lv_room (Nat.le_of_ble_eq_true rfl)) dX2_firstInLine_58 ⟨Nat.zero_le _, Nat.zero_le _⟩).run (fun z_58 ez_58 => ?_)
      subst ez_58
      refine lv_if_eq (tgt := 67) hx hb dX2_firstInLine_61 (by decide) (fun c_61 => ?_) (fun c_61 => ?_)
      · have hf := ho_t hf c_61
        refine lv_iinc (v := (x4 + 1)) (lv' := [(4, .int (x4 + 1)), (5, .int s0), (0, .ref o_t), (1, .ref o_a1), (2, .int x2), (3, .int x3)]) hx hb dX2_firstInLine_67 hl (k := 5) rfl (hp_inc (by decide)) (by decide) rfl (fun ls hl => ?_)
        refine lv_goto (tgt := 5) hx hb dX2_firstInLine_70 (by decide) ?_
        exact ih5 (x3, (x4 + 1)) _ hf _ (lv_sub hl [2, 3, 4, 5, 0] rfl)
      · have hf := ho_f hf c_61
        refine lv_iload hx hb dX2_firstInLine_64 (lv_at hl 5 rfl) ?_
        refine lv_istore_n (lv' := [(3, .int x4), (5, .int s0), (0, .ref o_t), (1, .ref o_a1), (2, .int x2), (4, .int x4)]) hx hb dX2_firstInLine_66 rfl hl (by decide) rfl (fun ls hl => ?_)
        refine lv_iinc (v := (x4 + 1)) (lv' := [(4, .int (x4 + 1)), (3, .int x4), (5, .int s0), (0, .ref o_t), (1, .ref o_a1), (2, .int x2)]) hx hb dX2_firstInLine_67 hl (k := 5) rfl (hp_inc (by decide)) (by decide) rfl (fun ls hl => ?_)
        refine lv_goto (tgt := 5) hx hb dX2_firstInLine_70 (by decide) ?_
        exact ih5 (x4, (x4 + 1)) _ hf _ (lv_sub hl [3, 4, 5, 1, 0] rfl)
set_option maxHeartbeats 4000000 in
set_option maxRecDepth 100000 in
theorem w_X2_firstInLine_l5 {p : Program} {l : Launch} {e : Env} {s : State} {m : MethodId} {args : Array Value} {below : List Frame} {meth : Method} {c : Code} {dC : Nat → ClassId} {dI : Nat → Nat → Nat} {cI cII : ClassId} {o_t : Nat} {a_t : Nat → Nat} {o_a1 : Nat} {a_a1 : Nat → Nat} (C0 : hC p s m args meth c dC dI cI cII RX2 cX2_firstInLine 6 (wd yX2_firstInLine cX2_firstInLine 6 (some .int)) (some .int))  {v_t : obV} {v_a1 : obV} {x2 : Int32}   (hP : va_P (dC, dI) vwCl (wX2 o_t a_t cI v_t ++ (wX1 o_a1 a_a1 cI v_a1)) s.heap) :
    ∀ (n : Nat) (y : Int32 × Int32) (r : Int32), f_X2_firstInLine_l5  v_t v_a1 x2  n y = some r → ∀ (ls : Array Slot), lv_has ls 6 [(0, .ref o_t), (1, .ref o_a1), (2, .int x2), (3, .int y.1), (4, .int y.2)] → W p l e ({ frames := 2, cells := 0, slots := 0, locals := 47 } : Room) s m args below meth c s.heap [] 0 0 (MQ below (vp_Si (fun z => r = z)) args s 0 0 (fun _ => False)) (F0 m 5 ls []) := by
  obtain ⟨hx, hb, hml, hown, hts, hr, hlocks, hK, hN⟩ := C0
  refine lp_W ?_
  intro k5 ih5 y r hf ls hl
  obtain ⟨x3, x4⟩ := y
  have hf : f_X2_firstInLine_b5  v_t v_a1 x2 x3 x4  k5 = some r := hf
  have hl : lv_has ls 6 [(0, .ref o_t), (1, .ref o_a1), (2, .int x2), (3, .int x3), (4, .int x4)] := hl
  unfold f_X2_firstInLine_b5 at hf
  refine lv_iload hx hb dX2_firstInLine_5 (lv_at hl 4 rfl) ?_
  refine lv_aload_n hx hb dX2_firstInLine_7 rfl (lv_at hl 0 rfl) ?_
  refine va_get (D := (dC, dI)) (ci := 2) (v := .int (v_t.1 4)) (C := RX2) (T := TX2) (N := 8) hx hb hts hw_X2 hown hK hP 0 rfl rfl 4 (by decide) (hts _ (List.mem_cons_of_mem _ mw_165)) (fun _ h9 => h9) rfl dX2_firstInLine_8 ?_
  refine lv_icmp_ge (tgt := 73) hx hb dX2_firstInLine_11 (by decide) (fun c_11 => ?_) (fun c_11 => ?_)
  · have hf := ho_t hf c_11
    refine lv_iload_n hx hb dX2_firstInLine_73 rfl (lv_at hl 3 rfl) ?_
    obtain rfl := Option.some.inj hf
    exact W.iret (v := x3) hx hb hr (fun t ht hW => ⟨_, rfl, rfl, ht⟩) (fun q hq => by cases hq) dX2_firstInLine_74 hlocks
  · have hf := ho_f hf c_11
    refine lv_aload_n hx hb dX2_firstInLine_14 rfl (lv_at hl 0 rfl) ?_
    refine va_get (D := (dC, dI)) (ci := 2) (v := .ref (a_t 0)) (C := RX2) (T := TX2) (N := 8) hx hb hts hw_X2 hown hK hP 0 rfl rfl 0 (by decide) (hts _ (List.mem_cons_of_mem _ mw_155)) (fun _ h9 => h9) rfl dX2_firstInLine_15 ?_
    refine lv_iload hx hb dX2_firstInLine_18 (lv_at hl 4 rfl) ?_
    obtain ⟨h_20, hf⟩ := ho_g hf
    refine va_iald (n := 5) (f := (v_t.2 0)) hx hb hK hP 1 0 rfl rfl h_20 dX2_firstInLine_20 ?_
    refine lv_iload_n hx hb dX2_firstInLine_21 rfl (lv_at hl 2 rfl) ?_
    refine lv_icmp_gt (tgt := 40) hx hb dX2_firstInLine_22 (by decide) (fun c_22 => ?_) (fun c_22 => ?_)
    · have hf := ho_t hf c_22
      refine lv_iconst (v := 0) hx hb dX2_firstInLine_40 (by decide) ?_
      exact w_X2_firstInLine_b41 ⟨hx, hb, hml, hown, hts, hr, hlocks, hK, hN⟩ ih5 hP hf (lv_sub hl [0, 1, 2, 3, 4] rfl)
    · have hf := ho_f hf c_22
      refine lv_aload_n hx hb dX2_firstInLine_25 rfl (lv_at hl 0 rfl) ?_
      refine va_get (D := (dC, dI)) (ci := 2) (v := .ref (a_t 1)) (C := RX2) (T := TX2) (N := 8) hx hb hts hw_X2 hown hK hP 0 rfl rfl 1 (by decide) (hts _ (List.mem_cons_of_mem _ mw_158)) (fun _ h9 => h9) rfl dX2_firstInLine_26 ?_
      refine lv_iload hx hb dX2_firstInLine_29 (lv_at hl 4 rfl) ?_
      obtain ⟨h_31, hf⟩ := ho_g hf
      refine va_iald (n := 5) (f := (v_t.2 1)) hx hb hK hP 2 0 rfl rfl h_31 dX2_firstInLine_31 ?_
      refine lv_iconst (v := (-1)) hx hb dX2_firstInLine_32 (by decide) ?_
      refine lv_icmp_ne (tgt := 40) hx hb dX2_firstInLine_33 (by decide) (fun c_33 => ?_) (fun c_33 => ?_)
      · have hf := ho_f hf c_33
        refine lv_iconst (v := 0) hx hb dX2_firstInLine_40 (by decide) ?_
        exact w_X2_firstInLine_b41 ⟨hx, hb, hml, hown, hts, hr, hlocks, hK, hN⟩ ih5 hP hf (lv_sub hl [0, 1, 2, 3, 4] rfl)
      · have hf := ho_t hf c_33
        refine lv_iconst (v := 1) hx hb dX2_firstInLine_36 (by decide) ?_
        refine lv_goto (tgt := 41) hx hb dX2_firstInLine_37 (by decide) ?_
        exact w_X2_firstInLine_b41 ⟨hx, hb, hml, hown, hts, hr, hlocks, hK, hN⟩ ih5 hP hf (lv_sub hl [0, 1, 2, 3, 4] rfl)
set_option maxHeartbeats 4000000 in
set_option maxRecDepth 100000 in
theorem c_X2_firstInLine (l : Launch) (dC : Nat → ClassId) (dI : Nat → Nat → Nat) (cI cII : ClassId) (o_t : Nat) (a_t : Nat → Nat) (o_a1 : Nat) (a_a1 : Nat → Nat) (v_t : obV) (v_a1 : obV) (x2 : Int32) (r : Int32) (hf : f_X2_firstInLine  v_t v_a1 x2 = some r) :
    Met l yX2_firstInLine (wd yX2_firstInLine cX2_firstInLine 6 (some .int)) ({ frames := 2, cells := 0, slots := 0, locals := 47 } : Room) (va_Pc [.ref o_t, .ref o_a1, .int x2] (pB (dC, dI) vwCl (wX2 o_t a_t cI v_t ++ (wX1 o_a1 a_a1 cI v_a1)) (hTY cI cII))) (vp_Si (fun z => r = z)) 0 0 (fun _ => False) := by
  refine Met.ofW (cc := cX2_firstInLine) (maxL := 6) (ret := (some .int)) (by decide) rfl ?_
  intro p e s m args below meth c s₁ B hml hv
  obtain ⟨rfl, hP, hK, hN⟩ := hv
  have hx := B.exec
  have hb := B.bytes
  have hr := B.returns
  have hts := atoms_spec (ws := (wd yX2_firstInLine cX2_firstInLine 6 (some .int))) B.pre
  have hown : s.vm.findClass RX2 = some m.cls := findClass_of_methodNamed B.named
  have hlocks := B.notSynchronized
  have hl := lv_entry ([.ref o_t, .ref o_a1, .int x2]) (n := 6) (Nat.le_of_ble_eq_true rfl)
  rw [lg_entry_eq]
  generalize (lg_sl ([.ref o_t, .ref o_a1, .int x2]) ++ List.replicate (6 - (lg_sl ([.ref o_t, .ref o_a1, .int x2])).length) Slot.unset).toArray = ls at hl ⊢
  have hl : lv_has ls 6 [(0, .ref o_t), (1, .ref o_a1), (2, .int x2)] := hl
  unfold f_X2_firstInLine at hf
  refine lv_iconst (v := (-1)) hx hb dX2_firstInLine_0 (by decide) ?_
  refine lv_istore_n (lv' := [(3, .int (-1)), (0, .ref o_t), (1, .ref o_a1), (2, .int x2)]) hx hb dX2_firstInLine_1 rfl hl (by decide) rfl (fun ls hl => ?_)
  refine lv_iconst (v := 0) hx hb dX2_firstInLine_2 (by decide) ?_
  refine lv_istore (lv' := [(4, .int 0), (3, .int (-1)), (0, .ref o_t), (1, .ref o_a1), (2, .int x2)]) hx hb dX2_firstInLine_3 hl (by decide) rfl (fun ls hl => ?_)
  exact w_X2_firstInLine_l5 ⟨hx, hb, hml, hown, hts, hr, hlocks, hK, hN⟩  hP _ _ _ hf _ (lv_sub hl [2, 3, 4, 1, 0] rfl)
