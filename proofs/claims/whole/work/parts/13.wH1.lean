set_option maxHeartbeats 4000000 in
set_option maxRecDepth 100000 in
theorem c_X6_forget (l : Launch) (dC : Nat → ClassId) (dI : Nat → Nat → Nat) (cI cII : ClassId) (o_t : Nat) (a_t : Nat → Nat) (a_t_now : Nat → Nat) (a_t_now_seen : Nat → Nat) (v_t : obV) (v_t_now : obV) (v_t_now_seen : obV)  (sz : Nat) (r : Int32 × obV) (hf : f_X6_forget  v_t_now_seen  = some r) :
    Met l yX6_forget (wd yX6_forget cX6_forget 2 (some .int)) ({ frames := 0, cells := 0, slots := 0, locals := 0 } : Room) (va_Pc [.ref o_t] (qB (dC, dI) vwCl (wX6 o_t a_t cI v_t ++ (wX1 (a_t 1) a_t_now cI v_t_now ++ (wX4 (a_t_now 3) a_t_now_seen cI v_t_now_seen))) (hTY cI cII) sz)) (va_Qi (fun (z : Int32) (_ : Unit) => r.1 = z) (fun _ t => va_P (dC, dI) vwCl (wX6 o_t a_t cI v_t ++ (wX1 (a_t 1) a_t_now cI v_t_now ++ (wX4 (a_t_now 3) a_t_now_seen cI r.2))) t.heap ∧ va_D (va_A (wX6 o_t a_t cI v_t ++ (wX1 (a_t 1) a_t_now cI v_t_now ++ (wX4 (a_t_now 3) a_t_now_seen cI v_t_now_seen))) sz) (wX6 o_t a_t cI v_t ++ (wX1 (a_t 1) a_t_now cI v_t_now ++ (wX4 (a_t_now 3) a_t_now_seen cI r.2)))) (va_A (wX6 o_t a_t cI v_t ++ (wX1 (a_t 1) a_t_now cI v_t_now ++ (wX4 (a_t_now 3) a_t_now_seen cI v_t_now_seen))) sz)) 0 0 (va_A (wX6 o_t a_t cI v_t ++ (wX1 (a_t 1) a_t_now cI v_t_now ++ (wX4 (a_t_now 3) a_t_now_seen cI v_t_now_seen))) sz) := by
  refine Met.ofW (cc := cX6_forget) (maxL := 2) (ret := (some .int)) (by decide) rfl ?_
  intro p e s m args below meth c s₁ B hml hv
  obtain ⟨rfl, hsz, hD0, hP, hK, hN⟩ := hv
  have hx := B.exec
  have hb := B.bytes
  have hr := B.returns
  have hts := atoms_spec (ws := (wd yX6_forget cX6_forget 2 (some .int))) B.pre
  have hown : s.vm.findClass RX6 = some m.cls := findClass_of_methodNamed B.named
  have hlocks := B.notSynchronized
  subst hsz
  have hD := hD0.self (sz := s.heap.size)
  generalize hAe : va_A (wX6 o_t a_t cI v_t ++ (wX1 (a_t 1) a_t_now cI v_t_now ++ (wX4 (a_t_now 3) a_t_now_seen cI v_t_now_seen))) s.heap.size = A at hD ⊢
  have hA : ∀ q : Nat, s.heap.size ≤ q → A q := fun q h => by rw [← hAe]; exact Or.inr h
  have hS : va_S A s.heap s.heap [] := va_S.rf
  have hl := lv_entry ([.ref o_t]) (n := 2) (Nat.le_of_ble_eq_true rfl)
  rw [lg_entry_eq]
  generalize (lg_sl ([.ref o_t]) ++ List.replicate (2 - (lg_sl ([.ref o_t])).length) Slot.unset).toArray = ls at hl ⊢
  have hl : lv_has ls 2 [(0, .ref o_t)] := hl
  clear hAe hD0
  unfold f_X6_forget at hf
  refine lv_aload_n hx hb dX6_forget_0 rfl (lv_at hl 0 rfl) ?_
  refine va_get (D := (dC, dI)) (ci := 6) (v := .ref (a_t 1)) (C := RX6) (T := TX6) (N := 8) hx hb hts hw_X6 hown hK hP 0 rfl rfl 1 (by decide) (hts _ (List.mem_cons_of_mem _ mw_234)) (fun _ h9 => h9) rfl dX6_forget_1 ?_
  refine va_get (D := (dC, dI)) (ci := 1) (v := .ref (a_t_now 3)) (C := RX1) (T := TX1) (N := 7) hx hb hts hw_X1 hown hK hP 1 rfl rfl 3 (by decide) (hts _ (List.mem_cons_of_mem _ mw_123)) (fun _ h9 => h9) rfl dX6_forget_4 ?_
  refine va_get (D := (dC, dI)) (ci := 4) (v := .int (v_t_now_seen.1 2)) (C := RX4) (T := TX4) (N := 3) hx hb hts hw_X4 hown hK hP 5 rfl rfl 2 (by decide) (hts _ (List.mem_cons_of_mem _ mw_105)) (fun _ h9 => h9) rfl dX6_forget_7 ?_
  refine lv_istore_n (lv' := [(1, .int (v_t_now_seen.1 2)), (0, .ref o_t)]) hx hb dX6_forget_10 rfl hl (by decide) rfl (fun ls hl => ?_)
  refine lv_aload_n hx hb dX6_forget_11 rfl (lv_at hl 1 rfl) ?_
  refine va_get (D := (dC, dI)) (ci := 6) (v := .ref (a_t 1)) (C := RX6) (T := TX6) (N := 8) hx hb hts hw_X6 hown hK hP 0 rfl rfl 1 (by decide) (hts _ (List.mem_cons_of_mem _ mw_234)) (fun _ h9 => h9) rfl dX6_forget_12 ?_
  refine va_get (D := (dC, dI)) (ci := 1) (v := .ref (a_t_now 3)) (C := RX1) (T := TX1) (N := 7) hx hb hts hw_X1 hown hK hP 1 rfl rfl 3 (by decide) (hts _ (List.mem_cons_of_mem _ mw_123)) (fun _ h9 => h9) rfl dX6_forget_15 ?_
  refine lv_iconst (v := 0) hx hb dX6_forget_18 (by decide) ?_
  refine va_put (D := (dC, dI)) (ci := 4) (v := .int 0) (ty := .int) (C := RX4) (T := TX4) (N := 3) hx hb hts hw_X4 tyX4 tyX4_ok nmX4 hown hK hP hD hS 5 rfl rfl 2 (by decide) (hts _ (List.mem_cons_of_mem _ mw_105)) (fun _ h9 => h9) rfl (by decide +kernel) rfl rfl (Nat.le_of_ble_eq_true rfl) dX6_forget_19 (fun H locs hP hD hS => ?_)
  have hP : va_P (dC, dI) vwCl (wX6 o_t a_t cI v_t ++ (wX1 (a_t 1) a_t_now cI v_t_now ++ (wX4 (a_t_now 3) a_t_now_seen cI (oF v_t_now_seen 2 0)))) H := hP
  have hD : va_D A (wX6 o_t a_t cI v_t ++ (wX1 (a_t 1) a_t_now cI v_t_now ++ (wX4 (a_t_now 3) a_t_now_seen cI (oF v_t_now_seen 2 0)))) := hD
  obtain ⟨v_t_now_seen_19, e_v_t_now_seen_19⟩ : ∃ z : obV, z = (oF v_t_now_seen 2 0) := ⟨_, rfl⟩
  rw [← e_v_t_now_seen_19] at hP hD
  have hf := ho_l hf v_t_now_seen_19 e_v_t_now_seen_19
  refine lv_iload_n hx hb dX6_forget_22 rfl (lv_at hl 0 rfl) ?_
  obtain rfl := Option.some.inj hf
  exact W.iret (v := (v_t_now_seen.1 2)) hx hb hr (fun t ht hW => ⟨⟨_, (), rfl, rfl, by rw [ht]; exact hP, hD⟩, hS.F ht⟩) hS.2.2 dX6_forget_23 hlocks
set_option maxHeartbeats 4000000 in
set_option maxRecDepth 100000 in
theorem c_X6_nextSeed (l : Launch) (dC : Nat → ClassId) (dI : Nat → Nat → Nat) (cI cII : ClassId)   (x0 : Int32) (r : Int32) (hf : f_X6_nextSeed   x0 = some r) :
    Met l yX6_nextSeed (wd yX6_nextSeed cX6_nextSeed 1 (some .int)) ({ frames := 0, cells := 0, slots := 0, locals := 0 } : Room) (va_Pc [.int x0] (pB (dC, dI) vwCl ([] : va_W) (hTY cI cII))) (vp_Si (fun z => r = z)) 0 0 (fun _ => False) := by
  refine Met.ofW (cc := cX6_nextSeed) (maxL := 1) (ret := (some .int)) (by decide) rfl ?_
  intro p e s m args below meth c s₁ B hml hv
  obtain ⟨rfl, hP, hK, hN⟩ := hv
  have hx := B.exec
  have hb := B.bytes
  have hr := B.returns
  have hts := atoms_spec (ws := (wd yX6_nextSeed cX6_nextSeed 1 (some .int))) B.pre
  have hown : s.vm.findClass RX6 = some m.cls := findClass_of_methodNamed B.named
  have hlocks := B.notSynchronized
  have hl := lv_entry ([.int x0]) (n := 1) (Nat.le_of_ble_eq_true rfl)
  rw [lg_entry_eq]
  generalize (lg_sl ([.int x0]) ++ List.replicate (1 - (lg_sl ([.int x0])).length) Slot.unset).toArray = ls at hl ⊢
  have hl : lv_has ls 1 [(0, .int x0)] := hl
  unfold f_X6_nextSeed at hf
  refine lv_ldc2 (v := 1103515245) hx hb hown (hts _ (List.mem_cons_of_mem _ mw_537)) dX6_nextSeed_0 ?_
  refine lv_iload_n hx hb dX6_nextSeed_3 rfl (lv_at hl 0 rfl) ?_
  refine lv_i2l (v := (Int32.toInt64 x0)) hx hb dX6_nextSeed_4 rfl ?_
  refine lv_lmul hx hb dX6_nextSeed_5 ?_
  refine lv_ldc2 (v := 12345) hx hb hown (hts _ (List.mem_cons_of_mem _ mw_538)) dX6_nextSeed_6 ?_
  refine lv_ladd hx hb dX6_nextSeed_9 ?_
  refine lv_ldc2 (v := 2147483648) hx hb hown (hts _ (List.mem_cons_of_mem _ mw_539)) dX6_nextSeed_10 ?_
  refine lv_lrem hx hb dX6_nextSeed_13 (by decide) ?_
  refine lv_l2i (v := (Int64.toInt32 (((1103515245 * (Int32.toInt64 x0)) + 12345) - ((1103515245 * (Int32.toInt64 x0)) + 12345) / 2147483648 * 2147483648))) hx hb dX6_nextSeed_14 rfl ?_
  obtain rfl := Option.some.inj hf
  exact W.iret (v := (Int64.toInt32 (((1103515245 * (Int32.toInt64 x0)) + 12345) - ((1103515245 * (Int32.toInt64 x0)) + 12345) / 2147483648 * 2147483648))) hx hb hr (fun t ht hW => ⟨_, rfl, rfl, ht⟩) (fun q hq => by cases hq) dX6_nextSeed_15 hlocks
set_option maxHeartbeats 4000000 in
set_option maxRecDepth 100000 in
theorem w_X6_drawComings_l5 {p : Program} {l : Launch} {e : Env} {s : State} {m : MethodId} {args : Array Value} {below : List Frame} {meth : Method} {c : Code} {dC : Nat → ClassId} {dI : Nat → Nat → Nat} {cI cII : ClassId} {o_t : Nat} {a_t : Nat → Nat} {o_a1 : Nat} {a_a1 : Nat → Nat} {a_t_now : Nat → Nat} {A : Nat → Prop} (C0 : hC p s m args meth c dC dI cI cII RX6 cX6_drawComings 5 (wd yX6_drawComings cX6_drawComings 5 (some .int)) (some .int)) (hA : ∀ q, s.heap.size ≤ q → A q) {v_t : obV} {v_t_now : obV}    :
    ∀ (n : Nat) (y : obV × Int32 × Int32) (r : Int32 × obV), f_X6_drawComings_l5  v_t_now  n y = some r → ∀ (H : Heap) (locs : List Loc) (ls : Array Slot), va_P (dC, dI) vwCl (wX6 o_t a_t cI v_t ++ (wX2 o_a1 a_a1 cI y.1 ++ (wX1 (a_t 1) a_t_now cI v_t_now))) H → va_D A (wX6 o_t a_t cI v_t ++ (wX2 o_a1 a_a1 cI y.1 ++ (wX1 (a_t 1) a_t_now cI v_t_now))) → va_S A s.heap H locs → lv_has ls 5 [(0, .ref o_t), (1, .ref o_a1), (3, .int y.2.1), (4, .int y.2.2)] → W p l e ({ frames := 1, cells := 0, slots := 0, locals := 20 } : Room) s m args below meth c H locs 0 0 (MQ below (va_Qi (fun (z : Int32) (_ : Unit) => r.1 = z) (fun _ t => va_P (dC, dI) vwCl (wX6 o_t a_t cI v_t ++ (wX2 o_a1 a_a1 cI r.2 ++ (wX1 (a_t 1) a_t_now cI v_t_now))) t.heap ∧ va_D A (wX6 o_t a_t cI v_t ++ (wX2 o_a1 a_a1 cI r.2 ++ (wX1 (a_t 1) a_t_now cI v_t_now)))) A) args s 0 0 A) (F0 m 5 ls []) := by
  obtain ⟨hx, hb, hml, hown, hts, hr, hlocks, hK, hN⟩ := C0
  refine lp_W ?_
  intro k5 ih5 y r hf H locs ls hP hD hS hl
  obtain ⟨v_a1, x3, x4⟩ := y
  have hf : f_X6_drawComings_b5  v_a1 v_t_now x3 x4  k5 = some r := hf
  have hP : va_P (dC, dI) vwCl (wX6 o_t a_t cI v_t ++ (wX2 o_a1 a_a1 cI v_a1 ++ (wX1 (a_t 1) a_t_now cI v_t_now))) H := hP
  have hD : va_D A (wX6 o_t a_t cI v_t ++ (wX2 o_a1 a_a1 cI v_a1 ++ (wX1 (a_t 1) a_t_now cI v_t_now))) := hD
  have hl : lv_has ls 5 [(0, .ref o_t), (1, .ref o_a1), (3, .int x3), (4, .int x4)] := hl
  unfold f_X6_drawComings_b5 at hf
  refine lv_iload hx hb dX6_drawComings_5 (lv_at hl 3 rfl) ?_
  refine lv_aload_n hx hb dX6_drawComings_7 rfl (lv_at hl 0 rfl) ?_
  refine va_get (D := (dC, dI)) (ci := 6) (v := .ref (a_t 1)) (C := RX6) (T := TX6) (N := 8) hx hb hts hw_X6 hown hK hP 0 rfl rfl 1 (by decide) (hts _ (List.mem_cons_of_mem _ mw_234)) (fun _ h9 => h9) rfl dX6_drawComings_8 ?_
  refine va_get (D := (dC, dI)) (ci := 1) (v := .int (v_t_now.1 4)) (C := RX1) (T := TX1) (N := 7) hx hb hts hw_X1 hown hK hP 6 rfl rfl 4 (by decide) (hts _ (List.mem_cons_of_mem _ mw_126)) (fun _ h9 => h9) rfl dX6_drawComings_11 ?_
  refine lv_icmp_ge (tgt := 42) hx hb dX6_drawComings_14 (by decide) (fun c_14 => ?_) (fun c_14 => ?_)
  · have hf := ho_t hf c_14
    refine lv_iload_n hx hb dX6_drawComings_42 rfl (lv_at hl 2 rfl) ?_
    obtain rfl := Option.some.inj hf
    exact W.iret (v := x3) hx hb hr (fun t ht hW => ⟨⟨_, (), rfl, rfl, by rw [ht]; exact hP, hD⟩, hS.F ht⟩) hS.2.2 dX6_drawComings_43 hlocks
  · have hf := ho_f hf c_14
    refine lv_iload_n hx hb dX6_drawComings_17 rfl (lv_at hl 2 rfl) ?_
    obtain ⟨u_18, e_18, hf⟩ := ho_b hf
    have hPc := hP.sub (ws' := ([] : va_W)) [] rfl
    refine vp_callSi (va_runS (As := [.int x3]) (rest := []) ⟨hx, hb, hml, hown, hts⟩ (c_X6_nextSeed l dC dI cI cII (x3) u_18 e_18) (va_cwS 1 hts (hw_giS mw_534 mw_535 mw_53 mw_536) rfl rfl rfl (by decide +kernel) ⟨Nat.le_of_ble_eq_true rfl, Nat.le_of_ble_eq_true rfl⟩) ⟨pB_blind, fun U hU hW => ⟨rfl, pB_go hPc hK hN hU hW⟩⟩ rfl rfl hl.1 rfl (lv_room (Nat.le_of_ble_eq_true rfl)) dX6_drawComings_18 ⟨Nat.zero_le _, Nat.zero_le _⟩).run (fun z_18 ez_18 => ?_)
    subst ez_18
    refine lv_istore_n (lv' := [(3, .int u_18), (0, .ref o_t), (1, .ref o_a1), (4, .int x4)]) hx hb dX6_drawComings_21 rfl hl (by decide) rfl (fun ls hl => ?_)
    refine lv_aload_n hx hb dX6_drawComings_22 rfl (lv_at hl 2 rfl) ?_
    refine va_get (D := (dC, dI)) (ci := 2) (v := .ref (a_a1 0)) (C := RX2) (T := TX2) (N := 8) hx hb hts hw_X2 hown hK hP 1 rfl rfl 0 (by decide) (hts _ (List.mem_cons_of_mem _ mw_157)) (fun _ h9 => h9) rfl dX6_drawComings_23 ?_
    refine lv_iload hx hb dX6_drawComings_26 (lv_at hl 3 rfl) ?_
    refine lv_iload_n hx hb dX6_drawComings_28 rfl (lv_at hl 0 rfl) ?_
    refine lv_ldc (v := 65536) hx hb hown (hts _ (List.mem_cons_of_mem _ mw_540)) dX6_drawComings_29 ?_
    refine lv_idiv hx hb dX6_drawComings_31 (by decide) ?_
    refine lv_bipush (v := 10) hx hb dX6_drawComings_32 (by decide) ?_
    refine lv_irem hx hb dX6_drawComings_34 (by decide) ?_
    obtain ⟨h_35, hf⟩ := ho_g hf
    refine va_iast (n := 5) (f := (v_a1.2 0)) hx hb hK hP hD hS 2 0 rfl rfl h_35 dX6_drawComings_35 (fun H locs hP hD hS => ?_)
    have hP : va_P (dC, dI) vwCl (wX6 o_t a_t cI v_t ++ (wX2 o_a1 a_a1 cI (oA v_a1 0 (Int32.toNatClampNeg x4) ((u_18 / 65536) - (u_18 / 65536) / 10 * 10)) ++ (wX1 (a_t 1) a_t_now cI v_t_now))) H := hP
    have hD : va_D A (wX6 o_t a_t cI v_t ++ (wX2 o_a1 a_a1 cI (oA v_a1 0 (Int32.toNatClampNeg x4) ((u_18 / 65536) - (u_18 / 65536) / 10 * 10)) ++ (wX1 (a_t 1) a_t_now cI v_t_now))) := hD
    obtain ⟨v_a1_35, e_v_a1_35⟩ : ∃ z : obV, z = (oA v_a1 0 (Int32.toNatClampNeg x4) ((u_18 / 65536) - (u_18 / 65536) / 10 * 10)) := ⟨_, rfl⟩
    rw [← e_v_a1_35] at hP hD
    have hf := ho_l hf v_a1_35 e_v_a1_35
    refine lv_iinc (v := (x4 + 1)) (lv' := [(4, .int (x4 + 1)), (3, .int u_18), (0, .ref o_t), (1, .ref o_a1)]) hx hb dX6_drawComings_36 hl (k := 3) rfl (hp_inc (by decide)) (by decide) rfl (fun ls hl => ?_)
    refine lv_goto (tgt := 5) hx hb dX6_drawComings_39 (by decide) ?_
    exact ih5 (v_a1_35, u_18, (x4 + 1)) _ hf _ _ _ hP hD hS (lv_sub hl [2, 3, 1, 0] rfl)
set_option maxHeartbeats 4000000 in
set_option maxRecDepth 100000 in
theorem c_X6_drawComings (l : Launch) (dC : Nat → ClassId) (dI : Nat → Nat → Nat) (cI cII : ClassId) (o_t : Nat) (a_t : Nat → Nat) (o_a1 : Nat) (a_a1 : Nat → Nat) (a_t_now : Nat → Nat) (v_t : obV) (v_a1 : obV) (v_t_now : obV) (x2 : Int32) (sz : Nat) (r : Int32 × obV) (hf : f_X6_drawComings  v_a1 v_t_now x2 = some r) :
    Met l yX6_drawComings (wd yX6_drawComings cX6_drawComings 5 (some .int)) ({ frames := 1, cells := 0, slots := 0, locals := 20 } : Room) (va_Pc [.ref o_t, .ref o_a1, .int x2] (qB (dC, dI) vwCl (wX6 o_t a_t cI v_t ++ (wX2 o_a1 a_a1 cI v_a1 ++ (wX1 (a_t 1) a_t_now cI v_t_now))) (hTY cI cII) sz)) (va_Qi (fun (z : Int32) (_ : Unit) => r.1 = z) (fun _ t => va_P (dC, dI) vwCl (wX6 o_t a_t cI v_t ++ (wX2 o_a1 a_a1 cI r.2 ++ (wX1 (a_t 1) a_t_now cI v_t_now))) t.heap ∧ va_D (va_A (wX6 o_t a_t cI v_t ++ (wX2 o_a1 a_a1 cI v_a1 ++ (wX1 (a_t 1) a_t_now cI v_t_now))) sz) (wX6 o_t a_t cI v_t ++ (wX2 o_a1 a_a1 cI r.2 ++ (wX1 (a_t 1) a_t_now cI v_t_now)))) (va_A (wX6 o_t a_t cI v_t ++ (wX2 o_a1 a_a1 cI v_a1 ++ (wX1 (a_t 1) a_t_now cI v_t_now))) sz)) 0 0 (va_A (wX6 o_t a_t cI v_t ++ (wX2 o_a1 a_a1 cI v_a1 ++ (wX1 (a_t 1) a_t_now cI v_t_now))) sz) := by
  refine Met.ofW (cc := cX6_drawComings) (maxL := 5) (ret := (some .int)) (by decide) rfl ?_
  intro p e s m args below meth c s₁ B hml hv
  obtain ⟨rfl, hsz, hD0, hP, hK, hN⟩ := hv
  have hx := B.exec
  have hb := B.bytes
  have hr := B.returns
  have hts := atoms_spec (ws := (wd yX6_drawComings cX6_drawComings 5 (some .int))) B.pre
  have hown : s.vm.findClass RX6 = some m.cls := findClass_of_methodNamed B.named
  have hlocks := B.notSynchronized
  subst hsz
  have hD := hD0.self (sz := s.heap.size)
  generalize hAe : va_A (wX6 o_t a_t cI v_t ++ (wX2 o_a1 a_a1 cI v_a1 ++ (wX1 (a_t 1) a_t_now cI v_t_now))) s.heap.size = A at hD ⊢
  have hA : ∀ q : Nat, s.heap.size ≤ q → A q := fun q h => by rw [← hAe]; exact Or.inr h
  have hS : va_S A s.heap s.heap [] := va_S.rf
  have hl := lv_entry ([.ref o_t, .ref o_a1, .int x2]) (n := 5) (Nat.le_of_ble_eq_true rfl)
  rw [lg_entry_eq]
  generalize (lg_sl ([.ref o_t, .ref o_a1, .int x2]) ++ List.replicate (5 - (lg_sl ([.ref o_t, .ref o_a1, .int x2])).length) Slot.unset).toArray = ls at hl ⊢
  have hl : lv_has ls 5 [(0, .ref o_t), (1, .ref o_a1), (2, .int x2)] := hl
  clear hAe hD0
  unfold f_X6_drawComings at hf
  refine lv_iload_n hx hb dX6_drawComings_0 rfl (lv_at hl 2 rfl) ?_
  refine lv_istore_n (lv' := [(3, .int x2), (0, .ref o_t), (1, .ref o_a1), (2, .int x2)]) hx hb dX6_drawComings_1 rfl hl (by decide) rfl (fun ls hl => ?_)
  refine lv_iconst (v := 0) hx hb dX6_drawComings_2 (by decide) ?_
  refine lv_istore (lv' := [(4, .int 0), (3, .int x2), (0, .ref o_t), (1, .ref o_a1), (2, .int x2)]) hx hb dX6_drawComings_3 hl (by decide) rfl (fun ls hl => ?_)
  exact w_X6_drawComings_l5 ⟨hx, hb, hml, hown, hts, hr, hlocks, hK, hN⟩ hA  _ _ _ hf _ _ _ hP hD hS (lv_sub hl [2, 3, 1, 0] rfl)
set_option maxHeartbeats 4000000 in
set_option maxRecDepth 100000 in
theorem w_X6_seasons_l60 {p : Program} {l : Launch} {e : Env} {s : State} {m : MethodId} {args : Array Value} {below : List Frame} {meth : Method} {c : Code} {dC : Nat → ClassId} {dI : Nat → Nat → Nat} {cI cII : ClassId} {o_t : Nat} {a_t : Nat → Nat} {a_t_now : Nat → Nat} {a_t_trials : Nat → Nat} {r_t_trials : Nat → Nat} {a_t_trials_day : Nat → Nat} {A : Nat → Prop} (C0 : hC p s m args meth c dC dI cI cII RX6 cX6_seasons 9 (wd yX6_seasons cX6_seasons 9 (some .int)) (some .int)) (hA : ∀ q, s.heap.size ≤ q → A q) {v_t : obV} {v_t_trials : obV} {w_t_trials : Nat → Nat → Int32} {v_t_now : obV} {x1 : Int32} {x3 : Int32}    :
    ∀ (n : Nat) (y : obV × Int32 × Int32 × Int32 × Int32) (r : Int32 × obV), f_X6_seasons_l60  v_t_now x1 x3  n y = some r → ∀ (H : Heap) (locs : List Loc) (ls : Array Slot), va_P (dC, dI) vwCl (wX6 o_t a_t cI v_t ++ (wX1 (a_t 1) a_t_now cI v_t_now ++ (wX5 (a_t 4) a_t_trials r_t_trials cI cII v_t_trials w_t_trials ++ (wX2 (a_t_trials 0) a_t_trials_day cI y.1)))) H → va_D A (wX6 o_t a_t cI v_t ++ (wX1 (a_t 1) a_t_now cI v_t_now ++ (wX5 (a_t 4) a_t_trials r_t_trials cI cII v_t_trials w_t_trials ++ (wX2 (a_t_trials 0) a_t_trials_day cI y.1)))) → va_S A s.heap H locs → lv_has ls 9 [(0, .ref o_t), (1, .int x1), (3, .int x3), (4, .ref (a_t_trials 0)), (5, .int y.2.1), (6, .int y.2.2.1), (7, .int y.2.2.2.1), (8, .int y.2.2.2.2)] → W p l e ({ frames := 4, cells := 0, slots := 0, locals := 96 } : Room) s m args below meth c H locs 0 0 (MQ below (va_Qi (fun (z : Int32) (_ : Unit) => r.1 = z) (fun _ t => va_P (dC, dI) vwCl (wX6 o_t a_t cI v_t ++ (wX1 (a_t 1) a_t_now cI v_t_now ++ (wX5 (a_t 4) a_t_trials r_t_trials cI cII v_t_trials w_t_trials ++ (wX2 (a_t_trials 0) a_t_trials_day cI r.2)))) t.heap ∧ va_D A (wX6 o_t a_t cI v_t ++ (wX1 (a_t 1) a_t_now cI v_t_now ++ (wX5 (a_t 4) a_t_trials r_t_trials cI cII v_t_trials w_t_trials ++ (wX2 (a_t_trials 0) a_t_trials_day cI r.2))))) A) args s 0 0 A) (F0 m 60 ls []) := by
  obtain ⟨hx, hb, hml, hown, hts, hr, hlocks, hK, hN⟩ := C0
  refine lp_W ?_
  intro k60 ih60 y r hf H locs ls hP hD hS hl
  obtain ⟨v_t_trials_day, x5, x6, x7, x8⟩ := y
  have hf : f_X6_seasons_b60  v_t_now v_t_trials_day x1 x3 x5 x6 x7 x8  k60 = some r := hf
  have hP : va_P (dC, dI) vwCl (wX6 o_t a_t cI v_t ++ (wX1 (a_t 1) a_t_now cI v_t_now ++ (wX5 (a_t 4) a_t_trials r_t_trials cI cII v_t_trials w_t_trials ++ (wX2 (a_t_trials 0) a_t_trials_day cI v_t_trials_day)))) H := hP
  have hD : va_D A (wX6 o_t a_t cI v_t ++ (wX1 (a_t 1) a_t_now cI v_t_now ++ (wX5 (a_t 4) a_t_trials r_t_trials cI cII v_t_trials w_t_trials ++ (wX2 (a_t_trials 0) a_t_trials_day cI v_t_trials_day)))) := hD
  have hl : lv_has ls 9 [(0, .ref o_t), (1, .int x1), (3, .int x3), (4, .ref (a_t_trials 0)), (5, .int x5), (6, .int x6), (7, .int x7), (8, .int x8)] := hl
  unfold f_X6_seasons_b60 at hf
  refine lv_iload hx hb dX6_seasons_60 (lv_at hl 7 rfl) ?_
  refine lv_iload_n hx hb dX6_seasons_62 rfl (lv_at hl 1 rfl) ?_
  refine lv_icmp_ge (tgt := 111) hx hb dX6_seasons_63 (by decide) (fun c_63 => ?_) (fun c_63 => ?_)
  · have hf := ho_t hf c_63
    refine lv_iload_n hx hb dX6_seasons_111 rfl (lv_at hl 2 rfl) ?_
    refine lv_if_ne (tgt := 120) hx hb dX6_seasons_112 (by decide) (fun c_112 => ?_) (fun c_112 => ?_)
    · have hf := ho_f hf c_112
      refine lv_iload_n hx hb dX6_seasons_120 rfl (lv_at hl 2 rfl) ?_
      refine lv_iconst (v := 1) hx hb dX6_seasons_121 (by decide) ?_
      refine lv_icmp_ne (tgt := 130) hx hb dX6_seasons_122 (by decide) (fun c_122 => ?_) (fun c_122 => ?_)
      · have hf := ho_f hf c_122
        refine lv_iload hx hb dX6_seasons_130 (lv_at hl 4 rfl) ?_
        obtain rfl := Option.some.inj hf
        exact W.iret (v := x5) hx hb hr (fun t ht hW => ⟨⟨_, (), rfl, rfl, by rw [ht]; exact hP, hD⟩, hS.F ht⟩) hS.2.2 dX6_seasons_132 hlocks
      · have hf := ho_t hf c_122
        refine lv_iload hx hb dX6_seasons_125 (lv_at hl 6 rfl) ?_
        refine lv_goto (tgt := 132) hx hb dX6_seasons_127 (by decide) ?_
        obtain rfl := Option.some.inj hf
        exact W.iret (v := x7) hx hb hr (fun t ht hW => ⟨⟨_, (), rfl, rfl, by rw [ht]; exact hP, hD⟩, hS.F ht⟩) hS.2.2 dX6_seasons_132 hlocks
    · have hf := ho_t hf c_112
      refine lv_iload hx hb dX6_seasons_115 (lv_at hl 5 rfl) ?_
      refine lv_goto (tgt := 132) hx hb dX6_seasons_117 (by decide) ?_
      obtain rfl := Option.some.inj hf
      exact W.iret (v := x6) hx hb hr (fun t ht hW => ⟨⟨_, (), rfl, rfl, by rw [ht]; exact hP, hD⟩, hS.F ht⟩) hS.2.2 dX6_seasons_132 hlocks
  · have hf := ho_f hf c_63
    refine lv_aload_n hx hb dX6_seasons_66 rfl (lv_at hl 0 rfl) ?_
    refine lv_aload hx hb dX6_seasons_67 (lv_at hl 3 rfl) ?_
    refine lv_iload hx hb dX6_seasons_69 (lv_at hl 4 rfl) ?_
    obtain ⟨u_71, e_71, hf⟩ := ho_b hf
    have hPc := hP.sub (ws' := (wX6 o_t a_t cI v_t ++ (wX2 (a_t_trials 0) a_t_trials_day cI v_t_trials_day ++ (wX1 (a_t 1) a_t_now cI v_t_now)))) [0, 19, 20, 21, 22, 23, 1, 2, 3, 4] rfl
    have hDc := hD.sub (ws' := (wX6 o_t a_t cI v_t ++ (wX2 (a_t_trials 0) a_t_trials_day cI v_t_trials_day ++ (wX1 (a_t 1) a_t_now cI v_t_now)))) [0, 19, 20, 21, 22, 23, 1, 2, 3, 4] (by decide) rfl
    have hFc := va_free (wc := (wX6 o_t a_t cI v_t ++ (wX2 (a_t_trials 0) a_t_trials_day cI v_t_trials_day ++ (wX1 (a_t 1) a_t_now cI v_t_now)))) hD hS hA [0, 19, 20, 21, 22, 23, 1, 2, 3, 4] rfl
    refine va_calli (va_runV (As := [.ref (a_t_trials 0), .int x5]) (rest := []) ⟨hx, hb, hml, hown, hts⟩ (c_X6_drawComings l dC dI cI cII o_t a_t (a_t_trials 0) a_t_trials_day a_t_now v_t v_t_trials_day v_t_now (x5) _ u_71 e_71) (cwV 2 hts (hw_giV mw_530 mw_532 mw_15 mw_53 mw_533) rfl rfl rfl (by decide +kernel) ⟨Nat.le_of_ble_eq_true rfl, Nat.le_of_ble_eq_true rfl⟩) ⟨qB_blind, va_recv hK hPc (ci := 6) (q0 := 0) rfl rfl, fun U hU hW => ⟨rfl, qB_go hPc hDc hK hN hU hW⟩⟩ rfl rfl hl.1 rfl (lv_room (Nat.le_of_ble_eq_true rfl)) dX6_seasons_71 ⟨Nat.zero_le _, Nat.zero_le _⟩) hS (fun q _ h => hFc q h) hFc (fun z_71 u t H1 locs ht hvm ez_71 hB hz1 hk1 hS => ?_)
    subst ez_71
    obtain ⟨hP1, hD1⟩ := hB
    rw [ht] at hP1
    obtain ⟨hP, hD⟩ := va_join (wr := (wX5 (a_t 4) a_t_trials r_t_trials cI cII v_t_trials w_t_trials)) (w1 := (wX6 o_t a_t cI v_t ++ (wX2 (a_t_trials 0) a_t_trials_day cI u_71.2 ++ (wX1 (a_t 1) a_t_now cI v_t_now)))) hP hD [0, 19, 20, 21, 22, 23, 1, 2, 3, 4] [5, 6, 7, 8, 9, 10, 11, 12, 13, 14, 15, 16, 17, 18] rfl rfl (by decide) (by decide) hk1 hFc hP1 hD1
    generalize H1 = H at hP hS ⊢
    have hP : va_P (dC, dI) vwCl (wX6 o_t a_t cI v_t ++ (wX1 (a_t 1) a_t_now cI v_t_now ++ (wX5 (a_t 4) a_t_trials r_t_trials cI cII v_t_trials w_t_trials ++ (wX2 (a_t_trials 0) a_t_trials_day cI u_71.2)))) H := hP.sub [14, 20, 21, 22, 23, 0, 1, 2, 3, 4, 5, 6, 7, 8, 9, 10, 11, 12, 13, 15, 16, 17, 18, 19] rfl
    have hD : va_D A (wX6 o_t a_t cI v_t ++ (wX1 (a_t 1) a_t_now cI v_t_now ++ (wX5 (a_t 4) a_t_trials r_t_trials cI cII v_t_trials w_t_trials ++ (wX2 (a_t_trials 0) a_t_trials_day cI u_71.2)))) := hD.sub [14, 20, 21, 22, 23, 0, 1, 2, 3, 4, 5, 6, 7, 8, 9, 10, 11, 12, 13, 15, 16, 17, 18, 19] (by decide) rfl
    refine lv_istore (lv' := [(5, .int u_71.1), (0, .ref o_t), (1, .int x1), (3, .int x3), (4, .ref (a_t_trials 0)), (6, .int x6), (7, .int x7), (8, .int x8)]) hx hb dX6_seasons_74 hl (by decide) rfl (fun ls hl => ?_)
    refine lv_aload hx hb dX6_seasons_76 (lv_at hl 4 rfl) ?_
    refine lv_aload_n hx hb dX6_seasons_78 rfl (lv_at hl 1 rfl) ?_
    refine va_get (D := (dC, dI)) (ci := 6) (v := .ref (a_t 1)) (C := RX6) (T := TX6) (N := 8) hx hb hts hw_X6 hown hK hP 0 rfl rfl 1 (by decide) (hts _ (List.mem_cons_of_mem _ mw_234)) (fun _ h9 => h9) rfl dX6_seasons_79 ?_
    obtain ⟨u_82, e_82, hf⟩ := ho_b hf
    have hPc := hP.sub (ws' := (wX2 (a_t_trials 0) a_t_trials_day cI u_71.2 ++ (wX1 (a_t 1) a_t_now cI v_t_now))) [19, 20, 21, 22, 23, 1, 2, 3, 4] rfl
    have hDc := hD.sub (ws' := (wX2 (a_t_trials 0) a_t_trials_day cI u_71.2 ++ (wX1 (a_t 1) a_t_now cI v_t_now))) [19, 20, 21, 22, 23, 1, 2, 3, 4] (by decide) rfl
    have hFc := va_free (wc := (wX2 (a_t_trials 0) a_t_trials_day cI u_71.2 ++ (wX1 (a_t 1) a_t_now cI v_t_now))) hD hS hA [19, 20, 21, 22, 23, 1, 2, 3, 4] rfl
    refine va_callv (va_runV (As := [.ref (a_t 1)]) (rest := []) ⟨hx, hb, hml, hown, hts⟩ (c_X2_passAsComing l dC dI cI cII (a_t_trials 0) a_t_trials_day (a_t 1) a_t_now u_71.2 v_t_now _ u_82 e_82) (cwV 1 hts (hw_giV mw_541 mw_338 mw_339 mw_57 mw_340) rfl rfl rfl (by decide +kernel) ⟨Nat.le_of_ble_eq_true rfl, Nat.le_of_ble_eq_true rfl⟩) ⟨qB_blind, va_recv hK hPc (ci := 2) (q0 := 0) rfl rfl, fun U hU hW => ⟨rfl, qB_go hPc hDc hK hN hU hW⟩⟩ rfl rfl hl.1 rfl (lv_room (Nat.le_of_ble_eq_true rfl)) dX6_seasons_82 ⟨Nat.zero_le _, Nat.zero_le _⟩) hS (fun q _ h => hFc q h) hFc (fun u t H1 locs ht hvm hw hB hz1 hk1 hS => ?_)
    obtain ⟨hP1, hD1⟩ := hB
    rw [ht] at hP1
    obtain ⟨hP, hD⟩ := va_join (wr := (wX6 o_t a_t cI v_t ++ (wX5 (a_t 4) a_t_trials r_t_trials cI cII v_t_trials w_t_trials))) (w1 := (wX2 (a_t_trials 0) a_t_trials_day cI u_82 ++ (wX1 (a_t 1) a_t_now cI v_t_now))) hP hD [19, 20, 21, 22, 23, 1, 2, 3, 4] [0, 5, 6, 7, 8, 9, 10, 11, 12, 13, 14, 15, 16, 17, 18] rfl rfl (by decide) (by decide) hk1 hFc hP1 hD1
    generalize H1 = H at hP hS ⊢
    have hP : va_P (dC, dI) vwCl (wX6 o_t a_t cI v_t ++ (wX1 (a_t 1) a_t_now cI v_t_now ++ (wX5 (a_t 4) a_t_trials r_t_trials cI cII v_t_trials w_t_trials ++ (wX2 (a_t_trials 0) a_t_trials_day cI u_82)))) H := hP.sub [0, 20, 21, 22, 23, 1, 2, 3, 4, 5, 6, 7, 8, 9, 10, 11, 12, 13, 14, 15, 16, 17, 18, 19] rfl
    have hD : va_D A (wX6 o_t a_t cI v_t ++ (wX1 (a_t 1) a_t_now cI v_t_now ++ (wX5 (a_t 4) a_t_trials r_t_trials cI cII v_t_trials w_t_trials ++ (wX2 (a_t_trials 0) a_t_trials_day cI u_82)))) := hD.sub [0, 20, 21, 22, 23, 1, 2, 3, 4, 5, 6, 7, 8, 9, 10, 11, 12, 13, 14, 15, 16, 17, 18, 19] (by decide) rfl
    refine lv_iload hx hb dX6_seasons_85 (lv_at hl 5 rfl) ?_
    refine lv_aload hx hb dX6_seasons_87 (lv_at hl 4 rfl) ?_
    obtain ⟨u_89, e_89, hf⟩ := ho_b hf
    have hPc := hP.sub (ws' := (wX2 (a_t_trials 0) a_t_trials_day cI u_82)) [19, 20, 21, 22, 23] rfl
    refine vp_callSi (va_runV (As := []) (rest := [.int x6]) ⟨hx, hb, hml, hown, hts⟩ (c_X2_helped l dC dI cI cII (a_t_trials 0) a_t_trials_day u_82 u_89 e_89) (cwV 0 hts (hw_giV mw_451 mw_452 mw_453 mw_57 mw_454) rfl rfl rfl (by decide +kernel) ⟨Nat.le_of_ble_eq_true rfl, Nat.le_of_ble_eq_true rfl⟩) ⟨pB_blind, va_recv hK hPc (ci := 2) (q0 := 0) rfl rfl, fun U hU hW => ⟨rfl, pB_go hPc hK hN hU hW⟩⟩ rfl rfl hl.1 rfl (lv_room (Nat.le_of_ble_eq_true rfl)) dX6_seasons_89 ⟨Nat.zero_le _, Nat.zero_le _⟩).run (fun z_89 ez_89 => ?_)
    subst ez_89
    refine lv_iadd hx hb dX6_seasons_92 ?_
    refine lv_istore (lv' := [(6, .int (x6 + u_89)), (5, .int u_71.1), (0, .ref o_t), (1, .int x1), (3, .int x3), (4, .ref (a_t_trials 0)), (7, .int x7), (8, .int x8)]) hx hb dX6_seasons_93 hl (by decide) rfl (fun ls hl => ?_)
    refine lv_iload hx hb dX6_seasons_95 (lv_at hl 6 rfl) ?_
    refine lv_aload hx hb dX6_seasons_97 (lv_at hl 5 rfl) ?_
    obtain ⟨u_99, e_99, hf⟩ := ho_b hf
    have hPc := hP.sub (ws' := (wX2 (a_t_trials 0) a_t_trials_day cI u_82)) [19, 20, 21, 22, 23] rfl
    refine vp_callSi (va_runV (As := []) (rest := [.int x7]) ⟨hx, hb, hml, hown, hts⟩ (c_X2_meetings l dC dI cI cII (a_t_trials 0) a_t_trials_day u_82 u_99 e_99) (cwV 0 hts (hw_giV mw_461 mw_388 mw_389 mw_57 mw_390) rfl rfl rfl (by decide +kernel) ⟨Nat.le_of_ble_eq_true rfl, Nat.le_of_ble_eq_true rfl⟩) ⟨pB_blind, va_recv hK hPc (ci := 2) (q0 := 0) rfl rfl, fun U hU hW => ⟨rfl, pB_go hPc hK hN hU hW⟩⟩ rfl rfl hl.1 rfl (lv_room (Nat.le_of_ble_eq_true rfl)) dX6_seasons_99 ⟨Nat.zero_le _, Nat.zero_le _⟩).run (fun z_99 ez_99 => ?_)
    subst ez_99
    refine lv_iadd hx hb dX6_seasons_102 ?_
    refine lv_istore (lv' := [(7, .int (x7 + u_99)), (6, .int (x6 + u_89)), (5, .int u_71.1), (0, .ref o_t), (1, .int x1), (3, .int x3), (4, .ref (a_t_trials 0)), (8, .int x8)]) hx hb dX6_seasons_103 hl (by decide) rfl (fun ls hl => ?_)
    refine lv_iinc (v := (x8 + 1)) (lv' := [(8, .int (x8 + 1)), (7, .int (x7 + u_99)), (6, .int (x6 + u_89)), (5, .int u_71.1), (0, .ref o_t), (1, .int x1), (3, .int x3), (4, .ref (a_t_trials 0))]) hx hb dX6_seasons_105 hl (k := 7) rfl (hp_inc (by decide)) (by decide) rfl (fun ls hl => ?_)
    refine lv_goto (tgt := 60) hx hb dX6_seasons_108 (by decide) ?_
    exact ih60 (u_82, u_71.1, (x6 + u_89), (x7 + u_99), (x8 + 1)) _ hf _ _ _ hP hD hS (lv_sub hl [4, 5, 6, 7, 3, 2, 1, 0] rfl)
set_option maxHeartbeats 4000000 in
set_option maxRecDepth 100000 in
theorem c_X6_seasons (l : Launch) (dC : Nat → ClassId) (dI : Nat → Nat → Nat) (cI cII : ClassId) (o_t : Nat) (a_t : Nat → Nat) (a_t_now : Nat → Nat) (a_t_trials : Nat → Nat) (r_t_trials : Nat → Nat) (a_t_trials_day : Nat → Nat) (v_t : obV) (v_t_now : obV) (v_t_trials : obV) (w_t_trials : Nat → Nat → Int32) (v_t_trials_day : obV) (x1 : Int32) (x2 : Int32) (x3 : Int32) (sz : Nat) (r : Int32 × obV) (hf : f_X6_seasons  v_t_now v_t_trials_day x1 x2 x3 = some r) :
    Met l yX6_seasons (wd yX6_seasons cX6_seasons 9 (some .int)) ({ frames := 4, cells := 0, slots := 0, locals := 96 } : Room) (va_Pc [.ref o_t, .int x1, .int x2, .int x3] (qB (dC, dI) vwCl (wX6 o_t a_t cI v_t ++ (wX1 (a_t 1) a_t_now cI v_t_now ++ (wX5 (a_t 4) a_t_trials r_t_trials cI cII v_t_trials w_t_trials ++ (wX2 (a_t_trials 0) a_t_trials_day cI v_t_trials_day)))) (hTY cI cII) sz)) (va_Qi (fun (z : Int32) (_ : Unit) => r.1 = z) (fun _ t => va_P (dC, dI) vwCl (wX6 o_t a_t cI v_t ++ (wX1 (a_t 1) a_t_now cI v_t_now ++ (wX5 (a_t 4) a_t_trials r_t_trials cI cII v_t_trials w_t_trials ++ (wX2 (a_t_trials 0) a_t_trials_day cI r.2)))) t.heap ∧ va_D (va_A (wX6 o_t a_t cI v_t ++ (wX1 (a_t 1) a_t_now cI v_t_now ++ (wX5 (a_t 4) a_t_trials r_t_trials cI cII v_t_trials w_t_trials ++ (wX2 (a_t_trials 0) a_t_trials_day cI v_t_trials_day)))) sz) (wX6 o_t a_t cI v_t ++ (wX1 (a_t 1) a_t_now cI v_t_now ++ (wX5 (a_t 4) a_t_trials r_t_trials cI cII v_t_trials w_t_trials ++ (wX2 (a_t_trials 0) a_t_trials_day cI r.2))))) (va_A (wX6 o_t a_t cI v_t ++ (wX1 (a_t 1) a_t_now cI v_t_now ++ (wX5 (a_t 4) a_t_trials r_t_trials cI cII v_t_trials w_t_trials ++ (wX2 (a_t_trials 0) a_t_trials_day cI v_t_trials_day)))) sz)) 0 0 (va_A (wX6 o_t a_t cI v_t ++ (wX1 (a_t 1) a_t_now cI v_t_now ++ (wX5 (a_t 4) a_t_trials r_t_trials cI cII v_t_trials w_t_trials ++ (wX2 (a_t_trials 0) a_t_trials_day cI v_t_trials_day)))) sz) := by
  refine Met.ofW (cc := cX6_seasons) (maxL := 9) (ret := (some .int)) (by decide) rfl ?_
  intro p e s m args below meth c s₁ B hml hv
  obtain ⟨rfl, hsz, hD0, hP, hK, hN⟩ := hv
  have hx := B.exec
  have hb := B.bytes
  have hr := B.returns
  have hts := atoms_spec (ws := (wd yX6_seasons cX6_seasons 9 (some .int))) B.pre
  have hown : s.vm.findClass RX6 = some m.cls := findClass_of_methodNamed B.named
  have hlocks := B.notSynchronized
  subst hsz
  have hD := hD0.self (sz := s.heap.size)
  generalize hAe : va_A (wX6 o_t a_t cI v_t ++ (wX1 (a_t 1) a_t_now cI v_t_now ++ (wX5 (a_t 4) a_t_trials r_t_trials cI cII v_t_trials w_t_trials ++ (wX2 (a_t_trials 0) a_t_trials_day cI v_t_trials_day)))) s.heap.size = A at hD ⊢
  have hA : ∀ q : Nat, s.heap.size ≤ q → A q := fun q h => by rw [← hAe]; exact Or.inr h
  have hS : va_S A s.heap s.heap [] := va_S.rf
  have hl := lv_entry ([.ref o_t, .int x1, .int x2, .int x3]) (n := 9) (Nat.le_of_ble_eq_true rfl)
  rw [lg_entry_eq]
  generalize (lg_sl ([.ref o_t, .int x1, .int x2, .int x3]) ++ List.replicate (9 - (lg_sl ([.ref o_t, .int x1, .int x2, .int x3])).length) Slot.unset).toArray = ls at hl ⊢
  have hl : lv_has ls 9 [(0, .ref o_t), (1, .int x1), (2, .int x2), (3, .int x3)] := hl
  clear hAe hD0
  unfold f_X6_seasons at hf
  refine lv_iload_n hx hb dX6_seasons_0 rfl (lv_at hl 1 rfl) ?_
  refine lv_iconst (v := 1) hx hb dX6_seasons_1 (by decide) ?_
  refine lv_bipush (v := 30) hx hb dX6_seasons_2 (by decide) ?_
  obtain ⟨u_4, e_4, hf⟩ := ho_b hf
  have hPc := hP.sub (ws' := ([] : va_W)) [] rfl
  refine vp_callSi (va_runS (As := [.int x1, .int 1, .int 30]) (rest := []) ⟨hx, hb, hml, hown, hts⟩ (c_X6_isWithin l dC dI cI cII (x1) (1) (30) u_4 e_4) (va_cwS 3 hts (hw_giS mw_262 mw_263 mw_53 mw_264) rfl rfl rfl (by decide +kernel) ⟨Nat.le_of_ble_eq_true rfl, Nat.le_of_ble_eq_true rfl⟩) ⟨pB_blind, fun U hU hW => ⟨rfl, pB_go hPc hK hN hU hW⟩⟩ rfl rfl hl.1 rfl (lv_room (Nat.le_of_ble_eq_true rfl)) dX6_seasons_4 ⟨Nat.zero_le _, Nat.zero_le _⟩).run (fun z_4 ez_4 => ?_)
  subst ez_4
  refine lv_if_eq (tgt := 23) hx hb dX6_seasons_7 (by decide) (fun c_7 => ?_) (fun c_7 => ?_)
  · have hf := ho_t hf c_7
    refine lv_bipush (v := (-102)) hx hb dX6_seasons_23 (by decide) ?_
    obtain rfl := Option.some.inj hf
    exact W.iret (v := (-102)) hx hb hr (fun t ht hW => ⟨⟨_, (), rfl, rfl, by rw [ht]; exact hP, hD⟩, hS.F ht⟩) hS.2.2 dX6_seasons_25 hlocks
  · have hf := ho_f hf c_7
    refine lv_iload_n hx hb dX6_seasons_10 rfl (lv_at hl 2 rfl) ?_
    refine lv_if_lt (tgt := 23) hx hb dX6_seasons_11 (by decide) (fun c_11 => ?_) (fun c_11 => ?_)
    · have hf := ho_t hf c_11
      refine lv_bipush (v := (-102)) hx hb dX6_seasons_23 (by decide) ?_
      obtain rfl := Option.some.inj hf
      exact W.iret (v := (-102)) hx hb hr (fun t ht hW => ⟨⟨_, (), rfl, rfl, by rw [ht]; exact hP, hD⟩, hS.F ht⟩) hS.2.2 dX6_seasons_25 hlocks
    · have hf := ho_f hf c_11
      refine lv_iload_n hx hb dX6_seasons_14 rfl (lv_at hl 3 rfl) ?_
      refine lv_iconst (v := 0) hx hb dX6_seasons_15 (by decide) ?_
      refine lv_iconst (v := 2) hx hb dX6_seasons_16 (by decide) ?_
      obtain ⟨u_17, e_17, hf⟩ := ho_b hf
      have hPc := hP.sub (ws' := ([] : va_W)) [] rfl
      refine vp_callSi (va_runS (As := [.int x3, .int 0, .int 2]) (rest := []) ⟨hx, hb, hml, hown, hts⟩ (c_X6_isWithin l dC dI cI cII (x3) (0) (2) u_17 e_17) (va_cwS 3 hts (hw_giS mw_262 mw_263 mw_53 mw_264) rfl rfl rfl (by decide +kernel) ⟨Nat.le_of_ble_eq_true rfl, Nat.le_of_ble_eq_true rfl⟩) ⟨pB_blind, fun U hU hW => ⟨rfl, pB_go hPc hK hN hU hW⟩⟩ rfl rfl hl.1 rfl (lv_room (Nat.le_of_ble_eq_true rfl)) dX6_seasons_17 ⟨Nat.zero_le _, Nat.zero_le _⟩).run (fun z_17 ez_17 => ?_)
      subst ez_17
      refine lv_if_ne (tgt := 26) hx hb dX6_seasons_20 (by decide) (fun c_20 => ?_) (fun c_20 => ?_)
      · have hf := ho_f hf c_20
        refine lv_aload_n hx hb dX6_seasons_26 rfl (lv_at hl 0 rfl) ?_
        refine va_get (D := (dC, dI)) (ci := 6) (v := .ref (a_t 1)) (C := RX6) (T := TX6) (N := 8) hx hb hts hw_X6 hown hK hP 0 rfl rfl 1 (by decide) (hts _ (List.mem_cons_of_mem _ mw_234)) (fun _ h9 => h9) rfl dX6_seasons_27 ?_
        obtain ⟨u_30, e_30, hf⟩ := ho_b hf
        have hPc := hP.sub (ws' := (wX1 (a_t 1) a_t_now cI v_t_now)) [1, 2, 3, 4] rfl
        refine vp_callSi (va_runV (As := []) (rest := []) ⟨hx, hb, hml, hown, hts⟩ (c_X1_isNone l dC dI cI cII (a_t 1) a_t_now v_t_now u_30 e_30) (cwV 0 hts (hw_giV mw_435 mw_436 mw_437 mw_55 mw_438) rfl rfl rfl (by decide +kernel) ⟨Nat.le_of_ble_eq_true rfl, Nat.le_of_ble_eq_true rfl⟩) ⟨pB_blind, va_recv hK hPc (ci := 1) (q0 := 0) rfl rfl, fun U hU hW => ⟨rfl, pB_go hPc hK hN hU hW⟩⟩ rfl rfl hl.1 rfl (lv_room (Nat.le_of_ble_eq_true rfl)) dX6_seasons_30 ⟨Nat.zero_le _, Nat.zero_le _⟩).run (fun z_30 ez_30 => ?_)
        subst ez_30
        refine lv_if_eq (tgt := 39) hx hb dX6_seasons_33 (by decide) (fun c_33 => ?_) (fun c_33 => ?_)
        · have hf := ho_t hf c_33
          refine lv_aload_n hx hb dX6_seasons_39 rfl (lv_at hl 0 rfl) ?_
          refine va_get (D := (dC, dI)) (ci := 6) (v := .ref (a_t 4)) (C := RX6) (T := TX6) (N := 8) hx hb hts hw_X6 hown hK hP 0 rfl rfl 4 (by decide) (hts _ (List.mem_cons_of_mem _ mw_237)) (fun _ h9 => h9) rfl dX6_seasons_40 ?_
          refine va_get (D := (dC, dI)) (ci := 5) (v := .ref (a_t_trials 0)) (C := RX5) (T := TX5) (N := 4) hx hb hts hw_X5 hown hK hP 5 rfl rfl 0 (by decide) (hts _ (List.mem_cons_of_mem _ mw_199)) (fun _ h9 => h9) rfl dX6_seasons_43 ?_
          refine lv_astore (lv' := [(4, .ref (a_t_trials 0)), (0, .ref o_t), (1, .int x1), (2, .int x2), (3, .int x3)]) hx hb dX6_seasons_46 hl (by decide) rfl (fun ls hl => ?_)
          refine lv_iload_n hx hb dX6_seasons_48 rfl (lv_at hl 3 rfl) ?_
          refine lv_istore (lv' := [(5, .int x2), (4, .ref (a_t_trials 0)), (0, .ref o_t), (1, .int x1), (2, .int x2), (3, .int x3)]) hx hb dX6_seasons_49 hl (by decide) rfl (fun ls hl => ?_)
          refine lv_iconst (v := 0) hx hb dX6_seasons_51 (by decide) ?_
          refine lv_istore (lv' := [(6, .int 0), (5, .int x2), (4, .ref (a_t_trials 0)), (0, .ref o_t), (1, .int x1), (2, .int x2), (3, .int x3)]) hx hb dX6_seasons_52 hl (by decide) rfl (fun ls hl => ?_)
          refine lv_iconst (v := 0) hx hb dX6_seasons_54 (by decide) ?_
          refine lv_istore (lv' := [(7, .int 0), (6, .int 0), (5, .int x2), (4, .ref (a_t_trials 0)), (0, .ref o_t), (1, .int x1), (2, .int x2), (3, .int x3)]) hx hb dX6_seasons_55 hl (by decide) rfl (fun ls hl => ?_)
          refine lv_iconst (v := 0) hx hb dX6_seasons_57 (by decide) ?_
          refine lv_istore (lv' := [(8, .int 0), (7, .int 0), (6, .int 0), (5, .int x2), (4, .ref (a_t_trials 0)), (0, .ref o_t), (1, .int x1), (2, .int x2), (3, .int x3)]) hx hb dX6_seasons_58 hl (by decide) rfl (fun ls hl => ?_)
          exact w_X6_seasons_l60 ⟨hx, hb, hml, hown, hts, hr, hlocks, hK, hN⟩ hA  _ _ _ hf _ _ _ hP hD hS (lv_sub hl [5, 6, 8, 4, 3, 2, 1, 0] rfl)
        · have hf := ho_f hf c_33
          refine lv_bipush (v := (-103)) hx hb dX6_seasons_36 (by decide) ?_
          obtain rfl := Option.some.inj hf
          exact W.iret (v := (-103)) hx hb hr (fun t ht hW => ⟨⟨_, (), rfl, rfl, by rw [ht]; exact hP, hD⟩, hS.F ht⟩) hS.2.2 dX6_seasons_38 hlocks
      · have hf := ho_t hf c_20
        refine lv_bipush (v := (-102)) hx hb dX6_seasons_23 (by decide) ?_
        obtain rfl := Option.some.inj hf
        exact W.iret (v := (-102)) hx hb hr (fun t ht hW => ⟨⟨_, (), rfl, rfl, by rw [ht]; exact hP, hD⟩, hS.F ht⟩) hS.2.2 dX6_seasons_25 hlocks
set_option maxHeartbeats 4000000 in
set_option maxRecDepth 100000 in
theorem c_X6_image (l : Launch) (dC : Nat → ClassId) (dI : Nat → Nat → Nat) (cI cII : ClassId) (o_t : Nat) (a_t : Nat → Nat) (a_t_now : Nat → Nat) (a_t_kept : Nat → Nat) (a_t_kept_seen : Nat → Nat) (a_t_now_seen : Nat → Nat) (v_t : obV) (v_t_now : obV) (v_t_kept : obV) (v_t_kept_seen : obV) (v_t_now_seen : obV)  (sz : Nat) (r : Int32 × obV × obV × obV) (hf : f_X6_image  v_t v_t_now v_t_kept v_t_kept_seen v_t_now_seen  = some r) :
    Met l yX6_image (wd yX6_image cX6_image 1 (some .int)) ({ frames := 3, cells := 0, slots := 0, locals := 82 } : Room) (va_Pc [.ref o_t] (qB (dC, dI) vwCl (wX6 o_t a_t cI v_t ++ (wX1 (a_t 1) a_t_now cI v_t_now ++ (wX1 (a_t 2) a_t_kept cI v_t_kept ++ (wX4 (a_t_kept 3) a_t_kept_seen cI v_t_kept_seen ++ (wX4 (a_t_now 3) a_t_now_seen cI v_t_now_seen))))) (hTY cI cII) sz)) (va_Qi (fun (z : Int32) (_ : Unit) => r.1 = z) (fun _ t => va_P (dC, dI) vwCl (wX6 o_t a_t cI r.2.1 ++ (wX1 (a_t 1) a_t_now cI v_t_now ++ (wX1 (a_t 2) a_t_kept cI r.2.2.1 ++ (wX4 (a_t_kept 3) a_t_kept_seen cI r.2.2.2 ++ (wX4 (a_t_now 3) a_t_now_seen cI v_t_now_seen))))) t.heap ∧ va_D (va_A (wX6 o_t a_t cI v_t ++ (wX1 (a_t 1) a_t_now cI v_t_now ++ (wX1 (a_t 2) a_t_kept cI v_t_kept ++ (wX4 (a_t_kept 3) a_t_kept_seen cI v_t_kept_seen ++ (wX4 (a_t_now 3) a_t_now_seen cI v_t_now_seen))))) sz) (wX6 o_t a_t cI r.2.1 ++ (wX1 (a_t 1) a_t_now cI v_t_now ++ (wX1 (a_t 2) a_t_kept cI r.2.2.1 ++ (wX4 (a_t_kept 3) a_t_kept_seen cI r.2.2.2 ++ (wX4 (a_t_now 3) a_t_now_seen cI v_t_now_seen)))))) (va_A (wX6 o_t a_t cI v_t ++ (wX1 (a_t 1) a_t_now cI v_t_now ++ (wX1 (a_t 2) a_t_kept cI v_t_kept ++ (wX4 (a_t_kept 3) a_t_kept_seen cI v_t_kept_seen ++ (wX4 (a_t_now 3) a_t_now_seen cI v_t_now_seen))))) sz)) 0 0 (va_A (wX6 o_t a_t cI v_t ++ (wX1 (a_t 1) a_t_now cI v_t_now ++ (wX1 (a_t 2) a_t_kept cI v_t_kept ++ (wX4 (a_t_kept 3) a_t_kept_seen cI v_t_kept_seen ++ (wX4 (a_t_now 3) a_t_now_seen cI v_t_now_seen))))) sz) := by
  refine Met.ofW (cc := cX6_image) (maxL := 1) (ret := (some .int)) (by decide) rfl ?_
  intro p e s m args below meth c s₁ B hml hv
  obtain ⟨rfl, hsz, hD0, hP, hK, hN⟩ := hv
  have hx := B.exec
  have hb := B.bytes
  have hr := B.returns
  have hts := atoms_spec (ws := (wd yX6_image cX6_image 1 (some .int))) B.pre
  have hown : s.vm.findClass RX6 = some m.cls := findClass_of_methodNamed B.named
  have hlocks := B.notSynchronized
  subst hsz
  have hD := hD0.self (sz := s.heap.size)
  generalize hAe : va_A (wX6 o_t a_t cI v_t ++ (wX1 (a_t 1) a_t_now cI v_t_now ++ (wX1 (a_t 2) a_t_kept cI v_t_kept ++ (wX4 (a_t_kept 3) a_t_kept_seen cI v_t_kept_seen ++ (wX4 (a_t_now 3) a_t_now_seen cI v_t_now_seen))))) s.heap.size = A at hD ⊢
  have hA : ∀ q : Nat, s.heap.size ≤ q → A q := fun q h => by rw [← hAe]; exact Or.inr h
  have hS : va_S A s.heap s.heap [] := va_S.rf
  have hl := lv_entry ([.ref o_t]) (n := 1) (Nat.le_of_ble_eq_true rfl)
  rw [lg_entry_eq]
  generalize (lg_sl ([.ref o_t]) ++ List.replicate (1 - (lg_sl ([.ref o_t])).length) Slot.unset).toArray = ls at hl ⊢
  have hl : lv_has ls 1 [(0, .ref o_t)] := hl
  clear hAe hD0
  unfold f_X6_image at hf
  refine lv_aload_n hx hb dX6_image_0 rfl (lv_at hl 0 rfl) ?_
  refine va_get (D := (dC, dI)) (ci := 6) (v := .ref (a_t 1)) (C := RX6) (T := TX6) (N := 8) hx hb hts hw_X6 hown hK hP 0 rfl rfl 1 (by decide) (hts _ (List.mem_cons_of_mem _ mw_234)) (fun _ h9 => h9) rfl dX6_image_1 ?_
  obtain ⟨u_4, e_4, hf⟩ := ho_b hf
  have hPc := hP.sub (ws' := (wX1 (a_t 1) a_t_now cI v_t_now)) [1, 2, 3, 4] rfl
  refine vp_callSi (va_runV (As := []) (rest := []) ⟨hx, hb, hml, hown, hts⟩ (c_X1_isNone l dC dI cI cII (a_t 1) a_t_now v_t_now u_4 e_4) (cwV 0 hts (hw_giV mw_435 mw_436 mw_437 mw_55 mw_438) rfl rfl rfl (by decide +kernel) ⟨Nat.le_of_ble_eq_true rfl, Nat.le_of_ble_eq_true rfl⟩) ⟨pB_blind, va_recv hK hPc (ci := 1) (q0 := 0) rfl rfl, fun U hU hW => ⟨rfl, pB_go hPc hK hN hU hW⟩⟩ rfl rfl hl.1 rfl (lv_room (Nat.le_of_ble_eq_true rfl)) dX6_image_4 ⟨Nat.zero_le _, Nat.zero_le _⟩).run (fun z_4 ez_4 => ?_)
  subst ez_4
  refine lv_if_eq (tgt := 13) hx hb dX6_image_7 (by decide) (fun c_7 => ?_) (fun c_7 => ?_)
  · have hf := ho_t hf c_7
    refine lv_aload_n hx hb dX6_image_13 rfl (lv_at hl 0 rfl) ?_
    refine va_get (D := (dC, dI)) (ci := 6) (v := .ref (a_t 2)) (C := RX6) (T := TX6) (N := 8) hx hb hts hw_X6 hown hK hP 0 rfl rfl 2 (by decide) (hts _ (List.mem_cons_of_mem _ mw_235)) (fun _ h9 => h9) rfl dX6_image_14 ?_
    refine lv_aload_n hx hb dX6_image_17 rfl (lv_at hl 0 rfl) ?_
    refine va_get (D := (dC, dI)) (ci := 6) (v := .ref (a_t 1)) (C := RX6) (T := TX6) (N := 8) hx hb hts hw_X6 hown hK hP 0 rfl rfl 1 (by decide) (hts _ (List.mem_cons_of_mem _ mw_234)) (fun _ h9 => h9) rfl dX6_image_18 ?_
    obtain ⟨u_21, e_21, hf⟩ := ho_b hf
    have hPc := hP.sub (ws' := (wX1 (a_t 2) a_t_kept cI v_t_kept ++ (wX1 (a_t 1) a_t_now cI v_t_now ++ (wX4 (a_t_kept 3) a_t_kept_seen cI v_t_kept_seen ++ (wX4 (a_t_now 3) a_t_now_seen cI v_t_now_seen))))) [5, 6, 7, 8, 1, 2, 3, 4, 9, 10, 11, 12, 13, 14] rfl
    have hDc := hD.sub (ws' := (wX1 (a_t 2) a_t_kept cI v_t_kept ++ (wX1 (a_t 1) a_t_now cI v_t_now ++ (wX4 (a_t_kept 3) a_t_kept_seen cI v_t_kept_seen ++ (wX4 (a_t_now 3) a_t_now_seen cI v_t_now_seen))))) [5, 6, 7, 8, 1, 2, 3, 4, 9, 10, 11, 12, 13, 14] (by decide) rfl
    have hFc := va_free (wc := (wX1 (a_t 2) a_t_kept cI v_t_kept ++ (wX1 (a_t 1) a_t_now cI v_t_now ++ (wX4 (a_t_kept 3) a_t_kept_seen cI v_t_kept_seen ++ (wX4 (a_t_now 3) a_t_now_seen cI v_t_now_seen))))) hD hS hA [5, 6, 7, 8, 1, 2, 3, 4, 9, 10, 11, 12, 13, 14] rfl
    refine va_callv (va_runV (As := [.ref (a_t 1)]) (rest := []) ⟨hx, hb, hml, hown, hts⟩ (c_X1_copy l dC dI cI cII (a_t 2) a_t_kept (a_t 1) a_t_now a_t_kept_seen a_t_now_seen v_t_kept v_t_now v_t_kept_seen v_t_now_seen _ u_21 e_21) (cwV 1 hts (hw_giV mw_546 mw_547 mw_548 mw_55 mw_549) rfl rfl rfl (by decide +kernel) ⟨Nat.le_of_ble_eq_true rfl, Nat.le_of_ble_eq_true rfl⟩) ⟨qB_blind, va_recv hK hPc (ci := 1) (q0 := 0) rfl rfl, fun U hU hW => ⟨rfl, qB_go hPc hDc hK hN hU hW⟩⟩ rfl rfl hl.1 rfl (lv_room (Nat.le_of_ble_eq_true rfl)) dX6_image_21 ⟨Nat.zero_le _, Nat.zero_le _⟩) hS (fun q _ h => hFc q h) hFc (fun u t H1 locs ht hvm hw hB hz1 hk1 hS => ?_)
    obtain ⟨hP1, hD1⟩ := hB
    rw [ht] at hP1
    obtain ⟨hP, hD⟩ := va_join (wr := (wX6 o_t a_t cI v_t)) (w1 := (wX1 (a_t 2) a_t_kept cI u_21.1 ++ (wX1 (a_t 1) a_t_now cI v_t_now ++ (wX4 (a_t_kept 3) a_t_kept_seen cI u_21.2 ++ (wX4 (a_t_now 3) a_t_now_seen cI v_t_now_seen))))) hP hD [5, 6, 7, 8, 1, 2, 3, 4, 9, 10, 11, 12, 13, 14] [0] rfl rfl (by decide) (by decide) hk1 hFc hP1 hD1
    generalize H1 = H at hP hS ⊢
    have hP : va_P (dC, dI) vwCl (wX6 o_t a_t cI v_t ++ (wX1 (a_t 1) a_t_now cI v_t_now ++ (wX1 (a_t 2) a_t_kept cI u_21.1 ++ (wX4 (a_t_kept 3) a_t_kept_seen cI u_21.2 ++ (wX4 (a_t_now 3) a_t_now_seen cI v_t_now_seen))))) H := hP.sub [0, 5, 6, 7, 8, 1, 2, 3, 4, 9, 10, 11, 12, 13, 14] rfl
    have hD : va_D A (wX6 o_t a_t cI v_t ++ (wX1 (a_t 1) a_t_now cI v_t_now ++ (wX1 (a_t 2) a_t_kept cI u_21.1 ++ (wX4 (a_t_kept 3) a_t_kept_seen cI u_21.2 ++ (wX4 (a_t_now 3) a_t_now_seen cI v_t_now_seen))))) := hD.sub [0, 5, 6, 7, 8, 1, 2, 3, 4, 9, 10, 11, 12, 13, 14] (by decide) rfl
    refine lv_aload_n hx hb dX6_image_24 rfl (lv_at hl 0 rfl) ?_
    refine lv_iconst (v := 1) hx hb dX6_image_25 (by decide) ?_
    refine va_put (D := (dC, dI)) (ci := 6) (v := .int 1) (ty := .boolean) (C := RX6) (T := TX6) (N := 8) hx hb hts hw_X6 tyX6 tyX6_ok nmX6 hown hK hP hD hS 0 rfl rfl 6 (by decide) (hts _ (List.mem_cons_of_mem _ mw_239)) (fun _ h9 => h9) rfl (by decide +kernel) rfl rfl (Nat.le_of_ble_eq_true rfl) dX6_image_26 (fun H locs hP hD hS => ?_)
    have hP : va_P (dC, dI) vwCl (wX6 o_t a_t cI (oF v_t 6 1) ++ (wX1 (a_t 1) a_t_now cI v_t_now ++ (wX1 (a_t 2) a_t_kept cI u_21.1 ++ (wX4 (a_t_kept 3) a_t_kept_seen cI u_21.2 ++ (wX4 (a_t_now 3) a_t_now_seen cI v_t_now_seen))))) H := hP
    have hD : va_D A (wX6 o_t a_t cI (oF v_t 6 1) ++ (wX1 (a_t 1) a_t_now cI v_t_now ++ (wX1 (a_t 2) a_t_kept cI u_21.1 ++ (wX4 (a_t_kept 3) a_t_kept_seen cI u_21.2 ++ (wX4 (a_t_now 3) a_t_now_seen cI v_t_now_seen))))) := hD
    obtain ⟨v_t_26, e_v_t_26⟩ : ∃ z : obV, z = (oF v_t 6 1) := ⟨_, rfl⟩
    rw [← e_v_t_26] at hP hD
    have hf := ho_l hf v_t_26 e_v_t_26
    refine lv_aload_n hx hb dX6_image_29 rfl (lv_at hl 0 rfl) ?_
    refine va_get (D := (dC, dI)) (ci := 6) (v := .ref (a_t 1)) (C := RX6) (T := TX6) (N := 8) hx hb hts hw_X6 hown hK hP 0 rfl rfl 1 (by decide) (hts _ (List.mem_cons_of_mem _ mw_234)) (fun _ h9 => h9) rfl dX6_image_30 ?_
    refine va_get (D := (dC, dI)) (ci := 1) (v := .int (v_t_now.1 6)) (C := RX1) (T := TX1) (N := 7) hx hb hts hw_X1 hown hK hP 1 rfl rfl 6 (by decide) (hts _ (List.mem_cons_of_mem _ mw_133)) (fun _ h9 => h9) rfl dX6_image_33 ?_
    obtain rfl := Option.some.inj hf
    exact W.iret (v := (v_t_now.1 6)) hx hb hr (fun t ht hW => ⟨⟨_, (), rfl, rfl, by rw [ht]; exact hP, hD⟩, hS.F ht⟩) hS.2.2 dX6_image_36 hlocks
  · have hf := ho_f hf c_7
    refine lv_bipush (v := (-103)) hx hb dX6_image_10 (by decide) ?_
    obtain rfl := Option.some.inj hf
    exact W.iret (v := (-103)) hx hb hr (fun t ht hW => ⟨⟨_, (), rfl, rfl, by rw [ht]; exact hP, hD⟩, hS.F ht⟩) hS.2.2 dX6_image_12 hlocks
set_option maxHeartbeats 4000000 in
set_option maxRecDepth 100000 in
theorem c_X6_restore (l : Launch) (dC : Nat → ClassId) (dI : Nat → Nat → Nat) (cI cII : ClassId) (o_t : Nat) (a_t : Nat → Nat) (a_t_now : Nat → Nat) (a_t_kept : Nat → Nat) (a_t_now_seen : Nat → Nat) (a_t_kept_seen : Nat → Nat) (v_t : obV) (v_t_now : obV) (v_t_kept : obV) (v_t_now_seen : obV) (v_t_kept_seen : obV)  (sz : Nat) (r : Int32 × obV × obV) (hf : f_X6_restore  v_t v_t_now v_t_kept v_t_now_seen v_t_kept_seen  = some r) :
    Met l yX6_restore (wd yX6_restore cX6_restore 1 (some .int)) ({ frames := 3, cells := 0, slots := 0, locals := 82 } : Room) (va_Pc [.ref o_t] (qB (dC, dI) vwCl (wX6 o_t a_t cI v_t ++ (wX1 (a_t 1) a_t_now cI v_t_now ++ (wX1 (a_t 2) a_t_kept cI v_t_kept ++ (wX4 (a_t_now 3) a_t_now_seen cI v_t_now_seen ++ (wX4 (a_t_kept 3) a_t_kept_seen cI v_t_kept_seen))))) (hTY cI cII) sz)) (va_Qi (fun (z : Int32) (_ : Unit) => r.1 = z) (fun _ t => va_P (dC, dI) vwCl (wX6 o_t a_t cI v_t ++ (wX1 (a_t 1) a_t_now cI r.2.1 ++ (wX1 (a_t 2) a_t_kept cI v_t_kept ++ (wX4 (a_t_now 3) a_t_now_seen cI r.2.2 ++ (wX4 (a_t_kept 3) a_t_kept_seen cI v_t_kept_seen))))) t.heap ∧ va_D (va_A (wX6 o_t a_t cI v_t ++ (wX1 (a_t 1) a_t_now cI v_t_now ++ (wX1 (a_t 2) a_t_kept cI v_t_kept ++ (wX4 (a_t_now 3) a_t_now_seen cI v_t_now_seen ++ (wX4 (a_t_kept 3) a_t_kept_seen cI v_t_kept_seen))))) sz) (wX6 o_t a_t cI v_t ++ (wX1 (a_t 1) a_t_now cI r.2.1 ++ (wX1 (a_t 2) a_t_kept cI v_t_kept ++ (wX4 (a_t_now 3) a_t_now_seen cI r.2.2 ++ (wX4 (a_t_kept 3) a_t_kept_seen cI v_t_kept_seen)))))) (va_A (wX6 o_t a_t cI v_t ++ (wX1 (a_t 1) a_t_now cI v_t_now ++ (wX1 (a_t 2) a_t_kept cI v_t_kept ++ (wX4 (a_t_now 3) a_t_now_seen cI v_t_now_seen ++ (wX4 (a_t_kept 3) a_t_kept_seen cI v_t_kept_seen))))) sz)) 0 0 (va_A (wX6 o_t a_t cI v_t ++ (wX1 (a_t 1) a_t_now cI v_t_now ++ (wX1 (a_t 2) a_t_kept cI v_t_kept ++ (wX4 (a_t_now 3) a_t_now_seen cI v_t_now_seen ++ (wX4 (a_t_kept 3) a_t_kept_seen cI v_t_kept_seen))))) sz) := by
  refine Met.ofW (cc := cX6_restore) (maxL := 1) (ret := (some .int)) (by decide) rfl ?_
  intro p e s m args below meth c s₁ B hml hv
  obtain ⟨rfl, hsz, hD0, hP, hK, hN⟩ := hv
  have hx := B.exec
  have hb := B.bytes
  have hr := B.returns
  have hts := atoms_spec (ws := (wd yX6_restore cX6_restore 1 (some .int))) B.pre
  have hown : s.vm.findClass RX6 = some m.cls := findClass_of_methodNamed B.named
  have hlocks := B.notSynchronized
  subst hsz
  have hD := hD0.self (sz := s.heap.size)
  generalize hAe : va_A (wX6 o_t a_t cI v_t ++ (wX1 (a_t 1) a_t_now cI v_t_now ++ (wX1 (a_t 2) a_t_kept cI v_t_kept ++ (wX4 (a_t_now 3) a_t_now_seen cI v_t_now_seen ++ (wX4 (a_t_kept 3) a_t_kept_seen cI v_t_kept_seen))))) s.heap.size = A at hD ⊢
  have hA : ∀ q : Nat, s.heap.size ≤ q → A q := fun q h => by rw [← hAe]; exact Or.inr h
  have hS : va_S A s.heap s.heap [] := va_S.rf
  have hl := lv_entry ([.ref o_t]) (n := 1) (Nat.le_of_ble_eq_true rfl)
  rw [lg_entry_eq]
  generalize (lg_sl ([.ref o_t]) ++ List.replicate (1 - (lg_sl ([.ref o_t])).length) Slot.unset).toArray = ls at hl ⊢
  have hl : lv_has ls 1 [(0, .ref o_t)] := hl
  clear hAe hD0
  unfold f_X6_restore at hf
  refine lv_aload_n hx hb dX6_restore_0 rfl (lv_at hl 0 rfl) ?_
  refine va_get (D := (dC, dI)) (ci := 6) (v := .int (v_t.1 6)) (C := RX6) (T := TX6) (N := 8) hx hb hts hw_X6 hown hK hP 0 rfl rfl 6 (by decide) (hts _ (List.mem_cons_of_mem _ mw_239)) (fun _ h9 => h9) rfl dX6_restore_1 ?_
  refine lv_if_ne (tgt := 10) hx hb dX6_restore_4 (by decide) (fun c_4 => ?_) (fun c_4 => ?_)
  · have hf := ho_f hf c_4
    refine lv_aload_n hx hb dX6_restore_10 rfl (lv_at hl 0 rfl) ?_
    refine va_get (D := (dC, dI)) (ci := 6) (v := .ref (a_t 1)) (C := RX6) (T := TX6) (N := 8) hx hb hts hw_X6 hown hK hP 0 rfl rfl 1 (by decide) (hts _ (List.mem_cons_of_mem _ mw_234)) (fun _ h9 => h9) rfl dX6_restore_11 ?_
    refine lv_aload_n hx hb dX6_restore_14 rfl (lv_at hl 0 rfl) ?_
    refine va_get (D := (dC, dI)) (ci := 6) (v := .ref (a_t 2)) (C := RX6) (T := TX6) (N := 8) hx hb hts hw_X6 hown hK hP 0 rfl rfl 2 (by decide) (hts _ (List.mem_cons_of_mem _ mw_235)) (fun _ h9 => h9) rfl dX6_restore_15 ?_
    obtain ⟨u_18, e_18, hf⟩ := ho_b hf
    have hPc := hP.sub (ws' := (wX1 (a_t 1) a_t_now cI v_t_now ++ (wX1 (a_t 2) a_t_kept cI v_t_kept ++ (wX4 (a_t_now 3) a_t_now_seen cI v_t_now_seen ++ (wX4 (a_t_kept 3) a_t_kept_seen cI v_t_kept_seen))))) [1, 2, 3, 4, 5, 6, 7, 8, 9, 10, 11, 12, 13, 14] rfl
    have hDc := hD.sub (ws' := (wX1 (a_t 1) a_t_now cI v_t_now ++ (wX1 (a_t 2) a_t_kept cI v_t_kept ++ (wX4 (a_t_now 3) a_t_now_seen cI v_t_now_seen ++ (wX4 (a_t_kept 3) a_t_kept_seen cI v_t_kept_seen))))) [1, 2, 3, 4, 5, 6, 7, 8, 9, 10, 11, 12, 13, 14] (by decide) rfl
    have hFc := va_free (wc := (wX1 (a_t 1) a_t_now cI v_t_now ++ (wX1 (a_t 2) a_t_kept cI v_t_kept ++ (wX4 (a_t_now 3) a_t_now_seen cI v_t_now_seen ++ (wX4 (a_t_kept 3) a_t_kept_seen cI v_t_kept_seen))))) hD hS hA [1, 2, 3, 4, 5, 6, 7, 8, 9, 10, 11, 12, 13, 14] rfl
    refine va_callv (va_runV (As := [.ref (a_t 2)]) (rest := []) ⟨hx, hb, hml, hown, hts⟩ (c_X1_copy l dC dI cI cII (a_t 1) a_t_now (a_t 2) a_t_kept a_t_now_seen a_t_kept_seen v_t_now v_t_kept v_t_now_seen v_t_kept_seen _ u_18 e_18) (cwV 1 hts (hw_giV mw_546 mw_547 mw_548 mw_55 mw_549) rfl rfl rfl (by decide +kernel) ⟨Nat.le_of_ble_eq_true rfl, Nat.le_of_ble_eq_true rfl⟩) ⟨qB_blind, va_recv hK hPc (ci := 1) (q0 := 0) rfl rfl, fun U hU hW => ⟨rfl, qB_go hPc hDc hK hN hU hW⟩⟩ rfl rfl hl.1 rfl (lv_room (Nat.le_of_ble_eq_true rfl)) dX6_restore_18 ⟨Nat.zero_le _, Nat.zero_le _⟩) hS (fun q _ h => hFc q h) hFc (fun u t H1 locs ht hvm hw hB hz1 hk1 hS => ?_)
    obtain ⟨hP1, hD1⟩ := hB
    rw [ht] at hP1
    obtain ⟨hP, hD⟩ := va_join (wr := (wX6 o_t a_t cI v_t)) (w1 := (wX1 (a_t 1) a_t_now cI u_18.1 ++ (wX1 (a_t 2) a_t_kept cI v_t_kept ++ (wX4 (a_t_now 3) a_t_now_seen cI u_18.2 ++ (wX4 (a_t_kept 3) a_t_kept_seen cI v_t_kept_seen))))) hP hD [1, 2, 3, 4, 5, 6, 7, 8, 9, 10, 11, 12, 13, 14] [0] rfl rfl (by decide) (by decide) hk1 hFc hP1 hD1
    generalize H1 = H at hP hS ⊢
    have hP : va_P (dC, dI) vwCl (wX6 o_t a_t cI v_t ++ (wX1 (a_t 1) a_t_now cI u_18.1 ++ (wX1 (a_t 2) a_t_kept cI v_t_kept ++ (wX4 (a_t_now 3) a_t_now_seen cI u_18.2 ++ (wX4 (a_t_kept 3) a_t_kept_seen cI v_t_kept_seen))))) H := hP.sub [0, 1, 2, 3, 4, 5, 6, 7, 8, 9, 10, 11, 12, 13, 14] rfl
    have hD : va_D A (wX6 o_t a_t cI v_t ++ (wX1 (a_t 1) a_t_now cI u_18.1 ++ (wX1 (a_t 2) a_t_kept cI v_t_kept ++ (wX4 (a_t_now 3) a_t_now_seen cI u_18.2 ++ (wX4 (a_t_kept 3) a_t_kept_seen cI v_t_kept_seen))))) := hD.sub [0, 1, 2, 3, 4, 5, 6, 7, 8, 9, 10, 11, 12, 13, 14] (by decide) rfl
    refine lv_aload_n hx hb dX6_restore_21 rfl (lv_at hl 0 rfl) ?_
    refine va_get (D := (dC, dI)) (ci := 6) (v := .ref (a_t 1)) (C := RX6) (T := TX6) (N := 8) hx hb hts hw_X6 hown hK hP 0 rfl rfl 1 (by decide) (hts _ (List.mem_cons_of_mem _ mw_234)) (fun _ h9 => h9) rfl dX6_restore_22 ?_
    refine va_get (D := (dC, dI)) (ci := 1) (v := .int (u_18.1.1 6)) (C := RX1) (T := TX1) (N := 7) hx hb hts hw_X1 hown hK hP 1 rfl rfl 6 (by decide) (hts _ (List.mem_cons_of_mem _ mw_133)) (fun _ h9 => h9) rfl dX6_restore_25 ?_
    obtain rfl := Option.some.inj hf
    exact W.iret (v := (u_18.1.1 6)) hx hb hr (fun t ht hW => ⟨⟨_, (), rfl, rfl, by rw [ht]; exact hP, hD⟩, hS.F ht⟩) hS.2.2 dX6_restore_28 hlocks
  · have hf := ho_t hf c_4
    refine lv_bipush (v := (-103)) hx hb dX6_restore_7 (by decide) ?_
    obtain rfl := Option.some.inj hf
    exact W.iret (v := (-103)) hx hb hr (fun t ht hW => ⟨⟨_, (), rfl, rfl, by rw [ht]; exact hP, hD⟩, hS.F ht⟩) hS.2.2 dX6_restore_9 hlocks
set_option maxHeartbeats 4000000 in
set_option maxRecDepth 100000 in
theorem c_X6_count (l : Launch) (dC : Nat → ClassId) (dI : Nat → Nat → Nat) (cI cII : ClassId) (o_t : Nat) (a_t : Nat → Nat) (a_t_page : Nat → Nat) (a_t_now : Nat → Nat) (a_t_now_seen : Nat → Nat) (v_t : obV) (v_t_page : obV) (v_t_now : obV) (v_t_now_seen : obV) (x1 : Int32) (r : Int32) (hf : f_X6_count  v_t v_t_page v_t_now v_t_now_seen x1 = some r) :
    Met l yX6_count (wd yX6_count cX6_count 2 (some .int)) ({ frames := 2, cells := 0, slots := 0, locals := 43 } : Room) (va_Pc [.ref o_t, .int x1] (pB (dC, dI) vwCl (wX6 o_t a_t cI v_t ++ (wX3 (a_t 0) a_t_page cI v_t_page ++ (wX1 (a_t 1) a_t_now cI v_t_now ++ (wX4 (a_t_now 3) a_t_now_seen cI v_t_now_seen)))) (hTY cI cII))) (vp_Si (fun z => r = z)) 0 0 (fun _ => False) := by
  refine Met.ofW (cc := cX6_count) (maxL := 2) (ret := (some .int)) (by decide) rfl ?_
  intro p e s m args below meth c s₁ B hml hv
  obtain ⟨rfl, hP, hK, hN⟩ := hv
  have hx := B.exec
  have hb := B.bytes
  have hr := B.returns
  have hts := atoms_spec (ws := (wd yX6_count cX6_count 2 (some .int))) B.pre
  have hown : s.vm.findClass RX6 = some m.cls := findClass_of_methodNamed B.named
  have hlocks := B.notSynchronized
  have hl := lv_entry ([.ref o_t, .int x1]) (n := 2) (Nat.le_of_ble_eq_true rfl)
  rw [lg_entry_eq]
  generalize (lg_sl ([.ref o_t, .int x1]) ++ List.replicate (2 - (lg_sl ([.ref o_t, .int x1])).length) Slot.unset).toArray = ls at hl ⊢
  have hl : lv_has ls 2 [(0, .ref o_t), (1, .int x1)] := hl
  unfold f_X6_count at hf
  refine lv_iload_n hx hb dX6_count_0 rfl (lv_at hl 1 rfl) ?_
  by_cases c_1_0 : x1 = 0
  · have hf := ho_t hf c_1_0
    refine lv_tableIn (tgt := 48) hx hb dX6_count_1 (by rw [c_1_0] <;> decide) (by rw [c_1_0] <;> decide) (by rw [c_1_0] <;> rfl) (by decide) ?_
    refine lv_aload_n hx hb dX6_count_48 rfl (lv_at hl 0 rfl) ?_
    refine va_get (D := (dC, dI)) (ci := 6) (v := .ref (a_t 1)) (C := RX6) (T := TX6) (N := 8) hx hb hts hw_X6 hown hK hP 0 rfl rfl 1 (by decide) (hts _ (List.mem_cons_of_mem _ mw_234)) (fun _ h9 => h9) rfl dX6_count_49 ?_
    refine va_get (D := (dC, dI)) (ci := 1) (v := .int (v_t_now.1 4)) (C := RX1) (T := TX1) (N := 7) hx hb hts hw_X1 hown hK hP 3 rfl rfl 4 (by decide) (hts _ (List.mem_cons_of_mem _ mw_126)) (fun _ h9 => h9) rfl dX6_count_52 ?_
    obtain rfl := Option.some.inj hf
    exact W.iret (v := (v_t_now.1 4)) hx hb hr (fun t ht hW => ⟨_, rfl, rfl, ht⟩) (fun q hq => by cases hq) dX6_count_55 hlocks
  have hf := ho_f hf c_1_0
  by_cases c_1_1 : x1 = 1
  · have hf := ho_t hf c_1_1
    refine lv_tableIn (tgt := 56) hx hb dX6_count_1 (by rw [c_1_1] <;> decide) (by rw [c_1_1] <;> decide) (by rw [c_1_1] <;> rfl) (by decide) ?_
    refine lv_aload_n hx hb dX6_count_56 rfl (lv_at hl 0 rfl) ?_
    refine va_get (D := (dC, dI)) (ci := 6) (v := .ref (a_t 1)) (C := RX6) (T := TX6) (N := 8) hx hb hts hw_X6 hown hK hP 0 rfl rfl 1 (by decide) (hts _ (List.mem_cons_of_mem _ mw_234)) (fun _ h9 => h9) rfl dX6_count_57 ?_
    refine va_get (D := (dC, dI)) (ci := 1) (v := .int (v_t_now.1 5)) (C := RX1) (T := TX1) (N := 7) hx hb hts hw_X1 hown hK hP 3 rfl rfl 5 (by decide) (hts _ (List.mem_cons_of_mem _ mw_131)) (fun _ h9 => h9) rfl dX6_count_60 ?_
    obtain rfl := Option.some.inj hf
    exact W.iret (v := (v_t_now.1 5)) hx hb hr (fun t ht hW => ⟨_, rfl, rfl, ht⟩) (fun q hq => by cases hq) dX6_count_63 hlocks
  have hf := ho_f hf c_1_1
  by_cases c_1_2 : x1 = 2
  · have hf := ho_t hf c_1_2
    refine lv_tableIn (tgt := 64) hx hb dX6_count_1 (by rw [c_1_2] <;> decide) (by rw [c_1_2] <;> decide) (by rw [c_1_2] <;> rfl) (by decide) ?_
    refine lv_aload_n hx hb dX6_count_64 rfl (lv_at hl 0 rfl) ?_
    refine va_get (D := (dC, dI)) (ci := 6) (v := .ref (a_t 1)) (C := RX6) (T := TX6) (N := 8) hx hb hts hw_X6 hown hK hP 0 rfl rfl 1 (by decide) (hts _ (List.mem_cons_of_mem _ mw_234)) (fun _ h9 => h9) rfl dX6_count_65 ?_
    obtain ⟨u_68, e_68, hf⟩ := ho_b hf
    have hPc := hP.sub (ws' := (wX1 (a_t 1) a_t_now cI v_t_now)) [3, 4, 5, 6] rfl
    refine vp_callSi (va_runV (As := []) (rest := []) ⟨hx, hb, hml, hown, hts⟩ (c_X1_allStay l dC dI cI cII (a_t 1) a_t_now v_t_now u_68 e_68) (cwV 0 hts (hw_giV mw_564 mw_565 mw_566 mw_55 mw_567) rfl rfl rfl (by decide +kernel) ⟨Nat.le_of_ble_eq_true rfl, Nat.le_of_ble_eq_true rfl⟩) ⟨pB_blind, va_recv hK hPc (ci := 1) (q0 := 0) rfl rfl, fun U hU hW => ⟨rfl, pB_go hPc hK hN hU hW⟩⟩ rfl rfl hl.1 rfl (lv_room (Nat.le_of_ble_eq_true rfl)) dX6_count_68 ⟨Nat.zero_le _, Nat.zero_le _⟩).run (fun z_68 ez_68 => ?_)
    subst ez_68
    obtain rfl := Option.some.inj hf
    exact W.iret (v := u_68) hx hb hr (fun t ht hW => ⟨_, rfl, rfl, ht⟩) (fun q hq => by cases hq) dX6_count_71 hlocks
  have hf := ho_f hf c_1_2
  by_cases c_1_3 : x1 = 3
  · have hf := ho_t hf c_1_3
    refine lv_tableIn (tgt := 72) hx hb dX6_count_1 (by rw [c_1_3] <;> decide) (by rw [c_1_3] <;> decide) (by rw [c_1_3] <;> rfl) (by decide) ?_
    refine lv_aload_n hx hb dX6_count_72 rfl (lv_at hl 0 rfl) ?_
    refine va_get (D := (dC, dI)) (ci := 6) (v := .ref (a_t 1)) (C := RX6) (T := TX6) (N := 8) hx hb hts hw_X6 hown hK hP 0 rfl rfl 1 (by decide) (hts _ (List.mem_cons_of_mem _ mw_234)) (fun _ h9 => h9) rfl dX6_count_73 ?_
    obtain ⟨u_76, e_76, hf⟩ := ho_b hf
    have hPc := hP.sub (ws' := (wX1 (a_t 1) a_t_now cI v_t_now)) [3, 4, 5, 6] rfl
    refine vp_callSi (va_runV (As := []) (rest := []) ⟨hx, hb, hml, hown, hts⟩ (c_X1_unlikeTroubles l dC dI cI cII (a_t 1) a_t_now v_t_now u_76 e_76) (cwV 0 hts (hw_giV mw_569 mw_570 mw_571 mw_55 mw_572) rfl rfl rfl (by decide +kernel) ⟨Nat.le_of_ble_eq_true rfl, Nat.le_of_ble_eq_true rfl⟩) ⟨pB_blind, va_recv hK hPc (ci := 1) (q0 := 0) rfl rfl, fun U hU hW => ⟨rfl, pB_go hPc hK hN hU hW⟩⟩ rfl rfl hl.1 rfl (lv_room (Nat.le_of_ble_eq_true rfl)) dX6_count_76 ⟨Nat.zero_le _, Nat.zero_le _⟩).run (fun z_76 ez_76 => ?_)
    subst ez_76
    obtain rfl := Option.some.inj hf
    exact W.iret (v := u_76) hx hb hr (fun t ht hW => ⟨_, rfl, rfl, ht⟩) (fun q hq => by cases hq) dX6_count_79 hlocks
  have hf := ho_f hf c_1_3
  by_cases c_1_4 : x1 = 4
  · have hf := ho_t hf c_1_4
    refine lv_tableIn (tgt := 80) hx hb dX6_count_1 (by rw [c_1_4] <;> decide) (by rw [c_1_4] <;> decide) (by rw [c_1_4] <;> rfl) (by decide) ?_
    refine lv_aload_n hx hb dX6_count_80 rfl (lv_at hl 0 rfl) ?_
    refine va_get (D := (dC, dI)) (ci := 6) (v := .ref (a_t 1)) (C := RX6) (T := TX6) (N := 8) hx hb hts hw_X6 hown hK hP 0 rfl rfl 1 (by decide) (hts _ (List.mem_cons_of_mem _ mw_234)) (fun _ h9 => h9) rfl dX6_count_81 ?_
    refine va_get (D := (dC, dI)) (ci := 1) (v := .int (v_t_now.1 6)) (C := RX1) (T := TX1) (N := 7) hx hb hts hw_X1 hown hK hP 3 rfl rfl 6 (by decide) (hts _ (List.mem_cons_of_mem _ mw_133)) (fun _ h9 => h9) rfl dX6_count_84 ?_
    obtain rfl := Option.some.inj hf
    exact W.iret (v := (v_t_now.1 6)) hx hb hr (fun t ht hW => ⟨_, rfl, rfl, ht⟩) (fun q hq => by cases hq) dX6_count_87 hlocks
  have hf := ho_f hf c_1_4
  by_cases c_1_5 : x1 = 5
  · have hf := ho_t hf c_1_5
    refine lv_tableIn (tgt := 88) hx hb dX6_count_1 (by rw [c_1_5] <;> decide) (by rw [c_1_5] <;> decide) (by rw [c_1_5] <;> rfl) (by decide) ?_
    refine lv_aload_n hx hb dX6_count_88 rfl (lv_at hl 0 rfl) ?_
    refine va_get (D := (dC, dI)) (ci := 6) (v := .ref (a_t 1)) (C := RX6) (T := TX6) (N := 8) hx hb hts hw_X6 hown hK hP 0 rfl rfl 1 (by decide) (hts _ (List.mem_cons_of_mem _ mw_234)) (fun _ h9 => h9) rfl dX6_count_89 ?_
    refine va_get (D := (dC, dI)) (ci := 1) (v := .ref (a_t_now 3)) (C := RX1) (T := TX1) (N := 7) hx hb hts hw_X1 hown hK hP 3 rfl rfl 3 (by decide) (hts _ (List.mem_cons_of_mem _ mw_123)) (fun _ h9 => h9) rfl dX6_count_92 ?_
    refine va_get (D := (dC, dI)) (ci := 4) (v := .int (v_t_now_seen.1 2)) (C := RX4) (T := TX4) (N := 3) hx hb hts hw_X4 hown hK hP 7 rfl rfl 2 (by decide) (hts _ (List.mem_cons_of_mem _ mw_105)) (fun _ h9 => h9) rfl dX6_count_95 ?_
    obtain rfl := Option.some.inj hf
    exact W.iret (v := (v_t_now_seen.1 2)) hx hb hr (fun t ht hW => ⟨_, rfl, rfl, ht⟩) (fun q hq => by cases hq) dX6_count_98 hlocks
  have hf := ho_f hf c_1_5
  by_cases c_1_6 : x1 = 6
  · have hf := ho_t hf c_1_6
    refine lv_tableIn (tgt := 99) hx hb dX6_count_1 (by rw [c_1_6] <;> decide) (by rw [c_1_6] <;> decide) (by rw [c_1_6] <;> rfl) (by decide) ?_
    refine lv_aload_n hx hb dX6_count_99 rfl (lv_at hl 0 rfl) ?_
    refine va_get (D := (dC, dI)) (ci := 6) (v := .ref (a_t 0)) (C := RX6) (T := TX6) (N := 8) hx hb hts hw_X6 hown hK hP 0 rfl rfl 0 (by decide) (hts _ (List.mem_cons_of_mem _ mw_233)) (fun _ h9 => h9) rfl dX6_count_100 ?_
    refine va_get (D := (dC, dI)) (ci := 3) (v := .int (v_t_page.1 1)) (C := RX3) (T := TX3) (N := 2) hx hb hts hw_X3 hown hK hP 1 rfl rfl 1 (by decide) (hts _ (List.mem_cons_of_mem _ mw_82)) (fun _ h9 => h9) rfl dX6_count_103 ?_
    obtain rfl := Option.some.inj hf
    exact W.iret (v := (v_t_page.1 1)) hx hb hr (fun t ht hW => ⟨_, rfl, rfl, ht⟩) (fun q hq => by cases hq) dX6_count_106 hlocks
  have hf := ho_f hf c_1_6
  by_cases c_1_7 : x1 = 7
  · have hf := ho_t hf c_1_7
    refine lv_tableIn (tgt := 107) hx hb dX6_count_1 (by rw [c_1_7] <;> decide) (by rw [c_1_7] <;> decide) (by rw [c_1_7] <;> rfl) (by decide) ?_
    refine lv_aload_n hx hb dX6_count_107 rfl (lv_at hl 0 rfl) ?_
    refine va_get (D := (dC, dI)) (ci := 6) (v := .int (v_t.1 7)) (C := RX6) (T := TX6) (N := 8) hx hb hts hw_X6 hown hK hP 0 rfl rfl 7 (by decide) (hts _ (List.mem_cons_of_mem _ mw_240)) (fun _ h9 => h9) rfl dX6_count_108 ?_
    obtain rfl := Option.some.inj hf
    exact W.iret (v := (v_t.1 7)) hx hb hr (fun t ht hW => ⟨_, rfl, rfl, ht⟩) (fun q hq => by cases hq) dX6_count_111 hlocks
  have hf := ho_f hf c_1_7
  refine lv_tableOut (tgt := 112) hx hb dX6_count_1 (by have e0 := lv_neT c_1_0 (a := 0) (by decide); have e1 := lv_neT c_1_1 (a := 1) (by decide); have e2 := lv_neT c_1_2 (a := 2) (by decide); have e3 := lv_neT c_1_3 (a := 3) (by decide); have e4 := lv_neT c_1_4 (a := 4) (by decide); have e5 := lv_neT c_1_5 (a := 5) (by decide); have e6 := lv_neT c_1_6 (a := 6) (by decide); have e7 := lv_neT c_1_7 (a := 7) (by decide); omega) (by decide) ?_
  refine lv_bipush (v := (-102)) hx hb dX6_count_112 (by decide) ?_
  obtain rfl := Option.some.inj hf
  exact W.iret (v := (-102)) hx hb hr (fun t ht hW => ⟨_, rfl, rfl, ht⟩) (fun q hq => by cases hq) dX6_count_114 hlocks
set_option maxHeartbeats 4000000 in
set_option maxRecDepth 100000 in
theorem c_X6_mix (l : Launch) (dC : Nat → ClassId) (dI : Nat → Nat → Nat) (cI cII : ClassId)   (x0 : Int64) (x2 : Int64) (r : Int64) (hf : f_X6_mix   x0 x2 = some r) :
    Met l yX6_mix (wd yX6_mix cX6_mix 4 (some .long)) ({ frames := 0, cells := 0, slots := 0, locals := 0 } : Room) (va_Pc [.long x0, .long x2] (pB (dC, dI) vwCl ([] : va_W) (hTY cI cII))) (vp_Sl (fun z => r = z)) 0 0 (fun _ => False) := by
  refine Met.ofW (cc := cX6_mix) (maxL := 4) (ret := (some .long)) (by decide) rfl ?_
  intro p e s m args below meth c s₁ B hml hv
  obtain ⟨rfl, hP, hK, hN⟩ := hv
  have hx := B.exec
  have hb := B.bytes
  have hr := B.returns
  have hts := atoms_spec (ws := (wd yX6_mix cX6_mix 4 (some .long))) B.pre
  have hown : s.vm.findClass RX6 = some m.cls := findClass_of_methodNamed B.named
  have hlocks := B.notSynchronized
  have hl := lv_entry ([.long x0, .long x2]) (n := 4) (Nat.le_of_ble_eq_true rfl)
  rw [lg_entry_eq]
  generalize (lg_sl ([.long x0, .long x2]) ++ List.replicate (4 - (lg_sl ([.long x0, .long x2])).length) Slot.unset).toArray = ls at hl ⊢
  have hl : lv_has ls 4 [(0, .long x0), (2, .long x2)] := hl
  unfold f_X6_mix at hf
  refine lv_ldc2 (v := 31) hx hb hown (hts _ (List.mem_cons_of_mem _ mw_586)) dX6_mix_0 ?_
  refine lv_lload_n hx hb dX6_mix_3 rfl (lv_at hl 0 rfl) ?_
  refine lv_lmul hx hb dX6_mix_4 ?_
  refine lv_lload_n hx hb dX6_mix_5 rfl (lv_at hl 1 rfl) ?_
  refine lv_ladd hx hb dX6_mix_6 ?_
  obtain rfl := Option.some.inj hf
  exact W.lret (v := ((31 * x0) + x2)) hx hb hr (fun t ht hW => ⟨_, rfl, rfl, ht⟩) (fun q hq => by cases hq) dX6_mix_7 hlocks
set_option maxHeartbeats 4000000 in
set_option maxRecDepth 100000 in
theorem w_X6_mixPilgrim_l15 {p : Program} {l : Launch} {e : Env} {s : State} {m : MethodId} {args : Array Value} {below : List Frame} {meth : Method} {c : Code} {dC : Nat → ClassId} {dI : Nat → Nat → Nat} {cI cII : ClassId} {o_t : Nat} {a_t : Nat → Nat} {a_t_trials : Nat → Nat} {r_t_trials : Nat → Nat} {a_t_now : Nat → Nat} {a_t_trials_day : Nat → Nat} {a_t_now_seen : Nat → Nat} {a_t_today : Nat → Nat} {A : Nat → Prop} (C0 : hC p s m args meth c dC dI cI cII RX6 cX6_mixPilgrim 5 (wd yX6_mixPilgrim cX6_mixPilgrim 5 (some .long)) (some .long)) (hA : ∀ q, s.heap.size ≤ q → A q) {v_t : obV} {w_t_trials : Nat → Nat → Int32} {v_t_now : obV} {v_t_trials_day : obV} {v_t_now_seen : obV} {v_t_today : obV} {x3 : Int32}    :
    ∀ (n : Nat) (y : obV × Int64 × Int32) (r : Int64 × obV × (Nat → Nat → Int32) × obV), f_X6_mixPilgrim_l15  w_t_trials v_t_now v_t_trials_day v_t_now_seen v_t_today x3  n y = some r → ∀ (H : Heap) (locs : List Loc) (ls : Array Slot), va_P (dC, dI) vwCl (wX6 o_t a_t cI v_t ++ (wX5 (a_t 4) a_t_trials r_t_trials cI cII y.1 w_t_trials ++ (wX1 (a_t 1) a_t_now cI v_t_now ++ (wX2 (a_t_trials 0) a_t_trials_day cI v_t_trials_day ++ (wX4 (a_t_now 3) a_t_now_seen cI v_t_now_seen ++ (wX2 (a_t 3) a_t_today cI v_t_today)))))) H → va_D A (wX6 o_t a_t cI v_t ++ (wX5 (a_t 4) a_t_trials r_t_trials cI cII y.1 w_t_trials ++ (wX1 (a_t 1) a_t_now cI v_t_now ++ (wX2 (a_t_trials 0) a_t_trials_day cI v_t_trials_day ++ (wX4 (a_t_now 3) a_t_now_seen cI v_t_now_seen ++ (wX2 (a_t 3) a_t_today cI v_t_today)))))) → va_S A s.heap H locs → lv_has ls 5 [(0, .ref o_t), (1, .long y.2.1), (3, .int x3), (4, .int y.2.2)] → W p l e ({ frames := 5, cells := 0, slots := 0, locals := 119 } : Room) s m args below meth c H locs 0 0 (MQ below (va_Ql (fun (z : Int64) (_ : Unit) => r.1 = z) (fun _ t => va_P (dC, dI) vwCl (wX6 o_t a_t cI v_t ++ (wX5 (a_t 4) a_t_trials r_t_trials cI cII r.2.1 r.2.2.1 ++ (wX1 (a_t 1) a_t_now cI v_t_now ++ (wX2 (a_t_trials 0) a_t_trials_day cI r.2.2.2 ++ (wX4 (a_t_now 3) a_t_now_seen cI v_t_now_seen ++ (wX2 (a_t 3) a_t_today cI v_t_today)))))) t.heap ∧ va_D A (wX6 o_t a_t cI v_t ++ (wX5 (a_t 4) a_t_trials r_t_trials cI cII r.2.1 r.2.2.1 ++ (wX1 (a_t 1) a_t_now cI v_t_now ++ (wX2 (a_t_trials 0) a_t_trials_day cI r.2.2.2 ++ (wX4 (a_t_now 3) a_t_now_seen cI v_t_now_seen ++ (wX2 (a_t 3) a_t_today cI v_t_today))))))) A) args s 0 0 A) (F0 m 15 ls []) := by
  obtain ⟨hx, hb, hml, hown, hts, hr, hlocks, hK, hN⟩ := C0
  refine lp_W ?_
  intro k15 ih15 y r hf H locs ls hP hD hS hl
  obtain ⟨v_t_trials, x1, x4⟩ := y
  have hf : f_X6_mixPilgrim_b15  v_t_trials w_t_trials v_t_now v_t_trials_day v_t_now_seen v_t_today x1 x3 x4  k15 = some r := hf
  have hP : va_P (dC, dI) vwCl (wX6 o_t a_t cI v_t ++ (wX5 (a_t 4) a_t_trials r_t_trials cI cII v_t_trials w_t_trials ++ (wX1 (a_t 1) a_t_now cI v_t_now ++ (wX2 (a_t_trials 0) a_t_trials_day cI v_t_trials_day ++ (wX4 (a_t_now 3) a_t_now_seen cI v_t_now_seen ++ (wX2 (a_t 3) a_t_today cI v_t_today)))))) H := hP
  have hD : va_D A (wX6 o_t a_t cI v_t ++ (wX5 (a_t 4) a_t_trials r_t_trials cI cII v_t_trials w_t_trials ++ (wX1 (a_t 1) a_t_now cI v_t_now ++ (wX2 (a_t_trials 0) a_t_trials_day cI v_t_trials_day ++ (wX4 (a_t_now 3) a_t_now_seen cI v_t_now_seen ++ (wX2 (a_t 3) a_t_today cI v_t_today)))))) := hD
  have hl : lv_has ls 5 [(0, .ref o_t), (1, .long x1), (3, .int x3), (4, .int x4)] := hl
  unfold f_X6_mixPilgrim_b15 at hf
  refine lv_iload hx hb dX6_mixPilgrim_15 (lv_at hl 3 rfl) ?_
  refine lv_bipush (v := 9) hx hb dX6_mixPilgrim_17 (by decide) ?_
  refine lv_icmp_gt (tgt := 41) hx hb dX6_mixPilgrim_19 (by decide) (fun c_19 => ?_) (fun c_19 => ?_)
  · have hf := ho_t hf c_19
    refine lv_lload_n hx hb dX6_mixPilgrim_41 rfl (lv_at hl 1 rfl) ?_
    refine lv_aload_n hx hb dX6_mixPilgrim_42 rfl (lv_at hl 0 rfl) ?_
    refine lv_iconst (v := 0) hx hb dX6_mixPilgrim_43 (by decide) ?_
    obtain ⟨u_44, e_44, hf⟩ := ho_b hf
    have hPc := hP.sub (ws' := (wX6 o_t a_t cI v_t ++ (wX5 (a_t 4) a_t_trials r_t_trials cI cII v_t_trials w_t_trials))) [0, 1, 2, 3, 4, 5, 6, 7, 8, 9, 10, 11, 12, 13, 14] rfl
    refine vp_callSi (va_runV (As := [.int 0]) (rest := [.long x1]) ⟨hx, hb, hml, hown, hts⟩ (c_X6_tellFit l dC dI cI cII o_t a_t a_t_trials r_t_trials v_t v_t_trials w_t_trials (0) u_44 e_44) (cwV 1 hts (hw_giV mw_506 mw_508 mw_14 mw_53 mw_509) rfl rfl rfl (by decide +kernel) ⟨Nat.le_of_ble_eq_true rfl, Nat.le_of_ble_eq_true rfl⟩) ⟨pB_blind, va_recv hK hPc (ci := 6) (q0 := 0) rfl rfl, fun U hU hW => ⟨rfl, pB_go hPc hK hN hU hW⟩⟩ rfl rfl hl.1 rfl (lv_room (Nat.le_of_ble_eq_true rfl)) dX6_mixPilgrim_44 ⟨Nat.zero_le _, Nat.zero_le _⟩).run (fun z_44 ez_44 => ?_)
    subst ez_44
    refine lv_i2l (v := (Int32.toInt64 u_44)) hx hb dX6_mixPilgrim_47 rfl ?_
    obtain ⟨u_48, e_48, hf⟩ := ho_b hf
    have hPc := hP.sub (ws' := ([] : va_W)) [] rfl
    refine vp_callSl (va_runS (As := [.long x1, .long (Int32.toInt64 u_44)]) (rest := []) ⟨hx, hb, hml, hown, hts⟩ (c_X6_mix l dC dI cI cII (x1) ((Int32.toInt64 u_44)) u_48 e_48) (va_cwS 2 hts (hw_giS mw_583 mw_584 mw_53 mw_585) rfl rfl rfl (by decide +kernel) ⟨Nat.le_of_ble_eq_true rfl, Nat.le_of_ble_eq_true rfl⟩) ⟨pB_blind, fun U hU hW => ⟨rfl, pB_go hPc hK hN hU hW⟩⟩ rfl rfl hl.1 rfl (lv_room (Nat.le_of_ble_eq_true rfl)) dX6_mixPilgrim_48 ⟨Nat.zero_le _, Nat.zero_le _⟩).run (fun z_48 ez_48 => ?_)
    subst ez_48
    refine lv_lstore_n (lv' := [(1, .long u_48), (0, .ref o_t), (3, .int x3), (4, .int x4)]) hx hb dX6_mixPilgrim_51 rfl hl (by decide) rfl (fun ls hl => ?_)
    refine lv_lload_n hx hb dX6_mixPilgrim_52 rfl (lv_at hl 0 rfl) ?_
    refine lv_aload_n hx hb dX6_mixPilgrim_53 rfl (lv_at hl 1 rfl) ?_
    refine lv_iconst (v := 1) hx hb dX6_mixPilgrim_54 (by decide) ?_
    obtain ⟨u_55, e_55, hf⟩ := ho_b hf
    have hPc := hP.sub (ws' := (wX6 o_t a_t cI v_t ++ (wX5 (a_t 4) a_t_trials r_t_trials cI cII v_t_trials w_t_trials))) [0, 1, 2, 3, 4, 5, 6, 7, 8, 9, 10, 11, 12, 13, 14] rfl
    refine vp_callSi (va_runV (As := [.int 1]) (rest := [.long u_48]) ⟨hx, hb, hml, hown, hts⟩ (c_X6_tellFit l dC dI cI cII o_t a_t a_t_trials r_t_trials v_t v_t_trials w_t_trials (1) u_55 e_55) (cwV 1 hts (hw_giV mw_506 mw_508 mw_14 mw_53 mw_509) rfl rfl rfl (by decide +kernel) ⟨Nat.le_of_ble_eq_true rfl, Nat.le_of_ble_eq_true rfl⟩) ⟨pB_blind, va_recv hK hPc (ci := 6) (q0 := 0) rfl rfl, fun U hU hW => ⟨rfl, pB_go hPc hK hN hU hW⟩⟩ rfl rfl hl.1 rfl (lv_room (Nat.le_of_ble_eq_true rfl)) dX6_mixPilgrim_55 ⟨Nat.zero_le _, Nat.zero_le _⟩).run (fun z_55 ez_55 => ?_)
    subst ez_55
    refine lv_i2l (v := (Int32.toInt64 u_55)) hx hb dX6_mixPilgrim_58 rfl ?_
    obtain ⟨u_59, e_59, hf⟩ := ho_b hf
    have hPc := hP.sub (ws' := ([] : va_W)) [] rfl
    refine vp_callSl (va_runS (As := [.long u_48, .long (Int32.toInt64 u_55)]) (rest := []) ⟨hx, hb, hml, hown, hts⟩ (c_X6_mix l dC dI cI cII (u_48) ((Int32.toInt64 u_55)) u_59 e_59) (va_cwS 2 hts (hw_giS mw_583 mw_584 mw_53 mw_585) rfl rfl rfl (by decide +kernel) ⟨Nat.le_of_ble_eq_true rfl, Nat.le_of_ble_eq_true rfl⟩) ⟨pB_blind, fun U hU hW => ⟨rfl, pB_go hPc hK hN hU hW⟩⟩ rfl rfl hl.1 rfl (lv_room (Nat.le_of_ble_eq_true rfl)) dX6_mixPilgrim_59 ⟨Nat.zero_le _, Nat.zero_le _⟩).run (fun z_59 ez_59 => ?_)
    subst ez_59
    obtain rfl := Option.some.inj hf
    exact W.lret (v := u_59) hx hb hr (fun t ht hW => ⟨⟨_, (), rfl, rfl, by rw [ht]; exact hP, hD⟩, hS.F ht⟩) hS.2.2 dX6_mixPilgrim_62 hlocks
  · have hf := ho_f hf c_19
    refine lv_lload_n hx hb dX6_mixPilgrim_22 rfl (lv_at hl 1 rfl) ?_
    refine lv_aload_n hx hb dX6_mixPilgrim_23 rfl (lv_at hl 0 rfl) ?_
    refine lv_iload_n hx hb dX6_mixPilgrim_24 rfl (lv_at hl 2 rfl) ?_
    refine lv_iload hx hb dX6_mixPilgrim_25 (lv_at hl 3 rfl) ?_
    obtain ⟨u_27, e_27, hf⟩ := ho_b hf
    have hPc := hP.sub (ws' := (wX6 o_t a_t cI v_t ++ (wX5 (a_t 4) a_t_trials r_t_trials cI cII v_t_trials w_t_trials ++ (wX1 (a_t 1) a_t_now cI v_t_now ++ (wX4 (a_t_now 3) a_t_now_seen cI v_t_now_seen ++ (wX2 (a_t 3) a_t_today cI v_t_today)))))) [0, 1, 2, 3, 4, 5, 6, 7, 8, 9, 10, 11, 12, 13, 14, 15, 16, 17, 18, 24, 25, 26, 27, 28, 29, 30, 31] rfl
    have hDc := hD.sub (ws' := (wX6 o_t a_t cI v_t ++ (wX5 (a_t 4) a_t_trials r_t_trials cI cII v_t_trials w_t_trials ++ (wX1 (a_t 1) a_t_now cI v_t_now ++ (wX4 (a_t_now 3) a_t_now_seen cI v_t_now_seen ++ (wX2 (a_t 3) a_t_today cI v_t_today)))))) [0, 1, 2, 3, 4, 5, 6, 7, 8, 9, 10, 11, 12, 13, 14, 15, 16, 17, 18, 24, 25, 26, 27, 28, 29, 30, 31] (by decide) rfl
    have hFc := va_free (wc := (wX6 o_t a_t cI v_t ++ (wX5 (a_t 4) a_t_trials r_t_trials cI cII v_t_trials w_t_trials ++ (wX1 (a_t 1) a_t_now cI v_t_now ++ (wX4 (a_t_now 3) a_t_now_seen cI v_t_now_seen ++ (wX2 (a_t 3) a_t_today cI v_t_today)))))) hD hS hA [0, 1, 2, 3, 4, 5, 6, 7, 8, 9, 10, 11, 12, 13, 14, 15, 16, 17, 18, 24, 25, 26, 27, 28, 29, 30, 31] rfl
    refine va_calli (va_runV (As := [.int x3, .int x4]) (rest := [.long x1]) ⟨hx, hb, hml, hown, hts⟩ (c_X6_tellPilgrim l dC dI cI cII o_t a_t a_t_trials r_t_trials a_t_now a_t_now_seen a_t_today v_t v_t_trials w_t_trials v_t_now v_t_now_seen v_t_today (x3) (x4) _ u_27 e_27) (cwV 2 hts (hw_giV mw_391 mw_393 mw_6 mw_53 mw_394) rfl rfl rfl (by decide +kernel) ⟨Nat.le_of_ble_eq_true rfl, Nat.le_of_ble_eq_true rfl⟩) ⟨qB_blind, va_recv hK hPc (ci := 6) (q0 := 0) rfl rfl, fun U hU hW => ⟨rfl, qB_go hPc hDc hK hN hU hW⟩⟩ rfl rfl hl.1 rfl (lv_room (Nat.le_of_ble_eq_true rfl)) dX6_mixPilgrim_27 ⟨Nat.zero_le _, Nat.zero_le _⟩) hS (fun q _ h => hFc q h) hFc (fun z_27 u t H1 locs ht hvm ez_27 hB hz1 hk1 hS => ?_)
    subst ez_27
    obtain ⟨hP1, hD1⟩ := hB
    rw [ht] at hP1
    obtain ⟨hP, hD⟩ := va_join (wr := (wX2 (a_t_trials 0) a_t_trials_day cI v_t_trials_day)) (w1 := (wX6 o_t a_t cI v_t ++ (wX5 (a_t 4) a_t_trials r_t_trials cI cII u_27.2 w_t_trials ++ (wX1 (a_t 1) a_t_now cI v_t_now ++ (wX4 (a_t_now 3) a_t_now_seen cI v_t_now_seen ++ (wX2 (a_t 3) a_t_today cI v_t_today)))))) hP hD [0, 1, 2, 3, 4, 5, 6, 7, 8, 9, 10, 11, 12, 13, 14, 15, 16, 17, 18, 24, 25, 26, 27, 28, 29, 30, 31] [19, 20, 21, 22, 23] rfl rfl (by decide) (by decide) hk1 hFc hP1 hD1
    generalize H1 = H at hP hS ⊢
    have hP : va_P (dC, dI) vwCl (wX6 o_t a_t cI v_t ++ (wX5 (a_t 4) a_t_trials r_t_trials cI cII u_27.2 w_t_trials ++ (wX1 (a_t 1) a_t_now cI v_t_now ++ (wX2 (a_t_trials 0) a_t_trials_day cI v_t_trials_day ++ (wX4 (a_t_now 3) a_t_now_seen cI v_t_now_seen ++ (wX2 (a_t 3) a_t_today cI v_t_today)))))) H := hP.sub [5, 6, 7, 8, 9, 10, 11, 12, 13, 14, 15, 16, 17, 18, 19, 20, 21, 22, 23, 0, 1, 2, 3, 4, 24, 25, 26, 27, 28, 29, 30, 31] rfl
    have hD : va_D A (wX6 o_t a_t cI v_t ++ (wX5 (a_t 4) a_t_trials r_t_trials cI cII u_27.2 w_t_trials ++ (wX1 (a_t 1) a_t_now cI v_t_now ++ (wX2 (a_t_trials 0) a_t_trials_day cI v_t_trials_day ++ (wX4 (a_t_now 3) a_t_now_seen cI v_t_now_seen ++ (wX2 (a_t 3) a_t_today cI v_t_today)))))) := hD.sub [5, 6, 7, 8, 9, 10, 11, 12, 13, 14, 15, 16, 17, 18, 19, 20, 21, 22, 23, 0, 1, 2, 3, 4, 24, 25, 26, 27, 28, 29, 30, 31] (by decide) rfl
    refine lv_i2l (v := (Int32.toInt64 u_27.1)) hx hb dX6_mixPilgrim_30 rfl ?_
    obtain ⟨u_31, e_31, hf⟩ := ho_b hf
    have hPc := hP.sub (ws' := ([] : va_W)) [] rfl
    refine vp_callSl (va_runS (As := [.long x1, .long (Int32.toInt64 u_27.1)]) (rest := []) ⟨hx, hb, hml, hown, hts⟩ (c_X6_mix l dC dI cI cII (x1) ((Int32.toInt64 u_27.1)) u_31 e_31) (va_cwS 2 hts (hw_giS mw_583 mw_584 mw_53 mw_585) rfl rfl rfl (by decide +kernel) ⟨Nat.le_of_ble_eq_true rfl, Nat.le_of_ble_eq_true rfl⟩) ⟨pB_blind, fun U hU hW => ⟨rfl, pB_go hPc hK hN hU hW⟩⟩ rfl rfl hl.1 rfl (lv_room (Nat.le_of_ble_eq_true rfl)) dX6_mixPilgrim_31 ⟨Nat.zero_le _, Nat.zero_le _⟩).run (fun z_31 ez_31 => ?_)
    subst ez_31
    refine lv_lstore_n (lv' := [(1, .long u_31), (0, .ref o_t), (3, .int x3), (4, .int x4)]) hx hb dX6_mixPilgrim_34 rfl hl (by decide) rfl (fun ls hl => ?_)
    refine lv_iinc (v := (x4 + 1)) (lv' := [(4, .int (x4 + 1)), (1, .long u_31), (0, .ref o_t), (3, .int x3)]) hx hb dX6_mixPilgrim_35 hl (k := 3) rfl (hp_inc (by decide)) (by decide) rfl (fun ls hl => ?_)
    refine lv_goto (tgt := 15) hx hb dX6_mixPilgrim_38 (by decide) ?_
    exact ih15 (u_27.2, u_31, (x4 + 1)) _ hf _ _ _ hP hD hS (lv_sub hl [2, 1, 3, 0] rfl)
set_option maxHeartbeats 4000000 in
set_option maxRecDepth 100000 in
theorem c_X6_mixPilgrim (l : Launch) (dC : Nat → ClassId) (dI : Nat → Nat → Nat) (cI cII : ClassId) (o_t : Nat) (a_t : Nat → Nat) (a_t_trials : Nat → Nat) (r_t_trials : Nat → Nat) (a_t_now : Nat → Nat) (a_t_trials_day : Nat → Nat) (a_t_now_seen : Nat → Nat) (a_t_today : Nat → Nat) (v_t : obV) (v_t_trials : obV) (w_t_trials : Nat → Nat → Int32) (v_t_now : obV) (v_t_trials_day : obV) (v_t_now_seen : obV) (v_t_today : obV) (x1 : Int64) (x3 : Int32) (sz : Nat) (r : Int64 × obV × (Nat → Nat → Int32) × obV) (hf : f_X6_mixPilgrim  v_t_trials w_t_trials v_t_now v_t_trials_day v_t_now_seen v_t_today x1 x3 = some r) :
    Met l yX6_mixPilgrim (wd yX6_mixPilgrim cX6_mixPilgrim 5 (some .long)) ({ frames := 5, cells := 0, slots := 0, locals := 119 } : Room) (va_Pc [.ref o_t, .long x1, .int x3] (qB (dC, dI) vwCl (wX6 o_t a_t cI v_t ++ (wX5 (a_t 4) a_t_trials r_t_trials cI cII v_t_trials w_t_trials ++ (wX1 (a_t 1) a_t_now cI v_t_now ++ (wX2 (a_t_trials 0) a_t_trials_day cI v_t_trials_day ++ (wX4 (a_t_now 3) a_t_now_seen cI v_t_now_seen ++ (wX2 (a_t 3) a_t_today cI v_t_today)))))) (hTY cI cII) sz)) (va_Ql (fun (z : Int64) (_ : Unit) => r.1 = z) (fun _ t => va_P (dC, dI) vwCl (wX6 o_t a_t cI v_t ++ (wX5 (a_t 4) a_t_trials r_t_trials cI cII r.2.1 r.2.2.1 ++ (wX1 (a_t 1) a_t_now cI v_t_now ++ (wX2 (a_t_trials 0) a_t_trials_day cI r.2.2.2 ++ (wX4 (a_t_now 3) a_t_now_seen cI v_t_now_seen ++ (wX2 (a_t 3) a_t_today cI v_t_today)))))) t.heap ∧ va_D (va_A (wX6 o_t a_t cI v_t ++ (wX5 (a_t 4) a_t_trials r_t_trials cI cII v_t_trials w_t_trials ++ (wX1 (a_t 1) a_t_now cI v_t_now ++ (wX2 (a_t_trials 0) a_t_trials_day cI v_t_trials_day ++ (wX4 (a_t_now 3) a_t_now_seen cI v_t_now_seen ++ (wX2 (a_t 3) a_t_today cI v_t_today)))))) sz) (wX6 o_t a_t cI v_t ++ (wX5 (a_t 4) a_t_trials r_t_trials cI cII r.2.1 r.2.2.1 ++ (wX1 (a_t 1) a_t_now cI v_t_now ++ (wX2 (a_t_trials 0) a_t_trials_day cI r.2.2.2 ++ (wX4 (a_t_now 3) a_t_now_seen cI v_t_now_seen ++ (wX2 (a_t 3) a_t_today cI v_t_today))))))) (va_A (wX6 o_t a_t cI v_t ++ (wX5 (a_t 4) a_t_trials r_t_trials cI cII v_t_trials w_t_trials ++ (wX1 (a_t 1) a_t_now cI v_t_now ++ (wX2 (a_t_trials 0) a_t_trials_day cI v_t_trials_day ++ (wX4 (a_t_now 3) a_t_now_seen cI v_t_now_seen ++ (wX2 (a_t 3) a_t_today cI v_t_today)))))) sz)) 0 0 (va_A (wX6 o_t a_t cI v_t ++ (wX5 (a_t 4) a_t_trials r_t_trials cI cII v_t_trials w_t_trials ++ (wX1 (a_t 1) a_t_now cI v_t_now ++ (wX2 (a_t_trials 0) a_t_trials_day cI v_t_trials_day ++ (wX4 (a_t_now 3) a_t_now_seen cI v_t_now_seen ++ (wX2 (a_t 3) a_t_today cI v_t_today)))))) sz) := by
  refine Met.ofW (cc := cX6_mixPilgrim) (maxL := 5) (ret := (some .long)) (by decide) rfl ?_
  intro p e s m args below meth c s₁ B hml hv
  obtain ⟨rfl, hsz, hD0, hP, hK, hN⟩ := hv
  have hx := B.exec
  have hb := B.bytes
  have hr := B.returns
  have hts := atoms_spec (ws := (wd yX6_mixPilgrim cX6_mixPilgrim 5 (some .long))) B.pre
  have hown : s.vm.findClass RX6 = some m.cls := findClass_of_methodNamed B.named
  have hlocks := B.notSynchronized
  subst hsz
  have hD := hD0.self (sz := s.heap.size)
  generalize hAe : va_A (wX6 o_t a_t cI v_t ++ (wX5 (a_t 4) a_t_trials r_t_trials cI cII v_t_trials w_t_trials ++ (wX1 (a_t 1) a_t_now cI v_t_now ++ (wX2 (a_t_trials 0) a_t_trials_day cI v_t_trials_day ++ (wX4 (a_t_now 3) a_t_now_seen cI v_t_now_seen ++ (wX2 (a_t 3) a_t_today cI v_t_today)))))) s.heap.size = A at hD ⊢
  have hA : ∀ q : Nat, s.heap.size ≤ q → A q := fun q h => by rw [← hAe]; exact Or.inr h
  have hS : va_S A s.heap s.heap [] := va_S.rf
  have hl := lv_entry ([.ref o_t, .long x1, .int x3]) (n := 5) (Nat.le_of_ble_eq_true rfl)
  rw [lg_entry_eq]
  generalize (lg_sl ([.ref o_t, .long x1, .int x3]) ++ List.replicate (5 - (lg_sl ([.ref o_t, .long x1, .int x3])).length) Slot.unset).toArray = ls at hl ⊢
  have hl : lv_has ls 5 [(0, .ref o_t), (1, .long x1), (3, .int x3)] := hl
  clear hAe hD0
  unfold f_X6_mixPilgrim at hf
  refine lv_aload_n hx hb dX6_mixPilgrim_0 rfl (lv_at hl 0 rfl) ?_
  refine va_get (D := (dC, dI)) (ci := 6) (v := .ref (a_t 4)) (C := RX6) (T := TX6) (N := 8) hx hb hts hw_X6 hown hK hP 0 rfl rfl 4 (by decide) (hts _ (List.mem_cons_of_mem _ mw_237)) (fun _ h9 => h9) rfl dX6_mixPilgrim_1 ?_
  refine lv_aload_n hx hb dX6_mixPilgrim_4 rfl (lv_at hl 0 rfl) ?_
  refine va_get (D := (dC, dI)) (ci := 6) (v := .ref (a_t 1)) (C := RX6) (T := TX6) (N := 8) hx hb hts hw_X6 hown hK hP 0 rfl rfl 1 (by decide) (hts _ (List.mem_cons_of_mem _ mw_234)) (fun _ h9 => h9) rfl dX6_mixPilgrim_5 ?_
  refine lv_iload_n hx hb dX6_mixPilgrim_8 rfl (lv_at hl 2 rfl) ?_
  obtain ⟨u_9, e_9, hf⟩ := ho_b hf
  have hPc := hP.sub (ws' := (wX5 (a_t 4) a_t_trials r_t_trials cI cII v_t_trials w_t_trials ++ (wX1 (a_t 1) a_t_now cI v_t_now ++ (wX2 (a_t_trials 0) a_t_trials_day cI v_t_trials_day)))) [1, 2, 3, 4, 5, 6, 7, 8, 9, 10, 11, 12, 13, 14, 15, 16, 17, 18, 19, 20, 21, 22, 23] rfl
  have hDc := hD.sub (ws' := (wX5 (a_t 4) a_t_trials r_t_trials cI cII v_t_trials w_t_trials ++ (wX1 (a_t 1) a_t_now cI v_t_now ++ (wX2 (a_t_trials 0) a_t_trials_day cI v_t_trials_day)))) [1, 2, 3, 4, 5, 6, 7, 8, 9, 10, 11, 12, 13, 14, 15, 16, 17, 18, 19, 20, 21, 22, 23] (by decide) rfl
  have hFc := va_free (wc := (wX5 (a_t 4) a_t_trials r_t_trials cI cII v_t_trials w_t_trials ++ (wX1 (a_t 1) a_t_now cI v_t_now ++ (wX2 (a_t_trials 0) a_t_trials_day cI v_t_trials_day)))) hD hS hA [1, 2, 3, 4, 5, 6, 7, 8, 9, 10, 11, 12, 13, 14, 15, 16, 17, 18, 19, 20, 21, 22, 23] rfl
  refine va_callv (va_runV (As := [.ref (a_t 1), .int x3]) (rest := []) ⟨hx, hb, hml, hown, hts⟩ (c_X5_pass l dC dI cI cII (a_t 4) a_t_trials r_t_trials (a_t 1) a_t_now a_t_trials_day v_t_trials w_t_trials v_t_now v_t_trials_day (x3) _ u_9 e_9) (cwV 2 hts (hw_giV mw_380 mw_381 mw_382 mw_58 mw_383) rfl rfl rfl (by decide +kernel) ⟨Nat.le_of_ble_eq_true rfl, Nat.le_of_ble_eq_true rfl⟩) ⟨qB_blind, va_recv hK hPc (ci := 5) (q0 := 0) rfl rfl, fun U hU hW => ⟨rfl, qB_go hPc hDc hK hN hU hW⟩⟩ rfl rfl hl.1 rfl (lv_room (Nat.le_of_ble_eq_true rfl)) dX6_mixPilgrim_9 ⟨Nat.zero_le _, Nat.zero_le _⟩) hS (fun q _ h => hFc q h) hFc (fun u t H1 locs ht hvm hw hB hz1 hk1 hS => ?_)
  obtain ⟨hP1, hD1⟩ := hB
  rw [ht] at hP1
  obtain ⟨hP, hD⟩ := va_join (wr := (wX6 o_t a_t cI v_t ++ (wX4 (a_t_now 3) a_t_now_seen cI v_t_now_seen ++ (wX2 (a_t 3) a_t_today cI v_t_today)))) (w1 := (wX5 (a_t 4) a_t_trials r_t_trials cI cII u_9.1 u_9.2.1 ++ (wX1 (a_t 1) a_t_now cI v_t_now ++ (wX2 (a_t_trials 0) a_t_trials_day cI u_9.2.2)))) hP hD [1, 2, 3, 4, 5, 6, 7, 8, 9, 10, 11, 12, 13, 14, 15, 16, 17, 18, 19, 20, 21, 22, 23] [0, 24, 25, 26, 27, 28, 29, 30, 31] rfl rfl (by decide) (by decide) hk1 hFc hP1 hD1
  generalize H1 = H at hP hS ⊢
  have hP : va_P (dC, dI) vwCl (wX6 o_t a_t cI v_t ++ (wX5 (a_t 4) a_t_trials r_t_trials cI cII u_9.1 u_9.2.1 ++ (wX1 (a_t 1) a_t_now cI v_t_now ++ (wX2 (a_t_trials 0) a_t_trials_day cI u_9.2.2 ++ (wX4 (a_t_now 3) a_t_now_seen cI v_t_now_seen ++ (wX2 (a_t 3) a_t_today cI v_t_today)))))) H := hP.sub [0, 9, 10, 11, 12, 13, 14, 15, 16, 17, 18, 19, 20, 21, 22, 23, 24, 25, 26, 27, 28, 29, 30, 31, 1, 2, 3, 4, 5, 6, 7, 8] rfl
  have hD : va_D A (wX6 o_t a_t cI v_t ++ (wX5 (a_t 4) a_t_trials r_t_trials cI cII u_9.1 u_9.2.1 ++ (wX1 (a_t 1) a_t_now cI v_t_now ++ (wX2 (a_t_trials 0) a_t_trials_day cI u_9.2.2 ++ (wX4 (a_t_now 3) a_t_now_seen cI v_t_now_seen ++ (wX2 (a_t 3) a_t_today cI v_t_today)))))) := hD.sub [0, 9, 10, 11, 12, 13, 14, 15, 16, 17, 18, 19, 20, 21, 22, 23, 24, 25, 26, 27, 28, 29, 30, 31, 1, 2, 3, 4, 5, 6, 7, 8] (by decide) rfl
  refine lv_iconst (v := 0) hx hb dX6_mixPilgrim_12 (by decide) ?_
  refine lv_istore (lv' := [(4, .int 0), (0, .ref o_t), (1, .long x1), (3, .int x3)]) hx hb dX6_mixPilgrim_13 hl (by decide) rfl (fun ls hl => ?_)
  exact w_X6_mixPilgrim_l15 ⟨hx, hb, hml, hown, hts, hr, hlocks, hK, hN⟩ hA  _ _ _ hf _ _ _ hP hD hS (lv_sub hl [1, 2, 3, 0] rfl)
set_option maxHeartbeats 4000000 in
set_option maxRecDepth 100000 in
theorem w_X6_mixCave_l78 {p : Program} {l : Launch} {e : Env} {s : State} {m : MethodId} {args : Array Value} {below : List Frame} {meth : Method} {c : Code} {dC : Nat → ClassId} {dI : Nat → Nat → Nat} {cI cII : ClassId} {o_t : Nat} {a_t : Nat → Nat} {a_t_today : Nat → Nat} {a_t_best : Nat → Nat} {a_t_now : Nat → Nat} {A : Nat → Prop} (C0 : hC p s m args meth c dC dI cI cII RX6 cX6_mixCave 4 (wd yX6_mixCave cX6_mixCave 4 (some .long)) (some .long)) (hA : ∀ q, s.heap.size ≤ q → A q) {v_t : obV} {v_t_today : obV} {v_t_best : obV} {v_t_now : obV}    :
    ∀ (n : Nat) (y : Int64 × Int32) (r : Int64 × obV), f_X6_mixCave_l78  v_t_today v_t_best v_t_now  n y = some r → ∀ (H : Heap) (locs : List Loc) (ls : Array Slot), va_P (dC, dI) vwCl (wX6 o_t a_t cI v_t ++ (wX2 (a_t 3) a_t_today cI v_t_today ++ (wX0 (a_t 5) a_t_best cI v_t_best ++ (wX1 (a_t 1) a_t_now cI v_t_now)))) H → va_D A (wX6 o_t a_t cI v_t ++ (wX2 (a_t 3) a_t_today cI v_t_today ++ (wX0 (a_t 5) a_t_best cI v_t_best ++ (wX1 (a_t 1) a_t_now cI v_t_now)))) → va_S A s.heap H locs → lv_has ls 4 [(0, .ref o_t), (1, .long y.1), (3, .int y.2)] → W p l e ({ frames := 4, cells := 0, slots := 0, locals := 95 } : Room) s m args below meth c H locs 0 0 (MQ below (va_Ql (fun (z : Int64) (_ : Unit) => r.1 = z) (fun _ t => va_P (dC, dI) vwCl (wX6 o_t a_t cI v_t ++ (wX2 (a_t 3) a_t_today cI v_t_today ++ (wX0 (a_t 5) a_t_best cI r.2 ++ (wX1 (a_t 1) a_t_now cI v_t_now)))) t.heap ∧ va_D A (wX6 o_t a_t cI v_t ++ (wX2 (a_t 3) a_t_today cI v_t_today ++ (wX0 (a_t 5) a_t_best cI r.2 ++ (wX1 (a_t 1) a_t_now cI v_t_now))))) A) args s 0 0 A) (F0 m 78 ls []) := by
  obtain ⟨hx, hb, hml, hown, hts, hr, hlocks, hK, hN⟩ := C0
  refine lp_W ?_
  intro k78 ih78 y r hf H locs ls hP hD hS hl
  obtain ⟨x1, x3⟩ := y
  have hf : f_X6_mixCave_b78  v_t_today v_t_best v_t_now x1 x3  k78 = some r := hf
  have hP : va_P (dC, dI) vwCl (wX6 o_t a_t cI v_t ++ (wX2 (a_t 3) a_t_today cI v_t_today ++ (wX0 (a_t 5) a_t_best cI v_t_best ++ (wX1 (a_t 1) a_t_now cI v_t_now)))) H := hP
  have hD : va_D A (wX6 o_t a_t cI v_t ++ (wX2 (a_t 3) a_t_today cI v_t_today ++ (wX0 (a_t 5) a_t_best cI v_t_best ++ (wX1 (a_t 1) a_t_now cI v_t_now)))) := hD
  have hl : lv_has ls 4 [(0, .ref o_t), (1, .long x1), (3, .int x3)] := hl
  unfold f_X6_mixCave_b78 at hf
  refine lv_iload_n hx hb dX6_mixCave_78 rfl (lv_at hl 2 rfl) ?_
  refine lv_bipush (v := 14) hx hb dX6_mixCave_79 (by decide) ?_
  refine lv_icmp_gt (tgt := 101) hx hb dX6_mixCave_81 (by decide) (fun c_81 => ?_) (fun c_81 => ?_)
  · have hf := ho_t hf c_81
    refine lv_lload_n hx hb dX6_mixCave_101 rfl (lv_at hl 1 rfl) ?_
    obtain rfl := Option.some.inj hf
    exact W.lret (v := x1) hx hb hr (fun t ht hW => ⟨⟨_, (), rfl, rfl, by rw [ht]; exact hP, hD⟩, hS.F ht⟩) hS.2.2 dX6_mixCave_102 hlocks
  · have hf := ho_f hf c_81
    refine lv_lload_n hx hb dX6_mixCave_84 rfl (lv_at hl 1 rfl) ?_
    refine lv_aload_n hx hb dX6_mixCave_85 rfl (lv_at hl 0 rfl) ?_
    refine lv_iload_n hx hb dX6_mixCave_86 rfl (lv_at hl 2 rfl) ?_
    obtain ⟨u_87, e_87, hf⟩ := ho_b hf
    have hPc := hP.sub (ws' := (wX6 o_t a_t cI v_t ++ (wX0 (a_t 5) a_t_best cI v_t_best))) [0, 6, 7, 8] rfl
    refine vp_callSi (va_runV (As := [.int x3]) (rest := [.long x1]) ⟨hx, hb, hml, hown, hts⟩ (c_X6_tellOrder l dC dI cI cII o_t a_t a_t_best v_t v_t_best (x3) u_87 e_87) (cwV 1 hts (hw_giV mw_494 mw_496 mw_13 mw_53 mw_497) rfl rfl rfl (by decide +kernel) ⟨Nat.le_of_ble_eq_true rfl, Nat.le_of_ble_eq_true rfl⟩) ⟨pB_blind, va_recv hK hPc (ci := 6) (q0 := 0) rfl rfl, fun U hU hW => ⟨rfl, pB_go hPc hK hN hU hW⟩⟩ rfl rfl hl.1 rfl (lv_room (Nat.le_of_ble_eq_true rfl)) dX6_mixCave_87 ⟨Nat.zero_le _, Nat.zero_le _⟩).run (fun z_87 ez_87 => ?_)
    subst ez_87
    refine lv_i2l (v := (Int32.toInt64 u_87)) hx hb dX6_mixCave_90 rfl ?_
    obtain ⟨u_91, e_91, hf⟩ := ho_b hf
    have hPc := hP.sub (ws' := ([] : va_W)) [] rfl
    refine vp_callSl (va_runS (As := [.long x1, .long (Int32.toInt64 u_87)]) (rest := []) ⟨hx, hb, hml, hown, hts⟩ (c_X6_mix l dC dI cI cII (x1) ((Int32.toInt64 u_87)) u_91 e_91) (va_cwS 2 hts (hw_giS mw_583 mw_584 mw_53 mw_585) rfl rfl rfl (by decide +kernel) ⟨Nat.le_of_ble_eq_true rfl, Nat.le_of_ble_eq_true rfl⟩) ⟨pB_blind, fun U hU hW => ⟨rfl, pB_go hPc hK hN hU hW⟩⟩ rfl rfl hl.1 rfl (lv_room (Nat.le_of_ble_eq_true rfl)) dX6_mixCave_91 ⟨Nat.zero_le _, Nat.zero_le _⟩).run (fun z_91 ez_91 => ?_)
    subst ez_91
    refine lv_lstore_n (lv' := [(1, .long u_91), (0, .ref o_t), (3, .int x3)]) hx hb dX6_mixCave_94 rfl hl (by decide) rfl (fun ls hl => ?_)
    refine lv_iinc (v := (x3 + 1)) (lv' := [(3, .int (x3 + 1)), (1, .long u_91), (0, .ref o_t)]) hx hb dX6_mixCave_95 hl (k := 2) rfl (hp_inc (by decide)) (by decide) rfl (fun ls hl => ?_)
    refine lv_goto (tgt := 78) hx hb dX6_mixCave_98 (by decide) ?_
    exact ih78 (u_91, (x3 + 1)) _ hf _ _ _ hP hD hS (lv_sub hl [2, 1, 0] rfl)
set_option maxHeartbeats 4000000 in
set_option maxRecDepth 100000 in
theorem w_X6_mixCave_l26 {p : Program} {l : Launch} {e : Env} {s : State} {m : MethodId} {args : Array Value} {below : List Frame} {meth : Method} {c : Code} {dC : Nat → ClassId} {dI : Nat → Nat → Nat} {cI cII : ClassId} {o_t : Nat} {a_t : Nat → Nat} {a_t_today : Nat → Nat} {a_t_best : Nat → Nat} {a_t_now : Nat → Nat} {A : Nat → Prop} (C0 : hC p s m args meth c dC dI cI cII RX6 cX6_mixCave 4 (wd yX6_mixCave cX6_mixCave 4 (some .long)) (some .long)) (hA : ∀ q, s.heap.size ≤ q → A q) {v_t : obV} {v_t_today : obV} {v_t_best : obV} {v_t_now : obV}    :
    ∀ (n : Nat) (y : Int64 × Int32) (r : Int64 × obV), f_X6_mixCave_l26  v_t_today v_t_best v_t_now  n y = some r → ∀ (H : Heap) (locs : List Loc) (ls : Array Slot), va_P (dC, dI) vwCl (wX6 o_t a_t cI v_t ++ (wX2 (a_t 3) a_t_today cI v_t_today ++ (wX0 (a_t 5) a_t_best cI v_t_best ++ (wX1 (a_t 1) a_t_now cI v_t_now)))) H → va_D A (wX6 o_t a_t cI v_t ++ (wX2 (a_t 3) a_t_today cI v_t_today ++ (wX0 (a_t 5) a_t_best cI v_t_best ++ (wX1 (a_t 1) a_t_now cI v_t_now)))) → va_S A s.heap H locs → lv_has ls 4 [(0, .ref o_t), (1, .long y.1), (3, .int y.2)] → W p l e ({ frames := 4, cells := 0, slots := 0, locals := 95 } : Room) s m args below meth c H locs 0 0 (MQ below (va_Ql (fun (z : Int64) (_ : Unit) => r.1 = z) (fun _ t => va_P (dC, dI) vwCl (wX6 o_t a_t cI v_t ++ (wX2 (a_t 3) a_t_today cI v_t_today ++ (wX0 (a_t 5) a_t_best cI r.2 ++ (wX1 (a_t 1) a_t_now cI v_t_now)))) t.heap ∧ va_D A (wX6 o_t a_t cI v_t ++ (wX2 (a_t 3) a_t_today cI v_t_today ++ (wX0 (a_t 5) a_t_best cI r.2 ++ (wX1 (a_t 1) a_t_now cI v_t_now))))) A) args s 0 0 A) (F0 m 26 ls []) := by
  obtain ⟨hx, hb, hml, hown, hts, hr, hlocks, hK, hN⟩ := C0
  refine lp_W ?_
  intro k26 ih26 y r hf H locs ls hP hD hS hl
  obtain ⟨x1, x3⟩ := y
  have hf : f_X6_mixCave_b26  v_t_today v_t_best v_t_now x1 x3  k26 = some r := hf
  have hP : va_P (dC, dI) vwCl (wX6 o_t a_t cI v_t ++ (wX2 (a_t 3) a_t_today cI v_t_today ++ (wX0 (a_t 5) a_t_best cI v_t_best ++ (wX1 (a_t 1) a_t_now cI v_t_now)))) H := hP
  have hD : va_D A (wX6 o_t a_t cI v_t ++ (wX2 (a_t 3) a_t_today cI v_t_today ++ (wX0 (a_t 5) a_t_best cI v_t_best ++ (wX1 (a_t 1) a_t_now cI v_t_now)))) := hD
  have hl : lv_has ls 4 [(0, .ref o_t), (1, .long x1), (3, .int x3)] := hl
  unfold f_X6_mixCave_b26 at hf
  refine lv_iload_n hx hb dX6_mixCave_26 rfl (lv_at hl 2 rfl) ?_
  refine lv_bipush (v := 20) hx hb dX6_mixCave_27 (by decide) ?_
  refine lv_icmp_ge (tgt := 53) hx hb dX6_mixCave_29 (by decide) (fun c_29 => ?_) (fun c_29 => ?_)
  · have hf := ho_t hf c_29
    refine lv_aload_n hx hb dX6_mixCave_53 rfl (lv_at hl 0 rfl) ?_
    refine va_get (D := (dC, dI)) (ci := 6) (v := .ref (a_t 5)) (C := RX6) (T := TX6) (N := 8) hx hb hts hw_X6 hown hK hP 0 rfl rfl 5 (by decide) (hts _ (List.mem_cons_of_mem _ mw_238)) (fun _ h9 => h9) rfl dX6_mixCave_54 ?_
    refine lv_aload_n hx hb dX6_mixCave_57 rfl (lv_at hl 0 rfl) ?_
    refine va_get (D := (dC, dI)) (ci := 6) (v := .ref (a_t 1)) (C := RX6) (T := TX6) (N := 8) hx hb hts hw_X6 hown hK hP 0 rfl rfl 1 (by decide) (hts _ (List.mem_cons_of_mem _ mw_234)) (fun _ h9 => h9) rfl dX6_mixCave_58 ?_
    obtain ⟨u_61, e_61, hf⟩ := ho_b hf
    have hPc := hP.sub (ws' := (wX0 (a_t 5) a_t_best cI v_t_best ++ (wX1 (a_t 1) a_t_now cI v_t_now))) [6, 7, 8, 9, 10, 11, 12] rfl
    have hDc := hD.sub (ws' := (wX0 (a_t 5) a_t_best cI v_t_best ++ (wX1 (a_t 1) a_t_now cI v_t_now))) [6, 7, 8, 9, 10, 11, 12] (by decide) rfl
    have hFc := va_free (wc := (wX0 (a_t 5) a_t_best cI v_t_best ++ (wX1 (a_t 1) a_t_now cI v_t_now))) hD hS hA [6, 7, 8, 9, 10, 11, 12] rfl
    refine va_callv (va_runV (As := [.ref (a_t 1)]) (rest := []) ⟨hx, hb, hml, hown, hts⟩ (c_X0_find l dC dI cI cII (a_t 5) a_t_best (a_t 1) a_t_now v_t_best v_t_now _ u_61 e_61) (cwV 1 hts (hw_giV mw_470 mw_471 mw_472 mw_59 mw_473) rfl rfl rfl (by decide +kernel) ⟨Nat.le_of_ble_eq_true rfl, Nat.le_of_ble_eq_true rfl⟩) ⟨qB_blind, va_recv hK hPc (ci := 0) (q0 := 0) rfl rfl, fun U hU hW => ⟨rfl, qB_go hPc hDc hK hN hU hW⟩⟩ rfl rfl hl.1 rfl (lv_room (Nat.le_of_ble_eq_true rfl)) dX6_mixCave_61 ⟨Nat.zero_le _, Nat.zero_le _⟩) hS (fun q _ h => hFc q h) hFc (fun u t H1 locs ht hvm hw hB hz1 hk1 hS => ?_)
    obtain ⟨hP1, hD1⟩ := hB
    rw [ht] at hP1
    obtain ⟨hP, hD⟩ := va_join (wr := (wX6 o_t a_t cI v_t ++ (wX2 (a_t 3) a_t_today cI v_t_today))) (w1 := (wX0 (a_t 5) a_t_best cI u_61 ++ (wX1 (a_t 1) a_t_now cI v_t_now))) hP hD [6, 7, 8, 9, 10, 11, 12] [0, 1, 2, 3, 4, 5] rfl rfl (by decide) (by decide) hk1 hFc hP1 hD1
    generalize H1 = H at hP hS ⊢
    have hP : va_P (dC, dI) vwCl (wX6 o_t a_t cI v_t ++ (wX2 (a_t 3) a_t_today cI v_t_today ++ (wX0 (a_t 5) a_t_best cI u_61 ++ (wX1 (a_t 1) a_t_now cI v_t_now)))) H := hP.sub [0, 1, 2, 3, 4, 5, 6, 7, 8, 9, 10, 11, 12] rfl
    have hD : va_D A (wX6 o_t a_t cI v_t ++ (wX2 (a_t 3) a_t_today cI v_t_today ++ (wX0 (a_t 5) a_t_best cI u_61 ++ (wX1 (a_t 1) a_t_now cI v_t_now)))) := hD.sub [0, 1, 2, 3, 4, 5, 6, 7, 8, 9, 10, 11, 12] (by decide) rfl
    refine lv_lload_n hx hb dX6_mixCave_64 rfl (lv_at hl 1 rfl) ?_
    refine lv_aload_n hx hb dX6_mixCave_65 rfl (lv_at hl 0 rfl) ?_
    refine lv_iconst (v := 0) hx hb dX6_mixCave_66 (by decide) ?_
    obtain ⟨u_67, e_67, hf⟩ := ho_b hf
    have hPc := hP.sub (ws' := (wX6 o_t a_t cI v_t ++ (wX0 (a_t 5) a_t_best cI u_61))) [0, 6, 7, 8] rfl
    refine vp_callSi (va_runV (As := [.int 0]) (rest := [.long x1]) ⟨hx, hb, hml, hown, hts⟩ (c_X6_tellOrder l dC dI cI cII o_t a_t a_t_best v_t u_61 (0) u_67 e_67) (cwV 1 hts (hw_giV mw_494 mw_496 mw_13 mw_53 mw_497) rfl rfl rfl (by decide +kernel) ⟨Nat.le_of_ble_eq_true rfl, Nat.le_of_ble_eq_true rfl⟩) ⟨pB_blind, va_recv hK hPc (ci := 6) (q0 := 0) rfl rfl, fun U hU hW => ⟨rfl, pB_go hPc hK hN hU hW⟩⟩ rfl rfl hl.1 rfl (lv_room (Nat.le_of_ble_eq_true rfl)) dX6_mixCave_67 ⟨Nat.zero_le _, Nat.zero_le _⟩).run (fun z_67 ez_67 => ?_)
    subst ez_67
    refine lv_i2l (v := (Int32.toInt64 u_67)) hx hb dX6_mixCave_70 rfl ?_
    obtain ⟨u_71, e_71, hf⟩ := ho_b hf
    have hPc := hP.sub (ws' := ([] : va_W)) [] rfl
    refine vp_callSl (va_runS (As := [.long x1, .long (Int32.toInt64 u_67)]) (rest := []) ⟨hx, hb, hml, hown, hts⟩ (c_X6_mix l dC dI cI cII (x1) ((Int32.toInt64 u_67)) u_71 e_71) (va_cwS 2 hts (hw_giS mw_583 mw_584 mw_53 mw_585) rfl rfl rfl (by decide +kernel) ⟨Nat.le_of_ble_eq_true rfl, Nat.le_of_ble_eq_true rfl⟩) ⟨pB_blind, fun U hU hW => ⟨rfl, pB_go hPc hK hN hU hW⟩⟩ rfl rfl hl.1 rfl (lv_room (Nat.le_of_ble_eq_true rfl)) dX6_mixCave_71 ⟨Nat.zero_le _, Nat.zero_le _⟩).run (fun z_71 ez_71 => ?_)
    subst ez_71
    refine lv_lstore_n (lv' := [(1, .long u_71), (0, .ref o_t), (3, .int x3)]) hx hb dX6_mixCave_74 rfl hl (by decide) rfl (fun ls hl => ?_)
    refine lv_bipush (v := 10) hx hb dX6_mixCave_75 (by decide) ?_
    refine lv_istore_n (lv' := [(3, .int 10), (1, .long u_71), (0, .ref o_t)]) hx hb dX6_mixCave_77 rfl hl (by decide) rfl (fun ls hl => ?_)
    exact w_X6_mixCave_l78 ⟨hx, hb, hml, hown, hts, hr, hlocks, hK, hN⟩ hA  _ _ _ hf _ _ _ hP hD hS (lv_sub hl [2, 1, 0] rfl)
  · have hf := ho_f hf c_29
    refine lv_lload_n hx hb dX6_mixCave_32 rfl (lv_at hl 1 rfl) ?_
    refine lv_aload_n hx hb dX6_mixCave_33 rfl (lv_at hl 0 rfl) ?_
    refine va_get (D := (dC, dI)) (ci := 6) (v := .ref (a_t 3)) (C := RX6) (T := TX6) (N := 8) hx hb hts hw_X6 hown hK hP 0 rfl rfl 3 (by decide) (hts _ (List.mem_cons_of_mem _ mw_236)) (fun _ h9 => h9) rfl dX6_mixCave_34 ?_
    refine va_get (D := (dC, dI)) (ci := 2) (v := .ref (a_t_today 3)) (C := RX2) (T := TX2) (N := 8) hx hb hts hw_X2 hown hK hP 1 rfl rfl 3 (by decide) (hts _ (List.mem_cons_of_mem _ mw_164)) (fun _ h9 => h9) rfl dX6_mixCave_37 ?_
    refine lv_iload_n hx hb dX6_mixCave_40 rfl (lv_at hl 2 rfl) ?_
    obtain ⟨h_41, hf⟩ := ho_g hf
    refine va_iald (n := 20) (f := (v_t_today.2 3)) hx hb hK hP 5 0 rfl rfl h_41 dX6_mixCave_41 ?_
    refine lv_i2l (v := (Int32.toInt64 ((v_t_today.2 3) (Int32.toNatClampNeg x3)))) hx hb dX6_mixCave_42 rfl ?_
    obtain ⟨u_43, e_43, hf⟩ := ho_b hf
    have hPc := hP.sub (ws' := ([] : va_W)) [] rfl
    refine vp_callSl (va_runS (As := [.long x1, .long (Int32.toInt64 ((v_t_today.2 3) (Int32.toNatClampNeg x3)))]) (rest := []) ⟨hx, hb, hml, hown, hts⟩ (c_X6_mix l dC dI cI cII (x1) ((Int32.toInt64 ((v_t_today.2 3) (Int32.toNatClampNeg x3)))) u_43 e_43) (va_cwS 2 hts (hw_giS mw_583 mw_584 mw_53 mw_585) rfl rfl rfl (by decide +kernel) ⟨Nat.le_of_ble_eq_true rfl, Nat.le_of_ble_eq_true rfl⟩) ⟨pB_blind, fun U hU hW => ⟨rfl, pB_go hPc hK hN hU hW⟩⟩ rfl rfl hl.1 rfl (lv_room (Nat.le_of_ble_eq_true rfl)) dX6_mixCave_43 ⟨Nat.zero_le _, Nat.zero_le _⟩).run (fun z_43 ez_43 => ?_)
    subst ez_43
    refine lv_lstore_n (lv' := [(1, .long u_43), (0, .ref o_t), (3, .int x3)]) hx hb dX6_mixCave_46 rfl hl (by decide) rfl (fun ls hl => ?_)
    refine lv_iinc (v := (x3 + 1)) (lv' := [(3, .int (x3 + 1)), (1, .long u_43), (0, .ref o_t)]) hx hb dX6_mixCave_47 hl (k := 2) rfl (hp_inc (by decide)) (by decide) rfl (fun ls hl => ?_)
    refine lv_goto (tgt := 26) hx hb dX6_mixCave_50 (by decide) ?_
    exact ih26 (u_43, (x3 + 1)) _ hf _ _ _ hP hD hS (lv_sub hl [2, 1, 0] rfl)
set_option maxHeartbeats 4000000 in
set_option maxRecDepth 100000 in
theorem w_X6_mixCave_l2 {p : Program} {l : Launch} {e : Env} {s : State} {m : MethodId} {args : Array Value} {below : List Frame} {meth : Method} {c : Code} {dC : Nat → ClassId} {dI : Nat → Nat → Nat} {cI cII : ClassId} {o_t : Nat} {a_t : Nat → Nat} {a_t_today : Nat → Nat} {a_t_best : Nat → Nat} {a_t_now : Nat → Nat} {A : Nat → Prop} (C0 : hC p s m args meth c dC dI cI cII RX6 cX6_mixCave 4 (wd yX6_mixCave cX6_mixCave 4 (some .long)) (some .long)) (hA : ∀ q, s.heap.size ≤ q → A q) {v_t : obV} {v_t_today : obV} {v_t_best : obV} {v_t_now : obV}    :
    ∀ (n : Nat) (y : Int64 × Int32) (r : Int64 × obV), f_X6_mixCave_l2  v_t_today v_t_best v_t_now  n y = some r → ∀ (H : Heap) (locs : List Loc) (ls : Array Slot), va_P (dC, dI) vwCl (wX6 o_t a_t cI v_t ++ (wX2 (a_t 3) a_t_today cI v_t_today ++ (wX0 (a_t 5) a_t_best cI v_t_best ++ (wX1 (a_t 1) a_t_now cI v_t_now)))) H → va_D A (wX6 o_t a_t cI v_t ++ (wX2 (a_t 3) a_t_today cI v_t_today ++ (wX0 (a_t 5) a_t_best cI v_t_best ++ (wX1 (a_t 1) a_t_now cI v_t_now)))) → va_S A s.heap H locs → lv_has ls 4 [(0, .ref o_t), (1, .long y.1), (3, .int y.2)] → W p l e ({ frames := 4, cells := 0, slots := 0, locals := 95 } : Room) s m args below meth c H locs 0 0 (MQ below (va_Ql (fun (z : Int64) (_ : Unit) => r.1 = z) (fun _ t => va_P (dC, dI) vwCl (wX6 o_t a_t cI v_t ++ (wX2 (a_t 3) a_t_today cI v_t_today ++ (wX0 (a_t 5) a_t_best cI r.2 ++ (wX1 (a_t 1) a_t_now cI v_t_now)))) t.heap ∧ va_D A (wX6 o_t a_t cI v_t ++ (wX2 (a_t 3) a_t_today cI v_t_today ++ (wX0 (a_t 5) a_t_best cI r.2 ++ (wX1 (a_t 1) a_t_now cI v_t_now))))) A) args s 0 0 A) (F0 m 2 ls []) := by
  obtain ⟨hx, hb, hml, hown, hts, hr, hlocks, hK, hN⟩ := C0
  refine lp_W ?_
  intro k2 ih2 y r hf H locs ls hP hD hS hl
  obtain ⟨x1, x3⟩ := y
  have hf : f_X6_mixCave_b2  v_t_today v_t_best v_t_now x1 x3  k2 = some r := hf
  have hP : va_P (dC, dI) vwCl (wX6 o_t a_t cI v_t ++ (wX2 (a_t 3) a_t_today cI v_t_today ++ (wX0 (a_t 5) a_t_best cI v_t_best ++ (wX1 (a_t 1) a_t_now cI v_t_now)))) H := hP
  have hD : va_D A (wX6 o_t a_t cI v_t ++ (wX2 (a_t 3) a_t_today cI v_t_today ++ (wX0 (a_t 5) a_t_best cI v_t_best ++ (wX1 (a_t 1) a_t_now cI v_t_now)))) := hD
  have hl : lv_has ls 4 [(0, .ref o_t), (1, .long x1), (3, .int x3)] := hl
  unfold f_X6_mixCave_b2 at hf
  refine lv_iload_n hx hb dX6_mixCave_2 rfl (lv_at hl 2 rfl) ?_
  refine lv_iconst (v := 4) hx hb dX6_mixCave_3 (by decide) ?_
  refine lv_icmp_gt (tgt := 24) hx hb dX6_mixCave_4 (by decide) (fun c_4 => ?_) (fun c_4 => ?_)
  · have hf := ho_t hf c_4
    refine lv_iconst (v := 0) hx hb dX6_mixCave_24 (by decide) ?_
    refine lv_istore_n (lv' := [(3, .int 0), (0, .ref o_t), (1, .long x1)]) hx hb dX6_mixCave_25 rfl hl (by decide) rfl (fun ls hl => ?_)
    exact w_X6_mixCave_l26 ⟨hx, hb, hml, hown, hts, hr, hlocks, hK, hN⟩ hA  _ _ _ hf _ _ _ hP hD hS (lv_sub hl [1, 2, 0] rfl)
  · have hf := ho_f hf c_4
    refine lv_lload_n hx hb dX6_mixCave_7 rfl (lv_at hl 1 rfl) ?_
    refine lv_aload_n hx hb dX6_mixCave_8 rfl (lv_at hl 0 rfl) ?_
    refine lv_iload_n hx hb dX6_mixCave_9 rfl (lv_at hl 2 rfl) ?_
    obtain ⟨u_10, e_10, hf⟩ := ho_b hf
    have hPc := hP.sub (ws' := (wX6 o_t a_t cI v_t ++ (wX2 (a_t 3) a_t_today cI v_t_today))) [0, 1, 2, 3, 4, 5] rfl
    refine vp_callSi (va_runV (As := [.int x3]) (rest := [.long x1]) ⟨hx, hb, hml, hown, hts⟩ (c_X6_tellDay l dC dI cI cII o_t a_t a_t_today v_t v_t_today (x3) u_10 e_10) (cwV 1 hts (hw_giV mw_443 mw_445 mw_8 mw_53 mw_446) rfl rfl rfl (by decide +kernel) ⟨Nat.le_of_ble_eq_true rfl, Nat.le_of_ble_eq_true rfl⟩) ⟨pB_blind, va_recv hK hPc (ci := 6) (q0 := 0) rfl rfl, fun U hU hW => ⟨rfl, pB_go hPc hK hN hU hW⟩⟩ rfl rfl hl.1 rfl (lv_room (Nat.le_of_ble_eq_true rfl)) dX6_mixCave_10 ⟨Nat.zero_le _, Nat.zero_le _⟩).run (fun z_10 ez_10 => ?_)
    subst ez_10
    refine lv_i2l (v := (Int32.toInt64 u_10)) hx hb dX6_mixCave_13 rfl ?_
    obtain ⟨u_14, e_14, hf⟩ := ho_b hf
    have hPc := hP.sub (ws' := ([] : va_W)) [] rfl
    refine vp_callSl (va_runS (As := [.long x1, .long (Int32.toInt64 u_10)]) (rest := []) ⟨hx, hb, hml, hown, hts⟩ (c_X6_mix l dC dI cI cII (x1) ((Int32.toInt64 u_10)) u_14 e_14) (va_cwS 2 hts (hw_giS mw_583 mw_584 mw_53 mw_585) rfl rfl rfl (by decide +kernel) ⟨Nat.le_of_ble_eq_true rfl, Nat.le_of_ble_eq_true rfl⟩) ⟨pB_blind, fun U hU hW => ⟨rfl, pB_go hPc hK hN hU hW⟩⟩ rfl rfl hl.1 rfl (lv_room (Nat.le_of_ble_eq_true rfl)) dX6_mixCave_14 ⟨Nat.zero_le _, Nat.zero_le _⟩).run (fun z_14 ez_14 => ?_)
    subst ez_14
    refine lv_lstore_n (lv' := [(1, .long u_14), (0, .ref o_t), (3, .int x3)]) hx hb dX6_mixCave_17 rfl hl (by decide) rfl (fun ls hl => ?_)
    refine lv_iinc (v := (x3 + 1)) (lv' := [(3, .int (x3 + 1)), (1, .long u_14), (0, .ref o_t)]) hx hb dX6_mixCave_18 hl (k := 2) rfl (hp_inc (by decide)) (by decide) rfl (fun ls hl => ?_)
    refine lv_goto (tgt := 2) hx hb dX6_mixCave_21 (by decide) ?_
    exact ih2 (u_14, (x3 + 1)) _ hf _ _ _ hP hD hS (lv_sub hl [2, 1, 0] rfl)
set_option maxHeartbeats 4000000 in
set_option maxRecDepth 100000 in
theorem c_X6_mixCave (l : Launch) (dC : Nat → ClassId) (dI : Nat → Nat → Nat) (cI cII : ClassId) (o_t : Nat) (a_t : Nat → Nat) (a_t_today : Nat → Nat) (a_t_best : Nat → Nat) (a_t_now : Nat → Nat) (v_t : obV) (v_t_today : obV) (v_t_best : obV) (v_t_now : obV) (x1 : Int64) (sz : Nat) (r : Int64 × obV) (hf : f_X6_mixCave  v_t_today v_t_best v_t_now x1 = some r) :
    Met l yX6_mixCave (wd yX6_mixCave cX6_mixCave 4 (some .long)) ({ frames := 4, cells := 0, slots := 0, locals := 95 } : Room) (va_Pc [.ref o_t, .long x1] (qB (dC, dI) vwCl (wX6 o_t a_t cI v_t ++ (wX2 (a_t 3) a_t_today cI v_t_today ++ (wX0 (a_t 5) a_t_best cI v_t_best ++ (wX1 (a_t 1) a_t_now cI v_t_now)))) (hTY cI cII) sz)) (va_Ql (fun (z : Int64) (_ : Unit) => r.1 = z) (fun _ t => va_P (dC, dI) vwCl (wX6 o_t a_t cI v_t ++ (wX2 (a_t 3) a_t_today cI v_t_today ++ (wX0 (a_t 5) a_t_best cI r.2 ++ (wX1 (a_t 1) a_t_now cI v_t_now)))) t.heap ∧ va_D (va_A (wX6 o_t a_t cI v_t ++ (wX2 (a_t 3) a_t_today cI v_t_today ++ (wX0 (a_t 5) a_t_best cI v_t_best ++ (wX1 (a_t 1) a_t_now cI v_t_now)))) sz) (wX6 o_t a_t cI v_t ++ (wX2 (a_t 3) a_t_today cI v_t_today ++ (wX0 (a_t 5) a_t_best cI r.2 ++ (wX1 (a_t 1) a_t_now cI v_t_now))))) (va_A (wX6 o_t a_t cI v_t ++ (wX2 (a_t 3) a_t_today cI v_t_today ++ (wX0 (a_t 5) a_t_best cI v_t_best ++ (wX1 (a_t 1) a_t_now cI v_t_now)))) sz)) 0 0 (va_A (wX6 o_t a_t cI v_t ++ (wX2 (a_t 3) a_t_today cI v_t_today ++ (wX0 (a_t 5) a_t_best cI v_t_best ++ (wX1 (a_t 1) a_t_now cI v_t_now)))) sz) := by
  refine Met.ofW (cc := cX6_mixCave) (maxL := 4) (ret := (some .long)) (by decide) rfl ?_
  intro p e s m args below meth c s₁ B hml hv
  obtain ⟨rfl, hsz, hD0, hP, hK, hN⟩ := hv
  have hx := B.exec
  have hb := B.bytes
  have hr := B.returns
  have hts := atoms_spec (ws := (wd yX6_mixCave cX6_mixCave 4 (some .long))) B.pre
  have hown : s.vm.findClass RX6 = some m.cls := findClass_of_methodNamed B.named
  have hlocks := B.notSynchronized
  subst hsz
  have hD := hD0.self (sz := s.heap.size)
  generalize hAe : va_A (wX6 o_t a_t cI v_t ++ (wX2 (a_t 3) a_t_today cI v_t_today ++ (wX0 (a_t 5) a_t_best cI v_t_best ++ (wX1 (a_t 1) a_t_now cI v_t_now)))) s.heap.size = A at hD ⊢
  have hA : ∀ q : Nat, s.heap.size ≤ q → A q := fun q h => by rw [← hAe]; exact Or.inr h
  have hS : va_S A s.heap s.heap [] := va_S.rf
  have hl := lv_entry ([.ref o_t, .long x1]) (n := 4) (Nat.le_of_ble_eq_true rfl)
  rw [lg_entry_eq]
  generalize (lg_sl ([.ref o_t, .long x1]) ++ List.replicate (4 - (lg_sl ([.ref o_t, .long x1])).length) Slot.unset).toArray = ls at hl ⊢
  have hl : lv_has ls 4 [(0, .ref o_t), (1, .long x1)] := hl
  clear hAe hD0
  unfold f_X6_mixCave at hf
  refine lv_iconst (v := 0) hx hb dX6_mixCave_0 (by decide) ?_
  refine lv_istore_n (lv' := [(3, .int 0), (0, .ref o_t), (1, .long x1)]) hx hb dX6_mixCave_1 rfl hl (by decide) rfl (fun ls hl => ?_)
  exact w_X6_mixCave_l2 ⟨hx, hb, hml, hown, hts, hr, hlocks, hK, hN⟩ hA  _ _ _ hf _ _ _ hP hD hS (lv_sub hl [1, 2, 0] rfl)
set_option maxHeartbeats 4000000 in
set_option maxRecDepth 100000 in
theorem w_X6_digest_l93 {p : Program} {l : Launch} {e : Env} {s : State} {m : MethodId} {args : Array Value} {below : List Frame} {meth : Method} {c : Code} {dC : Nat → ClassId} {dI : Nat → Nat → Nat} {cI cII : ClassId} {o_t : Nat} {a_t : Nat → Nat} {a_t_today : Nat → Nat} {a_t_now : Nat → Nat} {a_t_trials : Nat → Nat} {r_t_trials : Nat → Nat} {a_t_trials_day : Nat → Nat} {a_t_now_seen : Nat → Nat} {a_t_best : Nat → Nat} {a_t_page : Nat → Nat} {A : Nat → Prop} (C0 : hC p s m args meth c dC dI cI cII RX6 cX6_digest 4 (wd yX6_digest cX6_digest 4 (some .long)) (some .long)) (hA : ∀ q, s.heap.size ≤ q → A q)  {v_t : obV} {v_t_today : obV} {v_t_now : obV} {v_t_trials : obV} {w_t_trials : Nat → Nat → Int32} {v_t_trials_day : obV} {v_t_now_seen : obV} {v_t_best : obV} {v_t_page : obV}    :
    ∀ (n : Nat) (y : Int64 × Int32) (r : Int64 × obV × obV × (Nat → Nat → Int32) × obV × obV), f_X6_digest_l93  v_t v_t_today v_t_now v_t_trials w_t_trials v_t_trials_day v_t_now_seen v_t_best v_t_page  n y = some r → ∀ (H : Heap) (locs : List Loc) (ls : Array Slot), va_P (dC, dI) vwCl (wX6 o_t a_t cI v_t ++ (wX2 (a_t 3) a_t_today cI v_t_today ++ (wX1 (a_t 1) a_t_now cI v_t_now ++ (wX5 (a_t 4) a_t_trials r_t_trials cI cII v_t_trials w_t_trials ++ (wX2 (a_t_trials 0) a_t_trials_day cI v_t_trials_day ++ (wX4 (a_t_now 3) a_t_now_seen cI v_t_now_seen ++ (wX0 (a_t 5) a_t_best cI v_t_best ++ (wX3 (a_t 0) a_t_page cI v_t_page)))))))) H → va_D A (wX6 o_t a_t cI v_t ++ (wX2 (a_t 3) a_t_today cI v_t_today ++ (wX1 (a_t 1) a_t_now cI v_t_now ++ (wX5 (a_t 4) a_t_trials r_t_trials cI cII v_t_trials w_t_trials ++ (wX2 (a_t_trials 0) a_t_trials_day cI v_t_trials_day ++ (wX4 (a_t_now 3) a_t_now_seen cI v_t_now_seen ++ (wX0 (a_t 5) a_t_best cI v_t_best ++ (wX3 (a_t 0) a_t_page cI v_t_page)))))))) → va_S A s.heap H locs → lv_has ls 4 [(0, .ref o_t), (1, .long y.1), (3, .int y.2)] → W p l e ({ frames := 6, cells := 0, slots := 0, locals := 143 } : Room) s m args below meth c H locs 0 0 (MQ below (va_Ql (fun (z : Int64) (_ : Unit) => r.1 = z) (fun _ t => va_P (dC, dI) vwCl (wX6 o_t a_t cI v_t ++ (wX2 (a_t 3) a_t_today cI r.2.1 ++ (wX1 (a_t 1) a_t_now cI v_t_now ++ (wX5 (a_t 4) a_t_trials r_t_trials cI cII r.2.2.1 r.2.2.2.1 ++ (wX2 (a_t_trials 0) a_t_trials_day cI r.2.2.2.2.1 ++ (wX4 (a_t_now 3) a_t_now_seen cI v_t_now_seen ++ (wX0 (a_t 5) a_t_best cI r.2.2.2.2.2 ++ (wX3 (a_t 0) a_t_page cI v_t_page)))))))) t.heap ∧ va_D A (wX6 o_t a_t cI v_t ++ (wX2 (a_t 3) a_t_today cI r.2.1 ++ (wX1 (a_t 1) a_t_now cI v_t_now ++ (wX5 (a_t 4) a_t_trials r_t_trials cI cII r.2.2.1 r.2.2.2.1 ++ (wX2 (a_t_trials 0) a_t_trials_day cI r.2.2.2.2.1 ++ (wX4 (a_t_now 3) a_t_now_seen cI v_t_now_seen ++ (wX0 (a_t 5) a_t_best cI r.2.2.2.2.2 ++ (wX3 (a_t 0) a_t_page cI v_t_page))))))))) A) args s 0 0 A) (F0 m 93 ls []) := by
  obtain ⟨hx, hb, hml, hown, hts, hr, hlocks, hK, hN⟩ := C0
  refine lp_W ?_
  intro k93 ih93 y r hf H locs ls hP hD hS hl
  obtain ⟨x1, x3⟩ := y
  have hf : f_X6_digest_b93  v_t v_t_today v_t_now v_t_trials w_t_trials v_t_trials_day v_t_now_seen v_t_best v_t_page x1 x3  k93 = some r := hf
  have hP : va_P (dC, dI) vwCl (wX6 o_t a_t cI v_t ++ (wX2 (a_t 3) a_t_today cI v_t_today ++ (wX1 (a_t 1) a_t_now cI v_t_now ++ (wX5 (a_t 4) a_t_trials r_t_trials cI cII v_t_trials w_t_trials ++ (wX2 (a_t_trials 0) a_t_trials_day cI v_t_trials_day ++ (wX4 (a_t_now 3) a_t_now_seen cI v_t_now_seen ++ (wX0 (a_t 5) a_t_best cI v_t_best ++ (wX3 (a_t 0) a_t_page cI v_t_page)))))))) H := hP
  have hD : va_D A (wX6 o_t a_t cI v_t ++ (wX2 (a_t 3) a_t_today cI v_t_today ++ (wX1 (a_t 1) a_t_now cI v_t_now ++ (wX5 (a_t 4) a_t_trials r_t_trials cI cII v_t_trials w_t_trials ++ (wX2 (a_t_trials 0) a_t_trials_day cI v_t_trials_day ++ (wX4 (a_t_now 3) a_t_now_seen cI v_t_now_seen ++ (wX0 (a_t 5) a_t_best cI v_t_best ++ (wX3 (a_t 0) a_t_page cI v_t_page)))))))) := hD
  have hl : lv_has ls 4 [(0, .ref o_t), (1, .long x1), (3, .int x3)] := hl
  unfold f_X6_digest_b93 at hf
  refine lv_iload_n hx hb dX6_digest_93 rfl (lv_at hl 2 rfl) ?_
  refine lv_bipush (v := 7) hx hb dX6_digest_94 (by decide) ?_
  refine lv_icmp_gt (tgt := 116) hx hb dX6_digest_96 (by decide) (fun c_96 => ?_) (fun c_96 => ?_)
  · have hf := ho_t hf c_96
    refine lv_lload_n hx hb dX6_digest_116 rfl (lv_at hl 1 rfl) ?_
    obtain rfl := Option.some.inj hf
    exact W.lret (v := x1) hx hb hr (fun t ht hW => ⟨⟨_, (), rfl, rfl, by rw [ht]; exact hP, hD⟩, hS.F ht⟩) hS.2.2 dX6_digest_117 hlocks
  · have hf := ho_f hf c_96
    refine lv_lload_n hx hb dX6_digest_99 rfl (lv_at hl 1 rfl) ?_
    refine lv_aload_n hx hb dX6_digest_100 rfl (lv_at hl 0 rfl) ?_
    refine lv_iload_n hx hb dX6_digest_101 rfl (lv_at hl 2 rfl) ?_
    obtain ⟨u_102, e_102, hf⟩ := ho_b hf
    have hPc := hP.sub (ws' := (wX6 o_t a_t cI v_t ++ (wX3 (a_t 0) a_t_page cI v_t_page ++ (wX1 (a_t 1) a_t_now cI v_t_now ++ (wX4 (a_t_now 3) a_t_now_seen cI v_t_now_seen))))) [0, 35, 36, 6, 7, 8, 9, 29, 30, 31] rfl
    refine vp_callSi (va_runV (As := [.int x3]) (rest := [.long x1]) ⟨hx, hb, hml, hown, hts⟩ (c_X6_count l dC dI cI cII o_t a_t a_t_page a_t_now a_t_now_seen v_t v_t_page v_t_now v_t_now_seen (x3) u_102 e_102) (cwV 1 hts (hw_giV mw_591 mw_561 mw_562 mw_53 mw_563) rfl rfl rfl (by decide +kernel) ⟨Nat.le_of_ble_eq_true rfl, Nat.le_of_ble_eq_true rfl⟩) ⟨pB_blind, va_recv hK hPc (ci := 6) (q0 := 0) rfl rfl, fun U hU hW => ⟨rfl, pB_go hPc hK hN hU hW⟩⟩ rfl rfl hl.1 rfl (lv_room (Nat.le_of_ble_eq_true rfl)) dX6_digest_102 ⟨Nat.zero_le _, Nat.zero_le _⟩).run (fun z_102 ez_102 => ?_)
    subst ez_102
    refine lv_i2l (v := (Int32.toInt64 u_102)) hx hb dX6_digest_105 rfl ?_
    obtain ⟨u_106, e_106, hf⟩ := ho_b hf
    have hPc := hP.sub (ws' := ([] : va_W)) [] rfl
    refine vp_callSl (va_runS (As := [.long x1, .long (Int32.toInt64 u_102)]) (rest := []) ⟨hx, hb, hml, hown, hts⟩ (c_X6_mix l dC dI cI cII (x1) ((Int32.toInt64 u_102)) u_106 e_106) (va_cwS 2 hts (hw_giS mw_583 mw_584 mw_53 mw_585) rfl rfl rfl (by decide +kernel) ⟨Nat.le_of_ble_eq_true rfl, Nat.le_of_ble_eq_true rfl⟩) ⟨pB_blind, fun U hU hW => ⟨rfl, pB_go hPc hK hN hU hW⟩⟩ rfl rfl hl.1 rfl (lv_room (Nat.le_of_ble_eq_true rfl)) dX6_digest_106 ⟨Nat.zero_le _, Nat.zero_le _⟩).run (fun z_106 ez_106 => ?_)
    subst ez_106
    refine lv_lstore_n (lv' := [(1, .long u_106), (0, .ref o_t), (3, .int x3)]) hx hb dX6_digest_109 rfl hl (by decide) rfl (fun ls hl => ?_)
    refine lv_iinc (v := (x3 + 1)) (lv' := [(3, .int (x3 + 1)), (1, .long u_106), (0, .ref o_t)]) hx hb dX6_digest_110 hl (k := 2) rfl (hp_inc (by decide)) (by decide) rfl (fun ls hl => ?_)
    refine lv_goto (tgt := 93) hx hb dX6_digest_113 (by decide) ?_
    exact ih93 (u_106, (x3 + 1)) _ hf _ _ _ hP hD hS (lv_sub hl [2, 1, 0] rfl)
set_option maxHeartbeats 4000000 in
set_option maxRecDepth 100000 in
theorem w_X6_digest_l59 {p : Program} {l : Launch} {e : Env} {s : State} {m : MethodId} {args : Array Value} {below : List Frame} {meth : Method} {c : Code} {dC : Nat → ClassId} {dI : Nat → Nat → Nat} {cI cII : ClassId} {o_t : Nat} {a_t : Nat → Nat} {a_t_today : Nat → Nat} {a_t_now : Nat → Nat} {a_t_trials : Nat → Nat} {r_t_trials : Nat → Nat} {a_t_trials_day : Nat → Nat} {a_t_now_seen : Nat → Nat} {a_t_best : Nat → Nat} {a_t_page : Nat → Nat} {A : Nat → Prop} (C0 : hC p s m args meth c dC dI cI cII RX6 cX6_digest 4 (wd yX6_digest cX6_digest 4 (some .long)) (some .long)) (hA : ∀ q, s.heap.size ≤ q → A q)  {v_t : obV} {v_t_today : obV} {v_t_now : obV} {v_t_trials : obV} {w_t_trials : Nat → Nat → Int32} {v_t_trials_day : obV} {v_t_now_seen : obV} {v_t_best : obV} {v_t_page : obV}    :
    ∀ (n : Nat) (y : Int64 × Int32) (r : Int64 × obV × obV × (Nat → Nat → Int32) × obV × obV), f_X6_digest_l59  v_t v_t_today v_t_now v_t_trials w_t_trials v_t_trials_day v_t_now_seen v_t_best v_t_page  n y = some r → ∀ (H : Heap) (locs : List Loc) (ls : Array Slot), va_P (dC, dI) vwCl (wX6 o_t a_t cI v_t ++ (wX2 (a_t 3) a_t_today cI v_t_today ++ (wX1 (a_t 1) a_t_now cI v_t_now ++ (wX5 (a_t 4) a_t_trials r_t_trials cI cII v_t_trials w_t_trials ++ (wX2 (a_t_trials 0) a_t_trials_day cI v_t_trials_day ++ (wX4 (a_t_now 3) a_t_now_seen cI v_t_now_seen ++ (wX0 (a_t 5) a_t_best cI v_t_best ++ (wX3 (a_t 0) a_t_page cI v_t_page)))))))) H → va_D A (wX6 o_t a_t cI v_t ++ (wX2 (a_t 3) a_t_today cI v_t_today ++ (wX1 (a_t 1) a_t_now cI v_t_now ++ (wX5 (a_t 4) a_t_trials r_t_trials cI cII v_t_trials w_t_trials ++ (wX2 (a_t_trials 0) a_t_trials_day cI v_t_trials_day ++ (wX4 (a_t_now 3) a_t_now_seen cI v_t_now_seen ++ (wX0 (a_t 5) a_t_best cI v_t_best ++ (wX3 (a_t 0) a_t_page cI v_t_page)))))))) → va_S A s.heap H locs → lv_has ls 4 [(0, .ref o_t), (1, .long y.1), (3, .int y.2)] → W p l e ({ frames := 6, cells := 0, slots := 0, locals := 143 } : Room) s m args below meth c H locs 0 0 (MQ below (va_Ql (fun (z : Int64) (_ : Unit) => r.1 = z) (fun _ t => va_P (dC, dI) vwCl (wX6 o_t a_t cI v_t ++ (wX2 (a_t 3) a_t_today cI r.2.1 ++ (wX1 (a_t 1) a_t_now cI v_t_now ++ (wX5 (a_t 4) a_t_trials r_t_trials cI cII r.2.2.1 r.2.2.2.1 ++ (wX2 (a_t_trials 0) a_t_trials_day cI r.2.2.2.2.1 ++ (wX4 (a_t_now 3) a_t_now_seen cI v_t_now_seen ++ (wX0 (a_t 5) a_t_best cI r.2.2.2.2.2 ++ (wX3 (a_t 0) a_t_page cI v_t_page)))))))) t.heap ∧ va_D A (wX6 o_t a_t cI v_t ++ (wX2 (a_t 3) a_t_today cI r.2.1 ++ (wX1 (a_t 1) a_t_now cI v_t_now ++ (wX5 (a_t 4) a_t_trials r_t_trials cI cII r.2.2.1 r.2.2.2.1 ++ (wX2 (a_t_trials 0) a_t_trials_day cI r.2.2.2.2.1 ++ (wX4 (a_t_now 3) a_t_now_seen cI v_t_now_seen ++ (wX0 (a_t 5) a_t_best cI r.2.2.2.2.2 ++ (wX3 (a_t 0) a_t_page cI v_t_page))))))))) A) args s 0 0 A) (F0 m 59 ls []) := by
  obtain ⟨hx, hb, hml, hown, hts, hr, hlocks, hK, hN⟩ := C0
  refine lp_W ?_
  intro k59 ih59 y r hf H locs ls hP hD hS hl
  obtain ⟨x1, x3⟩ := y
  have hf : f_X6_digest_b59  v_t v_t_today v_t_now v_t_trials w_t_trials v_t_trials_day v_t_now_seen v_t_best v_t_page x1 x3  k59 = some r := hf
  have hP : va_P (dC, dI) vwCl (wX6 o_t a_t cI v_t ++ (wX2 (a_t 3) a_t_today cI v_t_today ++ (wX1 (a_t 1) a_t_now cI v_t_now ++ (wX5 (a_t 4) a_t_trials r_t_trials cI cII v_t_trials w_t_trials ++ (wX2 (a_t_trials 0) a_t_trials_day cI v_t_trials_day ++ (wX4 (a_t_now 3) a_t_now_seen cI v_t_now_seen ++ (wX0 (a_t 5) a_t_best cI v_t_best ++ (wX3 (a_t 0) a_t_page cI v_t_page)))))))) H := hP
  have hD : va_D A (wX6 o_t a_t cI v_t ++ (wX2 (a_t 3) a_t_today cI v_t_today ++ (wX1 (a_t 1) a_t_now cI v_t_now ++ (wX5 (a_t 4) a_t_trials r_t_trials cI cII v_t_trials w_t_trials ++ (wX2 (a_t_trials 0) a_t_trials_day cI v_t_trials_day ++ (wX4 (a_t_now 3) a_t_now_seen cI v_t_now_seen ++ (wX0 (a_t 5) a_t_best cI v_t_best ++ (wX3 (a_t 0) a_t_page cI v_t_page)))))))) := hD
  have hl : lv_has ls 4 [(0, .ref o_t), (1, .long x1), (3, .int x3)] := hl
  unfold f_X6_digest_b59 at hf
  refine lv_iload_n hx hb dX6_digest_59 rfl (lv_at hl 2 rfl) ?_
  refine lv_aload_n hx hb dX6_digest_60 rfl (lv_at hl 0 rfl) ?_
  refine va_get (D := (dC, dI)) (ci := 6) (v := .ref (a_t 0)) (C := RX6) (T := TX6) (N := 8) hx hb hts hw_X6 hown hK hP 0 rfl rfl 0 (by decide) (hts _ (List.mem_cons_of_mem _ mw_233)) (fun _ h9 => h9) rfl dX6_digest_61 ?_
  refine va_get (D := (dC, dI)) (ci := 3) (v := .int (v_t_page.1 1)) (C := RX3) (T := TX3) (N := 2) hx hb hts hw_X3 hown hK hP 35 rfl rfl 1 (by decide) (hts _ (List.mem_cons_of_mem _ mw_82)) (fun _ h9 => h9) rfl dX6_digest_64 ?_
  refine lv_icmp_ge (tgt := 91) hx hb dX6_digest_67 (by decide) (fun c_67 => ?_) (fun c_67 => ?_)
  · have hf := ho_t hf c_67
    refine lv_iconst (v := 0) hx hb dX6_digest_91 (by decide) ?_
    refine lv_istore_n (lv' := [(3, .int 0), (0, .ref o_t), (1, .long x1)]) hx hb dX6_digest_92 rfl hl (by decide) rfl (fun ls hl => ?_)
    exact w_X6_digest_l93 ⟨hx, hb, hml, hown, hts, hr, hlocks, hK, hN⟩ hA  _ _ _ hf _ _ _ hP hD hS (lv_sub hl [1, 2, 0] rfl)
  · have hf := ho_f hf c_67
    refine lv_lload_n hx hb dX6_digest_70 rfl (lv_at hl 1 rfl) ?_
    refine lv_aload_n hx hb dX6_digest_71 rfl (lv_at hl 0 rfl) ?_
    refine va_get (D := (dC, dI)) (ci := 6) (v := .ref (a_t 0)) (C := RX6) (T := TX6) (N := 8) hx hb hts hw_X6 hown hK hP 0 rfl rfl 0 (by decide) (hts _ (List.mem_cons_of_mem _ mw_233)) (fun _ h9 => h9) rfl dX6_digest_72 ?_
    refine va_get (D := (dC, dI)) (ci := 3) (v := .ref (a_t_page 0)) (C := RX3) (T := TX3) (N := 2) hx hb hts hw_X3 hown hK hP 35 rfl rfl 0 (by decide) (hts _ (List.mem_cons_of_mem _ mw_80)) (fun _ h9 => h9) rfl dX6_digest_75 ?_
    refine lv_iload_n hx hb dX6_digest_78 rfl (lv_at hl 2 rfl) ?_
    obtain ⟨h_79, hf⟩ := ho_g hf
    refine va_iald (n := 24) (f := (v_t_page.2 0)) hx hb hK hP 36 0 rfl rfl h_79 dX6_digest_79 ?_
    refine lv_i2l (v := (Int32.toInt64 ((v_t_page.2 0) (Int32.toNatClampNeg x3)))) hx hb dX6_digest_80 rfl ?_
    obtain ⟨u_81, e_81, hf⟩ := ho_b hf
    have hPc := hP.sub (ws' := ([] : va_W)) [] rfl
    refine vp_callSl (va_runS (As := [.long x1, .long (Int32.toInt64 ((v_t_page.2 0) (Int32.toNatClampNeg x3)))]) (rest := []) ⟨hx, hb, hml, hown, hts⟩ (c_X6_mix l dC dI cI cII (x1) ((Int32.toInt64 ((v_t_page.2 0) (Int32.toNatClampNeg x3)))) u_81 e_81) (va_cwS 2 hts (hw_giS mw_583 mw_584 mw_53 mw_585) rfl rfl rfl (by decide +kernel) ⟨Nat.le_of_ble_eq_true rfl, Nat.le_of_ble_eq_true rfl⟩) ⟨pB_blind, fun U hU hW => ⟨rfl, pB_go hPc hK hN hU hW⟩⟩ rfl rfl hl.1 rfl (lv_room (Nat.le_of_ble_eq_true rfl)) dX6_digest_81 ⟨Nat.zero_le _, Nat.zero_le _⟩).run (fun z_81 ez_81 => ?_)
    subst ez_81
    refine lv_lstore_n (lv' := [(1, .long u_81), (0, .ref o_t), (3, .int x3)]) hx hb dX6_digest_84 rfl hl (by decide) rfl (fun ls hl => ?_)
    refine lv_iinc (v := (x3 + 1)) (lv' := [(3, .int (x3 + 1)), (1, .long u_81), (0, .ref o_t)]) hx hb dX6_digest_85 hl (k := 2) rfl (hp_inc (by decide)) (by decide) rfl (fun ls hl => ?_)
    refine lv_goto (tgt := 59) hx hb dX6_digest_88 (by decide) ?_
    exact ih59 (u_81, (x3 + 1)) _ hf _ _ _ hP hD hS (lv_sub hl [2, 1, 0] rfl)
set_option maxHeartbeats 4000000 in
set_option maxRecDepth 100000 in
theorem w_X6_digest_l17 {p : Program} {l : Launch} {e : Env} {s : State} {m : MethodId} {args : Array Value} {below : List Frame} {meth : Method} {c : Code} {dC : Nat → ClassId} {dI : Nat → Nat → Nat} {cI cII : ClassId} {o_t : Nat} {a_t : Nat → Nat} {a_t_today : Nat → Nat} {a_t_now : Nat → Nat} {a_t_trials : Nat → Nat} {r_t_trials : Nat → Nat} {a_t_trials_day : Nat → Nat} {a_t_now_seen : Nat → Nat} {a_t_best : Nat → Nat} {a_t_page : Nat → Nat} {A : Nat → Prop} (C0 : hC p s m args meth c dC dI cI cII RX6 cX6_digest 4 (wd yX6_digest cX6_digest 4 (some .long)) (some .long)) (hA : ∀ q, s.heap.size ≤ q → A q)  {v_t : obV} {v_t_today : obV} {v_t_now : obV} {v_t_now_seen : obV} {v_t_best : obV} {v_t_page : obV}    :
    ∀ (n : Nat) (y : obV × (Nat → Nat → Int32) × obV × Int64 × Int32) (r : Int64 × obV × obV × (Nat → Nat → Int32) × obV × obV), f_X6_digest_l17  v_t v_t_today v_t_now v_t_now_seen v_t_best v_t_page  n y = some r → ∀ (H : Heap) (locs : List Loc) (ls : Array Slot), va_P (dC, dI) vwCl (wX6 o_t a_t cI v_t ++ (wX2 (a_t 3) a_t_today cI v_t_today ++ (wX1 (a_t 1) a_t_now cI v_t_now ++ (wX5 (a_t 4) a_t_trials r_t_trials cI cII y.1 y.2.1 ++ (wX2 (a_t_trials 0) a_t_trials_day cI y.2.2.1 ++ (wX4 (a_t_now 3) a_t_now_seen cI v_t_now_seen ++ (wX0 (a_t 5) a_t_best cI v_t_best ++ (wX3 (a_t 0) a_t_page cI v_t_page)))))))) H → va_D A (wX6 o_t a_t cI v_t ++ (wX2 (a_t 3) a_t_today cI v_t_today ++ (wX1 (a_t 1) a_t_now cI v_t_now ++ (wX5 (a_t 4) a_t_trials r_t_trials cI cII y.1 y.2.1 ++ (wX2 (a_t_trials 0) a_t_trials_day cI y.2.2.1 ++ (wX4 (a_t_now 3) a_t_now_seen cI v_t_now_seen ++ (wX0 (a_t 5) a_t_best cI v_t_best ++ (wX3 (a_t 0) a_t_page cI v_t_page)))))))) → va_S A s.heap H locs → lv_has ls 4 [(0, .ref o_t), (1, .long y.2.2.2.1), (3, .int y.2.2.2.2)] → W p l e ({ frames := 6, cells := 0, slots := 0, locals := 143 } : Room) s m args below meth c H locs 0 0 (MQ below (va_Ql (fun (z : Int64) (_ : Unit) => r.1 = z) (fun _ t => va_P (dC, dI) vwCl (wX6 o_t a_t cI v_t ++ (wX2 (a_t 3) a_t_today cI r.2.1 ++ (wX1 (a_t 1) a_t_now cI v_t_now ++ (wX5 (a_t 4) a_t_trials r_t_trials cI cII r.2.2.1 r.2.2.2.1 ++ (wX2 (a_t_trials 0) a_t_trials_day cI r.2.2.2.2.1 ++ (wX4 (a_t_now 3) a_t_now_seen cI v_t_now_seen ++ (wX0 (a_t 5) a_t_best cI r.2.2.2.2.2 ++ (wX3 (a_t 0) a_t_page cI v_t_page)))))))) t.heap ∧ va_D A (wX6 o_t a_t cI v_t ++ (wX2 (a_t 3) a_t_today cI r.2.1 ++ (wX1 (a_t 1) a_t_now cI v_t_now ++ (wX5 (a_t 4) a_t_trials r_t_trials cI cII r.2.2.1 r.2.2.2.1 ++ (wX2 (a_t_trials 0) a_t_trials_day cI r.2.2.2.2.1 ++ (wX4 (a_t_now 3) a_t_now_seen cI v_t_now_seen ++ (wX0 (a_t 5) a_t_best cI r.2.2.2.2.2 ++ (wX3 (a_t 0) a_t_page cI v_t_page))))))))) A) args s 0 0 A) (F0 m 17 ls []) := by
  obtain ⟨hx, hb, hml, hown, hts, hr, hlocks, hK, hN⟩ := C0
  refine lp_W ?_
  intro k17 ih17 y r hf H locs ls hP hD hS hl
  obtain ⟨v_t_trials, w_t_trials, v_t_trials_day, x1, x3⟩ := y
  have hf : f_X6_digest_b17  v_t v_t_today v_t_now v_t_trials w_t_trials v_t_trials_day v_t_now_seen v_t_best v_t_page x1 x3  k17 = some r := hf
  have hP : va_P (dC, dI) vwCl (wX6 o_t a_t cI v_t ++ (wX2 (a_t 3) a_t_today cI v_t_today ++ (wX1 (a_t 1) a_t_now cI v_t_now ++ (wX5 (a_t 4) a_t_trials r_t_trials cI cII v_t_trials w_t_trials ++ (wX2 (a_t_trials 0) a_t_trials_day cI v_t_trials_day ++ (wX4 (a_t_now 3) a_t_now_seen cI v_t_now_seen ++ (wX0 (a_t 5) a_t_best cI v_t_best ++ (wX3 (a_t 0) a_t_page cI v_t_page)))))))) H := hP
  have hD : va_D A (wX6 o_t a_t cI v_t ++ (wX2 (a_t 3) a_t_today cI v_t_today ++ (wX1 (a_t 1) a_t_now cI v_t_now ++ (wX5 (a_t 4) a_t_trials r_t_trials cI cII v_t_trials w_t_trials ++ (wX2 (a_t_trials 0) a_t_trials_day cI v_t_trials_day ++ (wX4 (a_t_now 3) a_t_now_seen cI v_t_now_seen ++ (wX0 (a_t 5) a_t_best cI v_t_best ++ (wX3 (a_t 0) a_t_page cI v_t_page)))))))) := hD
  have hl : lv_has ls 4 [(0, .ref o_t), (1, .long x1), (3, .int x3)] := hl
  unfold f_X6_digest_b17 at hf
  refine lv_iload_n hx hb dX6_digest_17 rfl (lv_at hl 2 rfl) ?_
  refine lv_aload_n hx hb dX6_digest_18 rfl (lv_at hl 0 rfl) ?_
  refine va_get (D := (dC, dI)) (ci := 6) (v := .ref (a_t 1)) (C := RX6) (T := TX6) (N := 8) hx hb hts hw_X6 hown hK hP 0 rfl rfl 1 (by decide) (hts _ (List.mem_cons_of_mem _ mw_234)) (fun _ h9 => h9) rfl dX6_digest_19 ?_
  refine va_get (D := (dC, dI)) (ci := 1) (v := .int (v_t_now.1 4)) (C := RX1) (T := TX1) (N := 7) hx hb hts hw_X1 hown hK hP 6 rfl rfl 4 (by decide) (hts _ (List.mem_cons_of_mem _ mw_126)) (fun _ h9 => h9) rfl dX6_digest_22 ?_
  refine lv_icmp_ge (tgt := 41) hx hb dX6_digest_25 (by decide) (fun c_25 => ?_) (fun c_25 => ?_)
  · have hf := ho_t hf c_25
    refine lv_aload_n hx hb dX6_digest_41 rfl (lv_at hl 0 rfl) ?_
    refine va_get (D := (dC, dI)) (ci := 6) (v := .ref (a_t 1)) (C := RX6) (T := TX6) (N := 8) hx hb hts hw_X6 hown hK hP 0 rfl rfl 1 (by decide) (hts _ (List.mem_cons_of_mem _ mw_234)) (fun _ h9 => h9) rfl dX6_digest_42 ?_
    obtain ⟨u_45, e_45, hf⟩ := ho_b hf
    have hPc := hP.sub (ws' := (wX1 (a_t 1) a_t_now cI v_t_now)) [6, 7, 8, 9] rfl
    refine vp_callSi (va_runV (As := []) (rest := []) ⟨hx, hb, hml, hown, hts⟩ (c_X1_isNone l dC dI cI cII (a_t 1) a_t_now v_t_now u_45 e_45) (cwV 0 hts (hw_giV mw_435 mw_436 mw_437 mw_55 mw_438) rfl rfl rfl (by decide +kernel) ⟨Nat.le_of_ble_eq_true rfl, Nat.le_of_ble_eq_true rfl⟩) ⟨pB_blind, va_recv hK hPc (ci := 1) (q0 := 0) rfl rfl, fun U hU hW => ⟨rfl, pB_go hPc hK hN hU hW⟩⟩ rfl rfl hl.1 rfl (lv_room (Nat.le_of_ble_eq_true rfl)) dX6_digest_45 ⟨Nat.zero_le _, Nat.zero_le _⟩).run (fun z_45 ez_45 => ?_)
    subst ez_45
    refine lv_if_ne (tgt := 57) hx hb dX6_digest_48 (by decide) (fun c_48 => ?_) (fun c_48 => ?_)
    · have hf := ho_f hf c_48
      refine lv_iconst (v := 0) hx hb dX6_digest_57 (by decide) ?_
      refine lv_istore_n (lv' := [(3, .int 0), (0, .ref o_t), (1, .long x1)]) hx hb dX6_digest_58 rfl hl (by decide) rfl (fun ls hl => ?_)
      exact w_X6_digest_l59 ⟨hx, hb, hml, hown, hts, hr, hlocks, hK, hN⟩ hA  _ _ _ hf _ _ _ hP hD hS (lv_sub hl [1, 2, 0] rfl)
    · have hf := ho_t hf c_48
      refine lv_aload_n hx hb dX6_digest_51 rfl (lv_at hl 0 rfl) ?_
      refine lv_lload_n hx hb dX6_digest_52 rfl (lv_at hl 1 rfl) ?_
      obtain ⟨u_53, e_53, hf⟩ := ho_b hf
      have hPc := hP.sub (ws' := (wX6 o_t a_t cI v_t ++ (wX2 (a_t 3) a_t_today cI v_t_today ++ (wX0 (a_t 5) a_t_best cI v_t_best ++ (wX1 (a_t 1) a_t_now cI v_t_now))))) [0, 1, 2, 3, 4, 5, 32, 33, 34, 6, 7, 8, 9] rfl
      have hDc := hD.sub (ws' := (wX6 o_t a_t cI v_t ++ (wX2 (a_t 3) a_t_today cI v_t_today ++ (wX0 (a_t 5) a_t_best cI v_t_best ++ (wX1 (a_t 1) a_t_now cI v_t_now))))) [0, 1, 2, 3, 4, 5, 32, 33, 34, 6, 7, 8, 9] (by decide) rfl
      have hFc := va_free (wc := (wX6 o_t a_t cI v_t ++ (wX2 (a_t 3) a_t_today cI v_t_today ++ (wX0 (a_t 5) a_t_best cI v_t_best ++ (wX1 (a_t 1) a_t_now cI v_t_now))))) hD hS hA [0, 1, 2, 3, 4, 5, 32, 33, 34, 6, 7, 8, 9] rfl
      refine va_calll (va_runV (As := [.long x1]) (rest := []) ⟨hx, hb, hml, hown, hts⟩ (c_X6_mixCave l dC dI cI cII o_t a_t a_t_today a_t_best a_t_now v_t v_t_today v_t_best v_t_now (x1) _ u_53 e_53) (cwV 1 hts (hw_giV mw_587 mw_589 mw_17 mw_53 mw_590) rfl rfl rfl (by decide +kernel) ⟨Nat.le_of_ble_eq_true rfl, Nat.le_of_ble_eq_true rfl⟩) ⟨qB_blind, va_recv hK hPc (ci := 6) (q0 := 0) rfl rfl, fun U hU hW => ⟨rfl, qB_go hPc hDc hK hN hU hW⟩⟩ rfl rfl hl.1 rfl (lv_room (Nat.le_of_ble_eq_true rfl)) dX6_digest_53 ⟨Nat.zero_le _, Nat.zero_le _⟩) hS (fun q _ h => hFc q h) hFc (fun z_53 u t H1 locs ht hvm ez_53 hB hz1 hk1 hS => ?_)
      subst ez_53
      obtain ⟨hP1, hD1⟩ := hB
      rw [ht] at hP1
      obtain ⟨hP, hD⟩ := va_join (wr := (wX5 (a_t 4) a_t_trials r_t_trials cI cII v_t_trials w_t_trials ++ (wX2 (a_t_trials 0) a_t_trials_day cI v_t_trials_day ++ (wX4 (a_t_now 3) a_t_now_seen cI v_t_now_seen ++ (wX3 (a_t 0) a_t_page cI v_t_page))))) (w1 := (wX6 o_t a_t cI v_t ++ (wX2 (a_t 3) a_t_today cI v_t_today ++ (wX0 (a_t 5) a_t_best cI u_53.2 ++ (wX1 (a_t 1) a_t_now cI v_t_now))))) hP hD [0, 1, 2, 3, 4, 5, 32, 33, 34, 6, 7, 8, 9] [10, 11, 12, 13, 14, 15, 16, 17, 18, 19, 20, 21, 22, 23, 24, 25, 26, 27, 28, 29, 30, 31, 35, 36] rfl rfl (by decide) (by decide) hk1 hFc hP1 hD1
      generalize H1 = H at hP hS ⊢
      have hP : va_P (dC, dI) vwCl (wX6 o_t a_t cI v_t ++ (wX2 (a_t 3) a_t_today cI v_t_today ++ (wX1 (a_t 1) a_t_now cI v_t_now ++ (wX5 (a_t 4) a_t_trials r_t_trials cI cII v_t_trials w_t_trials ++ (wX2 (a_t_trials 0) a_t_trials_day cI v_t_trials_day ++ (wX4 (a_t_now 3) a_t_now_seen cI v_t_now_seen ++ (wX0 (a_t 5) a_t_best cI u_53.2 ++ (wX3 (a_t 0) a_t_page cI v_t_page)))))))) H := hP.sub [24, 25, 26, 27, 28, 29, 33, 34, 35, 36, 0, 1, 2, 3, 4, 5, 6, 7, 8, 9, 10, 11, 12, 13, 14, 15, 16, 17, 18, 19, 20, 21, 30, 31, 32, 22, 23] rfl
      have hD : va_D A (wX6 o_t a_t cI v_t ++ (wX2 (a_t 3) a_t_today cI v_t_today ++ (wX1 (a_t 1) a_t_now cI v_t_now ++ (wX5 (a_t 4) a_t_trials r_t_trials cI cII v_t_trials w_t_trials ++ (wX2 (a_t_trials 0) a_t_trials_day cI v_t_trials_day ++ (wX4 (a_t_now 3) a_t_now_seen cI v_t_now_seen ++ (wX0 (a_t 5) a_t_best cI u_53.2 ++ (wX3 (a_t 0) a_t_page cI v_t_page)))))))) := hD.sub [24, 25, 26, 27, 28, 29, 33, 34, 35, 36, 0, 1, 2, 3, 4, 5, 6, 7, 8, 9, 10, 11, 12, 13, 14, 15, 16, 17, 18, 19, 20, 21, 30, 31, 32, 22, 23] (by decide) rfl
      refine lv_lstore_n (lv' := [(1, .long u_53.1), (0, .ref o_t), (3, .int x3)]) hx hb dX6_digest_56 rfl hl (by decide) rfl (fun ls hl => ?_)
      refine lv_iconst (v := 0) hx hb dX6_digest_57 (by decide) ?_
      refine lv_istore_n (lv' := [(3, .int 0), (1, .long u_53.1), (0, .ref o_t)]) hx hb dX6_digest_58 rfl hl (by decide) rfl (fun ls hl => ?_)
      exact w_X6_digest_l59 ⟨hx, hb, hml, hown, hts, hr, hlocks, hK, hN⟩ hA  _ _ _ hf _ _ _ hP hD hS (lv_sub hl [2, 1, 0] rfl)
  · have hf := ho_f hf c_25
    refine lv_aload_n hx hb dX6_digest_28 rfl (lv_at hl 0 rfl) ?_
    refine lv_lload_n hx hb dX6_digest_29 rfl (lv_at hl 1 rfl) ?_
    refine lv_iload_n hx hb dX6_digest_30 rfl (lv_at hl 2 rfl) ?_
    obtain ⟨u_31, e_31, hf⟩ := ho_b hf
    have hPc := hP.sub (ws' := (wX6 o_t a_t cI v_t ++ (wX5 (a_t 4) a_t_trials r_t_trials cI cII v_t_trials w_t_trials ++ (wX1 (a_t 1) a_t_now cI v_t_now ++ (wX2 (a_t_trials 0) a_t_trials_day cI v_t_trials_day ++ (wX4 (a_t_now 3) a_t_now_seen cI v_t_now_seen ++ (wX2 (a_t 3) a_t_today cI v_t_today))))))) [0, 10, 11, 12, 13, 14, 15, 16, 17, 18, 19, 20, 21, 22, 23, 6, 7, 8, 9, 24, 25, 26, 27, 28, 29, 30, 31, 1, 2, 3, 4, 5] rfl
    have hDc := hD.sub (ws' := (wX6 o_t a_t cI v_t ++ (wX5 (a_t 4) a_t_trials r_t_trials cI cII v_t_trials w_t_trials ++ (wX1 (a_t 1) a_t_now cI v_t_now ++ (wX2 (a_t_trials 0) a_t_trials_day cI v_t_trials_day ++ (wX4 (a_t_now 3) a_t_now_seen cI v_t_now_seen ++ (wX2 (a_t 3) a_t_today cI v_t_today))))))) [0, 10, 11, 12, 13, 14, 15, 16, 17, 18, 19, 20, 21, 22, 23, 6, 7, 8, 9, 24, 25, 26, 27, 28, 29, 30, 31, 1, 2, 3, 4, 5] (by decide) rfl
    have hFc := va_free (wc := (wX6 o_t a_t cI v_t ++ (wX5 (a_t 4) a_t_trials r_t_trials cI cII v_t_trials w_t_trials ++ (wX1 (a_t 1) a_t_now cI v_t_now ++ (wX2 (a_t_trials 0) a_t_trials_day cI v_t_trials_day ++ (wX4 (a_t_now 3) a_t_now_seen cI v_t_now_seen ++ (wX2 (a_t 3) a_t_today cI v_t_today))))))) hD hS hA [0, 10, 11, 12, 13, 14, 15, 16, 17, 18, 19, 20, 21, 22, 23, 6, 7, 8, 9, 24, 25, 26, 27, 28, 29, 30, 31, 1, 2, 3, 4, 5] rfl
    refine va_calll (va_runV (As := [.long x1, .int x3]) (rest := []) ⟨hx, hb, hml, hown, hts⟩ (c_X6_mixPilgrim l dC dI cI cII o_t a_t a_t_trials r_t_trials a_t_now a_t_trials_day a_t_now_seen a_t_today v_t v_t_trials w_t_trials v_t_now v_t_trials_day v_t_now_seen v_t_today (x1) (x3) _ u_31 e_31) (cwV 2 hts (hw_giV mw_579 mw_581 mw_16 mw_53 mw_582) rfl rfl rfl (by decide +kernel) ⟨Nat.le_of_ble_eq_true rfl, Nat.le_of_ble_eq_true rfl⟩) ⟨qB_blind, va_recv hK hPc (ci := 6) (q0 := 0) rfl rfl, fun U hU hW => ⟨rfl, qB_go hPc hDc hK hN hU hW⟩⟩ rfl rfl hl.1 rfl (lv_room (Nat.le_of_ble_eq_true rfl)) dX6_digest_31 ⟨Nat.zero_le _, Nat.zero_le _⟩) hS (fun q _ h => hFc q h) hFc (fun z_31 u t H1 locs ht hvm ez_31 hB hz1 hk1 hS => ?_)
    subst ez_31
    obtain ⟨hP1, hD1⟩ := hB
    rw [ht] at hP1
    obtain ⟨hP, hD⟩ := va_join (wr := (wX0 (a_t 5) a_t_best cI v_t_best ++ (wX3 (a_t 0) a_t_page cI v_t_page))) (w1 := (wX6 o_t a_t cI v_t ++ (wX5 (a_t 4) a_t_trials r_t_trials cI cII u_31.2.1 u_31.2.2.1 ++ (wX1 (a_t 1) a_t_now cI v_t_now ++ (wX2 (a_t_trials 0) a_t_trials_day cI u_31.2.2.2 ++ (wX4 (a_t_now 3) a_t_now_seen cI v_t_now_seen ++ (wX2 (a_t 3) a_t_today cI v_t_today))))))) hP hD [0, 10, 11, 12, 13, 14, 15, 16, 17, 18, 19, 20, 21, 22, 23, 6, 7, 8, 9, 24, 25, 26, 27, 28, 29, 30, 31, 1, 2, 3, 4, 5] [32, 33, 34, 35, 36] rfl rfl (by decide) (by decide) hk1 hFc hP1 hD1
    generalize H1 = H at hP hS ⊢
    have hP : va_P (dC, dI) vwCl (wX6 o_t a_t cI v_t ++ (wX2 (a_t 3) a_t_today cI v_t_today ++ (wX1 (a_t 1) a_t_now cI v_t_now ++ (wX5 (a_t 4) a_t_trials r_t_trials cI cII u_31.2.1 u_31.2.2.1 ++ (wX2 (a_t_trials 0) a_t_trials_day cI u_31.2.2.2 ++ (wX4 (a_t_now 3) a_t_now_seen cI v_t_now_seen ++ (wX0 (a_t 5) a_t_best cI v_t_best ++ (wX3 (a_t 0) a_t_page cI v_t_page)))))))) H := hP.sub [5, 32, 33, 34, 35, 36, 20, 21, 22, 23, 6, 7, 8, 9, 10, 11, 12, 13, 14, 15, 16, 17, 18, 19, 24, 25, 26, 27, 28, 29, 30, 31, 0, 1, 2, 3, 4] rfl
    have hD : va_D A (wX6 o_t a_t cI v_t ++ (wX2 (a_t 3) a_t_today cI v_t_today ++ (wX1 (a_t 1) a_t_now cI v_t_now ++ (wX5 (a_t 4) a_t_trials r_t_trials cI cII u_31.2.1 u_31.2.2.1 ++ (wX2 (a_t_trials 0) a_t_trials_day cI u_31.2.2.2 ++ (wX4 (a_t_now 3) a_t_now_seen cI v_t_now_seen ++ (wX0 (a_t 5) a_t_best cI v_t_best ++ (wX3 (a_t 0) a_t_page cI v_t_page)))))))) := hD.sub [5, 32, 33, 34, 35, 36, 20, 21, 22, 23, 6, 7, 8, 9, 10, 11, 12, 13, 14, 15, 16, 17, 18, 19, 24, 25, 26, 27, 28, 29, 30, 31, 0, 1, 2, 3, 4] (by decide) rfl
    refine lv_lstore_n (lv' := [(1, .long u_31.1), (0, .ref o_t), (3, .int x3)]) hx hb dX6_digest_34 rfl hl (by decide) rfl (fun ls hl => ?_)
    refine lv_iinc (v := (x3 + 1)) (lv' := [(3, .int (x3 + 1)), (1, .long u_31.1), (0, .ref o_t)]) hx hb dX6_digest_35 hl (k := 2) rfl (hp_inc (by decide)) (by decide) rfl (fun ls hl => ?_)
    refine lv_goto (tgt := 17) hx hb dX6_digest_38 (by decide) ?_
    exact ih17 (u_31.2.1, u_31.2.2.1, u_31.2.2.2, u_31.1, (x3 + 1)) _ hf _ _ _ hP hD hS (lv_sub hl [2, 1, 0] rfl)
set_option maxHeartbeats 4000000 in
set_option maxRecDepth 100000 in
theorem c_X6_digest (l : Launch) (dC : Nat → ClassId) (dI : Nat → Nat → Nat) (cI cII : ClassId) (o_t : Nat) (a_t : Nat → Nat) (a_t_today : Nat → Nat) (a_t_now : Nat → Nat) (a_t_trials : Nat → Nat) (r_t_trials : Nat → Nat) (a_t_trials_day : Nat → Nat) (a_t_now_seen : Nat → Nat) (a_t_best : Nat → Nat) (a_t_page : Nat → Nat) (v_t : obV) (v_t_today : obV) (v_t_now : obV) (v_t_trials : obV) (w_t_trials : Nat → Nat → Int32) (v_t_trials_day : obV) (v_t_now_seen : obV) (v_t_best : obV) (v_t_page : obV)  (sz : Nat) (r : Int64 × obV × obV × (Nat → Nat → Int32) × obV × obV) (hf : f_X6_digest  v_t v_t_today v_t_now v_t_trials w_t_trials v_t_trials_day v_t_now_seen v_t_best v_t_page  = some r) :
    Met l yX6_digest (wd yX6_digest cX6_digest 4 (some .long)) ({ frames := 6, cells := 0, slots := 0, locals := 143 } : Room) (va_Pc [.ref o_t] (qB (dC, dI) vwCl (wX6 o_t a_t cI v_t ++ (wX2 (a_t 3) a_t_today cI v_t_today ++ (wX1 (a_t 1) a_t_now cI v_t_now ++ (wX5 (a_t 4) a_t_trials r_t_trials cI cII v_t_trials w_t_trials ++ (wX2 (a_t_trials 0) a_t_trials_day cI v_t_trials_day ++ (wX4 (a_t_now 3) a_t_now_seen cI v_t_now_seen ++ (wX0 (a_t 5) a_t_best cI v_t_best ++ (wX3 (a_t 0) a_t_page cI v_t_page)))))))) (hTY cI cII) sz)) (va_Ql (fun (z : Int64) (_ : Unit) => r.1 = z) (fun _ t => va_P (dC, dI) vwCl (wX6 o_t a_t cI v_t ++ (wX2 (a_t 3) a_t_today cI r.2.1 ++ (wX1 (a_t 1) a_t_now cI v_t_now ++ (wX5 (a_t 4) a_t_trials r_t_trials cI cII r.2.2.1 r.2.2.2.1 ++ (wX2 (a_t_trials 0) a_t_trials_day cI r.2.2.2.2.1 ++ (wX4 (a_t_now 3) a_t_now_seen cI v_t_now_seen ++ (wX0 (a_t 5) a_t_best cI r.2.2.2.2.2 ++ (wX3 (a_t 0) a_t_page cI v_t_page)))))))) t.heap ∧ va_D (va_A (wX6 o_t a_t cI v_t ++ (wX2 (a_t 3) a_t_today cI v_t_today ++ (wX1 (a_t 1) a_t_now cI v_t_now ++ (wX5 (a_t 4) a_t_trials r_t_trials cI cII v_t_trials w_t_trials ++ (wX2 (a_t_trials 0) a_t_trials_day cI v_t_trials_day ++ (wX4 (a_t_now 3) a_t_now_seen cI v_t_now_seen ++ (wX0 (a_t 5) a_t_best cI v_t_best ++ (wX3 (a_t 0) a_t_page cI v_t_page)))))))) sz) (wX6 o_t a_t cI v_t ++ (wX2 (a_t 3) a_t_today cI r.2.1 ++ (wX1 (a_t 1) a_t_now cI v_t_now ++ (wX5 (a_t 4) a_t_trials r_t_trials cI cII r.2.2.1 r.2.2.2.1 ++ (wX2 (a_t_trials 0) a_t_trials_day cI r.2.2.2.2.1 ++ (wX4 (a_t_now 3) a_t_now_seen cI v_t_now_seen ++ (wX0 (a_t 5) a_t_best cI r.2.2.2.2.2 ++ (wX3 (a_t 0) a_t_page cI v_t_page))))))))) (va_A (wX6 o_t a_t cI v_t ++ (wX2 (a_t 3) a_t_today cI v_t_today ++ (wX1 (a_t 1) a_t_now cI v_t_now ++ (wX5 (a_t 4) a_t_trials r_t_trials cI cII v_t_trials w_t_trials ++ (wX2 (a_t_trials 0) a_t_trials_day cI v_t_trials_day ++ (wX4 (a_t_now 3) a_t_now_seen cI v_t_now_seen ++ (wX0 (a_t 5) a_t_best cI v_t_best ++ (wX3 (a_t 0) a_t_page cI v_t_page)))))))) sz)) 0 0 (va_A (wX6 o_t a_t cI v_t ++ (wX2 (a_t 3) a_t_today cI v_t_today ++ (wX1 (a_t 1) a_t_now cI v_t_now ++ (wX5 (a_t 4) a_t_trials r_t_trials cI cII v_t_trials w_t_trials ++ (wX2 (a_t_trials 0) a_t_trials_day cI v_t_trials_day ++ (wX4 (a_t_now 3) a_t_now_seen cI v_t_now_seen ++ (wX0 (a_t 5) a_t_best cI v_t_best ++ (wX3 (a_t 0) a_t_page cI v_t_page)))))))) sz) := by
  refine Met.ofW (cc := cX6_digest) (maxL := 4) (ret := (some .long)) (by decide) rfl ?_
  intro p e s m args below meth c s₁ B hml hv
  obtain ⟨rfl, hsz, hD0, hP, hK, hN⟩ := hv
  have hx := B.exec
  have hb := B.bytes
  have hr := B.returns
  have hts := atoms_spec (ws := (wd yX6_digest cX6_digest 4 (some .long))) B.pre
  have hown : s.vm.findClass RX6 = some m.cls := findClass_of_methodNamed B.named
  have hlocks := B.notSynchronized
  subst hsz
  have hD := hD0.self (sz := s.heap.size)
  generalize hAe : va_A (wX6 o_t a_t cI v_t ++ (wX2 (a_t 3) a_t_today cI v_t_today ++ (wX1 (a_t 1) a_t_now cI v_t_now ++ (wX5 (a_t 4) a_t_trials r_t_trials cI cII v_t_trials w_t_trials ++ (wX2 (a_t_trials 0) a_t_trials_day cI v_t_trials_day ++ (wX4 (a_t_now 3) a_t_now_seen cI v_t_now_seen ++ (wX0 (a_t 5) a_t_best cI v_t_best ++ (wX3 (a_t 0) a_t_page cI v_t_page)))))))) s.heap.size = A at hD ⊢
  have hA : ∀ q : Nat, s.heap.size ≤ q → A q := fun q h => by rw [← hAe]; exact Or.inr h
  have hS : va_S A s.heap s.heap [] := va_S.rf
  have hl := lv_entry ([.ref o_t]) (n := 4) (Nat.le_of_ble_eq_true rfl)
  rw [lg_entry_eq]
  generalize (lg_sl ([.ref o_t]) ++ List.replicate (4 - (lg_sl ([.ref o_t])).length) Slot.unset).toArray = ls at hl ⊢
  have hl : lv_has ls 4 [(0, .ref o_t)] := hl
  clear hAe hD0
  unfold f_X6_digest at hf
  refine lv_ldc2 (v := 991) hx hb hown (hts _ (List.mem_cons_of_mem _ mw_578)) dX6_digest_0 ?_
  refine lv_lstore_n (lv' := [(1, .long 991), (0, .ref o_t)]) hx hb dX6_digest_3 rfl hl (by decide) rfl (fun ls hl => ?_)
  refine lv_aload_n hx hb dX6_digest_4 rfl (lv_at hl 1 rfl) ?_
  refine va_get (D := (dC, dI)) (ci := 6) (v := .ref (a_t 3)) (C := RX6) (T := TX6) (N := 8) hx hb hts hw_X6 hown hK hP 0 rfl rfl 3 (by decide) (hts _ (List.mem_cons_of_mem _ mw_236)) (fun _ h9 => h9) rfl dX6_digest_5 ?_
  refine lv_aload_n hx hb dX6_digest_8 rfl (lv_at hl 1 rfl) ?_
  refine va_get (D := (dC, dI)) (ci := 6) (v := .ref (a_t 1)) (C := RX6) (T := TX6) (N := 8) hx hb hts hw_X6 hown hK hP 0 rfl rfl 1 (by decide) (hts _ (List.mem_cons_of_mem _ mw_234)) (fun _ h9 => h9) rfl dX6_digest_9 ?_
  obtain ⟨u_12, e_12, hf⟩ := ho_b hf
  have hPc := hP.sub (ws' := (wX2 (a_t 3) a_t_today cI v_t_today ++ (wX1 (a_t 1) a_t_now cI v_t_now))) [1, 2, 3, 4, 5, 6, 7, 8, 9] rfl
  have hDc := hD.sub (ws' := (wX2 (a_t 3) a_t_today cI v_t_today ++ (wX1 (a_t 1) a_t_now cI v_t_now))) [1, 2, 3, 4, 5, 6, 7, 8, 9] (by decide) rfl
  have hFc := va_free (wc := (wX2 (a_t 3) a_t_today cI v_t_today ++ (wX1 (a_t 1) a_t_now cI v_t_now))) hD hS hA [1, 2, 3, 4, 5, 6, 7, 8, 9] rfl
  refine va_callv (va_runV (As := [.ref (a_t 1)]) (rest := []) ⟨hx, hb, hml, hown, hts⟩ (c_X2_pass l dC dI cI cII (a_t 3) a_t_today (a_t 1) a_t_now v_t_today v_t_now _ u_12 e_12) (cwV 1 hts (hw_giV mw_326 mw_327 mw_328 mw_57 mw_329) rfl rfl rfl (by decide +kernel) ⟨Nat.le_of_ble_eq_true rfl, Nat.le_of_ble_eq_true rfl⟩) ⟨qB_blind, va_recv hK hPc (ci := 2) (q0 := 0) rfl rfl, fun U hU hW => ⟨rfl, qB_go hPc hDc hK hN hU hW⟩⟩ rfl rfl hl.1 rfl (lv_room (Nat.le_of_ble_eq_true rfl)) dX6_digest_12 ⟨Nat.zero_le _, Nat.zero_le _⟩) hS (fun q _ h => hFc q h) hFc (fun u t H1 locs ht hvm hw hB hz1 hk1 hS => ?_)
  obtain ⟨hP1, hD1⟩ := hB
  rw [ht] at hP1
  obtain ⟨hP, hD⟩ := va_join (wr := (wX6 o_t a_t cI v_t ++ (wX5 (a_t 4) a_t_trials r_t_trials cI cII v_t_trials w_t_trials ++ (wX2 (a_t_trials 0) a_t_trials_day cI v_t_trials_day ++ (wX4 (a_t_now 3) a_t_now_seen cI v_t_now_seen ++ (wX0 (a_t 5) a_t_best cI v_t_best ++ (wX3 (a_t 0) a_t_page cI v_t_page))))))) (w1 := (wX2 (a_t 3) a_t_today cI u_12 ++ (wX1 (a_t 1) a_t_now cI v_t_now))) hP hD [1, 2, 3, 4, 5, 6, 7, 8, 9] [0, 10, 11, 12, 13, 14, 15, 16, 17, 18, 19, 20, 21, 22, 23, 24, 25, 26, 27, 28, 29, 30, 31, 32, 33, 34, 35, 36] rfl rfl (by decide) (by decide) hk1 hFc hP1 hD1
  generalize H1 = H at hP hS ⊢
  have hP : va_P (dC, dI) vwCl (wX6 o_t a_t cI v_t ++ (wX2 (a_t 3) a_t_today cI u_12 ++ (wX1 (a_t 1) a_t_now cI v_t_now ++ (wX5 (a_t 4) a_t_trials r_t_trials cI cII v_t_trials w_t_trials ++ (wX2 (a_t_trials 0) a_t_trials_day cI v_t_trials_day ++ (wX4 (a_t_now 3) a_t_now_seen cI v_t_now_seen ++ (wX0 (a_t 5) a_t_best cI v_t_best ++ (wX3 (a_t 0) a_t_page cI v_t_page)))))))) H := hP.sub [0, 28, 29, 30, 31, 32, 33, 34, 35, 36, 1, 2, 3, 4, 5, 6, 7, 8, 9, 10, 11, 12, 13, 14, 15, 16, 17, 18, 19, 20, 21, 22, 23, 24, 25, 26, 27] rfl
  have hD : va_D A (wX6 o_t a_t cI v_t ++ (wX2 (a_t 3) a_t_today cI u_12 ++ (wX1 (a_t 1) a_t_now cI v_t_now ++ (wX5 (a_t 4) a_t_trials r_t_trials cI cII v_t_trials w_t_trials ++ (wX2 (a_t_trials 0) a_t_trials_day cI v_t_trials_day ++ (wX4 (a_t_now 3) a_t_now_seen cI v_t_now_seen ++ (wX0 (a_t 5) a_t_best cI v_t_best ++ (wX3 (a_t 0) a_t_page cI v_t_page)))))))) := hD.sub [0, 28, 29, 30, 31, 32, 33, 34, 35, 36, 1, 2, 3, 4, 5, 6, 7, 8, 9, 10, 11, 12, 13, 14, 15, 16, 17, 18, 19, 20, 21, 22, 23, 24, 25, 26, 27] (by decide) rfl
  refine lv_iconst (v := 0) hx hb dX6_digest_15 (by decide) ?_
  refine lv_istore_n (lv' := [(3, .int 0), (1, .long 991), (0, .ref o_t)]) hx hb dX6_digest_16 rfl hl (by decide) rfl (fun ls hl => ?_)
  exact w_X6_digest_l17 ⟨hx, hb, hml, hown, hts, hr, hlocks, hK, hN⟩ hA  _ _ _ hf _ _ _ hP hD hS (lv_sub hl [2, 1, 0] rfl)
