set_option maxHeartbeats 4000000 in
set_option maxRecDepth 100000 in
theorem c_X2_receive (l : Launch) (dC : Nat → ClassId) (dI : Nat → Nat → Nat) (cI cII : ClassId) (o_t : Nat) (a_t : Nat → Nat) (o_a1 : Nat) (a_a1 : Nat → Nat) (v_t : obV) (v_a1 : obV) (x2 : Int32) (x3 : Int32) (sz : Nat) (r : obV) (hf : f_X2_receive  v_t v_a1 x2 x3 = some r) :
    Met l yX2_receive (wd yX2_receive cX2_receive 5 none) ({ frames := 2, cells := 0, slots := 0, locals := 45 } : Room) (va_Pc [.ref o_t, .ref o_a1, .int x2, .int x3] (qB (dC, dI) vwCl (wX2 o_t a_t cI v_t ++ (wX1 o_a1 a_a1 cI v_a1)) (hTY cI cII) sz)) (va_Qv (fun (_ : Unit) => True) (fun _ t => va_P (dC, dI) vwCl (wX2 o_t a_t cI r ++ (wX1 o_a1 a_a1 cI v_a1)) t.heap ∧ va_D (va_A (wX2 o_t a_t cI v_t ++ (wX1 o_a1 a_a1 cI v_a1)) sz) (wX2 o_t a_t cI r ++ (wX1 o_a1 a_a1 cI v_a1))) (va_A (wX2 o_t a_t cI v_t ++ (wX1 o_a1 a_a1 cI v_a1)) sz)) 0 0 (va_A (wX2 o_t a_t cI v_t ++ (wX1 o_a1 a_a1 cI v_a1)) sz) := by
  refine Met.ofW (cc := cX2_receive) (maxL := 5) (ret := none) (by decide) rfl ?_
  intro p e s m args below meth c s₁ B hml hv
  obtain ⟨rfl, hsz, hD0, hP, hK, hN⟩ := hv
  have hx := B.exec
  have hb := B.bytes
  have hr := B.returns
  have hts := atoms_spec (ws := (wd yX2_receive cX2_receive 5 none)) B.pre
  have hown : s.vm.findClass RX2 = some m.cls := findClass_of_methodNamed B.named
  have hlocks := B.notSynchronized
  subst hsz
  have hD := hD0.self (sz := s.heap.size)
  generalize hAe : va_A (wX2 o_t a_t cI v_t ++ (wX1 o_a1 a_a1 cI v_a1)) s.heap.size = A at hD ⊢
  have hA : ∀ q : Nat, s.heap.size ≤ q → A q := fun q h => by rw [← hAe]; exact Or.inr h
  have hS : va_S A s.heap s.heap [] := va_S.rf
  have hl := lv_entry ([.ref o_t, .ref o_a1, .int x2, .int x3]) (n := 5) (Nat.le_of_ble_eq_true rfl)
  rw [lg_entry_eq]
  generalize (lg_sl ([.ref o_t, .ref o_a1, .int x2, .int x3]) ++ List.replicate (5 - (lg_sl ([.ref o_t, .ref o_a1, .int x2, .int x3])).length) Slot.unset).toArray = ls at hl ⊢
  have hl : lv_has ls 5 [(0, .ref o_t), (1, .ref o_a1), (2, .int x2), (3, .int x3)] := hl
  clear hAe hD0
  unfold f_X2_receive at hf
  refine lv_aload_n hx hb dX2_receive_0 rfl (lv_at hl 0 rfl) ?_
  refine va_get (D := (dC, dI)) (ci := 2) (v := .ref (a_t 1)) (C := RX2) (T := TX2) (N := 8) hx hb hts hw_X2 hown hK hP 0 rfl rfl 1 (by decide) (hts _ (List.mem_cons_of_mem _ mw_158)) (fun _ h9 => h9) rfl dX2_receive_1 ?_
  refine lv_iload_n hx hb dX2_receive_4 rfl (lv_at hl 2 rfl) ?_
  refine lv_iload_n hx hb dX2_receive_5 rfl (lv_at hl 3 rfl) ?_
  obtain ⟨h_6, hf⟩ := ho_g hf
  refine va_iast (n := 5) (f := (v_t.2 1)) hx hb hK hP hD hS 2 0 rfl rfl h_6 dX2_receive_6 (fun H locs hP hD hS => ?_)
  have hP : va_P (dC, dI) vwCl (wX2 o_t a_t cI (oA v_t 1 (Int32.toNatClampNeg x2) x3) ++ (wX1 o_a1 a_a1 cI v_a1)) H := hP
  have hD : va_D A (wX2 o_t a_t cI (oA v_t 1 (Int32.toNatClampNeg x2) x3) ++ (wX1 o_a1 a_a1 cI v_a1)) := hD
  obtain ⟨v_t_6, e_v_t_6⟩ : ∃ z : obV, z = (oA v_t 1 (Int32.toNatClampNeg x2) x3) := ⟨_, rfl⟩
  rw [← e_v_t_6] at hP hD
  have hf := ho_l hf v_t_6 e_v_t_6
  refine lv_aload_n hx hb dX2_receive_7 rfl (lv_at hl 0 rfl) ?_
  refine lv_dup hx hb dX2_receive_8 rfl ?_
  refine va_get (D := (dC, dI)) (ci := 2) (v := .int (v_t_6.1 5)) (C := RX2) (T := TX2) (N := 8) hx hb hts hw_X2 hown hK hP 0 rfl rfl 5 (by decide) (hts _ (List.mem_cons_of_mem _ mw_166)) (fun _ h9 => h9) rfl dX2_receive_9 ?_
  refine lv_aload_n hx hb dX2_receive_12 rfl (lv_at hl 1 rfl) ?_
  refine lv_iload_n hx hb dX2_receive_13 rfl (lv_at hl 2 rfl) ?_
  obtain ⟨u_14, e_14, hf⟩ := ho_b hf
  have hPc := hP.sub (ws' := (wX1 o_a1 a_a1 cI v_a1)) [5, 6, 7, 8] rfl
  refine vp_callSi (va_runV (As := [.int x2]) (rest := [.int (v_t_6.1 5), .ref o_t]) ⟨hx, hb, hml, hown, hts⟩ (c_X1_wears l dC dI cI cII o_a1 a_a1 v_a1 (x2) u_14 e_14) (cwV 1 hts (hw_giV mw_357 mw_358 mw_359 mw_55 mw_360) rfl rfl rfl (by decide +kernel) ⟨Nat.le_of_ble_eq_true rfl, Nat.le_of_ble_eq_true rfl⟩) ⟨pB_blind, va_recv hK hPc (ci := 1) (q0 := 0) rfl rfl, fun U hU hW => ⟨rfl, pB_go hPc hK hN hU hW⟩⟩ rfl rfl hl.1 rfl (lv_room (Nat.le_of_ble_eq_true rfl)) dX2_receive_14 ⟨Nat.zero_le _, Nat.zero_le _⟩).run (fun z_14 ez_14 => ?_)
  subst ez_14
  refine lv_isub hx hb dX2_receive_17 ?_
  refine va_put (D := (dC, dI)) (ci := 2) (v := .int ((v_t_6.1 5) - u_14)) (ty := .int) (C := RX2) (T := TX2) (N := 8) hx hb hts hw_X2 tyX2 tyX2_ok nmX2 hown hK hP hD hS 0 rfl rfl 5 (by decide) (hts _ (List.mem_cons_of_mem _ mw_166)) (fun _ h9 => h9) rfl (by decide +kernel) rfl rfl (Nat.le_of_ble_eq_true rfl) dX2_receive_18 (fun H locs hP hD hS => ?_)
  have hP : va_P (dC, dI) vwCl (wX2 o_t a_t cI (oF v_t_6 5 ((v_t_6.1 5) - u_14)) ++ (wX1 o_a1 a_a1 cI v_a1)) H := hP
  have hD : va_D A (wX2 o_t a_t cI (oF v_t_6 5 ((v_t_6.1 5) - u_14)) ++ (wX1 o_a1 a_a1 cI v_a1)) := hD
  obtain ⟨v_t_18, e_v_t_18⟩ : ∃ z : obV, z = (oF v_t_6 5 ((v_t_6.1 5) - u_14)) := ⟨_, rfl⟩
  rw [← e_v_t_18] at hP hD
  have hf := ho_l hf v_t_18 e_v_t_18
  refine lv_aload_n hx hb dX2_receive_21 rfl (lv_at hl 1 rfl) ?_
  refine va_get (D := (dC, dI)) (ci := 1) (v := .ref (a_a1 1)) (C := RX1) (T := TX1) (N := 7) hx hb hts hw_X1 hown hK hP 5 rfl rfl 1 (by decide) (hts _ (List.mem_cons_of_mem _ mw_118)) (fun _ h9 => h9) rfl dX2_receive_22 ?_
  refine lv_iload_n hx hb dX2_receive_25 rfl (lv_at hl 2 rfl) ?_
  obtain ⟨h_26, hf⟩ := ho_g hf
  refine va_iald (n := 5) (f := (v_a1.2 1)) hx hb hK hP 7 0 rfl rfl h_26 dX2_receive_26 ?_
  refine lv_aload_n hx hb dX2_receive_27 rfl (lv_at hl 0 rfl) ?_
  refine va_get (D := (dC, dI)) (ci := 2) (v := .int (v_t_18.1 6)) (C := RX2) (T := TX2) (N := 8) hx hb hts hw_X2 hown hK hP 0 rfl rfl 6 (by decide) (hts _ (List.mem_cons_of_mem _ mw_168)) (fun _ h9 => h9) rfl dX2_receive_28 ?_
  obtain ⟨u_31, e_31, hf⟩ := ho_b hf
  have hPc := hP.sub (ws' := ([] : va_W)) [] rfl
  refine vp_callSi (va_runSN (As := [.int ((v_a1.2 1) (Int32.toNatClampNeg x2)), .int (v_t_18.1 6)]) (rest := []) ⟨hx, hb, hml, hown, hts⟩ (c_X6_leastSaying l dC dI cI cII (((v_a1.2 1) (Int32.toNatClampNeg x2))) ((v_t_18.1 6)) u_31 e_31) ⟨va_cnB 2 hts (hw_gi mw_367) rfl rfl rfl hN.2.2.2.1 (hts _ (List.mem_cons_of_mem _ mw_53)) (by decide +kernel) ⟨Nat.le_of_ble_eq_true rfl, Nat.le_of_ble_eq_true rfl⟩, (hts _ (List.mem_cons_of_mem _ mw_366)), trivial⟩ ⟨pB_blind, fun U hU hW => ⟨rfl, pB_go hPc hK hN hU hW⟩⟩ rfl rfl hl.1 rfl (lv_room (Nat.le_of_ble_eq_true rfl)) dX2_receive_31 ⟨Nat.zero_le _, Nat.zero_le _⟩).run (fun z_31 ez_31 => ?_)
  subst ez_31
  refine lv_istore (lv' := [(4, .int u_31), (0, .ref o_t), (1, .ref o_a1), (2, .int x2), (3, .int x3)]) hx hb dX2_receive_34 hl (by decide) rfl (fun ls hl => ?_)
  refine lv_aload_n hx hb dX2_receive_36 rfl (lv_at hl 1 rfl) ?_
  refine va_get (D := (dC, dI)) (ci := 2) (v := .ref (a_t 2)) (C := RX2) (T := TX2) (N := 8) hx hb hts hw_X2 hown hK hP 0 rfl rfl 2 (by decide) (hts _ (List.mem_cons_of_mem _ mw_160)) (fun _ h9 => h9) rfl dX2_receive_37 ?_
  refine lv_iload_n hx hb dX2_receive_40 rfl (lv_at hl 3 rfl) ?_
  refine lv_iload hx hb dX2_receive_41 (lv_at hl 0 rfl) ?_
  obtain ⟨h_43, hf⟩ := ho_g hf
  refine va_iast (n := 5) (f := (v_t_18.2 2)) hx hb hK hP hD hS 3 0 rfl rfl h_43 dX2_receive_43 (fun H locs hP hD hS => ?_)
  have hP : va_P (dC, dI) vwCl (wX2 o_t a_t cI (oA v_t_18 2 (Int32.toNatClampNeg x2) u_31) ++ (wX1 o_a1 a_a1 cI v_a1)) H := hP
  have hD : va_D A (wX2 o_t a_t cI (oA v_t_18 2 (Int32.toNatClampNeg x2) u_31) ++ (wX1 o_a1 a_a1 cI v_a1)) := hD
  obtain ⟨v_t_43, e_v_t_43⟩ : ∃ z : obV, z = (oA v_t_18 2 (Int32.toNatClampNeg x2) u_31) := ⟨_, rfl⟩
  rw [← e_v_t_43] at hP hD
  have hf := ho_l hf v_t_43 e_v_t_43
  refine lv_iload hx hb dX2_receive_44 (lv_at hl 0 rfl) ?_
  refine lv_iconst (v := (-1)) hx hb dX2_receive_46 (by decide) ?_
  refine lv_icmp_eq (tgt := 63) hx hb dX2_receive_47 (by decide) (fun c_47 => ?_) (fun c_47 => ?_)
  · have hf := ho_t hf c_47
    obtain rfl := Option.some.inj hf
    exact W.vret hx hb hr (fun t ht hW => ⟨⟨(), rfl, trivial, by rw [ht]; exact hP, hD⟩, hS.F ht⟩) hS.2.2 dX2_receive_63 hlocks
  · have hf := ho_f hf c_47
    refine lv_aload_n hx hb dX2_receive_50 rfl (lv_at hl 1 rfl) ?_
    refine lv_dup hx hb dX2_receive_51 rfl ?_
    refine va_get (D := (dC, dI)) (ci := 2) (v := .int (v_t_43.1 6)) (C := RX2) (T := TX2) (N := 8) hx hb hts hw_X2 hown hK hP 0 rfl rfl 6 (by decide) (hts _ (List.mem_cons_of_mem _ mw_168)) (fun _ h9 => h9) rfl dX2_receive_52 ?_
    refine lv_iconst (v := 1) hx hb dX2_receive_55 (by decide) ?_
    refine lv_iload hx hb dX2_receive_56 (lv_at hl 0 rfl) ?_
    refine lv_ishl hx hb dX2_receive_58 ?_
    refine lv_ior hx hb dX2_receive_59 ?_
    refine va_put (D := (dC, dI)) (ci := 2) (v := .int ((v_t_43.1 6) ||| (1 <<< (u_31 &&& 31)))) (ty := .int) (C := RX2) (T := TX2) (N := 8) hx hb hts hw_X2 tyX2 tyX2_ok nmX2 hown hK hP hD hS 0 rfl rfl 6 (by decide) (hts _ (List.mem_cons_of_mem _ mw_168)) (fun _ h9 => h9) rfl (by decide +kernel) rfl rfl (Nat.le_of_ble_eq_true rfl) dX2_receive_60 (fun H locs hP hD hS => ?_)
    have hP : va_P (dC, dI) vwCl (wX2 o_t a_t cI (oF v_t_43 6 ((v_t_43.1 6) ||| (1 <<< (u_31 &&& 31)))) ++ (wX1 o_a1 a_a1 cI v_a1)) H := hP
    have hD : va_D A (wX2 o_t a_t cI (oF v_t_43 6 ((v_t_43.1 6) ||| (1 <<< (u_31 &&& 31)))) ++ (wX1 o_a1 a_a1 cI v_a1)) := hD
    obtain ⟨v_t_60, e_v_t_60⟩ : ∃ z : obV, z = (oF v_t_43 6 ((v_t_43.1 6) ||| (1 <<< (u_31 &&& 31)))) := ⟨_, rfl⟩
    rw [← e_v_t_60] at hP hD
    have hf := ho_l hf v_t_60 e_v_t_60
    obtain rfl := Option.some.inj hf
    exact W.vret hx hb hr (fun t ht hW => ⟨⟨(), rfl, trivial, by rw [ht]; exact hP, hD⟩, hS.F ht⟩) hS.2.2 dX2_receive_63 hlocks
set_option maxHeartbeats 4000000 in
set_option maxRecDepth 100000 in
theorem w_X2_notReceivedBy_l4 {p : Program} {l : Launch} {e : Env} {s : State} {m : MethodId} {args : Array Value} {below : List Frame} {meth : Method} {c : Code} {dC : Nat → ClassId} {dI : Nat → Nat → Nat} {cI cII : ClassId} {o_t : Nat} {a_t : Nat → Nat} (C0 : hC p s m args meth c dC dI cI cII RX2 cX2_notReceivedBy 4 (wd yX2_notReceivedBy cX2_notReceivedBy 4 (some .int)) (some .int))  {v_t : obV} {x1 : Int32}   (hP : va_P (dC, dI) vwCl (wX2 o_t a_t cI v_t) s.heap) :
    ∀ (n : Nat) (y : Int32 × Int32) (r : Int32), f_X2_notReceivedBy_l4  v_t x1  n y = some r → ∀ (ls : Array Slot), lv_has ls 4 [(0, .ref o_t), (1, .int x1), (2, .int y.1), (3, .int y.2)] → W p l e ({ frames := 0, cells := 0, slots := 0, locals := 0 } : Room) s m args below meth c s.heap [] 0 0 (MQ below (vp_Si (fun z => r = z)) args s 0 0 (fun _ => False)) (F0 m 4 ls []) := by
  obtain ⟨hx, hb, hml, hown, hts, hr, hlocks, hK, hN⟩ := C0
  refine lp_W ?_
  intro k4 ih4 y r hf ls hl
  obtain ⟨x2, x3⟩ := y
  have hf : f_X2_notReceivedBy_b4  v_t x1 x2 x3  k4 = some r := hf
  have hl : lv_has ls 4 [(0, .ref o_t), (1, .int x1), (2, .int x2), (3, .int x3)] := hl
  unfold f_X2_notReceivedBy_b4 at hf
  refine lv_iload_n hx hb dX2_notReceivedBy_4 rfl (lv_at hl 3 rfl) ?_
  refine lv_aload_n hx hb dX2_notReceivedBy_5 rfl (lv_at hl 0 rfl) ?_
  refine va_get (D := (dC, dI)) (ci := 2) (v := .int (v_t.1 4)) (C := RX2) (T := TX2) (N := 8) hx hb hts hw_X2 hown hK hP 0 rfl rfl 4 (by decide) (hts _ (List.mem_cons_of_mem _ mw_165)) (fun _ h9 => h9) rfl dX2_notReceivedBy_6 ?_
  refine lv_icmp_ge (tgt := 41) hx hb dX2_notReceivedBy_9 (by decide) (fun c_9 => ?_) (fun c_9 => ?_)
  · have hf := ho_t hf c_9
    refine lv_iload_n hx hb dX2_notReceivedBy_41 rfl (lv_at hl 2 rfl) ?_
    obtain rfl := Option.some.inj hf
    exact W.iret (v := x2) hx hb hr (fun t ht hW => ⟨_, rfl, rfl, ht⟩) (fun q hq => by cases hq) dX2_notReceivedBy_42 hlocks
  · have hf := ho_f hf c_9
    refine lv_aload_n hx hb dX2_notReceivedBy_12 rfl (lv_at hl 0 rfl) ?_
    refine va_get (D := (dC, dI)) (ci := 2) (v := .ref (a_t 0)) (C := RX2) (T := TX2) (N := 8) hx hb hts hw_X2 hown hK hP 0 rfl rfl 0 (by decide) (hts _ (List.mem_cons_of_mem _ mw_155)) (fun _ h9 => h9) rfl dX2_notReceivedBy_13 ?_
    refine lv_iload_n hx hb dX2_notReceivedBy_16 rfl (lv_at hl 3 rfl) ?_
    obtain ⟨h_17, hf⟩ := ho_g hf
    refine va_iald (n := 5) (f := (v_t.2 0)) hx hb hK hP 1 0 rfl rfl h_17 dX2_notReceivedBy_17 ?_
    refine lv_iload_n hx hb dX2_notReceivedBy_18 rfl (lv_at hl 1 rfl) ?_
    refine lv_icmp_gt (tgt := 35) hx hb dX2_notReceivedBy_19 (by decide) (fun c_19 => ?_) (fun c_19 => ?_)
    · have hf := ho_t hf c_19
      refine lv_iinc (v := (x3 + 1)) (lv' := [(3, .int (x3 + 1)), (0, .ref o_t), (1, .int x1), (2, .int x2)]) hx hb dX2_notReceivedBy_35 hl (k := 3) rfl (hp_inc (by decide)) (by decide) rfl (fun ls hl => ?_)
      refine lv_goto (tgt := 4) hx hb dX2_notReceivedBy_38 (by decide) ?_
      exact ih4 (x2, (x3 + 1)) _ hf _ (lv_sub hl [1, 2, 3, 0] rfl)
    · have hf := ho_f hf c_19
      refine lv_aload_n hx hb dX2_notReceivedBy_22 rfl (lv_at hl 0 rfl) ?_
      refine va_get (D := (dC, dI)) (ci := 2) (v := .ref (a_t 1)) (C := RX2) (T := TX2) (N := 8) hx hb hts hw_X2 hown hK hP 0 rfl rfl 1 (by decide) (hts _ (List.mem_cons_of_mem _ mw_158)) (fun _ h9 => h9) rfl dX2_notReceivedBy_23 ?_
      refine lv_iload_n hx hb dX2_notReceivedBy_26 rfl (lv_at hl 3 rfl) ?_
      obtain ⟨h_27, hf⟩ := ho_g hf
      refine va_iald (n := 5) (f := (v_t.2 1)) hx hb hK hP 2 0 rfl rfl h_27 dX2_notReceivedBy_27 ?_
      refine lv_iconst (v := (-1)) hx hb dX2_notReceivedBy_28 (by decide) ?_
      refine lv_icmp_ne (tgt := 35) hx hb dX2_notReceivedBy_29 (by decide) (fun c_29 => ?_) (fun c_29 => ?_)
      · have hf := ho_f hf c_29
        refine lv_iinc (v := (x3 + 1)) (lv' := [(3, .int (x3 + 1)), (0, .ref o_t), (1, .int x1), (2, .int x2)]) hx hb dX2_notReceivedBy_35 hl (k := 3) rfl (hp_inc (by decide)) (by decide) rfl (fun ls hl => ?_)
        refine lv_goto (tgt := 4) hx hb dX2_notReceivedBy_38 (by decide) ?_
        exact ih4 (x2, (x3 + 1)) _ hf _ (lv_sub hl [1, 2, 3, 0] rfl)
      · have hf := ho_t hf c_29
        refine lv_iinc (v := (x2 + 1)) (lv' := [(2, .int (x2 + 1)), (0, .ref o_t), (1, .int x1), (3, .int x3)]) hx hb dX2_notReceivedBy_32 hl (k := 2) rfl (hp_inc (by decide)) (by decide) rfl (fun ls hl => ?_)
        refine lv_iinc (v := (x3 + 1)) (lv' := [(3, .int (x3 + 1)), (2, .int (x2 + 1)), (0, .ref o_t), (1, .int x1)]) hx hb dX2_notReceivedBy_35 hl (k := 3) rfl (hp_inc (by decide)) (by decide) rfl (fun ls hl => ?_)
        refine lv_goto (tgt := 4) hx hb dX2_notReceivedBy_38 (by decide) ?_
        exact ih4 ((x2 + 1), (x3 + 1)) _ hf _ (lv_sub hl [2, 3, 1, 0] rfl)
set_option maxHeartbeats 4000000 in
set_option maxRecDepth 100000 in
theorem c_X2_notReceivedBy (l : Launch) (dC : Nat → ClassId) (dI : Nat → Nat → Nat) (cI cII : ClassId) (o_t : Nat) (a_t : Nat → Nat) (v_t : obV) (x1 : Int32) (r : Int32) (hf : f_X2_notReceivedBy  v_t x1 = some r) :
    Met l yX2_notReceivedBy (wd yX2_notReceivedBy cX2_notReceivedBy 4 (some .int)) ({ frames := 0, cells := 0, slots := 0, locals := 0 } : Room) (va_Pc [.ref o_t, .int x1] (pB (dC, dI) vwCl (wX2 o_t a_t cI v_t) (hTY cI cII))) (vp_Si (fun z => r = z)) 0 0 (fun _ => False) := by
  refine Met.ofW (cc := cX2_notReceivedBy) (maxL := 4) (ret := (some .int)) (by decide) rfl ?_
  intro p e s m args below meth c s₁ B hml hv
  obtain ⟨rfl, hP, hK, hN⟩ := hv
  have hx := B.exec
  have hb := B.bytes
  have hr := B.returns
  have hts := atoms_spec (ws := (wd yX2_notReceivedBy cX2_notReceivedBy 4 (some .int))) B.pre
  have hown : s.vm.findClass RX2 = some m.cls := findClass_of_methodNamed B.named
  have hlocks := B.notSynchronized
  have hl := lv_entry ([.ref o_t, .int x1]) (n := 4) (Nat.le_of_ble_eq_true rfl)
  rw [lg_entry_eq]
  generalize (lg_sl ([.ref o_t, .int x1]) ++ List.replicate (4 - (lg_sl ([.ref o_t, .int x1])).length) Slot.unset).toArray = ls at hl ⊢
  have hl : lv_has ls 4 [(0, .ref o_t), (1, .int x1)] := hl
  unfold f_X2_notReceivedBy at hf
  refine lv_iconst (v := 0) hx hb dX2_notReceivedBy_0 (by decide) ?_
  refine lv_istore_n (lv' := [(2, .int 0), (0, .ref o_t), (1, .int x1)]) hx hb dX2_notReceivedBy_1 rfl hl (by decide) rfl (fun ls hl => ?_)
  refine lv_iconst (v := 0) hx hb dX2_notReceivedBy_2 (by decide) ?_
  refine lv_istore_n (lv' := [(3, .int 0), (2, .int 0), (0, .ref o_t), (1, .int x1)]) hx hb dX2_notReceivedBy_3 rfl hl (by decide) rfl (fun ls hl => ?_)
  exact w_X2_notReceivedBy_l4 ⟨hx, hb, hml, hown, hts, hr, hlocks, hK, hN⟩  hP _ _ _ hf _ (lv_sub hl [2, 3, 1, 0] rfl)
set_option maxHeartbeats 4000000 in
set_option maxRecDepth 100000 in
theorem w_X2_passAsComing_b90 {p : Program} {l : Launch} {e : Env} {s : State} {m : MethodId} {args : Array Value} {below : List Frame} {meth : Method} {c : Code} {dC : Nat → ClassId} {dI : Nat → Nat → Nat} {cI cII : ClassId} {o_t : Nat} {a_t : Nat → Nat} {o_a1 : Nat} {a_a1 : Nat → Nat} {A : Nat → Prop} (C0 : hC p s m args meth c dC dI cI cII RX2 cX2_passAsComing 5 (wd yX2_passAsComing cX2_passAsComing 5 none) none) (hA : ∀ q, s.heap.size ≤ q → A q)  {v_t : obV} {v_a1 : obV} {x2 : Int32} {x3 : Int32} {k9 : obV × Int32 × Int32 → Option (obV)} (ih9 : ∀ (y : obV × Int32 × Int32) (r : obV), k9 y = some r → ∀ (H : Heap) (locs : List Loc) (ls : Array Slot), va_P (dC, dI) vwCl (wX2 o_t a_t cI y.1 ++ (wX1 o_a1 a_a1 cI v_a1)) H → va_D A (wX2 o_t a_t cI y.1 ++ (wX1 o_a1 a_a1 cI v_a1)) → va_S A s.heap H locs → lv_has ls 5 [(0, .ref o_t), (1, .ref o_a1), (2, .int y.2.1), (3, .int y.2.2)] → W p l e ({ frames := 3, cells := 0, slots := 0, locals := 72 } : Room) s m args below meth c H locs 0 0 (MQ below (va_Qv (fun (_ : Unit) => True) (fun _ t => va_P (dC, dI) vwCl (wX2 o_t a_t cI r ++ (wX1 o_a1 a_a1 cI v_a1)) t.heap ∧ va_D A (wX2 o_t a_t cI r ++ (wX1 o_a1 a_a1 cI v_a1))) A) args s 0 0 A) (F0 m 9 ls []))  {H : Heap} {locs : List Loc} (hP : va_P (dC, dI) vwCl (wX2 o_t a_t cI v_t ++ (wX1 o_a1 a_a1 cI v_a1)) H) (hD : va_D A (wX2 o_t a_t cI v_t ++ (wX1 o_a1 a_a1 cI v_a1))) (hS : va_S A s.heap H locs) {r : obV} (hf : f_X2_passAsComing_b90  v_t v_a1 x2 x3 k9 = some r) {ls : Array Slot} (hl : lv_has ls 5 [(0, .ref o_t), (1, .ref o_a1), (2, .int x2), (3, .int x3)]) :
    W p l e ({ frames := 3, cells := 0, slots := 0, locals := 72 } : Room) s m args below meth c H locs 0 0 (MQ below (va_Qv (fun (_ : Unit) => True) (fun _ t => va_P (dC, dI) vwCl (wX2 o_t a_t cI r ++ (wX1 o_a1 a_a1 cI v_a1)) t.heap ∧ va_D A (wX2 o_t a_t cI r ++ (wX1 o_a1 a_a1 cI v_a1))) A) args s 0 0 A) (F0 m 90 ls []) := by
  obtain ⟨hx, hb, hml, hown, hts, hr, hlocks, hK, hN⟩ := C0
  unfold f_X2_passAsComing_b90 at hf
  refine lv_aload_n hx hb dX2_passAsComing_90 rfl (lv_at hl 0 rfl) ?_
  refine va_get (D := (dC, dI)) (ci := 2) (v := .ref (a_t 3)) (C := RX2) (T := TX2) (N := 8) hx hb hts hw_X2 hown hK hP 0 rfl rfl 3 (by decide) (hts _ (List.mem_cons_of_mem _ mw_162)) (fun _ h9 => h9) rfl dX2_passAsComing_91 ?_
  refine lv_iload_n hx hb dX2_passAsComing_94 rfl (lv_at hl 3 rfl) ?_
  refine lv_aload_n hx hb dX2_passAsComing_95 rfl (lv_at hl 0 rfl) ?_
  refine lv_iload_n hx hb dX2_passAsComing_96 rfl (lv_at hl 3 rfl) ?_
  obtain ⟨u_97, e_97, hf⟩ := ho_b hf
  have hPc := hP.sub (ws' := (wX2 o_t a_t cI v_t)) [0, 1, 2, 3, 4] rfl
  refine vp_callSi (va_runV (As := [.int x3]) (rest := [.int x3, .ref (a_t 3)]) ⟨hx, hb, hml, hown, hts⟩ (c_X2_notReceivedBy l dC dI cI cII o_t a_t v_t (x3) u_97 e_97) (cwV 1 hts (hw_giV mw_376 mw_378 mw_5 mw_57 mw_379) rfl rfl rfl (by decide +kernel) ⟨Nat.le_of_ble_eq_true rfl, Nat.le_of_ble_eq_true rfl⟩) ⟨pB_blind, va_recv hK hPc (ci := 2) (q0 := 0) rfl rfl, fun U hU hW => ⟨rfl, pB_go hPc hK hN hU hW⟩⟩ rfl rfl hl.1 rfl (lv_room (Nat.le_of_ble_eq_true rfl)) dX2_passAsComing_97 ⟨Nat.zero_le _, Nat.zero_le _⟩).run (fun z_97 ez_97 => ?_)
  subst ez_97
  obtain ⟨h_100, hf⟩ := ho_g hf
  refine va_iast (n := 20) (f := (v_t.2 3)) hx hb hK hP hD hS 4 0 rfl rfl h_100 dX2_passAsComing_100 (fun H locs hP hD hS => ?_)
  have hP : va_P (dC, dI) vwCl (wX2 o_t a_t cI (oA v_t 3 (Int32.toNatClampNeg x3) u_97) ++ (wX1 o_a1 a_a1 cI v_a1)) H := hP
  have hD : va_D A (wX2 o_t a_t cI (oA v_t 3 (Int32.toNatClampNeg x3) u_97) ++ (wX1 o_a1 a_a1 cI v_a1)) := hD
  obtain ⟨v_t_100, e_v_t_100⟩ : ∃ z : obV, z = (oA v_t 3 (Int32.toNatClampNeg x3) u_97) := ⟨_, rfl⟩
  rw [← e_v_t_100] at hP hD
  have hf := ho_l hf v_t_100 e_v_t_100
  refine lv_iinc (v := (x3 + 1)) (lv' := [(3, .int (x3 + 1)), (0, .ref o_t), (1, .ref o_a1), (2, .int x2)]) hx hb dX2_passAsComing_101 hl (k := 3) rfl (hp_inc (by decide)) (by decide) rfl (fun ls hl => ?_)
  refine lv_goto (tgt := 9) hx hb dX2_passAsComing_104 (by decide) ?_
  exact ih9 (v_t_100, x2, (x3 + 1)) _ hf _ _ _ hP hD hS (lv_sub hl [1, 2, 3, 0] rfl)
set_option maxHeartbeats 4000000 in
set_option maxRecDepth 100000 in
theorem w_X2_passAsComing_b67 {p : Program} {l : Launch} {e : Env} {s : State} {m : MethodId} {args : Array Value} {below : List Frame} {meth : Method} {c : Code} {dC : Nat → ClassId} {dI : Nat → Nat → Nat} {cI cII : ClassId} {o_t : Nat} {a_t : Nat → Nat} {o_a1 : Nat} {a_a1 : Nat → Nat} {A : Nat → Prop} (C0 : hC p s m args meth c dC dI cI cII RX2 cX2_passAsComing 5 (wd yX2_passAsComing cX2_passAsComing 5 none) none) (hA : ∀ q, s.heap.size ≤ q → A q)  {v_t : obV} {v_a1 : obV} {x2 : Int32} {x3 : Int32} {x4 : Int32} {k9 : obV × Int32 × Int32 → Option (obV)} (ih9 : ∀ (y : obV × Int32 × Int32) (r : obV), k9 y = some r → ∀ (H : Heap) (locs : List Loc) (ls : Array Slot), va_P (dC, dI) vwCl (wX2 o_t a_t cI y.1 ++ (wX1 o_a1 a_a1 cI v_a1)) H → va_D A (wX2 o_t a_t cI y.1 ++ (wX1 o_a1 a_a1 cI v_a1)) → va_S A s.heap H locs → lv_has ls 5 [(0, .ref o_t), (1, .ref o_a1), (2, .int y.2.1), (3, .int y.2.2)] → W p l e ({ frames := 3, cells := 0, slots := 0, locals := 72 } : Room) s m args below meth c H locs 0 0 (MQ below (va_Qv (fun (_ : Unit) => True) (fun _ t => va_P (dC, dI) vwCl (wX2 o_t a_t cI r ++ (wX1 o_a1 a_a1 cI v_a1)) t.heap ∧ va_D A (wX2 o_t a_t cI r ++ (wX1 o_a1 a_a1 cI v_a1))) A) args s 0 0 A) (F0 m 9 ls []))  {H : Heap} {locs : List Loc} (hP : va_P (dC, dI) vwCl (wX2 o_t a_t cI v_t ++ (wX1 o_a1 a_a1 cI v_a1)) H) (hD : va_D A (wX2 o_t a_t cI v_t ++ (wX1 o_a1 a_a1 cI v_a1))) (hS : va_S A s.heap H locs) {r : obV} (hf : f_X2_passAsComing_b67  v_t v_a1 x2 x3 x4 k9 = some r) {ls : Array Slot} (hl : lv_has ls 5 [(0, .ref o_t), (1, .ref o_a1), (2, .int x2), (3, .int x3), (4, .int x4)]) :
    W p l e ({ frames := 3, cells := 0, slots := 0, locals := 72 } : Room) s m args below meth c H locs 0 0 (MQ below (va_Qv (fun (_ : Unit) => True) (fun _ t => va_P (dC, dI) vwCl (wX2 o_t a_t cI r ++ (wX1 o_a1 a_a1 cI v_a1)) t.heap ∧ va_D A (wX2 o_t a_t cI r ++ (wX1 o_a1 a_a1 cI v_a1))) A) args s 0 0 A) (F0 m 67 ls []) := by
  obtain ⟨hx, hb, hml, hown, hts, hr, hlocks, hK, hN⟩ := C0
  unfold f_X2_passAsComing_b67 at hf
  refine lv_iload hx hb dX2_passAsComing_67 (lv_at hl 4 rfl) ?_
  refine lv_iconst (v := (-1)) hx hb dX2_passAsComing_69 (by decide) ?_
  refine lv_icmp_eq (tgt := 90) hx hb dX2_passAsComing_70 (by decide) (fun c_70 => ?_) (fun c_70 => ?_)
  · have hf := ho_t hf c_70
    exact w_X2_passAsComing_b90 ⟨hx, hb, hml, hown, hts, hr, hlocks, hK, hN⟩ hA ih9 hP hD hS hf (lv_sub hl [0, 1, 2, 3] rfl)
  · have hf := ho_f hf c_70
    refine lv_aload_n hx hb dX2_passAsComing_73 rfl (lv_at hl 0 rfl) ?_
    refine lv_aload_n hx hb dX2_passAsComing_74 rfl (lv_at hl 1 rfl) ?_
    refine lv_iload hx hb dX2_passAsComing_75 (lv_at hl 4 rfl) ?_
    refine lv_iload_n hx hb dX2_passAsComing_77 rfl (lv_at hl 3 rfl) ?_
    obtain ⟨u_78, e_78, hf⟩ := ho_b hf
    have hFc := va_free (wc := (wX2 o_t a_t cI v_t ++ (wX1 o_a1 a_a1 cI v_a1))) hD hS hA [0, 1, 2, 3, 4, 5, 6, 7, 8] rfl
    refine va_callv (va_runV (As := [.ref o_a1, .int x4, .int x3]) (rest := []) ⟨hx, hb, hml, hown, hts⟩ (c_X2_receive l dC dI cI cII o_t a_t o_a1 a_a1 v_t v_a1 (x4) (x3) _ u_78 e_78) (cwV 3 hts (hw_giV mw_361 mw_363 mw_4 mw_57 mw_364) rfl rfl rfl (by decide +kernel) ⟨Nat.le_of_ble_eq_true rfl, Nat.le_of_ble_eq_true rfl⟩) ⟨qB_blind, va_recv hK hP (ci := 2) (q0 := 0) rfl rfl, fun U hU hW => ⟨rfl, qB_go hP hD hK hN hU hW⟩⟩ rfl rfl hl.1 rfl (lv_room (Nat.le_of_ble_eq_true rfl)) dX2_passAsComing_78 ⟨Nat.zero_le _, Nat.zero_le _⟩) hS (fun q _ h => hFc q h) hFc (fun u t H1 locs ht hvm hw hB hz1 hk1 hS => ?_)
    obtain ⟨hP1, hD1⟩ := hB
    rw [ht] at hP1
    clear hP hD
    generalize H1 = H at hP1 hS ⊢
    have hP : va_P (dC, dI) vwCl (wX2 o_t a_t cI u_78 ++ (wX1 o_a1 a_a1 cI v_a1)) H := hP1
    have hD : va_D A (wX2 o_t a_t cI u_78 ++ (wX1 o_a1 a_a1 cI v_a1)) := hD1.weaken (fun _ q _ h => hFc q.1 h)
    refine lv_iload_n hx hb dX2_passAsComing_81 rfl (lv_at hl 3 rfl) ?_
    refine lv_aload_n hx hb dX2_passAsComing_82 rfl (lv_at hl 1 rfl) ?_
    refine lv_iload hx hb dX2_passAsComing_83 (lv_at hl 4 rfl) ?_
    obtain ⟨u_85, e_85, hf⟩ := ho_b hf
    have hPc := hP.sub (ws' := (wX1 o_a1 a_a1 cI v_a1)) [5, 6, 7, 8] rfl
    refine vp_callSi (va_runV (As := [.int x4]) (rest := [.int x3]) ⟨hx, hb, hml, hown, hts⟩ (c_X1_stays l dC dI cI cII o_a1 a_a1 v_a1 (x4) u_85 e_85) (cwV 1 hts (hw_giV mw_372 mw_373 mw_374 mw_55 mw_375) rfl rfl rfl (by decide +kernel) ⟨Nat.le_of_ble_eq_true rfl, Nat.le_of_ble_eq_true rfl⟩) ⟨pB_blind, va_recv hK hPc (ci := 1) (q0 := 0) rfl rfl, fun U hU hW => ⟨rfl, pB_go hPc hK hN hU hW⟩⟩ rfl rfl hl.1 rfl (lv_room (Nat.le_of_ble_eq_true rfl)) dX2_passAsComing_85 ⟨Nat.zero_le _, Nat.zero_le _⟩).run (fun z_85 ez_85 => ?_)
    subst ez_85
    refine lv_iadd hx hb dX2_passAsComing_88 ?_
    refine lv_istore_n (lv' := [(2, .int (x3 + u_85)), (0, .ref o_t), (1, .ref o_a1), (3, .int x3), (4, .int x4)]) hx hb dX2_passAsComing_89 rfl hl (by decide) rfl (fun ls hl => ?_)
    exact w_X2_passAsComing_b90 ⟨hx, hb, hml, hown, hts, hr, hlocks, hK, hN⟩ hA ih9 hP hD hS hf (lv_sub hl [1, 2, 0, 3] rfl)
set_option maxHeartbeats 4000000 in
set_option maxRecDepth 100000 in
theorem w_X2_passAsComing_b38 {p : Program} {l : Launch} {e : Env} {s : State} {m : MethodId} {args : Array Value} {below : List Frame} {meth : Method} {c : Code} {dC : Nat → ClassId} {dI : Nat → Nat → Nat} {cI cII : ClassId} {o_t : Nat} {a_t : Nat → Nat} {o_a1 : Nat} {a_a1 : Nat → Nat} {A : Nat → Prop} (C0 : hC p s m args meth c dC dI cI cII RX2 cX2_passAsComing 5 (wd yX2_passAsComing cX2_passAsComing 5 none) none) (hA : ∀ q, s.heap.size ≤ q → A q)  {v_t : obV} {v_a1 : obV} {x2 : Int32} {x3 : Int32} {s0 : Int32} {k9 : obV × Int32 × Int32 → Option (obV)} (ih9 : ∀ (y : obV × Int32 × Int32) (r : obV), k9 y = some r → ∀ (H : Heap) (locs : List Loc) (ls : Array Slot), va_P (dC, dI) vwCl (wX2 o_t a_t cI y.1 ++ (wX1 o_a1 a_a1 cI v_a1)) H → va_D A (wX2 o_t a_t cI y.1 ++ (wX1 o_a1 a_a1 cI v_a1)) → va_S A s.heap H locs → lv_has ls 5 [(0, .ref o_t), (1, .ref o_a1), (2, .int y.2.1), (3, .int y.2.2)] → W p l e ({ frames := 3, cells := 0, slots := 0, locals := 72 } : Room) s m args below meth c H locs 0 0 (MQ below (va_Qv (fun (_ : Unit) => True) (fun _ t => va_P (dC, dI) vwCl (wX2 o_t a_t cI r ++ (wX1 o_a1 a_a1 cI v_a1)) t.heap ∧ va_D A (wX2 o_t a_t cI r ++ (wX1 o_a1 a_a1 cI v_a1))) A) args s 0 0 A) (F0 m 9 ls []))  {H : Heap} {locs : List Loc} (hP : va_P (dC, dI) vwCl (wX2 o_t a_t cI v_t ++ (wX1 o_a1 a_a1 cI v_a1)) H) (hD : va_D A (wX2 o_t a_t cI v_t ++ (wX1 o_a1 a_a1 cI v_a1))) (hS : va_S A s.heap H locs) {r : obV} (hf : f_X2_passAsComing_b38  v_t v_a1 x2 x3 s0 k9 = some r) {ls : Array Slot} (hl : lv_has ls 5 [(0, .ref o_t), (1, .ref o_a1), (2, .int x2), (3, .int x3)]) :
    W p l e ({ frames := 3, cells := 0, slots := 0, locals := 72 } : Room) s m args below meth c H locs 0 0 (MQ below (va_Qv (fun (_ : Unit) => True) (fun _ t => va_P (dC, dI) vwCl (wX2 o_t a_t cI r ++ (wX1 o_a1 a_a1 cI v_a1)) t.heap ∧ va_D A (wX2 o_t a_t cI r ++ (wX1 o_a1 a_a1 cI v_a1))) A) args s 0 0 A) (F0 m 38 ls [.int s0]) := by
  obtain ⟨hx, hb, hml, hown, hts, hr, hlocks, hK, hN⟩ := C0
  unfold f_X2_passAsComing_b38 at hf
  refine lv_istore (lv' := [(4, .int s0), (0, .ref o_t), (1, .ref o_a1), (2, .int x2), (3, .int x3)]) hx hb dX2_passAsComing_38 hl (by decide) rfl (fun ls hl => ?_)
  refine lv_iload hx hb dX2_passAsComing_40 (lv_at hl 0 rfl) ?_
  refine lv_iconst (v := (-1)) hx hb dX2_passAsComing_42 (by decide) ?_
  refine lv_icmp_eq (tgt := 67) hx hb dX2_passAsComing_43 (by decide) (fun c_43 => ?_) (fun c_43 => ?_)
  · have hf := ho_t hf c_43
    exact w_X2_passAsComing_b67 ⟨hx, hb, hml, hown, hts, hr, hlocks, hK, hN⟩ hA ih9 hP hD hS hf (lv_sub hl [1, 2, 3, 4, 0] rfl)
  · have hf := ho_f hf c_43
    refine lv_aload_n hx hb dX2_passAsComing_46 rfl (lv_at hl 2 rfl) ?_
    refine lv_iload hx hb dX2_passAsComing_47 (lv_at hl 0 rfl) ?_
    obtain ⟨u_49, e_49, hf⟩ := ho_b hf
    have hPc := hP.sub (ws' := (wX1 o_a1 a_a1 cI v_a1)) [5, 6, 7, 8] rfl
    refine vp_callSi (va_runV (As := [.int s0]) (rest := []) ⟨hx, hb, hml, hown, hts⟩ (c_X1_wears l dC dI cI cII o_a1 a_a1 v_a1 (s0) u_49 e_49) (cwV 1 hts (hw_giV mw_357 mw_358 mw_359 mw_55 mw_360) rfl rfl rfl (by decide +kernel) ⟨Nat.le_of_ble_eq_true rfl, Nat.le_of_ble_eq_true rfl⟩) ⟨pB_blind, va_recv hK hPc (ci := 1) (q0 := 0) rfl rfl, fun U hU hW => ⟨rfl, pB_go hPc hK hN hU hW⟩⟩ rfl rfl hl.1 rfl (lv_room (Nat.le_of_ble_eq_true rfl)) dX2_passAsComing_49 ⟨Nat.zero_le _, Nat.zero_le _⟩).run (fun z_49 ez_49 => ?_)
    subst ez_49
    refine lv_aload_n hx hb dX2_passAsComing_52 rfl (lv_at hl 1 rfl) ?_
    refine va_get (D := (dC, dI)) (ci := 2) (v := .int (v_t.1 5)) (C := RX2) (T := TX2) (N := 8) hx hb hts hw_X2 hown hK hP 0 rfl rfl 5 (by decide) (hts _ (List.mem_cons_of_mem _ mw_166)) (fun _ h9 => h9) rfl dX2_passAsComing_53 ?_
    refine lv_icmp_le (tgt := 67) hx hb dX2_passAsComing_56 (by decide) (fun c_56 => ?_) (fun c_56 => ?_)
    · have hf := ho_t hf c_56
      exact w_X2_passAsComing_b67 ⟨hx, hb, hml, hown, hts, hr, hlocks, hK, hN⟩ hA ih9 hP hD hS hf (lv_sub hl [1, 2, 3, 4, 0] rfl)
    · have hf := ho_f hf c_56
      refine lv_aload_n hx hb dX2_passAsComing_59 rfl (lv_at hl 1 rfl) ?_
      refine lv_iload_n hx hb dX2_passAsComing_60 rfl (lv_at hl 4 rfl) ?_
      refine va_put (D := (dC, dI)) (ci := 2) (v := .int x3) (ty := .int) (C := RX2) (T := TX2) (N := 8) hx hb hts hw_X2 tyX2 tyX2_ok nmX2 hown hK hP hD hS 0 rfl rfl 7 (by decide) (hts _ (List.mem_cons_of_mem _ mw_169)) (fun _ h9 => h9) rfl (by decide +kernel) rfl rfl (Nat.le_of_ble_eq_true rfl) dX2_passAsComing_61 (fun H locs hP hD hS => ?_)
      have hP : va_P (dC, dI) vwCl (wX2 o_t a_t cI (oF v_t 7 x3) ++ (wX1 o_a1 a_a1 cI v_a1)) H := hP
      have hD : va_D A (wX2 o_t a_t cI (oF v_t 7 x3) ++ (wX1 o_a1 a_a1 cI v_a1)) := hD
      obtain ⟨v_t_61, e_v_t_61⟩ : ∃ z : obV, z = (oF v_t 7 x3) := ⟨_, rfl⟩
      rw [← e_v_t_61] at hP hD
      have hf := ho_l hf v_t_61 e_v_t_61
      refine lv_goto (tgt := 90) hx hb dX2_passAsComing_64 (by decide) ?_
      exact w_X2_passAsComing_b90 ⟨hx, hb, hml, hown, hts, hr, hlocks, hK, hN⟩ hA ih9 hP hD hS hf (lv_sub hl [1, 2, 3, 4] rfl)
set_option maxHeartbeats 4000000 in
set_option maxRecDepth 100000 in
theorem w_X2_passAsComing_l9 {p : Program} {l : Launch} {e : Env} {s : State} {m : MethodId} {args : Array Value} {below : List Frame} {meth : Method} {c : Code} {dC : Nat → ClassId} {dI : Nat → Nat → Nat} {cI cII : ClassId} {o_t : Nat} {a_t : Nat → Nat} {o_a1 : Nat} {a_a1 : Nat → Nat} {A : Nat → Prop} (C0 : hC p s m args meth c dC dI cI cII RX2 cX2_passAsComing 5 (wd yX2_passAsComing cX2_passAsComing 5 none) none) (hA : ∀ q, s.heap.size ≤ q → A q)  {v_a1 : obV}    :
    ∀ (n : Nat) (y : obV × Int32 × Int32) (r : obV), f_X2_passAsComing_l9  v_a1  n y = some r → ∀ (H : Heap) (locs : List Loc) (ls : Array Slot), va_P (dC, dI) vwCl (wX2 o_t a_t cI y.1 ++ (wX1 o_a1 a_a1 cI v_a1)) H → va_D A (wX2 o_t a_t cI y.1 ++ (wX1 o_a1 a_a1 cI v_a1)) → va_S A s.heap H locs → lv_has ls 5 [(0, .ref o_t), (1, .ref o_a1), (2, .int y.2.1), (3, .int y.2.2)] → W p l e ({ frames := 3, cells := 0, slots := 0, locals := 72 } : Room) s m args below meth c H locs 0 0 (MQ below (va_Qv (fun (_ : Unit) => True) (fun _ t => va_P (dC, dI) vwCl (wX2 o_t a_t cI r ++ (wX1 o_a1 a_a1 cI v_a1)) t.heap ∧ va_D A (wX2 o_t a_t cI r ++ (wX1 o_a1 a_a1 cI v_a1))) A) args s 0 0 A) (F0 m 9 ls []) := by
  obtain ⟨hx, hb, hml, hown, hts, hr, hlocks, hK, hN⟩ := C0
  refine lp_W ?_
  intro k9 ih9 y r hf H locs ls hP hD hS hl
  obtain ⟨v_t, x2, x3⟩ := y
  have hf : f_X2_passAsComing_b9  v_t v_a1 x2 x3  k9 = some r := hf
  have hP : va_P (dC, dI) vwCl (wX2 o_t a_t cI v_t ++ (wX1 o_a1 a_a1 cI v_a1)) H := hP
  have hD : va_D A (wX2 o_t a_t cI v_t ++ (wX1 o_a1 a_a1 cI v_a1)) := hD
  have hl : lv_has ls 5 [(0, .ref o_t), (1, .ref o_a1), (2, .int x2), (3, .int x3)] := hl
  unfold f_X2_passAsComing_b9 at hf
  refine lv_iload_n hx hb dX2_passAsComing_9 rfl (lv_at hl 3 rfl) ?_
  refine lv_bipush (v := 20) hx hb dX2_passAsComing_10 (by decide) ?_
  refine lv_icmp_ge (tgt := 107) hx hb dX2_passAsComing_12 (by decide) (fun c_12 => ?_) (fun c_12 => ?_)
  · have hf := ho_t hf c_12
    obtain rfl := Option.some.inj hf
    exact W.vret hx hb hr (fun t ht hW => ⟨⟨(), rfl, trivial, by rw [ht]; exact hP, hD⟩, hS.F ht⟩) hS.2.2 dX2_passAsComing_107 hlocks
  · have hf := ho_f hf c_12
    refine lv_iload_n hx hb dX2_passAsComing_15 rfl (lv_at hl 3 rfl) ?_
    refine lv_iload_n hx hb dX2_passAsComing_16 rfl (lv_at hl 2 rfl) ?_
    refine lv_icmp_lt (tgt := 37) hx hb dX2_passAsComing_17 (by decide) (fun c_17 => ?_) (fun c_17 => ?_)
    · have hf := ho_t hf c_17
      refine lv_iconst (v := (-1)) hx hb dX2_passAsComing_37 (by decide) ?_
      exact w_X2_passAsComing_b38 ⟨hx, hb, hml, hown, hts, hr, hlocks, hK, hN⟩ hA ih9 hP hD hS hf (lv_sub hl [0, 1, 2, 3] rfl)
    · have hf := ho_f hf c_17
      refine lv_aload_n hx hb dX2_passAsComing_20 rfl (lv_at hl 0 rfl) ?_
      refine va_get (D := (dC, dI)) (ci := 2) (v := .int (v_t.1 7)) (C := RX2) (T := TX2) (N := 8) hx hb hts hw_X2 hown hK hP 0 rfl rfl 7 (by decide) (hts _ (List.mem_cons_of_mem _ mw_169)) (fun _ h9 => h9) rfl dX2_passAsComing_21 ?_
      refine lv_iconst (v := (-1)) hx hb dX2_passAsComing_24 (by decide) ?_
      refine lv_icmp_ne (tgt := 37) hx hb dX2_passAsComing_25 (by decide) (fun c_25 => ?_) (fun c_25 => ?_)
      · have hf := ho_f hf c_25
        refine lv_iconst (v := (-1)) hx hb dX2_passAsComing_37 (by decide) ?_
        exact w_X2_passAsComing_b38 ⟨hx, hb, hml, hown, hts, hr, hlocks, hK, hN⟩ hA ih9 hP hD hS hf (lv_sub hl [0, 1, 2, 3] rfl)
      · have hf := ho_t hf c_25
        refine lv_aload_n hx hb dX2_passAsComing_28 rfl (lv_at hl 0 rfl) ?_
        refine lv_aload_n hx hb dX2_passAsComing_29 rfl (lv_at hl 1 rfl) ?_
        refine lv_iload_n hx hb dX2_passAsComing_30 rfl (lv_at hl 3 rfl) ?_
        obtain ⟨u_31, e_31, hf⟩ := ho_b hf
        refine vp_callSi (va_runV (As := [.ref o_a1, .int x3]) (rest := []) ⟨hx, hb, hml, hown, hts⟩ (c_X2_firstInLine l dC dI cI cII o_t a_t o_a1 a_a1 v_t v_a1 (x3) u_31 e_31) (cwV 2 hts (hw_giV mw_345 mw_347 mw_2 mw_57 mw_348) rfl rfl rfl (by decide +kernel) ⟨Nat.le_of_ble_eq_true rfl, Nat.le_of_ble_eq_true rfl⟩) ⟨pB_blind, va_recv hK hP (ci := 2) (q0 := 0) rfl rfl, fun U hU hW => ⟨rfl, pB_go hP hK hN hU hW⟩⟩ rfl rfl hl.1 rfl (lv_room (Nat.le_of_ble_eq_true rfl)) dX2_passAsComing_31 ⟨Nat.zero_le _, Nat.zero_le _⟩).run (fun z_31 ez_31 => ?_)
        subst ez_31
        refine lv_goto (tgt := 38) hx hb dX2_passAsComing_34 (by decide) ?_
        exact w_X2_passAsComing_b38 ⟨hx, hb, hml, hown, hts, hr, hlocks, hK, hN⟩ hA ih9 hP hD hS hf (lv_sub hl [0, 1, 2, 3] rfl)
set_option maxHeartbeats 4000000 in
set_option maxRecDepth 100000 in
theorem c_X2_passAsComing (l : Launch) (dC : Nat → ClassId) (dI : Nat → Nat → Nat) (cI cII : ClassId) (o_t : Nat) (a_t : Nat → Nat) (o_a1 : Nat) (a_a1 : Nat → Nat) (v_t : obV) (v_a1 : obV)  (sz : Nat) (r : obV) (hf : f_X2_passAsComing  v_t v_a1  = some r) :
    Met l yX2_passAsComing (wd yX2_passAsComing cX2_passAsComing 5 none) ({ frames := 3, cells := 0, slots := 0, locals := 72 } : Room) (va_Pc [.ref o_t, .ref o_a1] (qB (dC, dI) vwCl (wX2 o_t a_t cI v_t ++ (wX1 o_a1 a_a1 cI v_a1)) (hTY cI cII) sz)) (va_Qv (fun (_ : Unit) => True) (fun _ t => va_P (dC, dI) vwCl (wX2 o_t a_t cI r ++ (wX1 o_a1 a_a1 cI v_a1)) t.heap ∧ va_D (va_A (wX2 o_t a_t cI v_t ++ (wX1 o_a1 a_a1 cI v_a1)) sz) (wX2 o_t a_t cI r ++ (wX1 o_a1 a_a1 cI v_a1))) (va_A (wX2 o_t a_t cI v_t ++ (wX1 o_a1 a_a1 cI v_a1)) sz)) 0 0 (va_A (wX2 o_t a_t cI v_t ++ (wX1 o_a1 a_a1 cI v_a1)) sz) := by
  refine Met.ofW (cc := cX2_passAsComing) (maxL := 5) (ret := none) (by decide) rfl ?_
  intro p e s m args below meth c s₁ B hml hv
  obtain ⟨rfl, hsz, hD0, hP, hK, hN⟩ := hv
  have hx := B.exec
  have hb := B.bytes
  have hr := B.returns
  have hts := atoms_spec (ws := (wd yX2_passAsComing cX2_passAsComing 5 none)) B.pre
  have hown : s.vm.findClass RX2 = some m.cls := findClass_of_methodNamed B.named
  have hlocks := B.notSynchronized
  subst hsz
  have hD := hD0.self (sz := s.heap.size)
  generalize hAe : va_A (wX2 o_t a_t cI v_t ++ (wX1 o_a1 a_a1 cI v_a1)) s.heap.size = A at hD ⊢
  have hA : ∀ q : Nat, s.heap.size ≤ q → A q := fun q h => by rw [← hAe]; exact Or.inr h
  have hS : va_S A s.heap s.heap [] := va_S.rf
  have hl := lv_entry ([.ref o_t, .ref o_a1]) (n := 5) (Nat.le_of_ble_eq_true rfl)
  rw [lg_entry_eq]
  generalize (lg_sl ([.ref o_t, .ref o_a1]) ++ List.replicate (5 - (lg_sl ([.ref o_t, .ref o_a1])).length) Slot.unset).toArray = ls at hl ⊢
  have hl : lv_has ls 5 [(0, .ref o_t), (1, .ref o_a1)] := hl
  clear hAe hD0
  unfold f_X2_passAsComing at hf
  refine lv_aload_n hx hb dX2_passAsComing_0 rfl (lv_at hl 0 rfl) ?_
  refine lv_aload_n hx hb dX2_passAsComing_1 rfl (lv_at hl 1 rfl) ?_
  obtain ⟨u_2, e_2, hf⟩ := ho_b hf
  have hFc := va_free (wc := (wX2 o_t a_t cI v_t ++ (wX1 o_a1 a_a1 cI v_a1))) hD hS hA [0, 1, 2, 3, 4, 5, 6, 7, 8] rfl
  refine va_callv (va_runV (As := [.ref o_a1]) (rest := []) ⟨hx, hb, hml, hown, hts⟩ (c_X2_begin l dC dI cI cII o_t a_t o_a1 a_a1 v_t v_a1 _ u_2 e_2) (cwV 1 hts (hw_giV mw_341 mw_343 mw_1 mw_57 mw_344) rfl rfl rfl (by decide +kernel) ⟨Nat.le_of_ble_eq_true rfl, Nat.le_of_ble_eq_true rfl⟩) ⟨qB_blind, va_recv hK hP (ci := 2) (q0 := 0) rfl rfl, fun U hU hW => ⟨rfl, qB_go hP hD hK hN hU hW⟩⟩ rfl rfl hl.1 rfl (lv_room (Nat.le_of_ble_eq_true rfl)) dX2_passAsComing_2 ⟨Nat.zero_le _, Nat.zero_le _⟩) hS (fun q _ h => hFc q h) hFc (fun u t H1 locs ht hvm hw hB hz1 hk1 hS => ?_)
  obtain ⟨hP1, hD1⟩ := hB
  rw [ht] at hP1
  clear hP hD
  generalize H1 = H at hP1 hS ⊢
  have hP : va_P (dC, dI) vwCl (wX2 o_t a_t cI u_2 ++ (wX1 o_a1 a_a1 cI v_a1)) H := hP1
  have hD : va_D A (wX2 o_t a_t cI u_2 ++ (wX1 o_a1 a_a1 cI v_a1)) := hD1.weaken (fun _ q _ h => hFc q.1 h)
  refine lv_iconst (v := 0) hx hb dX2_passAsComing_5 (by decide) ?_
  refine lv_istore_n (lv' := [(2, .int 0), (0, .ref o_t), (1, .ref o_a1)]) hx hb dX2_passAsComing_6 rfl hl (by decide) rfl (fun ls hl => ?_)
  refine lv_iconst (v := 0) hx hb dX2_passAsComing_7 (by decide) ?_
  refine lv_istore_n (lv' := [(3, .int 0), (2, .int 0), (0, .ref o_t), (1, .ref o_a1)]) hx hb dX2_passAsComing_8 rfl hl (by decide) rfl (fun ls hl => ?_)
  exact w_X2_passAsComing_l9 ⟨hx, hb, hml, hown, hts, hr, hlocks, hK, hN⟩ hA  _ _ _ hf _ _ _ hP hD hS (lv_sub hl [2, 3, 1, 0] rfl)
set_option maxHeartbeats 4000000 in
set_option maxRecDepth 100000 in
theorem c_X2_pass (l : Launch) (dC : Nat → ClassId) (dI : Nat → Nat → Nat) (cI cII : ClassId) (o_t : Nat) (a_t : Nat → Nat) (o_a1 : Nat) (a_a1 : Nat → Nat) (v_t : obV) (v_a1 : obV)  (sz : Nat) (r : obV) (hf : f_X2_pass  v_t v_a1  = some r) :
    Met l yX2_pass (wd yX2_pass cX2_pass 2 none) ({ frames := 4, cells := 0, slots := 0, locals := 96 } : Room) (va_Pc [.ref o_t, .ref o_a1] (qB (dC, dI) vwCl (wX2 o_t a_t cI v_t ++ (wX1 o_a1 a_a1 cI v_a1)) (hTY cI cII) sz)) (va_Qv (fun (_ : Unit) => True) (fun _ t => va_P (dC, dI) vwCl (wX2 o_t a_t cI r ++ (wX1 o_a1 a_a1 cI v_a1)) t.heap ∧ va_D (va_A (wX2 o_t a_t cI v_t ++ (wX1 o_a1 a_a1 cI v_a1)) sz) (wX2 o_t a_t cI r ++ (wX1 o_a1 a_a1 cI v_a1))) (va_A (wX2 o_t a_t cI v_t ++ (wX1 o_a1 a_a1 cI v_a1)) sz)) 0 0 (va_A (wX2 o_t a_t cI v_t ++ (wX1 o_a1 a_a1 cI v_a1)) sz) := by
  refine Met.ofW (cc := cX2_pass) (maxL := 2) (ret := none) (by decide) rfl ?_
  intro p e s m args below meth c s₁ B hml hv
  obtain ⟨rfl, hsz, hD0, hP, hK, hN⟩ := hv
  have hx := B.exec
  have hb := B.bytes
  have hr := B.returns
  have hts := atoms_spec (ws := (wd yX2_pass cX2_pass 2 none)) B.pre
  have hown : s.vm.findClass RX2 = some m.cls := findClass_of_methodNamed B.named
  have hlocks := B.notSynchronized
  subst hsz
  have hD := hD0.self (sz := s.heap.size)
  generalize hAe : va_A (wX2 o_t a_t cI v_t ++ (wX1 o_a1 a_a1 cI v_a1)) s.heap.size = A at hD ⊢
  have hA : ∀ q : Nat, s.heap.size ≤ q → A q := fun q h => by rw [← hAe]; exact Or.inr h
  have hS : va_S A s.heap s.heap [] := va_S.rf
  have hl := lv_entry ([.ref o_t, .ref o_a1]) (n := 2) (Nat.le_of_ble_eq_true rfl)
  rw [lg_entry_eq]
  generalize (lg_sl ([.ref o_t, .ref o_a1]) ++ List.replicate (2 - (lg_sl ([.ref o_t, .ref o_a1])).length) Slot.unset).toArray = ls at hl ⊢
  have hl : lv_has ls 2 [(0, .ref o_t), (1, .ref o_a1)] := hl
  clear hAe hD0
  unfold f_X2_pass at hf
  refine lv_aload_n hx hb dX2_pass_0 rfl (lv_at hl 0 rfl) ?_
  refine lv_aload_n hx hb dX2_pass_1 rfl (lv_at hl 1 rfl) ?_
  obtain ⟨u_2, e_2, hf⟩ := ho_b hf
  have hFc := va_free (wc := (wX2 o_t a_t cI v_t ++ (wX1 o_a1 a_a1 cI v_a1))) hD hS hA [0, 1, 2, 3, 4, 5, 6, 7, 8] rfl
  refine va_callv (va_runV (As := [.ref o_a1]) (rest := []) ⟨hx, hb, hml, hown, hts⟩ (c_X2_takeComings l dC dI cI cII o_t a_t o_a1 a_a1 v_t v_a1 _ u_2 e_2) (cwV 1 hts (hw_giV mw_330 mw_331 mw_332 mw_57 mw_333) rfl rfl rfl (by decide +kernel) ⟨Nat.le_of_ble_eq_true rfl, Nat.le_of_ble_eq_true rfl⟩) ⟨qB_blind, va_recv hK hP (ci := 2) (q0 := 0) rfl rfl, fun U hU hW => ⟨rfl, qB_go hP hD hK hN hU hW⟩⟩ rfl rfl hl.1 rfl (lv_room (Nat.le_of_ble_eq_true rfl)) dX2_pass_2 ⟨Nat.zero_le _, Nat.zero_le _⟩) hS (fun q _ h => hFc q h) hFc (fun u t H1 locs ht hvm hw hB hz1 hk1 hS => ?_)
  obtain ⟨hP1, hD1⟩ := hB
  rw [ht] at hP1
  clear hP hD
  generalize H1 = H at hP1 hS ⊢
  have hP : va_P (dC, dI) vwCl (wX2 o_t a_t cI u_2 ++ (wX1 o_a1 a_a1 cI v_a1)) H := hP1
  have hD : va_D A (wX2 o_t a_t cI u_2 ++ (wX1 o_a1 a_a1 cI v_a1)) := hD1.weaken (fun _ q _ h => hFc q.1 h)
  refine lv_aload_n hx hb dX2_pass_5 rfl (lv_at hl 0 rfl) ?_
  refine lv_aload_n hx hb dX2_pass_6 rfl (lv_at hl 1 rfl) ?_
  obtain ⟨u_7, e_7, hf⟩ := ho_b hf
  have hFc := va_free (wc := (wX2 o_t a_t cI u_2 ++ (wX1 o_a1 a_a1 cI v_a1))) hD hS hA [0, 1, 2, 3, 4, 5, 6, 7, 8] rfl
  refine va_callv (va_runV (As := [.ref o_a1]) (rest := []) ⟨hx, hb, hml, hown, hts⟩ (c_X2_passAsComing l dC dI cI cII o_t a_t o_a1 a_a1 u_2 v_a1 _ u_7 e_7) (cwV 1 hts (hw_giV mw_337 mw_338 mw_339 mw_57 mw_340) rfl rfl rfl (by decide +kernel) ⟨Nat.le_of_ble_eq_true rfl, Nat.le_of_ble_eq_true rfl⟩) ⟨qB_blind, va_recv hK hP (ci := 2) (q0 := 0) rfl rfl, fun U hU hW => ⟨rfl, qB_go hP hD hK hN hU hW⟩⟩ rfl rfl hl.1 rfl (lv_room (Nat.le_of_ble_eq_true rfl)) dX2_pass_7 ⟨Nat.zero_le _, Nat.zero_le _⟩) hS (fun q _ h => hFc q h) hFc (fun u t H1 locs ht hvm hw hB hz1 hk1 hS => ?_)
  obtain ⟨hP1, hD1⟩ := hB
  rw [ht] at hP1
  clear hP hD
  generalize H1 = H at hP1 hS ⊢
  have hP : va_P (dC, dI) vwCl (wX2 o_t a_t cI u_7 ++ (wX1 o_a1 a_a1 cI v_a1)) H := hP1
  have hD : va_D A (wX2 o_t a_t cI u_7 ++ (wX1 o_a1 a_a1 cI v_a1)) := hD1.weaken (fun _ q _ h => hFc q.1 h)
  obtain rfl := Option.some.inj hf
  exact W.vret hx hb hr (fun t ht hW => ⟨⟨(), rfl, trivial, by rw [ht]; exact hP, hD⟩, hS.F ht⟩) hS.2.2 dX2_pass_10 hlocks
set_option maxHeartbeats 4000000 in
set_option maxRecDepth 100000 in
theorem w_X2_slotsWaited_b21 {p : Program} {l : Launch} {e : Env} {s : State} {m : MethodId} {args : Array Value} {below : List Frame} {meth : Method} {c : Code} {dC : Nat → ClassId} {dI : Nat → Nat → Nat} {cI cII : ClassId} {o_t : Nat} {a_t : Nat → Nat} (C0 : hC p s m args meth c dC dI cI cII RX2 cX2_slotsWaited 2 (wd yX2_slotsWaited cX2_slotsWaited 2 (some .int)) (some .int))  {v_t : obV} {x1 : Int32} {s0 : Int32}   (hP : va_P (dC, dI) vwCl (wX2 o_t a_t cI v_t) s.heap) {r : Int32} (hf : f_X2_slotsWaited_b21  v_t x1 s0  = some r) {ls : Array Slot} (hl : lv_has ls 2 [(0, .ref o_t), (1, .int x1)]) :
    W p l e ({ frames := 0, cells := 0, slots := 0, locals := 0 } : Room) s m args below meth c s.heap [] 0 0 (MQ below (vp_Si (fun z => r = z)) args s 0 0 (fun _ => False)) (F0 m 21 ls [.int s0]) := by
  obtain ⟨hx, hb, hml, hown, hts, hr, hlocks, hK, hN⟩ := C0
  unfold f_X2_slotsWaited_b21 at hf
  refine lv_aload_n hx hb dX2_slotsWaited_21 rfl (lv_at hl 0 rfl) ?_
  refine va_get (D := (dC, dI)) (ci := 2) (v := .ref (a_t 0)) (C := RX2) (T := TX2) (N := 8) hx hb hts hw_X2 hown hK hP 0 rfl rfl 0 (by decide) (hts _ (List.mem_cons_of_mem _ mw_155)) (fun _ h9 => h9) rfl dX2_slotsWaited_22 ?_
  refine lv_iload_n hx hb dX2_slotsWaited_25 rfl (lv_at hl 1 rfl) ?_
  obtain ⟨h_26, hf⟩ := ho_g hf
  refine va_iald (n := 5) (f := (v_t.2 0)) hx hb hK hP 1 0 rfl rfl h_26 dX2_slotsWaited_26 ?_
  refine lv_isub hx hb dX2_slotsWaited_27 ?_
  obtain rfl := Option.some.inj hf
  exact W.iret (v := (s0 - ((v_t.2 0) (Int32.toNatClampNeg x1)))) hx hb hr (fun t ht hW => ⟨_, rfl, rfl, ht⟩) (fun q hq => by cases hq) dX2_slotsWaited_28 hlocks
set_option maxHeartbeats 4000000 in
set_option maxRecDepth 100000 in
theorem c_X2_slotsWaited (l : Launch) (dC : Nat → ClassId) (dI : Nat → Nat → Nat) (cI cII : ClassId) (o_t : Nat) (a_t : Nat → Nat) (v_t : obV) (x1 : Int32) (r : Int32) (hf : f_X2_slotsWaited  v_t x1 = some r) :
    Met l yX2_slotsWaited (wd yX2_slotsWaited cX2_slotsWaited 2 (some .int)) ({ frames := 0, cells := 0, slots := 0, locals := 0 } : Room) (va_Pc [.ref o_t, .int x1] (pB (dC, dI) vwCl (wX2 o_t a_t cI v_t) (hTY cI cII))) (vp_Si (fun z => r = z)) 0 0 (fun _ => False) := by
  refine Met.ofW (cc := cX2_slotsWaited) (maxL := 2) (ret := (some .int)) (by decide) rfl ?_
  intro p e s m args below meth c s₁ B hml hv
  obtain ⟨rfl, hP, hK, hN⟩ := hv
  have hx := B.exec
  have hb := B.bytes
  have hr := B.returns
  have hts := atoms_spec (ws := (wd yX2_slotsWaited cX2_slotsWaited 2 (some .int))) B.pre
  have hown : s.vm.findClass RX2 = some m.cls := findClass_of_methodNamed B.named
  have hlocks := B.notSynchronized
  have hl := lv_entry ([.ref o_t, .int x1]) (n := 2) (Nat.le_of_ble_eq_true rfl)
  rw [lg_entry_eq]
  generalize (lg_sl ([.ref o_t, .int x1]) ++ List.replicate (2 - (lg_sl ([.ref o_t, .int x1])).length) Slot.unset).toArray = ls at hl ⊢
  have hl : lv_has ls 2 [(0, .ref o_t), (1, .int x1)] := hl
  unfold f_X2_slotsWaited at hf
  refine lv_aload_n hx hb dX2_slotsWaited_0 rfl (lv_at hl 0 rfl) ?_
  refine va_get (D := (dC, dI)) (ci := 2) (v := .ref (a_t 1)) (C := RX2) (T := TX2) (N := 8) hx hb hts hw_X2 hown hK hP 0 rfl rfl 1 (by decide) (hts _ (List.mem_cons_of_mem _ mw_158)) (fun _ h9 => h9) rfl dX2_slotsWaited_1 ?_
  refine lv_iload_n hx hb dX2_slotsWaited_4 rfl (lv_at hl 1 rfl) ?_
  obtain ⟨h_5, hf⟩ := ho_g hf
  refine va_iald (n := 5) (f := (v_t.2 1)) hx hb hK hP 2 0 rfl rfl h_5 dX2_slotsWaited_5 ?_
  refine lv_iconst (v := (-1)) hx hb dX2_slotsWaited_6 (by decide) ?_
  refine lv_icmp_ne (tgt := 15) hx hb dX2_slotsWaited_7 (by decide) (fun c_7 => ?_) (fun c_7 => ?_)
  · have hf := ho_f hf c_7
    refine lv_aload_n hx hb dX2_slotsWaited_15 rfl (lv_at hl 0 rfl) ?_
    refine va_get (D := (dC, dI)) (ci := 2) (v := .ref (a_t 1)) (C := RX2) (T := TX2) (N := 8) hx hb hts hw_X2 hown hK hP 0 rfl rfl 1 (by decide) (hts _ (List.mem_cons_of_mem _ mw_158)) (fun _ h9 => h9) rfl dX2_slotsWaited_16 ?_
    refine lv_iload_n hx hb dX2_slotsWaited_19 rfl (lv_at hl 1 rfl) ?_
    obtain ⟨h_20, hf⟩ := ho_g hf
    refine va_iald (n := 5) (f := (v_t.2 1)) hx hb hK hP 2 0 rfl rfl h_20 dX2_slotsWaited_20 ?_
    exact w_X2_slotsWaited_b21 ⟨hx, hb, hml, hown, hts, hr, hlocks, hK, hN⟩  hP hf (lv_sub hl [0, 1] rfl)
  · have hf := ho_t hf c_7
    refine lv_bipush (v := 20) hx hb dX2_slotsWaited_10 (by decide) ?_
    refine lv_goto (tgt := 21) hx hb dX2_slotsWaited_12 (by decide) ?_
    exact w_X2_slotsWaited_b21 ⟨hx, hb, hml, hown, hts, hr, hlocks, hK, hN⟩  hP hf (lv_sub hl [0, 1] rfl)
set_option maxHeartbeats 4000000 in
set_option maxRecDepth 100000 in
theorem c_X2_received (l : Launch) (dC : Nat → ClassId) (dI : Nat → Nat → Nat) (cI cII : ClassId) (o_t : Nat) (a_t : Nat → Nat) (v_t : obV)  (r : Int32) (hf : f_X2_received  v_t  = some r) :
    Met l yX2_received (wd yX2_received cX2_received 1 (some .int)) ({ frames := 1, cells := 0, slots := 0, locals := 23 } : Room) (va_Pc [.ref o_t] (pB (dC, dI) vwCl (wX2 o_t a_t cI v_t) (hTY cI cII))) (vp_Si (fun z => r = z)) 0 0 (fun _ => False) := by
  refine Met.ofW (cc := cX2_received) (maxL := 1) (ret := (some .int)) (by decide) rfl ?_
  intro p e s m args below meth c s₁ B hml hv
  obtain ⟨rfl, hP, hK, hN⟩ := hv
  have hx := B.exec
  have hb := B.bytes
  have hr := B.returns
  have hts := atoms_spec (ws := (wd yX2_received cX2_received 1 (some .int))) B.pre
  have hown : s.vm.findClass RX2 = some m.cls := findClass_of_methodNamed B.named
  have hlocks := B.notSynchronized
  have hl := lv_entry ([.ref o_t]) (n := 1) (Nat.le_of_ble_eq_true rfl)
  rw [lg_entry_eq]
  generalize (lg_sl ([.ref o_t]) ++ List.replicate (1 - (lg_sl ([.ref o_t])).length) Slot.unset).toArray = ls at hl ⊢
  have hl : lv_has ls 1 [(0, .ref o_t)] := hl
  unfold f_X2_received at hf
  refine lv_aload_n hx hb dX2_received_0 rfl (lv_at hl 0 rfl) ?_
  refine va_get (D := (dC, dI)) (ci := 2) (v := .int (v_t.1 4)) (C := RX2) (T := TX2) (N := 8) hx hb hts hw_X2 hown hK hP 0 rfl rfl 4 (by decide) (hts _ (List.mem_cons_of_mem _ mw_165)) (fun _ h9 => h9) rfl dX2_received_1 ?_
  refine lv_aload_n hx hb dX2_received_4 rfl (lv_at hl 0 rfl) ?_
  refine lv_bipush (v := 19) hx hb dX2_received_5 (by decide) ?_
  obtain ⟨u_7, e_7, hf⟩ := ho_b hf
  refine vp_callSi (va_runV (As := [.int 19]) (rest := [.int (v_t.1 4)]) ⟨hx, hb, hml, hown, hts⟩ (c_X2_notReceivedBy l dC dI cI cII o_t a_t v_t (19) u_7 e_7) (cwV 1 hts (hw_giV mw_376 mw_378 mw_5 mw_57 mw_379) rfl rfl rfl (by decide +kernel) ⟨Nat.le_of_ble_eq_true rfl, Nat.le_of_ble_eq_true rfl⟩) ⟨pB_blind, va_recv hK hP (ci := 2) (q0 := 0) rfl rfl, fun U hU hW => ⟨rfl, pB_go hP hK hN hU hW⟩⟩ rfl rfl hl.1 rfl (lv_room (Nat.le_of_ble_eq_true rfl)) dX2_received_7 ⟨Nat.zero_le _, Nat.zero_le _⟩).run (fun z_7 ez_7 => ?_)
  subst ez_7
  refine lv_isub hx hb dX2_received_10 ?_
  obtain rfl := Option.some.inj hf
  exact W.iret (v := ((v_t.1 4) - u_7)) hx hb hr (fun t ht hW => ⟨_, rfl, rfl, ht⟩) (fun q hq => by cases hq) dX2_received_11 hlocks
set_option maxHeartbeats 4000000 in
set_option maxRecDepth 100000 in
theorem c_X2_helped (l : Launch) (dC : Nat → ClassId) (dI : Nat → Nat → Nat) (cI cII : ClassId) (o_t : Nat) (a_t : Nat → Nat) (v_t : obV)  (r : Int32) (hf : f_X2_helped  v_t  = some r) :
    Met l yX2_helped (wd yX2_helped cX2_helped 1 (some .int)) ({ frames := 1, cells := 0, slots := 0, locals := 20 } : Room) (va_Pc [.ref o_t] (pB (dC, dI) vwCl (wX2 o_t a_t cI v_t) (hTY cI cII))) (vp_Si (fun z => r = z)) 0 0 (fun _ => False) := by
  refine Met.ofW (cc := cX2_helped) (maxL := 1) (ret := (some .int)) (by decide) rfl ?_
  intro p e s m args below meth c s₁ B hml hv
  obtain ⟨rfl, hP, hK, hN⟩ := hv
  have hx := B.exec
  have hb := B.bytes
  have hr := B.returns
  have hts := atoms_spec (ws := (wd yX2_helped cX2_helped 1 (some .int))) B.pre
  have hown : s.vm.findClass RX2 = some m.cls := findClass_of_methodNamed B.named
  have hlocks := B.notSynchronized
  have hl := lv_entry ([.ref o_t]) (n := 1) (Nat.le_of_ble_eq_true rfl)
  rw [lg_entry_eq]
  generalize (lg_sl ([.ref o_t]) ++ List.replicate (1 - (lg_sl ([.ref o_t])).length) Slot.unset).toArray = ls at hl ⊢
  have hl : lv_has ls 1 [(0, .ref o_t)] := hl
  unfold f_X2_helped at hf
  refine lv_aload_n hx hb dX2_helped_0 rfl (lv_at hl 0 rfl) ?_
  refine va_get (D := (dC, dI)) (ci := 2) (v := .int (v_t.1 6)) (C := RX2) (T := TX2) (N := 8) hx hb hts hw_X2 hown hK hP 0 rfl rfl 6 (by decide) (hts _ (List.mem_cons_of_mem _ mw_168)) (fun _ h9 => h9) rfl dX2_helped_1 ?_
  obtain ⟨u_4, e_4, hf⟩ := ho_b hf
  have hPc := hP.sub (ws' := ([] : va_W)) [] rfl
  refine vp_callSi (va_runS (As := [.int (v_t.1 6)]) (rest := []) ⟨hx, hb, hml, hown, hts⟩ (c_J6_bitCount_0f7a4 l dC dI cI cII ((v_t.1 6)) u_4 e_4) (va_cwS 1 hts (hw_giS mw_455 mw_456 mw_63 mw_457) rfl rfl rfl (by decide +kernel) ⟨Nat.le_of_ble_eq_true rfl, Nat.le_of_ble_eq_true rfl⟩) ⟨pB_blind, fun U hU hW => ⟨rfl, pB_go hPc hK hN hU hW⟩⟩ rfl rfl hl.1 rfl (lv_room (Nat.le_of_ble_eq_true rfl)) dX2_helped_4 ⟨Nat.zero_le _, Nat.zero_le _⟩).run (fun z_4 ez_4 => ?_)
  subst ez_4
  obtain rfl := Option.some.inj hf
  exact W.iret (v := u_4) hx hb hr (fun t ht hW => ⟨_, rfl, rfl, ht⟩) (fun q hq => by cases hq) dX2_helped_7 hlocks
set_option maxHeartbeats 4000000 in
set_option maxRecDepth 100000 in
theorem w_X2_meetings_l4 {p : Program} {l : Launch} {e : Env} {s : State} {m : MethodId} {args : Array Value} {below : List Frame} {meth : Method} {c : Code} {dC : Nat → ClassId} {dI : Nat → Nat → Nat} {cI cII : ClassId} {o_t : Nat} {a_t : Nat → Nat} (C0 : hC p s m args meth c dC dI cI cII RX2 cX2_meetings 3 (wd yX2_meetings cX2_meetings 3 (some .int)) (some .int))  {v_t : obV}   (hP : va_P (dC, dI) vwCl (wX2 o_t a_t cI v_t) s.heap) :
    ∀ (n : Nat) (y : Int32 × Int32) (r : Int32), f_X2_meetings_l4  v_t  n y = some r → ∀ (ls : Array Slot), lv_has ls 3 [(0, .ref o_t), (1, .int y.1), (2, .int y.2)] → W p l e ({ frames := 0, cells := 0, slots := 0, locals := 0 } : Room) s m args below meth c s.heap [] 0 0 (MQ below (vp_Si (fun z => r = z)) args s 0 0 (fun _ => False)) (F0 m 4 ls []) := by
  obtain ⟨hx, hb, hml, hown, hts, hr, hlocks, hK, hN⟩ := C0
  refine lp_W ?_
  intro k4 ih4 y r hf ls hl
  obtain ⟨x1, x2⟩ := y
  have hf : f_X2_meetings_b4  v_t x1 x2  k4 = some r := hf
  have hl : lv_has ls 3 [(0, .ref o_t), (1, .int x1), (2, .int x2)] := hl
  unfold f_X2_meetings_b4 at hf
  refine lv_iload_n hx hb dX2_meetings_4 rfl (lv_at hl 2 rfl) ?_
  refine lv_bipush (v := 20) hx hb dX2_meetings_5 (by decide) ?_
  refine lv_icmp_ge (tgt := 36) hx hb dX2_meetings_7 (by decide) (fun c_7 => ?_) (fun c_7 => ?_)
  · have hf := ho_t hf c_7
    refine lv_iload_n hx hb dX2_meetings_36 rfl (lv_at hl 1 rfl) ?_
    obtain rfl := Option.some.inj hf
    exact W.iret (v := x1) hx hb hr (fun t ht hW => ⟨_, rfl, rfl, ht⟩) (fun q hq => by cases hq) dX2_meetings_37 hlocks
  · have hf := ho_f hf c_7
    refine lv_iload_n hx hb dX2_meetings_10 rfl (lv_at hl 1 rfl) ?_
    refine lv_aload_n hx hb dX2_meetings_11 rfl (lv_at hl 0 rfl) ?_
    refine va_get (D := (dC, dI)) (ci := 2) (v := .ref (a_t 3)) (C := RX2) (T := TX2) (N := 8) hx hb hts hw_X2 hown hK hP 0 rfl rfl 3 (by decide) (hts _ (List.mem_cons_of_mem _ mw_162)) (fun _ h9 => h9) rfl dX2_meetings_12 ?_
    refine lv_iload_n hx hb dX2_meetings_15 rfl (lv_at hl 2 rfl) ?_
    obtain ⟨h_16, hf⟩ := ho_g hf
    refine va_iald (n := 20) (f := (v_t.2 3)) hx hb hK hP 4 0 rfl rfl h_16 dX2_meetings_16 ?_
    refine lv_aload_n hx hb dX2_meetings_17 rfl (lv_at hl 0 rfl) ?_
    refine va_get (D := (dC, dI)) (ci := 2) (v := .ref (a_t 3)) (C := RX2) (T := TX2) (N := 8) hx hb hts hw_X2 hown hK hP 0 rfl rfl 3 (by decide) (hts _ (List.mem_cons_of_mem _ mw_162)) (fun _ h9 => h9) rfl dX2_meetings_18 ?_
    refine lv_iload_n hx hb dX2_meetings_21 rfl (lv_at hl 2 rfl) ?_
    obtain ⟨h_22, hf⟩ := ho_g hf
    refine va_iald (n := 20) (f := (v_t.2 3)) hx hb hK hP 4 0 rfl rfl h_22 dX2_meetings_22 ?_
    refine lv_iconst (v := 1) hx hb dX2_meetings_23 (by decide) ?_
    refine lv_isub hx hb dX2_meetings_24 ?_
    refine lv_imul hx hb dX2_meetings_25 ?_
    refine lv_iconst (v := 2) hx hb dX2_meetings_26 (by decide) ?_
    refine lv_idiv hx hb dX2_meetings_27 (by decide) ?_
    refine lv_iadd hx hb dX2_meetings_28 ?_
    refine lv_topi (fun z_29 e_29 => ?_)
    have hf := ho_l hf z_29 e_29
    refine lv_istore_n (lv' := [(1, .int z_29), (0, .ref o_t), (2, .int x2)]) hx hb dX2_meetings_29 rfl hl (by decide) rfl (fun ls hl => ?_)
    refine lv_iinc (v := (x2 + 1)) (lv' := [(2, .int (x2 + 1)), (1, .int z_29), (0, .ref o_t)]) hx hb dX2_meetings_30 hl (k := 2) rfl (hp_inc (by decide)) (by decide) rfl (fun ls hl => ?_)
    refine lv_goto (tgt := 4) hx hb dX2_meetings_33 (by decide) ?_
    exact ih4 (z_29, (x2 + 1)) _ hf _ (lv_sub hl [2, 1, 0] rfl)
set_option maxHeartbeats 4000000 in
set_option maxRecDepth 100000 in
theorem c_X2_meetings (l : Launch) (dC : Nat → ClassId) (dI : Nat → Nat → Nat) (cI cII : ClassId) (o_t : Nat) (a_t : Nat → Nat) (v_t : obV)  (r : Int32) (hf : f_X2_meetings  v_t  = some r) :
    Met l yX2_meetings (wd yX2_meetings cX2_meetings 3 (some .int)) ({ frames := 0, cells := 0, slots := 0, locals := 0 } : Room) (va_Pc [.ref o_t] (pB (dC, dI) vwCl (wX2 o_t a_t cI v_t) (hTY cI cII))) (vp_Si (fun z => r = z)) 0 0 (fun _ => False) := by
  refine Met.ofW (cc := cX2_meetings) (maxL := 3) (ret := (some .int)) (by decide) rfl ?_
  intro p e s m args below meth c s₁ B hml hv
  obtain ⟨rfl, hP, hK, hN⟩ := hv
  have hx := B.exec
  have hb := B.bytes
  have hr := B.returns
  have hts := atoms_spec (ws := (wd yX2_meetings cX2_meetings 3 (some .int))) B.pre
  have hown : s.vm.findClass RX2 = some m.cls := findClass_of_methodNamed B.named
  have hlocks := B.notSynchronized
  have hl := lv_entry ([.ref o_t]) (n := 3) (Nat.le_of_ble_eq_true rfl)
  rw [lg_entry_eq]
  generalize (lg_sl ([.ref o_t]) ++ List.replicate (3 - (lg_sl ([.ref o_t])).length) Slot.unset).toArray = ls at hl ⊢
  have hl : lv_has ls 3 [(0, .ref o_t)] := hl
  unfold f_X2_meetings at hf
  refine lv_iconst (v := 0) hx hb dX2_meetings_0 (by decide) ?_
  refine lv_istore_n (lv' := [(1, .int 0), (0, .ref o_t)]) hx hb dX2_meetings_1 rfl hl (by decide) rfl (fun ls hl => ?_)
  refine lv_iconst (v := 0) hx hb dX2_meetings_2 (by decide) ?_
  refine lv_istore_n (lv' := [(2, .int 0), (1, .int 0), (0, .ref o_t)]) hx hb dX2_meetings_3 rfl hl (by decide) rfl (fun ls hl => ?_)
  exact w_X2_meetings_l4 ⟨hx, hb, hml, hown, hts, hr, hlocks, hK, hN⟩  hP _ _ _ hf _ (lv_sub hl [2, 1, 0] rfl)
set_option maxHeartbeats 4000000 in
set_option maxRecDepth 100000 in
theorem c_X3_write (l : Launch) (dC : Nat → ClassId) (dI : Nat → Nat → Nat) (cI cII : ClassId) (o_t : Nat) (a_t : Nat → Nat) (v_t : obV) (x1 : Int32) (sz : Nat) (r : obV) (hf : f_X3_write  v_t x1 = some r) :
    Met l yX3_write (wd yX3_write cX3_write 2 none) ({ frames := 0, cells := 0, slots := 0, locals := 0 } : Room) (va_Pc [.ref o_t, .int x1] (qB (dC, dI) vwCl (wX3 o_t a_t cI v_t) (hTY cI cII) sz)) (va_Qv (fun (_ : Unit) => True) (fun _ t => va_P (dC, dI) vwCl (wX3 o_t a_t cI r) t.heap ∧ va_D (va_A (wX3 o_t a_t cI v_t) sz) (wX3 o_t a_t cI r)) (va_A (wX3 o_t a_t cI v_t) sz)) 0 0 (va_A (wX3 o_t a_t cI v_t) sz) := by
  refine Met.ofW (cc := cX3_write) (maxL := 2) (ret := none) (by decide) rfl ?_
  intro p e s m args below meth c s₁ B hml hv
  obtain ⟨rfl, hsz, hD0, hP, hK, hN⟩ := hv
  have hx := B.exec
  have hb := B.bytes
  have hr := B.returns
  have hts := atoms_spec (ws := (wd yX3_write cX3_write 2 none)) B.pre
  have hown : s.vm.findClass RX3 = some m.cls := findClass_of_methodNamed B.named
  have hlocks := B.notSynchronized
  subst hsz
  have hD := hD0.self (sz := s.heap.size)
  generalize hAe : va_A (wX3 o_t a_t cI v_t) s.heap.size = A at hD ⊢
  have hA : ∀ q : Nat, s.heap.size ≤ q → A q := fun q h => by rw [← hAe]; exact Or.inr h
  have hS : va_S A s.heap s.heap [] := va_S.rf
  have hl := lv_entry ([.ref o_t, .int x1]) (n := 2) (Nat.le_of_ble_eq_true rfl)
  rw [lg_entry_eq]
  generalize (lg_sl ([.ref o_t, .int x1]) ++ List.replicate (2 - (lg_sl ([.ref o_t, .int x1])).length) Slot.unset).toArray = ls at hl ⊢
  have hl : lv_has ls 2 [(0, .ref o_t), (1, .int x1)] := hl
  clear hAe hD0
  unfold f_X3_write at hf
  refine lv_aload_n hx hb dX3_write_0 rfl (lv_at hl 0 rfl) ?_
  refine va_get (D := (dC, dI)) (ci := 3) (v := .int (v_t.1 1)) (C := RX3) (T := TX3) (N := 2) hx hb hts hw_X3 hown hK hP 0 rfl rfl 1 (by decide) (hts _ (List.mem_cons_of_mem _ mw_81)) (fun _ h9 => h9) rfl dX3_write_1 ?_
  refine lv_bipush (v := 24) hx hb dX3_write_4 (by decide) ?_
  refine lv_icmp_ge (tgt := 29) hx hb dX3_write_6 (by decide) (fun c_6 => ?_) (fun c_6 => ?_)
  · have hf := ho_t hf c_6
    obtain rfl := Option.some.inj hf
    exact W.vret hx hb hr (fun t ht hW => ⟨⟨(), rfl, trivial, by rw [ht]; exact hP, hD⟩, hS.F ht⟩) hS.2.2 dX3_write_29 hlocks
  · have hf := ho_f hf c_6
    refine lv_aload_n hx hb dX3_write_9 rfl (lv_at hl 0 rfl) ?_
    refine va_get (D := (dC, dI)) (ci := 3) (v := .ref (a_t 0)) (C := RX3) (T := TX3) (N := 2) hx hb hts hw_X3 hown hK hP 0 rfl rfl 0 (by decide) (hts _ (List.mem_cons_of_mem _ mw_78)) (fun _ h9 => h9) rfl dX3_write_10 ?_
    refine lv_aload_n hx hb dX3_write_13 rfl (lv_at hl 0 rfl) ?_
    refine va_get (D := (dC, dI)) (ci := 3) (v := .int (v_t.1 1)) (C := RX3) (T := TX3) (N := 2) hx hb hts hw_X3 hown hK hP 0 rfl rfl 1 (by decide) (hts _ (List.mem_cons_of_mem _ mw_81)) (fun _ h9 => h9) rfl dX3_write_14 ?_
    refine lv_iload_n hx hb dX3_write_17 rfl (lv_at hl 1 rfl) ?_
    obtain ⟨h_18, hf⟩ := ho_g hf
    refine va_iast (n := 24) (f := (v_t.2 0)) hx hb hK hP hD hS 1 0 rfl rfl h_18 dX3_write_18 (fun H locs hP hD hS => ?_)
    have hP : va_P (dC, dI) vwCl (wX3 o_t a_t cI (oA v_t 0 (Int32.toNatClampNeg (v_t.1 1)) x1)) H := hP
    have hD : va_D A (wX3 o_t a_t cI (oA v_t 0 (Int32.toNatClampNeg (v_t.1 1)) x1)) := hD
    obtain ⟨v_t_18, e_v_t_18⟩ : ∃ z : obV, z = (oA v_t 0 (Int32.toNatClampNeg (v_t.1 1)) x1) := ⟨_, rfl⟩
    rw [← e_v_t_18] at hP hD
    have hf := ho_l hf v_t_18 e_v_t_18
    refine lv_aload_n hx hb dX3_write_19 rfl (lv_at hl 0 rfl) ?_
    refine lv_dup hx hb dX3_write_20 rfl ?_
    refine va_get (D := (dC, dI)) (ci := 3) (v := .int (v_t_18.1 1)) (C := RX3) (T := TX3) (N := 2) hx hb hts hw_X3 hown hK hP 0 rfl rfl 1 (by decide) (hts _ (List.mem_cons_of_mem _ mw_81)) (fun _ h9 => h9) rfl dX3_write_21 ?_
    refine lv_iconst (v := 1) hx hb dX3_write_24 (by decide) ?_
    refine lv_iadd hx hb dX3_write_25 ?_
    refine va_put (D := (dC, dI)) (ci := 3) (v := .int ((v_t_18.1 1) + 1)) (ty := .int) (C := RX3) (T := TX3) (N := 2) hx hb hts hw_X3 tyX3 tyX3_ok nmX3 hown hK hP hD hS 0 rfl rfl 1 (by decide) (hts _ (List.mem_cons_of_mem _ mw_81)) (fun _ h9 => h9) rfl (by decide +kernel) rfl rfl (Nat.le_of_ble_eq_true rfl) dX3_write_26 (fun H locs hP hD hS => ?_)
    have hP : va_P (dC, dI) vwCl (wX3 o_t a_t cI (oF v_t_18 1 ((v_t_18.1 1) + 1))) H := hP
    have hD : va_D A (wX3 o_t a_t cI (oF v_t_18 1 ((v_t_18.1 1) + 1))) := hD
    obtain ⟨v_t_26, e_v_t_26⟩ : ∃ z : obV, z = (oF v_t_18 1 ((v_t_18.1 1) + 1)) := ⟨_, rfl⟩
    rw [← e_v_t_26] at hP hD
    have hf := ho_l hf v_t_26 e_v_t_26
    obtain rfl := Option.some.inj hf
    exact W.vret hx hb hr (fun t ht hW => ⟨⟨(), rfl, trivial, by rw [ht]; exact hP, hD⟩, hS.F ht⟩) hS.2.2 dX3_write_29 hlocks
set_option maxHeartbeats 4000000 in
set_option maxRecDepth 100000 in
theorem c_X6_isWithin (l : Launch) (dC : Nat → ClassId) (dI : Nat → Nat → Nat) (cI cII : ClassId)   (x0 : Int32) (x1 : Int32) (x2 : Int32) (r : Int32) (hf : f_X6_isWithin   x0 x1 x2 = some r) :
    Met l yX6_isWithin (wd yX6_isWithin cX6_isWithin 3 (some .boolean)) ({ frames := 0, cells := 0, slots := 0, locals := 0 } : Room) (va_Pc [.int x0, .int x1, .int x2] (pB (dC, dI) vwCl ([] : va_W) (hTY cI cII))) (vp_Si (fun z => r = z)) 0 0 (fun _ => False) := by
  refine Met.ofW (cc := cX6_isWithin) (maxL := 3) (ret := (some .boolean)) (by decide) rfl ?_
  intro p e s m args below meth c s₁ B hml hv
  obtain ⟨rfl, hP, hK, hN⟩ := hv
  have hx := B.exec
  have hb := B.bytes
  have hr := B.returns
  have hts := atoms_spec (ws := (wd yX6_isWithin cX6_isWithin 3 (some .boolean))) B.pre
  have hown : s.vm.findClass RX6 = some m.cls := findClass_of_methodNamed B.named
  have hlocks := B.notSynchronized
  have hl := lv_entry ([.int x0, .int x1, .int x2]) (n := 3) (Nat.le_of_ble_eq_true rfl)
  rw [lg_entry_eq]
  generalize (lg_sl ([.int x0, .int x1, .int x2]) ++ List.replicate (3 - (lg_sl ([.int x0, .int x1, .int x2])).length) Slot.unset).toArray = ls at hl ⊢
  have hl : lv_has ls 3 [(0, .int x0), (1, .int x1), (2, .int x2)] := hl
  unfold f_X6_isWithin at hf
  refine lv_iload_n hx hb dX6_isWithin_0 rfl (lv_at hl 0 rfl) ?_
  refine lv_iload_n hx hb dX6_isWithin_1 rfl (lv_at hl 1 rfl) ?_
  refine lv_icmp_lt (tgt := 14) hx hb dX6_isWithin_2 (by decide) (fun c_2 => ?_) (fun c_2 => ?_)
  · have hf := ho_t hf c_2
    refine lv_iconst (v := 0) hx hb dX6_isWithin_14 (by decide) ?_
    obtain rfl := Option.some.inj hf
    exact W.zret (v := 0) hx hb hr (by decide) (fun t ht hW => ⟨_, rfl, rfl, ht⟩) (fun q hq => by cases hq) dX6_isWithin_15 hlocks
  · have hf := ho_f hf c_2
    refine lv_iload_n hx hb dX6_isWithin_5 rfl (lv_at hl 0 rfl) ?_
    refine lv_iload_n hx hb dX6_isWithin_6 rfl (lv_at hl 2 rfl) ?_
    refine lv_icmp_gt (tgt := 14) hx hb dX6_isWithin_7 (by decide) (fun c_7 => ?_) (fun c_7 => ?_)
    · have hf := ho_t hf c_7
      refine lv_iconst (v := 0) hx hb dX6_isWithin_14 (by decide) ?_
      obtain rfl := Option.some.inj hf
      exact W.zret (v := 0) hx hb hr (by decide) (fun t ht hW => ⟨_, rfl, rfl, ht⟩) (fun q hq => by cases hq) dX6_isWithin_15 hlocks
    · have hf := ho_f hf c_7
      refine lv_iconst (v := 1) hx hb dX6_isWithin_10 (by decide) ?_
      refine lv_goto (tgt := 15) hx hb dX6_isWithin_11 (by decide) ?_
      obtain rfl := Option.some.inj hf
      exact W.zret (v := 1) hx hb hr (by decide) (fun t ht hW => ⟨_, rfl, rfl, ht⟩) (fun q hq => by cases hq) dX6_isWithin_15 hlocks
set_option maxHeartbeats 4000000 in
set_option maxRecDepth 100000 in
theorem w_X3_isRightBehind_b11 {p : Program} {l : Launch} {e : Env} {s : State} {m : MethodId} {args : Array Value} {below : List Frame} {meth : Method} {c : Code} {dC : Nat → ClassId} {dI : Nat → Nat → Nat} {cI cII : ClassId}  (C0 : hC p s m args meth c dC dI cI cII RX3 cX3_isRightBehind 2 (wd yX3_isRightBehind cX3_isRightBehind 2 (some .boolean)) (some .boolean))  {x0 : Int32} {x1 : Int32}   (hP : va_P (dC, dI) vwCl ([] : va_W) s.heap) {r : Int32} (hf : f_X3_isRightBehind_b11  x0 x1  = some r) {ls : Array Slot} (hl : lv_has ls 2 [(0, .int x0), (1, .int x1)]) :
    W p l e ({ frames := 0, cells := 0, slots := 0, locals := 0 } : Room) s m args below meth c s.heap [] 0 0 (MQ below (vp_Si (fun z => r = z)) args s 0 0 (fun _ => False)) (F0 m 11 ls []) := by
  obtain ⟨hx, hb, hml, hown, hts, hr, hlocks, hK, hN⟩ := C0
  unfold f_X3_isRightBehind_b11 at hf
  refine lv_iload_n hx hb dX3_isRightBehind_11 rfl (lv_at hl 1 rfl) ?_
  refine lv_bipush (v := 59) hx hb dX3_isRightBehind_12 (by decide) ?_
  refine lv_icmp_ne (tgt := 26) hx hb dX3_isRightBehind_14 (by decide) (fun c_14 => ?_) (fun c_14 => ?_)
  · have hf := ho_f hf c_14
    refine lv_iconst (v := 0) hx hb dX3_isRightBehind_26 (by decide) ?_
    obtain rfl := Option.some.inj hf
    exact W.zret (v := 0) hx hb hr (by decide) (fun t ht hW => ⟨_, rfl, rfl, ht⟩) (fun q hq => by cases hq) dX3_isRightBehind_27 hlocks
  · have hf := ho_t hf c_14
    refine lv_iload_n hx hb dX3_isRightBehind_17 rfl (lv_at hl 0 rfl) ?_
    refine lv_iconst (v := 2) hx hb dX3_isRightBehind_18 (by decide) ?_
    refine lv_icmp_lt (tgt := 26) hx hb dX3_isRightBehind_19 (by decide) (fun c_19 => ?_) (fun c_19 => ?_)
    · have hf := ho_t hf c_19
      refine lv_iconst (v := 0) hx hb dX3_isRightBehind_26 (by decide) ?_
      obtain rfl := Option.some.inj hf
      exact W.zret (v := 0) hx hb hr (by decide) (fun t ht hW => ⟨_, rfl, rfl, ht⟩) (fun q hq => by cases hq) dX3_isRightBehind_27 hlocks
    · have hf := ho_f hf c_19
      refine lv_iconst (v := 1) hx hb dX3_isRightBehind_22 (by decide) ?_
      refine lv_goto (tgt := 27) hx hb dX3_isRightBehind_23 (by decide) ?_
      obtain rfl := Option.some.inj hf
      exact W.zret (v := 1) hx hb hr (by decide) (fun t ht hW => ⟨_, rfl, rfl, ht⟩) (fun q hq => by cases hq) dX3_isRightBehind_27 hlocks
set_option maxHeartbeats 4000000 in
set_option maxRecDepth 100000 in
theorem c_X3_isRightBehind (l : Launch) (dC : Nat → ClassId) (dI : Nat → Nat → Nat) (cI cII : ClassId)   (x0 : Int32) (x1 : Int32) (r : Int32) (hf : f_X3_isRightBehind   x0 x1 = some r) :
    Met l yX3_isRightBehind (wd yX3_isRightBehind cX3_isRightBehind 2 (some .boolean)) ({ frames := 0, cells := 0, slots := 0, locals := 0 } : Room) (va_Pc [.int x0, .int x1] (pB (dC, dI) vwCl ([] : va_W) (hTY cI cII))) (vp_Si (fun z => r = z)) 0 0 (fun _ => False) := by
  refine Met.ofW (cc := cX3_isRightBehind) (maxL := 2) (ret := (some .boolean)) (by decide) rfl ?_
  intro p e s m args below meth c s₁ B hml hv
  obtain ⟨rfl, hP, hK, hN⟩ := hv
  have hx := B.exec
  have hb := B.bytes
  have hr := B.returns
  have hts := atoms_spec (ws := (wd yX3_isRightBehind cX3_isRightBehind 2 (some .boolean))) B.pre
  have hown : s.vm.findClass RX3 = some m.cls := findClass_of_methodNamed B.named
  have hlocks := B.notSynchronized
  have hl := lv_entry ([.int x0, .int x1]) (n := 2) (Nat.le_of_ble_eq_true rfl)
  rw [lg_entry_eq]
  generalize (lg_sl ([.int x0, .int x1]) ++ List.replicate (2 - (lg_sl ([.int x0, .int x1])).length) Slot.unset).toArray = ls at hl ⊢
  have hl : lv_has ls 2 [(0, .int x0), (1, .int x1)] := hl
  unfold f_X3_isRightBehind at hf
  refine lv_iload_n hx hb dX3_isRightBehind_0 rfl (lv_at hl 1 rfl) ?_
  refine lv_bipush (v := 44) hx hb dX3_isRightBehind_1 (by decide) ?_
  refine lv_icmp_ne (tgt := 11) hx hb dX3_isRightBehind_3 (by decide) (fun c_3 => ?_) (fun c_3 => ?_)
  · have hf := ho_f hf c_3
    exact w_X3_isRightBehind_b11 ⟨hx, hb, hml, hown, hts, hr, hlocks, hK, hN⟩  hP hf (lv_sub hl [0, 1] rfl)
  · have hf := ho_t hf c_3
    refine lv_iload_n hx hb dX3_isRightBehind_6 rfl (lv_at hl 0 rfl) ?_
    refine lv_iconst (v := 5) hx hb dX3_isRightBehind_7 (by decide) ?_
    refine lv_icmp_lt (tgt := 22) hx hb dX3_isRightBehind_8 (by decide) (fun c_8 => ?_) (fun c_8 => ?_)
    · have hf := ho_t hf c_8
      refine lv_iconst (v := 1) hx hb dX3_isRightBehind_22 (by decide) ?_
      refine lv_goto (tgt := 27) hx hb dX3_isRightBehind_23 (by decide) ?_
      obtain rfl := Option.some.inj hf
      exact W.zret (v := 1) hx hb hr (by decide) (fun t ht hW => ⟨_, rfl, rfl, ht⟩) (fun q hq => by cases hq) dX3_isRightBehind_27 hlocks
    · have hf := ho_f hf c_8
      exact w_X3_isRightBehind_b11 ⟨hx, hb, hml, hown, hts, hr, hlocks, hK, hN⟩  hP hf (lv_sub hl [0, 1] rfl)
set_option maxHeartbeats 4000000 in
set_option maxRecDepth 100000 in
theorem c_X3_isRight (l : Launch) (dC : Nat → ClassId) (dI : Nat → Nat → Nat) (cI cII : ClassId) (o_t : Nat) (a_t : Nat → Nat) (v_t : obV) (x1 : Int32) (x2 : Int32) (r : Int32) (hf : f_X3_isRight  v_t x1 x2 = some r) :
    Met l yX3_isRight (wd yX3_isRight cX3_isRight 3 (some .boolean)) ({ frames := 1, cells := 0, slots := 0, locals := 22 } : Room) (va_Pc [.ref o_t, .int x1, .int x2] (pB (dC, dI) vwCl (wX3 o_t a_t cI v_t) (hTY cI cII))) (vp_Si (fun z => r = z)) 0 0 (fun _ => False) := by
  refine Met.ofW (cc := cX3_isRight) (maxL := 3) (ret := (some .boolean)) (by decide) rfl ?_
  intro p e s m args below meth c s₁ B hml hv
  obtain ⟨rfl, hP, hK, hN⟩ := hv
  have hx := B.exec
  have hb := B.bytes
  have hr := B.returns
  have hts := atoms_spec (ws := (wd yX3_isRight cX3_isRight 3 (some .boolean))) B.pre
  have hown : s.vm.findClass RX3 = some m.cls := findClass_of_methodNamed B.named
  have hlocks := B.notSynchronized
  have hl := lv_entry ([.ref o_t, .int x1, .int x2]) (n := 3) (Nat.le_of_ble_eq_true rfl)
  rw [lg_entry_eq]
  generalize (lg_sl ([.ref o_t, .int x1, .int x2]) ++ List.replicate (3 - (lg_sl ([.ref o_t, .int x1, .int x2])).length) Slot.unset).toArray = ls at hl ⊢
  have hl : lv_has ls 3 [(0, .ref o_t), (1, .int x1), (2, .int x2)] := hl
  unfold f_X3_isRight at hf
  refine lv_iload_n hx hb dX3_isRight_0 rfl (lv_at hl 2 rfl) ?_
  refine lv_iconst (v := (-1)) hx hb dX3_isRight_1 (by decide) ?_
  refine lv_icmp_eq (tgt := 32) hx hb dX3_isRight_2 (by decide) (fun c_2 => ?_) (fun c_2 => ?_)
  · have hf := ho_t hf c_2
    refine lv_iload_n hx hb dX3_isRight_32 rfl (lv_at hl 1 rfl) ?_
    refine lv_iconst (v := 4) hx hb dX3_isRight_33 (by decide) ?_
    refine lv_irem hx hb dX3_isRight_34 (by decide) ?_
    by_cases c_35_0 : (x1 - x1 / 4 * 4) = 0
    · have hf := ho_t hf c_35_0
      refine lv_tableIn (tgt := 60) hx hb dX3_isRight_35 (by rw [c_35_0] <;> decide) (by rw [c_35_0] <;> decide) (by rw [c_35_0] <;> rfl) (by decide) ?_
      refine lv_aload_n hx hb dX3_isRight_60 rfl (lv_at hl 0 rfl) ?_
      refine va_get (D := (dC, dI)) (ci := 3) (v := .ref (a_t 0)) (C := RX3) (T := TX3) (N := 2) hx hb hts hw_X3 hown hK hP 0 rfl rfl 0 (by decide) (hts _ (List.mem_cons_of_mem _ mw_78)) (fun _ h9 => h9) rfl dX3_isRight_61 ?_
      refine lv_iload_n hx hb dX3_isRight_64 rfl (lv_at hl 1 rfl) ?_
      obtain ⟨h_65, hf⟩ := ho_g hf
      refine va_iald (n := 24) (f := (v_t.2 0)) hx hb hK hP 1 0 rfl rfl h_65 dX3_isRight_65 ?_
      obtain ⟨u_66, e_66, hf⟩ := ho_b hf
      have hPc := hP.sub (ws' := ([] : va_W)) [] rfl
      refine vp_callSi (va_runSN (As := [.int ((v_t.2 0) (Int32.toNatClampNeg x1))]) (rest := []) ⟨hx, hb, hml, hown, hts⟩ (c_X6_kindByLetter l dC dI cI cII (((v_t.2 0) (Int32.toNatClampNeg x1))) u_66 e_66) ⟨va_cnB 1 hts (hw_gi mw_292) rfl rfl rfl hN.2.1 (hts _ (List.mem_cons_of_mem _ mw_53)) (by decide +kernel) ⟨Nat.le_of_ble_eq_true rfl, Nat.le_of_ble_eq_true rfl⟩, (hts _ (List.mem_cons_of_mem _ mw_291)), trivial⟩ ⟨pB_blind, fun U hU hW => ⟨rfl, pB_go hPc hK hN hU hW⟩⟩ rfl rfl hl.1 rfl (lv_room (Nat.le_of_ble_eq_true rfl)) dX3_isRight_66 ⟨Nat.zero_le _, Nat.zero_le _⟩).run (fun z_66 ez_66 => ?_)
      subst ez_66
      refine lv_iconst (v := (-1)) hx hb dX3_isRight_69 (by decide) ?_
      refine lv_icmp_eq (tgt := 77) hx hb dX3_isRight_70 (by decide) (fun c_70 => ?_) (fun c_70 => ?_)
      · have hf := ho_t hf c_70
        refine lv_iconst (v := 0) hx hb dX3_isRight_77 (by decide) ?_
        obtain rfl := Option.some.inj hf
        exact W.zret (v := 0) hx hb hr (by decide) (fun t ht hW => ⟨_, rfl, rfl, ht⟩) (fun q hq => by cases hq) dX3_isRight_78 hlocks
      · have hf := ho_f hf c_70
        refine lv_iconst (v := 1) hx hb dX3_isRight_73 (by decide) ?_
        refine lv_goto (tgt := 78) hx hb dX3_isRight_74 (by decide) ?_
        obtain rfl := Option.some.inj hf
        exact W.zret (v := 1) hx hb hr (by decide) (fun t ht hW => ⟨_, rfl, rfl, ht⟩) (fun q hq => by cases hq) dX3_isRight_78 hlocks
    have hf := ho_f hf c_35_0
    by_cases c_35_1 : (x1 - x1 / 4 * 4) = 1
    · have hf := ho_t hf c_35_1
      refine lv_tableIn (tgt := 79) hx hb dX3_isRight_35 (by rw [c_35_1] <;> decide) (by rw [c_35_1] <;> decide) (by rw [c_35_1] <;> rfl) (by decide) ?_
      refine lv_aload_n hx hb dX3_isRight_79 rfl (lv_at hl 0 rfl) ?_
      refine lv_iload_n hx hb dX3_isRight_80 rfl (lv_at hl 1 rfl) ?_
      obtain ⟨u_81, e_81, hf⟩ := ho_b hf
      refine vp_callSi (va_runV (As := [.int x1]) (rest := []) ⟨hx, hb, hml, hown, hts⟩ (c_X3_digit l dC dI cI cII o_t a_t v_t (x1) u_81 e_81) (cwV 1 hts (hw_giV mw_285 mw_286 mw_287 mw_54 mw_288) rfl rfl rfl (by decide +kernel) ⟨Nat.le_of_ble_eq_true rfl, Nat.le_of_ble_eq_true rfl⟩) ⟨pB_blind, va_recv hK hP (ci := 3) (q0 := 0) rfl rfl, fun U hU hW => ⟨rfl, pB_go hP hK hN hU hW⟩⟩ rfl rfl hl.1 rfl (lv_room (Nat.le_of_ble_eq_true rfl)) dX3_isRight_81 ⟨Nat.zero_le _, Nat.zero_le _⟩).run (fun z_81 ez_81 => ?_)
      subst ez_81
      refine lv_iconst (v := 0) hx hb dX3_isRight_84 (by decide) ?_
      refine lv_iconst (v := 5) hx hb dX3_isRight_85 (by decide) ?_
      obtain ⟨u_86, e_86, hf⟩ := ho_b hf
      have hPc := hP.sub (ws' := ([] : va_W)) [] rfl
      refine vp_callSi (va_runSN (As := [.int u_81, .int 0, .int 5]) (rest := []) ⟨hx, hb, hml, hown, hts⟩ (c_X6_isWithin l dC dI cI cII (u_81) (0) (5) u_86 e_86) ⟨va_cnB 3 hts (hw_gi mw_264) rfl rfl rfl hN.1 (hts _ (List.mem_cons_of_mem _ mw_53)) (by decide +kernel) ⟨Nat.le_of_ble_eq_true rfl, Nat.le_of_ble_eq_true rfl⟩, (hts _ (List.mem_cons_of_mem _ mw_263)), trivial⟩ ⟨pB_blind, fun U hU hW => ⟨rfl, pB_go hPc hK hN hU hW⟩⟩ rfl rfl hl.1 rfl (lv_room (Nat.le_of_ble_eq_true rfl)) dX3_isRight_86 ⟨Nat.zero_le _, Nat.zero_le _⟩).run (fun z_86 ez_86 => ?_)
      subst ez_86
      obtain ⟨h_89, hf⟩ := ho_g hf
      obtain rfl := Option.some.inj hf
      exact W.zret (v := u_86) hx hb hr (hp_z h_89) (fun t ht hW => ⟨_, rfl, rfl, ht⟩) (fun q hq => by cases hq) dX3_isRight_89 hlocks
    have hf := ho_f hf c_35_1
    by_cases c_35_2 : (x1 - x1 / 4 * 4) = 2
    · have hf := ho_t hf c_35_2
      refine lv_tableIn (tgt := 90) hx hb dX3_isRight_35 (by rw [c_35_2] <;> decide) (by rw [c_35_2] <;> decide) (by rw [c_35_2] <;> rfl) (by decide) ?_
      refine lv_aload_n hx hb dX3_isRight_90 rfl (lv_at hl 0 rfl) ?_
      refine lv_iload_n hx hb dX3_isRight_91 rfl (lv_at hl 1 rfl) ?_
      obtain ⟨u_92, e_92, hf⟩ := ho_b hf
      refine vp_callSi (va_runV (As := [.int x1]) (rest := []) ⟨hx, hb, hml, hown, hts⟩ (c_X3_digit l dC dI cI cII o_t a_t v_t (x1) u_92 e_92) (cwV 1 hts (hw_giV mw_285 mw_286 mw_287 mw_54 mw_288) rfl rfl rfl (by decide +kernel) ⟨Nat.le_of_ble_eq_true rfl, Nat.le_of_ble_eq_true rfl⟩) ⟨pB_blind, va_recv hK hP (ci := 3) (q0 := 0) rfl rfl, fun U hU hW => ⟨rfl, pB_go hP hK hN hU hW⟩⟩ rfl rfl hl.1 rfl (lv_room (Nat.le_of_ble_eq_true rfl)) dX3_isRight_92 ⟨Nat.zero_le _, Nat.zero_le _⟩).run (fun z_92 ez_92 => ?_)
      subst ez_92
      refine lv_iconst (v := 0) hx hb dX3_isRight_95 (by decide) ?_
      refine lv_bipush (v := 9) hx hb dX3_isRight_96 (by decide) ?_
      obtain ⟨u_98, e_98, hf⟩ := ho_b hf
      have hPc := hP.sub (ws' := ([] : va_W)) [] rfl
      refine vp_callSi (va_runSN (As := [.int u_92, .int 0, .int 9]) (rest := []) ⟨hx, hb, hml, hown, hts⟩ (c_X6_isWithin l dC dI cI cII (u_92) (0) (9) u_98 e_98) ⟨va_cnB 3 hts (hw_gi mw_264) rfl rfl rfl hN.1 (hts _ (List.mem_cons_of_mem _ mw_53)) (by decide +kernel) ⟨Nat.le_of_ble_eq_true rfl, Nat.le_of_ble_eq_true rfl⟩, (hts _ (List.mem_cons_of_mem _ mw_263)), trivial⟩ ⟨pB_blind, fun U hU hW => ⟨rfl, pB_go hPc hK hN hU hW⟩⟩ rfl rfl hl.1 rfl (lv_room (Nat.le_of_ble_eq_true rfl)) dX3_isRight_98 ⟨Nat.zero_le _, Nat.zero_le _⟩).run (fun z_98 ez_98 => ?_)
      subst ez_98
      obtain ⟨h_101, hf⟩ := ho_g hf
      obtain rfl := Option.some.inj hf
      exact W.zret (v := u_98) hx hb hr (hp_z h_101) (fun t ht hW => ⟨_, rfl, rfl, ht⟩) (fun q hq => by cases hq) dX3_isRight_101 hlocks
    have hf := ho_f hf c_35_2
    refine lv_tableOut (tgt := 102) hx hb dX3_isRight_35 (by have e0 := lv_neT c_35_0 (a := 0) (by decide); have e1 := lv_neT c_35_1 (a := 1) (by decide); have e2 := lv_neT c_35_2 (a := 2) (by decide); omega) (by decide) ?_
    refine lv_iload_n hx hb dX3_isRight_102 rfl (lv_at hl 1 rfl) ?_
    refine lv_iconst (v := 1) hx hb dX3_isRight_103 (by decide) ?_
    refine lv_iadd hx hb dX3_isRight_104 ?_
    refine lv_iconst (v := 4) hx hb dX3_isRight_105 (by decide) ?_
    refine lv_idiv hx hb dX3_isRight_106 (by decide) ?_
    refine lv_aload_n hx hb dX3_isRight_107 rfl (lv_at hl 0 rfl) ?_
    refine va_get (D := (dC, dI)) (ci := 3) (v := .ref (a_t 0)) (C := RX3) (T := TX3) (N := 2) hx hb hts hw_X3 hown hK hP 0 rfl rfl 0 (by decide) (hts _ (List.mem_cons_of_mem _ mw_78)) (fun _ h9 => h9) rfl dX3_isRight_108 ?_
    refine lv_iload_n hx hb dX3_isRight_111 rfl (lv_at hl 1 rfl) ?_
    obtain ⟨h_112, hf⟩ := ho_g hf
    refine va_iald (n := 24) (f := (v_t.2 0)) hx hb hK hP 1 0 rfl rfl h_112 dX3_isRight_112 ?_
    obtain ⟨u_113, e_113, hf⟩ := ho_b hf
    have hPc := hP.sub (ws' := ([] : va_W)) [] rfl
    refine vp_callSi (va_runS (As := [.int ((x1 + 1) / 4), .int ((v_t.2 0) (Int32.toNatClampNeg x1))]) (rest := []) ⟨hx, hb, hml, hown, hts⟩ (c_X3_isRightBehind l dC dI cI cII (((x1 + 1) / 4)) (((v_t.2 0) (Int32.toNatClampNeg x1))) u_113 e_113) (va_cwS 2 hts (hw_giS mw_293 mw_294 mw_54 mw_295) rfl rfl rfl (by decide +kernel) ⟨Nat.le_of_ble_eq_true rfl, Nat.le_of_ble_eq_true rfl⟩) ⟨pB_blind, fun U hU hW => ⟨rfl, pB_go hPc hK hN hU hW⟩⟩ rfl rfl hl.1 rfl (lv_room (Nat.le_of_ble_eq_true rfl)) dX3_isRight_113 ⟨Nat.zero_le _, Nat.zero_le _⟩).run (fun z_113 ez_113 => ?_)
    subst ez_113
    obtain ⟨h_116, hf⟩ := ho_g hf
    obtain rfl := Option.some.inj hf
    exact W.zret (v := u_113) hx hb hr (hp_z h_116) (fun t ht hW => ⟨_, rfl, rfl, ht⟩) (fun q hq => by cases hq) dX3_isRight_116 hlocks
  · have hf := ho_f hf c_2
    refine lv_iload_n hx hb dX3_isRight_5 rfl (lv_at hl 1 rfl) ?_
    refine lv_iload_n hx hb dX3_isRight_6 rfl (lv_at hl 2 rfl) ?_
    refine lv_iconst (v := 1) hx hb dX3_isRight_7 (by decide) ?_
    refine lv_iadd hx hb dX3_isRight_8 ?_
    refine lv_icmp_ne (tgt := 30) hx hb dX3_isRight_9 (by decide) (fun c_9 => ?_) (fun c_9 => ?_)
    · have hf := ho_f hf c_9
      refine lv_iconst (v := 0) hx hb dX3_isRight_30 (by decide) ?_
      obtain rfl := Option.some.inj hf
      exact W.zret (v := 0) hx hb hr (by decide) (fun t ht hW => ⟨_, rfl, rfl, ht⟩) (fun q hq => by cases hq) dX3_isRight_31 hlocks
    · have hf := ho_t hf c_9
      refine lv_aload_n hx hb dX3_isRight_12 rfl (lv_at hl 0 rfl) ?_
      refine lv_iload_n hx hb dX3_isRight_13 rfl (lv_at hl 1 rfl) ?_
      obtain ⟨u_14, e_14, hf⟩ := ho_b hf
      refine vp_callSi (va_runV (As := [.int x1]) (rest := []) ⟨hx, hb, hml, hown, hts⟩ (c_X3_digit l dC dI cI cII o_t a_t v_t (x1) u_14 e_14) (cwV 1 hts (hw_giV mw_285 mw_286 mw_287 mw_54 mw_288) rfl rfl rfl (by decide +kernel) ⟨Nat.le_of_ble_eq_true rfl, Nat.le_of_ble_eq_true rfl⟩) ⟨pB_blind, va_recv hK hP (ci := 3) (q0 := 0) rfl rfl, fun U hU hW => ⟨rfl, pB_go hP hK hN hU hW⟩⟩ rfl rfl hl.1 rfl (lv_room (Nat.le_of_ble_eq_true rfl)) dX3_isRight_14 ⟨Nat.zero_le _, Nat.zero_le _⟩).run (fun z_14 ez_14 => ?_)
      subst ez_14
      refine lv_iconst (v := 0) hx hb dX3_isRight_17 (by decide) ?_
      refine lv_bipush (v := 9) hx hb dX3_isRight_18 (by decide) ?_
      obtain ⟨u_20, e_20, hf⟩ := ho_b hf
      have hPc := hP.sub (ws' := ([] : va_W)) [] rfl
      refine vp_callSi (va_runSN (As := [.int u_14, .int 0, .int 9]) (rest := []) ⟨hx, hb, hml, hown, hts⟩ (c_X6_isWithin l dC dI cI cII (u_14) (0) (9) u_20 e_20) ⟨va_cnB 3 hts (hw_gi mw_264) rfl rfl rfl hN.1 (hts _ (List.mem_cons_of_mem _ mw_53)) (by decide +kernel) ⟨Nat.le_of_ble_eq_true rfl, Nat.le_of_ble_eq_true rfl⟩, (hts _ (List.mem_cons_of_mem _ mw_263)), trivial⟩ ⟨pB_blind, fun U hU hW => ⟨rfl, pB_go hPc hK hN hU hW⟩⟩ rfl rfl hl.1 rfl (lv_room (Nat.le_of_ble_eq_true rfl)) dX3_isRight_20 ⟨Nat.zero_le _, Nat.zero_le _⟩).run (fun z_20 ez_20 => ?_)
      subst ez_20
      refine lv_if_eq (tgt := 30) hx hb dX3_isRight_23 (by decide) (fun c_23 => ?_) (fun c_23 => ?_)
      · have hf := ho_t hf c_23
        refine lv_iconst (v := 0) hx hb dX3_isRight_30 (by decide) ?_
        obtain rfl := Option.some.inj hf
        exact W.zret (v := 0) hx hb hr (by decide) (fun t ht hW => ⟨_, rfl, rfl, ht⟩) (fun q hq => by cases hq) dX3_isRight_31 hlocks
      · have hf := ho_f hf c_23
        refine lv_iconst (v := 1) hx hb dX3_isRight_26 (by decide) ?_
        refine lv_goto (tgt := 31) hx hb dX3_isRight_27 (by decide) ?_
        obtain rfl := Option.some.inj hf
        exact W.zret (v := 1) hx hb hr (by decide) (fun t ht hW => ⟨_, rfl, rfl, ht⟩) (fun q hq => by cases hq) dX3_isRight_31 hlocks
set_option maxHeartbeats 4000000 in
set_option maxRecDepth 100000 in
theorem w_X3_firstWrong_l4 {p : Program} {l : Launch} {e : Env} {s : State} {m : MethodId} {args : Array Value} {below : List Frame} {meth : Method} {c : Code} {dC : Nat → ClassId} {dI : Nat → Nat → Nat} {cI cII : ClassId} {o_t : Nat} {a_t : Nat → Nat} (C0 : hC p s m args meth c dC dI cI cII RX3 cX3_firstWrong 3 (wd yX3_firstWrong cX3_firstWrong 3 (some .int)) (some .int))  {v_t : obV}   (hP : va_P (dC, dI) vwCl (wX3 o_t a_t cI v_t) s.heap) :
    ∀ (n : Nat) (y : Int32 × Int32) (r : Int32), f_X3_firstWrong_l4  v_t  n y = some r → ∀ (ls : Array Slot), lv_has ls 3 [(0, .ref o_t), (1, .int y.1), (2, .int y.2)] → W p l e ({ frames := 2, cells := 0, slots := 0, locals := 44 } : Room) s m args below meth c s.heap [] 0 0 (MQ below (vp_Si (fun z => r = z)) args s 0 0 (fun _ => False)) (F0 m 4 ls []) := by
  obtain ⟨hx, hb, hml, hown, hts, hr, hlocks, hK, hN⟩ := C0
  refine lp_W ?_
  intro k4 ih4 y r hf ls hl
  obtain ⟨x1, x2⟩ := y
  have hf : f_X3_firstWrong_b4  v_t x1 x2  k4 = some r := hf
  have hl : lv_has ls 3 [(0, .ref o_t), (1, .int x1), (2, .int x2)] := hl
  unfold f_X3_firstWrong_b4 at hf
  refine lv_iload_n hx hb dX3_firstWrong_4 rfl (lv_at hl 2 rfl) ?_
  refine lv_aload_n hx hb dX3_firstWrong_5 rfl (lv_at hl 0 rfl) ?_
  refine va_get (D := (dC, dI)) (ci := 3) (v := .int (v_t.1 1)) (C := RX3) (T := TX3) (N := 2) hx hb hts hw_X3 hown hK hP 0 rfl rfl 1 (by decide) (hts _ (List.mem_cons_of_mem _ mw_81)) (fun _ h9 => h9) rfl dX3_firstWrong_6 ?_
  refine lv_icmp_ge (tgt := 42) hx hb dX3_firstWrong_9 (by decide) (fun c_9 => ?_) (fun c_9 => ?_)
  · have hf := ho_t hf c_9
    refine lv_aload_n hx hb dX3_firstWrong_42 rfl (lv_at hl 0 rfl) ?_
    refine va_get (D := (dC, dI)) (ci := 3) (v := .int (v_t.1 1)) (C := RX3) (T := TX3) (N := 2) hx hb hts hw_X3 hown hK hP 0 rfl rfl 1 (by decide) (hts _ (List.mem_cons_of_mem _ mw_81)) (fun _ h9 => h9) rfl dX3_firstWrong_43 ?_
    obtain rfl := Option.some.inj hf
    exact W.iret (v := (v_t.1 1)) hx hb hr (fun t ht hW => ⟨_, rfl, rfl, ht⟩) (fun q hq => by cases hq) dX3_firstWrong_46 hlocks
  · have hf := ho_f hf c_9
    refine lv_aload_n hx hb dX3_firstWrong_12 rfl (lv_at hl 0 rfl) ?_
    refine lv_iload_n hx hb dX3_firstWrong_13 rfl (lv_at hl 2 rfl) ?_
    refine lv_iload_n hx hb dX3_firstWrong_14 rfl (lv_at hl 1 rfl) ?_
    obtain ⟨u_15, e_15, hf⟩ := ho_b hf
    refine vp_callSi (va_runV (As := [.int x2, .int x1]) (rest := []) ⟨hx, hb, hml, hown, hts⟩ (c_X3_isRight l dC dI cI cII o_t a_t v_t (x2) (x1) u_15 e_15) (cwV 2 hts (hw_giV mw_281 mw_283 mw_0 mw_54 mw_284) rfl rfl rfl (by decide +kernel) ⟨Nat.le_of_ble_eq_true rfl, Nat.le_of_ble_eq_true rfl⟩) ⟨pB_blind, va_recv hK hP (ci := 3) (q0 := 0) rfl rfl, fun U hU hW => ⟨rfl, pB_go hP hK hN hU hW⟩⟩ rfl rfl hl.1 rfl (lv_room (Nat.le_of_ble_eq_true rfl)) dX3_firstWrong_15 ⟨Nat.zero_le _, Nat.zero_le _⟩).run (fun z_15 ez_15 => ?_)
    subst ez_15
    refine lv_if_ne (tgt := 23) hx hb dX3_firstWrong_18 (by decide) (fun c_18 => ?_) (fun c_18 => ?_)
    · have hf := ho_f hf c_18
      refine lv_aload_n hx hb dX3_firstWrong_23 rfl (lv_at hl 0 rfl) ?_
      refine va_get (D := (dC, dI)) (ci := 3) (v := .ref (a_t 0)) (C := RX3) (T := TX3) (N := 2) hx hb hts hw_X3 hown hK hP 0 rfl rfl 0 (by decide) (hts _ (List.mem_cons_of_mem _ mw_78)) (fun _ h9 => h9) rfl dX3_firstWrong_24 ?_
      refine lv_iload_n hx hb dX3_firstWrong_27 rfl (lv_at hl 2 rfl) ?_
      obtain ⟨h_28, hf⟩ := ho_g hf
      refine va_iald (n := 24) (f := (v_t.2 0)) hx hb hK hP 1 0 rfl rfl h_28 dX3_firstWrong_28 ?_
      refine lv_bipush (v := 59) hx hb dX3_firstWrong_29 (by decide) ?_
      refine lv_icmp_ne (tgt := 36) hx hb dX3_firstWrong_31 (by decide) (fun c_31 => ?_) (fun c_31 => ?_)
      · have hf := ho_f hf c_31
        refine lv_iinc (v := (x2 + 1)) (lv' := [(2, .int (x2 + 1)), (0, .ref o_t), (1, .int x1)]) hx hb dX3_firstWrong_36 hl (k := 2) rfl (hp_inc (by decide)) (by decide) rfl (fun ls hl => ?_)
        refine lv_goto (tgt := 4) hx hb dX3_firstWrong_39 (by decide) ?_
        exact ih4 (x1, (x2 + 1)) _ hf _ (lv_sub hl [1, 2, 0] rfl)
      · have hf := ho_t hf c_31
        refine lv_iload_n hx hb dX3_firstWrong_34 rfl (lv_at hl 2 rfl) ?_
        refine lv_istore_n (lv' := [(1, .int x2), (0, .ref o_t), (2, .int x2)]) hx hb dX3_firstWrong_35 rfl hl (by decide) rfl (fun ls hl => ?_)
        refine lv_iinc (v := (x2 + 1)) (lv' := [(2, .int (x2 + 1)), (1, .int x2), (0, .ref o_t)]) hx hb dX3_firstWrong_36 hl (k := 2) rfl (hp_inc (by decide)) (by decide) rfl (fun ls hl => ?_)
        refine lv_goto (tgt := 4) hx hb dX3_firstWrong_39 (by decide) ?_
        exact ih4 (x2, (x2 + 1)) _ hf _ (lv_sub hl [2, 1, 0] rfl)
    · have hf := ho_t hf c_18
      refine lv_iload_n hx hb dX3_firstWrong_21 rfl (lv_at hl 2 rfl) ?_
      obtain rfl := Option.some.inj hf
      exact W.iret (v := x2) hx hb hr (fun t ht hW => ⟨_, rfl, rfl, ht⟩) (fun q hq => by cases hq) dX3_firstWrong_22 hlocks
set_option maxHeartbeats 4000000 in
set_option maxRecDepth 100000 in
theorem c_X3_firstWrong (l : Launch) (dC : Nat → ClassId) (dI : Nat → Nat → Nat) (cI cII : ClassId) (o_t : Nat) (a_t : Nat → Nat) (v_t : obV)  (r : Int32) (hf : f_X3_firstWrong  v_t  = some r) :
    Met l yX3_firstWrong (wd yX3_firstWrong cX3_firstWrong 3 (some .int)) ({ frames := 2, cells := 0, slots := 0, locals := 44 } : Room) (va_Pc [.ref o_t] (pB (dC, dI) vwCl (wX3 o_t a_t cI v_t) (hTY cI cII))) (vp_Si (fun z => r = z)) 0 0 (fun _ => False) := by
  refine Met.ofW (cc := cX3_firstWrong) (maxL := 3) (ret := (some .int)) (by decide) rfl ?_
  intro p e s m args below meth c s₁ B hml hv
  obtain ⟨rfl, hP, hK, hN⟩ := hv
  have hx := B.exec
  have hb := B.bytes
  have hr := B.returns
  have hts := atoms_spec (ws := (wd yX3_firstWrong cX3_firstWrong 3 (some .int))) B.pre
  have hown : s.vm.findClass RX3 = some m.cls := findClass_of_methodNamed B.named
  have hlocks := B.notSynchronized
  have hl := lv_entry ([.ref o_t]) (n := 3) (Nat.le_of_ble_eq_true rfl)
  rw [lg_entry_eq]
  generalize (lg_sl ([.ref o_t]) ++ List.replicate (3 - (lg_sl ([.ref o_t])).length) Slot.unset).toArray = ls at hl ⊢
  have hl : lv_has ls 3 [(0, .ref o_t)] := hl
  unfold f_X3_firstWrong at hf
  refine lv_iconst (v := (-1)) hx hb dX3_firstWrong_0 (by decide) ?_
  refine lv_istore_n (lv' := [(1, .int (-1)), (0, .ref o_t)]) hx hb dX3_firstWrong_1 rfl hl (by decide) rfl (fun ls hl => ?_)
  refine lv_iconst (v := 0) hx hb dX3_firstWrong_2 (by decide) ?_
  refine lv_istore_n (lv' := [(2, .int 0), (1, .int (-1)), (0, .ref o_t)]) hx hb dX3_firstWrong_3 rfl hl (by decide) rfl (fun ls hl => ?_)
  exact w_X3_firstWrong_l4 ⟨hx, hb, hml, hown, hts, hr, hlocks, hK, hN⟩  hP _ _ _ hf _ (lv_sub hl [2, 1, 0] rfl)
set_option maxHeartbeats 4000000 in
set_option maxRecDepth 100000 in
theorem c_X3_isCave (l : Launch) (dC : Nat → ClassId) (dI : Nat → Nat → Nat) (cI cII : ClassId) (o_t : Nat) (a_t : Nat → Nat) (v_t : obV)  (r : Int32) (hf : f_X3_isCave  v_t  = some r) :
    Met l yX3_isCave (wd yX3_isCave cX3_isCave 1 (some .boolean)) ({ frames := 3, cells := 0, slots := 0, locals := 66 } : Room) (va_Pc [.ref o_t] (pB (dC, dI) vwCl (wX3 o_t a_t cI v_t) (hTY cI cII))) (vp_Si (fun z => r = z)) 0 0 (fun _ => False) := by
  refine Met.ofW (cc := cX3_isCave) (maxL := 1) (ret := (some .boolean)) (by decide) rfl ?_
  intro p e s m args below meth c s₁ B hml hv
  obtain ⟨rfl, hP, hK, hN⟩ := hv
  have hx := B.exec
  have hb := B.bytes
  have hr := B.returns
  have hts := atoms_spec (ws := (wd yX3_isCave cX3_isCave 1 (some .boolean))) B.pre
  have hown : s.vm.findClass RX3 = some m.cls := findClass_of_methodNamed B.named
  have hlocks := B.notSynchronized
  have hl := lv_entry ([.ref o_t]) (n := 1) (Nat.le_of_ble_eq_true rfl)
  rw [lg_entry_eq]
  generalize (lg_sl ([.ref o_t]) ++ List.replicate (1 - (lg_sl ([.ref o_t])).length) Slot.unset).toArray = ls at hl ⊢
  have hl : lv_has ls 1 [(0, .ref o_t)] := hl
  unfold f_X3_isCave at hf
  refine lv_aload_n hx hb dX3_isCave_0 rfl (lv_at hl 0 rfl) ?_
  refine va_get (D := (dC, dI)) (ci := 3) (v := .int (v_t.1 1)) (C := RX3) (T := TX3) (N := 2) hx hb hts hw_X3 hown hK hP 0 rfl rfl 1 (by decide) (hts _ (List.mem_cons_of_mem _ mw_81)) (fun _ h9 => h9) rfl dX3_isCave_1 ?_
  refine lv_iconst (v := 2) hx hb dX3_isCave_4 (by decide) ?_
  refine lv_icmp_lt (tgt := 39) hx hb dX3_isCave_5 (by decide) (fun c_5 => ?_) (fun c_5 => ?_)
  · have hf := ho_t hf c_5
    refine lv_iconst (v := 0) hx hb dX3_isCave_39 (by decide) ?_
    obtain rfl := Option.some.inj hf
    exact W.zret (v := 0) hx hb hr (by decide) (fun t ht hW => ⟨_, rfl, rfl, ht⟩) (fun q hq => by cases hq) dX3_isCave_40 hlocks
  · have hf := ho_f hf c_5
    refine lv_aload_n hx hb dX3_isCave_8 rfl (lv_at hl 0 rfl) ?_
    refine va_get (D := (dC, dI)) (ci := 3) (v := .ref (a_t 0)) (C := RX3) (T := TX3) (N := 2) hx hb hts hw_X3 hown hK hP 0 rfl rfl 0 (by decide) (hts _ (List.mem_cons_of_mem _ mw_78)) (fun _ h9 => h9) rfl dX3_isCave_9 ?_
    refine lv_aload_n hx hb dX3_isCave_12 rfl (lv_at hl 0 rfl) ?_
    refine va_get (D := (dC, dI)) (ci := 3) (v := .int (v_t.1 1)) (C := RX3) (T := TX3) (N := 2) hx hb hts hw_X3 hown hK hP 0 rfl rfl 1 (by decide) (hts _ (List.mem_cons_of_mem _ mw_81)) (fun _ h9 => h9) rfl dX3_isCave_13 ?_
    refine lv_iconst (v := 2) hx hb dX3_isCave_16 (by decide) ?_
    refine lv_isub hx hb dX3_isCave_17 ?_
    obtain ⟨h_18, hf⟩ := ho_g hf
    refine va_iald (n := 24) (f := (v_t.2 0)) hx hb hK hP 1 0 rfl rfl h_18 dX3_isCave_18 ?_
    refine lv_bipush (v := 59) hx hb dX3_isCave_19 (by decide) ?_
    refine lv_icmp_ne (tgt := 39) hx hb dX3_isCave_21 (by decide) (fun c_21 => ?_) (fun c_21 => ?_)
    · have hf := ho_f hf c_21
      refine lv_iconst (v := 0) hx hb dX3_isCave_39 (by decide) ?_
      obtain rfl := Option.some.inj hf
      exact W.zret (v := 0) hx hb hr (by decide) (fun t ht hW => ⟨_, rfl, rfl, ht⟩) (fun q hq => by cases hq) dX3_isCave_40 hlocks
    · have hf := ho_t hf c_21
      refine lv_aload_n hx hb dX3_isCave_24 rfl (lv_at hl 0 rfl) ?_
      obtain ⟨u_25, e_25, hf⟩ := ho_b hf
      refine vp_callSi (va_runV (As := []) (rest := []) ⟨hx, hb, hml, hown, hts⟩ (c_X3_firstWrong l dC dI cI cII o_t a_t v_t u_25 e_25) (cwV 0 hts (hw_giV mw_304 mw_278 mw_279 mw_54 mw_280) rfl rfl rfl (by decide +kernel) ⟨Nat.le_of_ble_eq_true rfl, Nat.le_of_ble_eq_true rfl⟩) ⟨pB_blind, va_recv hK hP (ci := 3) (q0 := 0) rfl rfl, fun U hU hW => ⟨rfl, pB_go hP hK hN hU hW⟩⟩ rfl rfl hl.1 rfl (lv_room (Nat.le_of_ble_eq_true rfl)) dX3_isCave_25 ⟨Nat.zero_le _, Nat.zero_le _⟩).run (fun z_25 ez_25 => ?_)
      subst ez_25
      refine lv_aload_n hx hb dX3_isCave_28 rfl (lv_at hl 0 rfl) ?_
      refine va_get (D := (dC, dI)) (ci := 3) (v := .int (v_t.1 1)) (C := RX3) (T := TX3) (N := 2) hx hb hts hw_X3 hown hK hP 0 rfl rfl 1 (by decide) (hts _ (List.mem_cons_of_mem _ mw_81)) (fun _ h9 => h9) rfl dX3_isCave_29 ?_
      refine lv_icmp_ne (tgt := 39) hx hb dX3_isCave_32 (by decide) (fun c_32 => ?_) (fun c_32 => ?_)
      · have hf := ho_f hf c_32
        refine lv_iconst (v := 0) hx hb dX3_isCave_39 (by decide) ?_
        obtain rfl := Option.some.inj hf
        exact W.zret (v := 0) hx hb hr (by decide) (fun t ht hW => ⟨_, rfl, rfl, ht⟩) (fun q hq => by cases hq) dX3_isCave_40 hlocks
      · have hf := ho_t hf c_32
        refine lv_iconst (v := 1) hx hb dX3_isCave_35 (by decide) ?_
        refine lv_goto (tgt := 40) hx hb dX3_isCave_36 (by decide) ?_
        obtain rfl := Option.some.inj hf
        exact W.zret (v := 1) hx hb hr (by decide) (fun t ht hW => ⟨_, rfl, rfl, ht⟩) (fun q hq => by cases hq) dX3_isCave_40 hlocks
set_option maxHeartbeats 4000000 in
set_option maxRecDepth 100000 in
theorem c_X4_add (l : Launch) (dC : Nat → ClassId) (dI : Nat → Nat → Nat) (cI cII : ClassId) (o_t : Nat) (a_t : Nat → Nat) (v_t : obV) (x1 : Int32) (x2 : Int32) (sz : Nat) (r : obV) (hf : f_X4_add  v_t x1 x2 = some r) :
    Met l yX4_add (wd yX4_add cX4_add 3 none) ({ frames := 0, cells := 0, slots := 0, locals := 0 } : Room) (va_Pc [.ref o_t, .int x1, .int x2] (qB (dC, dI) vwCl (wX4 o_t a_t cI v_t) (hTY cI cII) sz)) (va_Qv (fun (_ : Unit) => True) (fun _ t => va_P (dC, dI) vwCl (wX4 o_t a_t cI r) t.heap ∧ va_D (va_A (wX4 o_t a_t cI v_t) sz) (wX4 o_t a_t cI r)) (va_A (wX4 o_t a_t cI v_t) sz)) 0 0 (va_A (wX4 o_t a_t cI v_t) sz) := by
  refine Met.ofW (cc := cX4_add) (maxL := 3) (ret := none) (by decide) rfl ?_
  intro p e s m args below meth c s₁ B hml hv
  obtain ⟨rfl, hsz, hD0, hP, hK, hN⟩ := hv
  have hx := B.exec
  have hb := B.bytes
  have hr := B.returns
  have hts := atoms_spec (ws := (wd yX4_add cX4_add 3 none)) B.pre
  have hown : s.vm.findClass RX4 = some m.cls := findClass_of_methodNamed B.named
  have hlocks := B.notSynchronized
  subst hsz
  have hD := hD0.self (sz := s.heap.size)
  generalize hAe : va_A (wX4 o_t a_t cI v_t) s.heap.size = A at hD ⊢
  have hA : ∀ q : Nat, s.heap.size ≤ q → A q := fun q h => by rw [← hAe]; exact Or.inr h
  have hS : va_S A s.heap s.heap [] := va_S.rf
  have hl := lv_entry ([.ref o_t, .int x1, .int x2]) (n := 3) (Nat.le_of_ble_eq_true rfl)
  rw [lg_entry_eq]
  generalize (lg_sl ([.ref o_t, .int x1, .int x2]) ++ List.replicate (3 - (lg_sl ([.ref o_t, .int x1, .int x2])).length) Slot.unset).toArray = ls at hl ⊢
  have hl : lv_has ls 3 [(0, .ref o_t), (1, .int x1), (2, .int x2)] := hl
  clear hAe hD0
  unfold f_X4_add at hf
  refine lv_aload_n hx hb dX4_add_0 rfl (lv_at hl 0 rfl) ?_
  refine va_get (D := (dC, dI)) (ci := 4) (v := .int (v_t.1 2)) (C := RX4) (T := TX4) (N := 3) hx hb hts hw_X4 hown hK hP 0 rfl rfl 2 (by decide) (hts _ (List.mem_cons_of_mem _ mw_103)) (fun _ h9 => h9) rfl dX4_add_1 ?_
  refine lv_bipush (v := 8) hx hb dX4_add_4 (by decide) ?_
  refine lv_icmp_ge (tgt := 39) hx hb dX4_add_6 (by decide) (fun c_6 => ?_) (fun c_6 => ?_)
  · have hf := ho_t hf c_6
    obtain rfl := Option.some.inj hf
    exact W.vret hx hb hr (fun t ht hW => ⟨⟨(), rfl, trivial, by rw [ht]; exact hP, hD⟩, hS.F ht⟩) hS.2.2 dX4_add_39 hlocks
  · have hf := ho_f hf c_6
    refine lv_aload_n hx hb dX4_add_9 rfl (lv_at hl 0 rfl) ?_
    refine va_get (D := (dC, dI)) (ci := 4) (v := .ref (a_t 0)) (C := RX4) (T := TX4) (N := 3) hx hb hts hw_X4 hown hK hP 0 rfl rfl 0 (by decide) (hts _ (List.mem_cons_of_mem _ mw_101)) (fun _ h9 => h9) rfl dX4_add_10 ?_
    refine lv_aload_n hx hb dX4_add_13 rfl (lv_at hl 0 rfl) ?_
    refine va_get (D := (dC, dI)) (ci := 4) (v := .int (v_t.1 2)) (C := RX4) (T := TX4) (N := 3) hx hb hts hw_X4 hown hK hP 0 rfl rfl 2 (by decide) (hts _ (List.mem_cons_of_mem _ mw_103)) (fun _ h9 => h9) rfl dX4_add_14 ?_
    refine lv_iload_n hx hb dX4_add_17 rfl (lv_at hl 1 rfl) ?_
    obtain ⟨h_18, hf⟩ := ho_g hf
    refine va_iast (n := 8) (f := (v_t.2 0)) hx hb hK hP hD hS 1 0 rfl rfl h_18 dX4_add_18 (fun H locs hP hD hS => ?_)
    have hP : va_P (dC, dI) vwCl (wX4 o_t a_t cI (oA v_t 0 (Int32.toNatClampNeg (v_t.1 2)) x1)) H := hP
    have hD : va_D A (wX4 o_t a_t cI (oA v_t 0 (Int32.toNatClampNeg (v_t.1 2)) x1)) := hD
    obtain ⟨v_t_18, e_v_t_18⟩ : ∃ z : obV, z = (oA v_t 0 (Int32.toNatClampNeg (v_t.1 2)) x1) := ⟨_, rfl⟩
    rw [← e_v_t_18] at hP hD
    have hf := ho_l hf v_t_18 e_v_t_18
    refine lv_aload_n hx hb dX4_add_19 rfl (lv_at hl 0 rfl) ?_
    refine va_get (D := (dC, dI)) (ci := 4) (v := .ref (a_t 1)) (C := RX4) (T := TX4) (N := 3) hx hb hts hw_X4 hown hK hP 0 rfl rfl 1 (by decide) (hts _ (List.mem_cons_of_mem _ mw_102)) (fun _ h9 => h9) rfl dX4_add_20 ?_
    refine lv_aload_n hx hb dX4_add_23 rfl (lv_at hl 0 rfl) ?_
    refine va_get (D := (dC, dI)) (ci := 4) (v := .int (v_t_18.1 2)) (C := RX4) (T := TX4) (N := 3) hx hb hts hw_X4 hown hK hP 0 rfl rfl 2 (by decide) (hts _ (List.mem_cons_of_mem _ mw_103)) (fun _ h9 => h9) rfl dX4_add_24 ?_
    refine lv_iload_n hx hb dX4_add_27 rfl (lv_at hl 2 rfl) ?_
    obtain ⟨h_28, hf⟩ := ho_g hf
    refine va_iast (n := 8) (f := (v_t_18.2 1)) hx hb hK hP hD hS 2 0 rfl rfl h_28 dX4_add_28 (fun H locs hP hD hS => ?_)
    have hP : va_P (dC, dI) vwCl (wX4 o_t a_t cI (oA v_t_18 1 (Int32.toNatClampNeg (v_t_18.1 2)) x2)) H := hP
    have hD : va_D A (wX4 o_t a_t cI (oA v_t_18 1 (Int32.toNatClampNeg (v_t_18.1 2)) x2)) := hD
    obtain ⟨v_t_28, e_v_t_28⟩ : ∃ z : obV, z = (oA v_t_18 1 (Int32.toNatClampNeg (v_t_18.1 2)) x2) := ⟨_, rfl⟩
    rw [← e_v_t_28] at hP hD
    have hf := ho_l hf v_t_28 e_v_t_28
    refine lv_aload_n hx hb dX4_add_29 rfl (lv_at hl 0 rfl) ?_
    refine lv_dup hx hb dX4_add_30 rfl ?_
    refine va_get (D := (dC, dI)) (ci := 4) (v := .int (v_t_28.1 2)) (C := RX4) (T := TX4) (N := 3) hx hb hts hw_X4 hown hK hP 0 rfl rfl 2 (by decide) (hts _ (List.mem_cons_of_mem _ mw_103)) (fun _ h9 => h9) rfl dX4_add_31 ?_
    refine lv_iconst (v := 1) hx hb dX4_add_34 (by decide) ?_
    refine lv_iadd hx hb dX4_add_35 ?_
    refine va_put (D := (dC, dI)) (ci := 4) (v := .int ((v_t_28.1 2) + 1)) (ty := .int) (C := RX4) (T := TX4) (N := 3) hx hb hts hw_X4 tyX4 tyX4_ok nmX4 hown hK hP hD hS 0 rfl rfl 2 (by decide) (hts _ (List.mem_cons_of_mem _ mw_103)) (fun _ h9 => h9) rfl (by decide +kernel) rfl rfl (Nat.le_of_ble_eq_true rfl) dX4_add_36 (fun H locs hP hD hS => ?_)
    have hP : va_P (dC, dI) vwCl (wX4 o_t a_t cI (oF v_t_28 2 ((v_t_28.1 2) + 1))) H := hP
    have hD : va_D A (wX4 o_t a_t cI (oF v_t_28 2 ((v_t_28.1 2) + 1))) := hD
    obtain ⟨v_t_36, e_v_t_36⟩ : ∃ z : obV, z = (oF v_t_28 2 ((v_t_28.1 2) + 1)) := ⟨_, rfl⟩
    rw [← e_v_t_36] at hP hD
    have hf := ho_l hf v_t_36 e_v_t_36
    obtain rfl := Option.some.inj hf
    exact W.vret hx hb hr (fun t ht hW => ⟨⟨(), rfl, trivial, by rw [ht]; exact hP, hD⟩, hS.F ht⟩) hS.2.2 dX4_add_39 hlocks
set_option maxHeartbeats 4000000 in
set_option maxRecDepth 100000 in
theorem w_X4_agreeWith_l2 {p : Program} {l : Launch} {e : Env} {s : State} {m : MethodId} {args : Array Value} {below : List Frame} {meth : Method} {c : Code} {dC : Nat → ClassId} {dI : Nat → Nat → Nat} {cI cII : ClassId} {o_t : Nat} {a_t : Nat → Nat} {o_a1 : Nat} {n_a1 : Nat} (C0 : hC p s m args meth c dC dI cI cII RX4 cX4_agreeWith 3 (wd yX4_agreeWith cX4_agreeWith 3 (some .boolean)) (some .boolean))  {v_t : obV} {f_a1 : Nat → Int32}   (hP : va_P (dC, dI) vwCl (wX4 o_t a_t cI v_t ++ ([(o_a1, .inl (cI, n_a1, .inl f_a1))])) s.heap) :
    ∀ (n : Nat) (y : Int32) (r : Int32), f_X4_agreeWith_l2 n_a1 v_t f_a1  n y = some r → ∀ (ls : Array Slot), lv_has ls 3 [(0, .ref o_t), (1, .ref o_a1), (2, .int y)] → W p l e ({ frames := 0, cells := 0, slots := 0, locals := 0 } : Room) s m args below meth c s.heap [] 0 0 (MQ below (vp_Si (fun z => r = z)) args s 0 0 (fun _ => False)) (F0 m 2 ls []) := by
  obtain ⟨hx, hb, hml, hown, hts, hr, hlocks, hK, hN⟩ := C0
  refine lp_W ?_
  intro k2 ih2 y r hf ls hl
  obtain ⟨x2, rfl⟩ : ∃ z, z = y := ⟨_, rfl⟩
  have hf : f_X4_agreeWith_b2 n_a1 v_t f_a1 x2  k2 = some r := hf
  have hl : lv_has ls 3 [(0, .ref o_t), (1, .ref o_a1), (2, .int x2)] := hl
  unfold f_X4_agreeWith_b2 at hf
  refine lv_iload_n hx hb dX4_agreeWith_2 rfl (lv_at hl 2 rfl) ?_
  refine lv_aload_n hx hb dX4_agreeWith_3 rfl (lv_at hl 0 rfl) ?_
  refine va_get (D := (dC, dI)) (ci := 4) (v := .int (v_t.1 2)) (C := RX4) (T := TX4) (N := 3) hx hb hts hw_X4 hown hK hP 0 rfl rfl 2 (by decide) (hts _ (List.mem_cons_of_mem _ mw_103)) (fun _ h9 => h9) rfl dX4_agreeWith_4 ?_
  refine lv_icmp_ge (tgt := 35) hx hb dX4_agreeWith_7 (by decide) (fun c_7 => ?_) (fun c_7 => ?_)
  · have hf := ho_t hf c_7
    refine lv_iconst (v := 1) hx hb dX4_agreeWith_35 (by decide) ?_
    obtain rfl := Option.some.inj hf
    exact W.zret (v := 1) hx hb hr (by decide) (fun t ht hW => ⟨_, rfl, rfl, ht⟩) (fun q hq => by cases hq) dX4_agreeWith_36 hlocks
  · have hf := ho_f hf c_7
    refine lv_aload_n hx hb dX4_agreeWith_10 rfl (lv_at hl 1 rfl) ?_
    refine lv_aload_n hx hb dX4_agreeWith_11 rfl (lv_at hl 0 rfl) ?_
    refine va_get (D := (dC, dI)) (ci := 4) (v := .ref (a_t 0)) (C := RX4) (T := TX4) (N := 3) hx hb hts hw_X4 hown hK hP 0 rfl rfl 0 (by decide) (hts _ (List.mem_cons_of_mem _ mw_101)) (fun _ h9 => h9) rfl dX4_agreeWith_12 ?_
    refine lv_iload_n hx hb dX4_agreeWith_15 rfl (lv_at hl 2 rfl) ?_
    obtain ⟨h_16, hf⟩ := ho_g hf
    refine va_iald (n := 8) (f := (v_t.2 0)) hx hb hK hP 1 0 rfl rfl h_16 dX4_agreeWith_16 ?_
    obtain ⟨h_17, hf⟩ := ho_g hf
    refine va_iald (n := n_a1) (f := f_a1) hx hb hK hP 3 0 rfl rfl h_17 dX4_agreeWith_17 ?_
    refine lv_aload_n hx hb dX4_agreeWith_18 rfl (lv_at hl 0 rfl) ?_
    refine va_get (D := (dC, dI)) (ci := 4) (v := .ref (a_t 1)) (C := RX4) (T := TX4) (N := 3) hx hb hts hw_X4 hown hK hP 0 rfl rfl 1 (by decide) (hts _ (List.mem_cons_of_mem _ mw_102)) (fun _ h9 => h9) rfl dX4_agreeWith_19 ?_
    refine lv_iload_n hx hb dX4_agreeWith_22 rfl (lv_at hl 2 rfl) ?_
    obtain ⟨h_23, hf⟩ := ho_g hf
    refine va_iald (n := 8) (f := (v_t.2 1)) hx hb hK hP 2 0 rfl rfl h_23 dX4_agreeWith_23 ?_
    refine lv_icmp_eq (tgt := 29) hx hb dX4_agreeWith_24 (by decide) (fun c_24 => ?_) (fun c_24 => ?_)
    · have hf := ho_t hf c_24
      refine lv_iinc (v := (x2 + 1)) (lv' := [(2, .int (x2 + 1)), (0, .ref o_t), (1, .ref o_a1)]) hx hb dX4_agreeWith_29 hl (k := 2) rfl (hp_inc (by decide)) (by decide) rfl (fun ls hl => ?_)
      refine lv_goto (tgt := 2) hx hb dX4_agreeWith_32 (by decide) ?_
      exact ih2 (x2 + 1) _ hf _ (lv_sub hl [1, 2, 0] rfl)
    · have hf := ho_f hf c_24
      refine lv_iconst (v := 0) hx hb dX4_agreeWith_27 (by decide) ?_
      obtain rfl := Option.some.inj hf
      exact W.zret (v := 0) hx hb hr (by decide) (fun t ht hW => ⟨_, rfl, rfl, ht⟩) (fun q hq => by cases hq) dX4_agreeWith_28 hlocks
set_option maxHeartbeats 4000000 in
set_option maxRecDepth 100000 in
theorem c_X4_agreeWith (l : Launch) (dC : Nat → ClassId) (dI : Nat → Nat → Nat) (cI cII : ClassId) (o_t : Nat) (a_t : Nat → Nat) (o_a1 : Nat) (n_a1 : Nat) (v_t : obV) (f_a1 : Nat → Int32)  (r : Int32) (hf : f_X4_agreeWith n_a1 v_t f_a1  = some r) :
    Met l yX4_agreeWith (wd yX4_agreeWith cX4_agreeWith 3 (some .boolean)) ({ frames := 0, cells := 0, slots := 0, locals := 0 } : Room) (va_Pc [.ref o_t, .ref o_a1] (pB (dC, dI) vwCl (wX4 o_t a_t cI v_t ++ ([(o_a1, .inl (cI, n_a1, .inl f_a1))])) (hTY cI cII))) (vp_Si (fun z => r = z)) 0 0 (fun _ => False) := by
  refine Met.ofW (cc := cX4_agreeWith) (maxL := 3) (ret := (some .boolean)) (by decide) rfl ?_
  intro p e s m args below meth c s₁ B hml hv
  obtain ⟨rfl, hP, hK, hN⟩ := hv
  have hx := B.exec
  have hb := B.bytes
  have hr := B.returns
  have hts := atoms_spec (ws := (wd yX4_agreeWith cX4_agreeWith 3 (some .boolean))) B.pre
  have hown : s.vm.findClass RX4 = some m.cls := findClass_of_methodNamed B.named
  have hlocks := B.notSynchronized
  have hl := lv_entry ([.ref o_t, .ref o_a1]) (n := 3) (Nat.le_of_ble_eq_true rfl)
  rw [lg_entry_eq]
  generalize (lg_sl ([.ref o_t, .ref o_a1]) ++ List.replicate (3 - (lg_sl ([.ref o_t, .ref o_a1])).length) Slot.unset).toArray = ls at hl ⊢
  have hl : lv_has ls 3 [(0, .ref o_t), (1, .ref o_a1)] := hl
  unfold f_X4_agreeWith at hf
  refine lv_iconst (v := 0) hx hb dX4_agreeWith_0 (by decide) ?_
  refine lv_istore_n (lv' := [(2, .int 0), (0, .ref o_t), (1, .ref o_a1)]) hx hb dX4_agreeWith_1 rfl hl (by decide) rfl (fun ls hl => ?_)
  exact w_X4_agreeWith_l2 ⟨hx, hb, hml, hown, hts, hr, hlocks, hK, hN⟩  hP _ _ _ hf _ (lv_sub hl [1, 2, 0] rfl)
set_option maxHeartbeats 4000000 in
set_option maxRecDepth 100000 in
theorem w_X5_pass_l10 {p : Program} {l : Launch} {e : Env} {s : State} {m : MethodId} {args : Array Value} {below : List Frame} {meth : Method} {c : Code} {dC : Nat → ClassId} {dI : Nat → Nat → Nat} {cI cII : ClassId} {o_t : Nat} {a_t : Nat → Nat} {r_t : Nat → Nat} {o_a1 : Nat} {a_a1 : Nat → Nat} {a_t_day : Nat → Nat} {A : Nat → Prop} (C0 : hC p s m args meth c dC dI cI cII RX5 cX5_pass 4 (wd yX5_pass cX5_pass 4 none) none) (hA : ∀ q, s.heap.size ≤ q → A q)  {v_a1 : obV} {x2 : Int32}    :
    ∀ (n : Nat) (y : obV × (Nat → Nat → Int32) × obV × Int32) (r : obV × (Nat → Nat → Int32) × obV), f_X5_pass_l10  v_a1 x2  n y = some r → ∀ (H : Heap) (locs : List Loc) (ls : Array Slot), va_P (dC, dI) vwCl (wX5 o_t a_t r_t cI cII y.1 y.2.1 ++ (wX1 o_a1 a_a1 cI v_a1 ++ (wX2 (a_t 0) a_t_day cI y.2.2.1))) H → va_D A (wX5 o_t a_t r_t cI cII y.1 y.2.1 ++ (wX1 o_a1 a_a1 cI v_a1 ++ (wX2 (a_t 0) a_t_day cI y.2.2.1))) → va_S A s.heap H locs → lv_has ls 4 [(0, .ref o_t), (1, .ref o_a1), (2, .int x2), (3, .int y.2.2.2)] → W p l e ({ frames := 4, cells := 0, slots := 0, locals := 96 } : Room) s m args below meth c H locs 0 0 (MQ below (va_Qv (fun (_ : Unit) => True) (fun _ t => va_P (dC, dI) vwCl (wX5 o_t a_t r_t cI cII r.1 r.2.1 ++ (wX1 o_a1 a_a1 cI v_a1 ++ (wX2 (a_t 0) a_t_day cI r.2.2))) t.heap ∧ va_D A (wX5 o_t a_t r_t cI cII r.1 r.2.1 ++ (wX1 o_a1 a_a1 cI v_a1 ++ (wX2 (a_t 0) a_t_day cI r.2.2)))) A) args s 0 0 A) (F0 m 10 ls []) := by
  obtain ⟨hx, hb, hml, hown, hts, hr, hlocks, hK, hN⟩ := C0
  refine lp_W ?_
  intro k10 ih10 y r hf H locs ls hP hD hS hl
  obtain ⟨v_t, w_t, v_t_day, x3⟩ := y
  have hf : f_X5_pass_b10  v_t w_t v_a1 v_t_day x2 x3  k10 = some r := hf
  have hP : va_P (dC, dI) vwCl (wX5 o_t a_t r_t cI cII v_t w_t ++ (wX1 o_a1 a_a1 cI v_a1 ++ (wX2 (a_t 0) a_t_day cI v_t_day))) H := hP
  have hD : va_D A (wX5 o_t a_t r_t cI cII v_t w_t ++ (wX1 o_a1 a_a1 cI v_a1 ++ (wX2 (a_t 0) a_t_day cI v_t_day))) := hD
  have hl : lv_has ls 4 [(0, .ref o_t), (1, .ref o_a1), (2, .int x2), (3, .int x3)] := hl
  unfold f_X5_pass_b10 at hf
  refine lv_iload_n hx hb dX5_pass_10 rfl (lv_at hl 3 rfl) ?_
  refine lv_bipush (v := 10) hx hb dX5_pass_11 (by decide) ?_
  refine lv_icmp_ge (tgt := 73) hx hb dX5_pass_13 (by decide) (fun c_13 => ?_) (fun c_13 => ?_)
  · have hf := ho_t hf c_13
    obtain rfl := Option.some.inj hf
    exact W.vret hx hb hr (fun t ht hW => ⟨⟨(), rfl, trivial, by rw [ht]; exact hP, hD⟩, hS.F ht⟩) hS.2.2 dX5_pass_73 hlocks
  · have hf := ho_f hf c_13
    refine lv_aload_n hx hb dX5_pass_16 rfl (lv_at hl 0 rfl) ?_
    refine va_get (D := (dC, dI)) (ci := 5) (v := .ref (a_t 0)) (C := RX5) (T := TX5) (N := 4) hx hb hts hw_X5 hown hK hP 0 rfl rfl 0 (by decide) (hts _ (List.mem_cons_of_mem _ mw_198)) (fun _ h9 => h9) rfl dX5_pass_17 ?_
    refine va_get (D := (dC, dI)) (ci := 2) (v := .ref (a_t_day 0)) (C := RX2) (T := TX2) (N := 8) hx hb hts hw_X2 hown hK hP 18 rfl rfl 0 (by decide) (hts _ (List.mem_cons_of_mem _ mw_156)) (fun _ h9 => h9) rfl dX5_pass_20 ?_
    refine lv_iload_n hx hb dX5_pass_23 rfl (lv_at hl 2 rfl) ?_
    refine lv_iload_n hx hb dX5_pass_24 rfl (lv_at hl 3 rfl) ?_
    obtain ⟨h_25, hf⟩ := ho_g hf
    refine va_iast (n := 5) (f := (v_t_day.2 0)) hx hb hK hP hD hS 19 0 rfl rfl h_25 dX5_pass_25 (fun H locs hP hD hS => ?_)
    have hP : va_P (dC, dI) vwCl (wX5 o_t a_t r_t cI cII v_t w_t ++ (wX1 o_a1 a_a1 cI v_a1 ++ (wX2 (a_t 0) a_t_day cI (oA v_t_day 0 (Int32.toNatClampNeg x2) x3)))) H := hP
    have hD : va_D A (wX5 o_t a_t r_t cI cII v_t w_t ++ (wX1 o_a1 a_a1 cI v_a1 ++ (wX2 (a_t 0) a_t_day cI (oA v_t_day 0 (Int32.toNatClampNeg x2) x3)))) := hD
    obtain ⟨v_t_day_25, e_v_t_day_25⟩ : ∃ z : obV, z = (oA v_t_day 0 (Int32.toNatClampNeg x2) x3) := ⟨_, rfl⟩
    rw [← e_v_t_day_25] at hP hD
    have hf := ho_l hf v_t_day_25 e_v_t_day_25
    refine lv_aload_n hx hb dX5_pass_26 rfl (lv_at hl 0 rfl) ?_
    refine va_get (D := (dC, dI)) (ci := 5) (v := .ref (a_t 0)) (C := RX5) (T := TX5) (N := 4) hx hb hts hw_X5 hown hK hP 0 rfl rfl 0 (by decide) (hts _ (List.mem_cons_of_mem _ mw_198)) (fun _ h9 => h9) rfl dX5_pass_27 ?_
    refine lv_aload_n hx hb dX5_pass_30 rfl (lv_at hl 1 rfl) ?_
    obtain ⟨u_31, e_31, hf⟩ := ho_b hf
    have hPc := hP.sub (ws' := (wX2 (a_t 0) a_t_day cI v_t_day_25 ++ (wX1 o_a1 a_a1 cI v_a1))) [18, 19, 20, 21, 22, 14, 15, 16, 17] rfl
    have hDc := hD.sub (ws' := (wX2 (a_t 0) a_t_day cI v_t_day_25 ++ (wX1 o_a1 a_a1 cI v_a1))) [18, 19, 20, 21, 22, 14, 15, 16, 17] (by decide) rfl
    have hFc := va_free (wc := (wX2 (a_t 0) a_t_day cI v_t_day_25 ++ (wX1 o_a1 a_a1 cI v_a1))) hD hS hA [18, 19, 20, 21, 22, 14, 15, 16, 17] rfl
    refine va_callv (va_runV (As := [.ref o_a1]) (rest := []) ⟨hx, hb, hml, hown, hts⟩ (c_X2_passAsComing l dC dI cI cII (a_t 0) a_t_day o_a1 a_a1 v_t_day_25 v_a1 _ u_31 e_31) (cwV 1 hts (hw_giV mw_385 mw_338 mw_339 mw_57 mw_340) rfl rfl rfl (by decide +kernel) ⟨Nat.le_of_ble_eq_true rfl, Nat.le_of_ble_eq_true rfl⟩) ⟨qB_blind, va_recv hK hPc (ci := 2) (q0 := 0) rfl rfl, fun U hU hW => ⟨rfl, qB_go hPc hDc hK hN hU hW⟩⟩ rfl rfl hl.1 rfl (lv_room (Nat.le_of_ble_eq_true rfl)) dX5_pass_31 ⟨Nat.zero_le _, Nat.zero_le _⟩) hS (fun q _ h => hFc q h) hFc (fun u t H1 locs ht hvm hw hB hz1 hk1 hS => ?_)
    obtain ⟨hP1, hD1⟩ := hB
    rw [ht] at hP1
    obtain ⟨hP, hD⟩ := va_join (wr := (wX5 o_t a_t r_t cI cII v_t w_t)) (w1 := (wX2 (a_t 0) a_t_day cI u_31 ++ (wX1 o_a1 a_a1 cI v_a1))) hP hD [18, 19, 20, 21, 22, 14, 15, 16, 17] [0, 1, 2, 3, 4, 5, 6, 7, 8, 9, 10, 11, 12, 13] rfl rfl (by decide) (by decide) hk1 hFc hP1 hD1
    generalize H1 = H at hP hS ⊢
    have hP : va_P (dC, dI) vwCl (wX5 o_t a_t r_t cI cII v_t w_t ++ (wX1 o_a1 a_a1 cI v_a1 ++ (wX2 (a_t 0) a_t_day cI u_31))) H := hP.sub [0, 1, 2, 3, 4, 5, 6, 7, 8, 9, 10, 11, 12, 13, 19, 20, 21, 22, 14, 15, 16, 17, 18] rfl
    have hD : va_D A (wX5 o_t a_t r_t cI cII v_t w_t ++ (wX1 o_a1 a_a1 cI v_a1 ++ (wX2 (a_t 0) a_t_day cI u_31))) := hD.sub [0, 1, 2, 3, 4, 5, 6, 7, 8, 9, 10, 11, 12, 13, 19, 20, 21, 22, 14, 15, 16, 17, 18] (by decide) rfl
    refine lv_aload_n hx hb dX5_pass_34 rfl (lv_at hl 0 rfl) ?_
    refine va_get (D := (dC, dI)) (ci := 5) (v := .ref (a_t 0)) (C := RX5) (T := TX5) (N := 4) hx hb hts hw_X5 hown hK hP 0 rfl rfl 0 (by decide) (hts _ (List.mem_cons_of_mem _ mw_198)) (fun _ h9 => h9) rfl dX5_pass_35 ?_
    refine va_get (D := (dC, dI)) (ci := 2) (v := .ref (a_t_day 3)) (C := RX2) (T := TX2) (N := 8) hx hb hts hw_X2 hown hK hP 18 rfl rfl 3 (by decide) (hts _ (List.mem_cons_of_mem _ mw_163)) (fun _ h9 => h9) rfl dX5_pass_38 ?_
    refine lv_iconst (v := 0) hx hb dX5_pass_41 (by decide) ?_
    refine lv_aload_n hx hb dX5_pass_42 rfl (lv_at hl 0 rfl) ?_
    refine va_get (D := (dC, dI)) (ci := 5) (v := .ref (a_t 1)) (C := RX5) (T := TX5) (N := 4) hx hb hts hw_X5 hown hK hP 0 rfl rfl 1 (by decide) (hts _ (List.mem_cons_of_mem _ mw_200)) (fun _ h9 => h9) rfl dX5_pass_43 ?_
    refine lv_iload_n hx hb dX5_pass_46 rfl (lv_at hl 3 rfl) ?_
    obtain ⟨h_row_47, hf⟩ := ho_g hf
    refine va_aldA (r := r_t) hx hb hK hP 1 1 rfl rfl h_row_47 dX5_pass_47 ?_
    refine lv_iconst (v := 0) hx hb dX5_pass_48 (by decide) ?_
    refine lv_bipush (v := 20) hx hb dX5_pass_49 (by decide) ?_
    refine va_copyi (n0 := 20) (n1 := 20) (f := (u_31.2 3)) (g := (w_t (Int32.toNatClampNeg x3))) hx hb (hml.trans hl.1.symm) hown (hts _ (List.mem_cons_of_mem _ mw_386)) (hts _ (List.mem_cons_of_mem _ mw_336)) (hts _ (List.mem_cons_of_mem _ mw_335)) (hts _ (List.mem_cons_of_mem _ mw_62)) hK hP hD hS 22 (4 + Int32.toNatClampNeg x3) 0 0 rfl (hp_row h_row_47) rfl rfl rfl (by decide) (by decide) (by decide) (by decide) (by decide) (fun _ _ => rfl) (Nat.le_of_ble_eq_true rfl) (Nat.le_of_ble_eq_true rfl) dX5_pass_51 (fun H locs hP hD hS => ?_)
    have hP : va_P (dC, dI) vwCl (wX5 o_t a_t r_t cI cII v_t (va_up w_t (Int32.toNatClampNeg x3) (va_cpy (u_31.2 3) (w_t (Int32.toNatClampNeg x3)) 0 0 20)) ++ (wX1 o_a1 a_a1 cI v_a1 ++ (wX2 (a_t 0) a_t_day cI u_31))) H := hp_rowset h_row_47 hP
    have hD : va_D A (wX5 o_t a_t r_t cI cII v_t (va_up w_t (Int32.toNatClampNeg x3) (va_cpy (u_31.2 3) (w_t (Int32.toNatClampNeg x3)) 0 0 20)) ++ (wX1 o_a1 a_a1 cI v_a1 ++ (wX2 (a_t 0) a_t_day cI u_31))) := hp_rowsetD h_row_47 hD
    obtain ⟨w_t_51, e_w_t_51⟩ : ∃ z : Nat → Nat → Int32, z = (va_up w_t (Int32.toNatClampNeg x3) (va_cpy (u_31.2 3) (w_t (Int32.toNatClampNeg x3)) 0 0 20)) := ⟨_, rfl⟩
    rw [← e_w_t_51] at hP hD
    have hf := ho_l hf w_t_51 e_w_t_51
    refine lv_aload_n hx hb dX5_pass_54 rfl (lv_at hl 0 rfl) ?_
    refine va_get (D := (dC, dI)) (ci := 5) (v := .ref (a_t 2)) (C := RX5) (T := TX5) (N := 4) hx hb hts hw_X5 hown hK hP 0 rfl rfl 2 (by decide) (hts _ (List.mem_cons_of_mem _ mw_201)) (fun _ h9 => h9) rfl dX5_pass_55 ?_
    refine lv_iload_n hx hb dX5_pass_58 rfl (lv_at hl 3 rfl) ?_
    refine lv_aload_n hx hb dX5_pass_59 rfl (lv_at hl 0 rfl) ?_
    refine va_get (D := (dC, dI)) (ci := 5) (v := .ref (a_t 0)) (C := RX5) (T := TX5) (N := 4) hx hb hts hw_X5 hown hK hP 0 rfl rfl 0 (by decide) (hts _ (List.mem_cons_of_mem _ mw_198)) (fun _ h9 => h9) rfl dX5_pass_60 ?_
    obtain ⟨u_63, e_63, hf⟩ := ho_b hf
    have hPc := hP.sub (ws' := (wX2 (a_t 0) a_t_day cI u_31)) [18, 19, 20, 21, 22] rfl
    refine vp_callSi (va_runV (As := []) (rest := [.int x3, .ref (a_t 2)]) ⟨hx, hb, hml, hown, hts⟩ (c_X2_meetings l dC dI cI cII (a_t 0) a_t_day u_31 u_63 e_63) (cwV 0 hts (hw_giV mw_387 mw_388 mw_389 mw_57 mw_390) rfl rfl rfl (by decide +kernel) ⟨Nat.le_of_ble_eq_true rfl, Nat.le_of_ble_eq_true rfl⟩) ⟨pB_blind, va_recv hK hPc (ci := 2) (q0 := 0) rfl rfl, fun U hU hW => ⟨rfl, pB_go hPc hK hN hU hW⟩⟩ rfl rfl hl.1 rfl (lv_room (Nat.le_of_ble_eq_true rfl)) dX5_pass_63 ⟨Nat.zero_le _, Nat.zero_le _⟩).run (fun z_63 ez_63 => ?_)
    subst ez_63
    obtain ⟨h_66, hf⟩ := ho_g hf
    refine va_iast (n := 10) (f := (v_t.2 2)) hx hb hK hP hD hS 2 0 rfl rfl h_66 dX5_pass_66 (fun H locs hP hD hS => ?_)
    have hP : va_P (dC, dI) vwCl (wX5 o_t a_t r_t cI cII (oA v_t 2 (Int32.toNatClampNeg x3) u_63) w_t_51 ++ (wX1 o_a1 a_a1 cI v_a1 ++ (wX2 (a_t 0) a_t_day cI u_31))) H := hP
    have hD : va_D A (wX5 o_t a_t r_t cI cII (oA v_t 2 (Int32.toNatClampNeg x3) u_63) w_t_51 ++ (wX1 o_a1 a_a1 cI v_a1 ++ (wX2 (a_t 0) a_t_day cI u_31))) := hD
    obtain ⟨v_t_66, e_v_t_66⟩ : ∃ z : obV, z = (oA v_t 2 (Int32.toNatClampNeg x3) u_63) := ⟨_, rfl⟩
    rw [← e_v_t_66] at hP hD
    have hf := ho_l hf v_t_66 e_v_t_66
    refine lv_iinc (v := (x3 + 1)) (lv' := [(3, .int (x3 + 1)), (0, .ref o_t), (1, .ref o_a1), (2, .int x2)]) hx hb dX5_pass_67 hl (k := 3) rfl (hp_inc (by decide)) (by decide) rfl (fun ls hl => ?_)
    refine lv_goto (tgt := 10) hx hb dX5_pass_70 (by decide) ?_
    exact ih10 (v_t_66, w_t_51, u_31, (x3 + 1)) _ hf _ _ _ hP hD hS (lv_sub hl [1, 2, 3, 0] rfl)
set_option maxHeartbeats 4000000 in
set_option maxRecDepth 100000 in
theorem c_X5_pass (l : Launch) (dC : Nat → ClassId) (dI : Nat → Nat → Nat) (cI cII : ClassId) (o_t : Nat) (a_t : Nat → Nat) (r_t : Nat → Nat) (o_a1 : Nat) (a_a1 : Nat → Nat) (a_t_day : Nat → Nat) (v_t : obV) (w_t : Nat → Nat → Int32) (v_a1 : obV) (v_t_day : obV) (x2 : Int32) (sz : Nat) (r : obV × (Nat → Nat → Int32) × obV) (hf : f_X5_pass  v_t w_t v_a1 v_t_day x2 = some r) :
    Met l yX5_pass (wd yX5_pass cX5_pass 4 none) ({ frames := 4, cells := 0, slots := 0, locals := 96 } : Room) (va_Pc [.ref o_t, .ref o_a1, .int x2] (qB (dC, dI) vwCl (wX5 o_t a_t r_t cI cII v_t w_t ++ (wX1 o_a1 a_a1 cI v_a1 ++ (wX2 (a_t 0) a_t_day cI v_t_day))) (hTY cI cII) sz)) (va_Qv (fun (_ : Unit) => True) (fun _ t => va_P (dC, dI) vwCl (wX5 o_t a_t r_t cI cII r.1 r.2.1 ++ (wX1 o_a1 a_a1 cI v_a1 ++ (wX2 (a_t 0) a_t_day cI r.2.2))) t.heap ∧ va_D (va_A (wX5 o_t a_t r_t cI cII v_t w_t ++ (wX1 o_a1 a_a1 cI v_a1 ++ (wX2 (a_t 0) a_t_day cI v_t_day))) sz) (wX5 o_t a_t r_t cI cII r.1 r.2.1 ++ (wX1 o_a1 a_a1 cI v_a1 ++ (wX2 (a_t 0) a_t_day cI r.2.2)))) (va_A (wX5 o_t a_t r_t cI cII v_t w_t ++ (wX1 o_a1 a_a1 cI v_a1 ++ (wX2 (a_t 0) a_t_day cI v_t_day))) sz)) 0 0 (va_A (wX5 o_t a_t r_t cI cII v_t w_t ++ (wX1 o_a1 a_a1 cI v_a1 ++ (wX2 (a_t 0) a_t_day cI v_t_day))) sz) := by
  refine Met.ofW (cc := cX5_pass) (maxL := 4) (ret := none) (by decide) rfl ?_
  intro p e s m args below meth c s₁ B hml hv
  obtain ⟨rfl, hsz, hD0, hP, hK, hN⟩ := hv
  have hx := B.exec
  have hb := B.bytes
  have hr := B.returns
  have hts := atoms_spec (ws := (wd yX5_pass cX5_pass 4 none)) B.pre
  have hown : s.vm.findClass RX5 = some m.cls := findClass_of_methodNamed B.named
  have hlocks := B.notSynchronized
  subst hsz
  have hD := hD0.self (sz := s.heap.size)
  generalize hAe : va_A (wX5 o_t a_t r_t cI cII v_t w_t ++ (wX1 o_a1 a_a1 cI v_a1 ++ (wX2 (a_t 0) a_t_day cI v_t_day))) s.heap.size = A at hD ⊢
  have hA : ∀ q : Nat, s.heap.size ≤ q → A q := fun q h => by rw [← hAe]; exact Or.inr h
  have hS : va_S A s.heap s.heap [] := va_S.rf
  have hl := lv_entry ([.ref o_t, .ref o_a1, .int x2]) (n := 4) (Nat.le_of_ble_eq_true rfl)
  rw [lg_entry_eq]
  generalize (lg_sl ([.ref o_t, .ref o_a1, .int x2]) ++ List.replicate (4 - (lg_sl ([.ref o_t, .ref o_a1, .int x2])).length) Slot.unset).toArray = ls at hl ⊢
  have hl : lv_has ls 4 [(0, .ref o_t), (1, .ref o_a1), (2, .int x2)] := hl
  clear hAe hD0
  unfold f_X5_pass at hf
  refine lv_aload_n hx hb dX5_pass_0 rfl (lv_at hl 0 rfl) ?_
  refine va_get (D := (dC, dI)) (ci := 5) (v := .ref (a_t 0)) (C := RX5) (T := TX5) (N := 4) hx hb hts hw_X5 hown hK hP 0 rfl rfl 0 (by decide) (hts _ (List.mem_cons_of_mem _ mw_198)) (fun _ h9 => h9) rfl dX5_pass_1 ?_
  refine lv_aload_n hx hb dX5_pass_4 rfl (lv_at hl 1 rfl) ?_
  obtain ⟨u_5, e_5, hf⟩ := ho_b hf
  have hPc := hP.sub (ws' := (wX2 (a_t 0) a_t_day cI v_t_day ++ (wX1 o_a1 a_a1 cI v_a1))) [18, 19, 20, 21, 22, 14, 15, 16, 17] rfl
  have hDc := hD.sub (ws' := (wX2 (a_t 0) a_t_day cI v_t_day ++ (wX1 o_a1 a_a1 cI v_a1))) [18, 19, 20, 21, 22, 14, 15, 16, 17] (by decide) rfl
  have hFc := va_free (wc := (wX2 (a_t 0) a_t_day cI v_t_day ++ (wX1 o_a1 a_a1 cI v_a1))) hD hS hA [18, 19, 20, 21, 22, 14, 15, 16, 17] rfl
  refine va_callv (va_runV (As := [.ref o_a1]) (rest := []) ⟨hx, hb, hml, hown, hts⟩ (c_X2_takeComings l dC dI cI cII (a_t 0) a_t_day o_a1 a_a1 v_t_day v_a1 _ u_5 e_5) (cwV 1 hts (hw_giV mw_384 mw_331 mw_332 mw_57 mw_333) rfl rfl rfl (by decide +kernel) ⟨Nat.le_of_ble_eq_true rfl, Nat.le_of_ble_eq_true rfl⟩) ⟨qB_blind, va_recv hK hPc (ci := 2) (q0 := 0) rfl rfl, fun U hU hW => ⟨rfl, qB_go hPc hDc hK hN hU hW⟩⟩ rfl rfl hl.1 rfl (lv_room (Nat.le_of_ble_eq_true rfl)) dX5_pass_5 ⟨Nat.zero_le _, Nat.zero_le _⟩) hS (fun q _ h => hFc q h) hFc (fun u t H1 locs ht hvm hw hB hz1 hk1 hS => ?_)
  obtain ⟨hP1, hD1⟩ := hB
  rw [ht] at hP1
  obtain ⟨hP, hD⟩ := va_join (wr := (wX5 o_t a_t r_t cI cII v_t w_t)) (w1 := (wX2 (a_t 0) a_t_day cI u_5 ++ (wX1 o_a1 a_a1 cI v_a1))) hP hD [18, 19, 20, 21, 22, 14, 15, 16, 17] [0, 1, 2, 3, 4, 5, 6, 7, 8, 9, 10, 11, 12, 13] rfl rfl (by decide) (by decide) hk1 hFc hP1 hD1
  generalize H1 = H at hP hS ⊢
  have hP : va_P (dC, dI) vwCl (wX5 o_t a_t r_t cI cII v_t w_t ++ (wX1 o_a1 a_a1 cI v_a1 ++ (wX2 (a_t 0) a_t_day cI u_5))) H := hP.sub [0, 1, 2, 3, 4, 5, 6, 7, 8, 9, 10, 11, 12, 13, 19, 20, 21, 22, 14, 15, 16, 17, 18] rfl
  have hD : va_D A (wX5 o_t a_t r_t cI cII v_t w_t ++ (wX1 o_a1 a_a1 cI v_a1 ++ (wX2 (a_t 0) a_t_day cI u_5))) := hD.sub [0, 1, 2, 3, 4, 5, 6, 7, 8, 9, 10, 11, 12, 13, 19, 20, 21, 22, 14, 15, 16, 17, 18] (by decide) rfl
  refine lv_iconst (v := 0) hx hb dX5_pass_8 (by decide) ?_
  refine lv_istore_n (lv' := [(3, .int 0), (0, .ref o_t), (1, .ref o_a1), (2, .int x2)]) hx hb dX5_pass_9 rfl hl (by decide) rfl (fun ls hl => ?_)
  exact w_X5_pass_l10 ⟨hx, hb, hml, hown, hts, hr, hlocks, hK, hN⟩ hA  _ _ _ hf _ _ _ hP hD hS (lv_sub hl [1, 2, 3, 0] rfl)
set_option maxHeartbeats 4000000 in
set_option maxRecDepth 100000 in
theorem w_X5_leastMeetings_l4 {p : Program} {l : Launch} {e : Env} {s : State} {m : MethodId} {args : Array Value} {below : List Frame} {meth : Method} {c : Code} {dC : Nat → ClassId} {dI : Nat → Nat → Nat} {cI cII : ClassId} {o_t : Nat} {a_t : Nat → Nat} {r_t : Nat → Nat} (C0 : hC p s m args meth c dC dI cI cII RX5 cX5_leastMeetings 3 (wd yX5_leastMeetings cX5_leastMeetings 3 (some .int)) (some .int)) {w_t : Nat → Nat → Int32} {v_t : obV}   (hP : va_P (dC, dI) vwCl (wX5 o_t a_t r_t cI cII v_t w_t) s.heap) :
    ∀ (n : Nat) (y : Int32 × Int32) (r : Int32), f_X5_leastMeetings_l4  v_t  n y = some r → ∀ (ls : Array Slot), lv_has ls 3 [(0, .ref o_t), (1, .int y.1), (2, .int y.2)] → W p l e ({ frames := 0, cells := 0, slots := 0, locals := 0 } : Room) s m args below meth c s.heap [] 0 0 (MQ below (vp_Si (fun z => r = z)) args s 0 0 (fun _ => False)) (F0 m 4 ls []) := by
  obtain ⟨hx, hb, hml, hown, hts, hr, hlocks, hK, hN⟩ := C0
  refine lp_W ?_
  intro k4 ih4 y r hf ls hl
  obtain ⟨x1, x2⟩ := y
  have hf : f_X5_leastMeetings_b4  v_t x1 x2  k4 = some r := hf
  have hl : lv_has ls 3 [(0, .ref o_t), (1, .int x1), (2, .int x2)] := hl
  unfold f_X5_leastMeetings_b4 at hf
  refine lv_iload_n hx hb dX5_leastMeetings_4 rfl (lv_at hl 2 rfl) ?_
  refine lv_bipush (v := 10) hx hb dX5_leastMeetings_5 (by decide) ?_
  refine lv_icmp_ge (tgt := 33) hx hb dX5_leastMeetings_7 (by decide) (fun c_7 => ?_) (fun c_7 => ?_)
  · have hf := ho_t hf c_7
    refine lv_iload_n hx hb dX5_leastMeetings_33 rfl (lv_at hl 1 rfl) ?_
    obtain rfl := Option.some.inj hf
    exact W.iret (v := x1) hx hb hr (fun t ht hW => ⟨_, rfl, rfl, ht⟩) (fun q hq => by cases hq) dX5_leastMeetings_34 hlocks
  · have hf := ho_f hf c_7
    refine lv_aload_n hx hb dX5_leastMeetings_10 rfl (lv_at hl 0 rfl) ?_
    refine va_get (D := (dC, dI)) (ci := 5) (v := .ref (a_t 2)) (C := RX5) (T := TX5) (N := 4) hx hb hts hw_X5 hown hK hP 0 rfl rfl 2 (by decide) (hts _ (List.mem_cons_of_mem _ mw_201)) (fun _ h9 => h9) rfl dX5_leastMeetings_11 ?_
    refine lv_iload_n hx hb dX5_leastMeetings_14 rfl (lv_at hl 2 rfl) ?_
    obtain ⟨h_15, hf⟩ := ho_g hf
    refine va_iald (n := 10) (f := (v_t.2 2)) hx hb hK hP 2 0 rfl rfl h_15 dX5_leastMeetings_15 ?_
    refine lv_aload_n hx hb dX5_leastMeetings_16 rfl (lv_at hl 0 rfl) ?_
    refine va_get (D := (dC, dI)) (ci := 5) (v := .ref (a_t 2)) (C := RX5) (T := TX5) (N := 4) hx hb hts hw_X5 hown hK hP 0 rfl rfl 2 (by decide) (hts _ (List.mem_cons_of_mem _ mw_201)) (fun _ h9 => h9) rfl dX5_leastMeetings_17 ?_
    refine lv_iload_n hx hb dX5_leastMeetings_20 rfl (lv_at hl 1 rfl) ?_
    obtain ⟨h_21, hf⟩ := ho_g hf
    refine va_iald (n := 10) (f := (v_t.2 2)) hx hb hK hP 2 0 rfl rfl h_21 dX5_leastMeetings_21 ?_
    refine lv_icmp_ge (tgt := 27) hx hb dX5_leastMeetings_22 (by decide) (fun c_22 => ?_) (fun c_22 => ?_)
    · have hf := ho_t hf c_22
      refine lv_iinc (v := (x2 + 1)) (lv' := [(2, .int (x2 + 1)), (0, .ref o_t), (1, .int x1)]) hx hb dX5_leastMeetings_27 hl (k := 2) rfl (hp_inc (by decide)) (by decide) rfl (fun ls hl => ?_)
      refine lv_goto (tgt := 4) hx hb dX5_leastMeetings_30 (by decide) ?_
      exact ih4 (x1, (x2 + 1)) _ hf _ (lv_sub hl [1, 2, 0] rfl)
    · have hf := ho_f hf c_22
      refine lv_iload_n hx hb dX5_leastMeetings_25 rfl (lv_at hl 2 rfl) ?_
      refine lv_istore_n (lv' := [(1, .int x2), (0, .ref o_t), (2, .int x2)]) hx hb dX5_leastMeetings_26 rfl hl (by decide) rfl (fun ls hl => ?_)
      refine lv_iinc (v := (x2 + 1)) (lv' := [(2, .int (x2 + 1)), (1, .int x2), (0, .ref o_t)]) hx hb dX5_leastMeetings_27 hl (k := 2) rfl (hp_inc (by decide)) (by decide) rfl (fun ls hl => ?_)
      refine lv_goto (tgt := 4) hx hb dX5_leastMeetings_30 (by decide) ?_
      exact ih4 (x2, (x2 + 1)) _ hf _ (lv_sub hl [2, 1, 0] rfl)
set_option maxHeartbeats 4000000 in
set_option maxRecDepth 100000 in
theorem c_X5_leastMeetings (l : Launch) (dC : Nat → ClassId) (dI : Nat → Nat → Nat) (cI cII : ClassId) (o_t : Nat) (a_t : Nat → Nat) (r_t : Nat → Nat) (v_t : obV) (w_t : Nat → Nat → Int32)  (r : Int32) (hf : f_X5_leastMeetings  v_t  = some r) :
    Met l yX5_leastMeetings (wd yX5_leastMeetings cX5_leastMeetings 3 (some .int)) ({ frames := 0, cells := 0, slots := 0, locals := 0 } : Room) (va_Pc [.ref o_t] (pB (dC, dI) vwCl (wX5 o_t a_t r_t cI cII v_t w_t) (hTY cI cII))) (vp_Si (fun z => r = z)) 0 0 (fun _ => False) := by
  refine Met.ofW (cc := cX5_leastMeetings) (maxL := 3) (ret := (some .int)) (by decide) rfl ?_
  intro p e s m args below meth c s₁ B hml hv
  obtain ⟨rfl, hP, hK, hN⟩ := hv
  have hx := B.exec
  have hb := B.bytes
  have hr := B.returns
  have hts := atoms_spec (ws := (wd yX5_leastMeetings cX5_leastMeetings 3 (some .int))) B.pre
  have hown : s.vm.findClass RX5 = some m.cls := findClass_of_methodNamed B.named
  have hlocks := B.notSynchronized
  have hl := lv_entry ([.ref o_t]) (n := 3) (Nat.le_of_ble_eq_true rfl)
  rw [lg_entry_eq]
  generalize (lg_sl ([.ref o_t]) ++ List.replicate (3 - (lg_sl ([.ref o_t])).length) Slot.unset).toArray = ls at hl ⊢
  have hl : lv_has ls 3 [(0, .ref o_t)] := hl
  unfold f_X5_leastMeetings at hf
  refine lv_iconst (v := 0) hx hb dX5_leastMeetings_0 (by decide) ?_
  refine lv_istore_n (lv' := [(1, .int 0), (0, .ref o_t)]) hx hb dX5_leastMeetings_1 rfl hl (by decide) rfl (fun ls hl => ?_)
  refine lv_iconst (v := 1) hx hb dX5_leastMeetings_2 (by decide) ?_
  refine lv_istore_n (lv' := [(2, .int 1), (1, .int 0), (0, .ref o_t)]) hx hb dX5_leastMeetings_3 rfl hl (by decide) rfl (fun ls hl => ?_)
  exact w_X5_leastMeetings_l4 ⟨hx, hb, hml, hown, hts, hr, hlocks, hK, hN⟩  hP _ _ _ hf _ (lv_sub hl [2, 1, 0] rfl)
set_option maxHeartbeats 4000000 in
set_option maxRecDepth 100000 in
theorem w_X5_possible_l4 {p : Program} {l : Launch} {e : Env} {s : State} {m : MethodId} {args : Array Value} {below : List Frame} {meth : Method} {c : Code} {dC : Nat → ClassId} {dI : Nat → Nat → Nat} {cI cII : ClassId} {o_t : Nat} {a_t : Nat → Nat} {r_t : Nat → Nat} {o_a1 : Nat} {a_a1 : Nat → Nat} (C0 : hC p s m args meth c dC dI cI cII RX5 cX5_possible 4 (wd yX5_possible cX5_possible 4 (some .int)) (some .int)) {v_t : obV} {w_t : Nat → Nat → Int32} {v_a1 : obV}   (hP : va_P (dC, dI) vwCl (wX5 o_t a_t r_t cI cII v_t w_t ++ (wX4 o_a1 a_a1 cI v_a1)) s.heap) :
    ∀ (n : Nat) (y : Int32 × Int32) (r : Int32), f_X5_possible_l4  w_t v_a1  n y = some r → ∀ (ls : Array Slot), lv_has ls 4 [(0, .ref o_t), (1, .ref o_a1), (2, .int y.1), (3, .int y.2)] → W p l e ({ frames := 1, cells := 0, slots := 0, locals := 22 } : Room) s m args below meth c s.heap [] 0 0 (MQ below (vp_Si (fun z => r = z)) args s 0 0 (fun _ => False)) (F0 m 4 ls []) := by
  obtain ⟨hx, hb, hml, hown, hts, hr, hlocks, hK, hN⟩ := C0
  refine lp_W ?_
  intro k4 ih4 y r hf ls hl
  obtain ⟨x2, x3⟩ := y
  have hf : f_X5_possible_b4  w_t v_a1 x2 x3  k4 = some r := hf
  have hl : lv_has ls 4 [(0, .ref o_t), (1, .ref o_a1), (2, .int x2), (3, .int x3)] := hl
  unfold f_X5_possible_b4 at hf
  refine lv_iload_n hx hb dX5_possible_4 rfl (lv_at hl 3 rfl) ?_
  refine lv_bipush (v := 10) hx hb dX5_possible_5 (by decide) ?_
  refine lv_icmp_ge (tgt := 35) hx hb dX5_possible_7 (by decide) (fun c_7 => ?_) (fun c_7 => ?_)
  · have hf := ho_t hf c_7
    refine lv_iload_n hx hb dX5_possible_35 rfl (lv_at hl 2 rfl) ?_
    obtain rfl := Option.some.inj hf
    exact W.iret (v := x2) hx hb hr (fun t ht hW => ⟨_, rfl, rfl, ht⟩) (fun q hq => by cases hq) dX5_possible_36 hlocks
  · have hf := ho_f hf c_7
    refine lv_aload_n hx hb dX5_possible_10 rfl (lv_at hl 1 rfl) ?_
    refine lv_aload_n hx hb dX5_possible_11 rfl (lv_at hl 0 rfl) ?_
    refine va_get (D := (dC, dI)) (ci := 5) (v := .ref (a_t 1)) (C := RX5) (T := TX5) (N := 4) hx hb hts hw_X5 hown hK hP 0 rfl rfl 1 (by decide) (hts _ (List.mem_cons_of_mem _ mw_200)) (fun _ h9 => h9) rfl dX5_possible_12 ?_
    refine lv_iload_n hx hb dX5_possible_15 rfl (lv_at hl 3 rfl) ?_
    obtain ⟨h_row_16, hf⟩ := ho_g hf
    refine va_aldA (r := r_t) hx hb hK hP 1 1 rfl rfl h_row_16 dX5_possible_16 ?_
    obtain ⟨u_17, e_17, hf⟩ := ho_b hf
    have hPc : va_P (dC, dI) vwCl (wX4 o_a1 a_a1 cI v_a1 ++ ([((r_t (Int32.toNatClampNeg x3)), .inl (cI, 20, .inl (w_t (Int32.toNatClampNeg x3))))])) s.heap := (hP.sub (ws' := (wX4 o_a1 a_a1 cI v_a1)) [14, 15, 16] rfl).app (hp_row1 hP (hp_row h_row_16))
    refine vp_callSi (va_runV (As := [.ref (r_t (Int32.toNatClampNeg x3))]) (rest := []) ⟨hx, hb, hml, hown, hts⟩ (c_X4_agreeWith l dC dI cI cII o_a1 a_a1 (r_t (Int32.toNatClampNeg x3)) 20 v_a1 (w_t (Int32.toNatClampNeg x3)) u_17 e_17) (cwV 1 hts (hw_giV mw_405 mw_406 mw_407 mw_56 mw_408) rfl rfl rfl (by decide +kernel) ⟨Nat.le_of_ble_eq_true rfl, Nat.le_of_ble_eq_true rfl⟩) ⟨pB_blind, va_recv hK hPc (ci := 4) (q0 := 0) rfl rfl, fun U hU hW => ⟨rfl, pB_go hPc hK hN hU hW⟩⟩ rfl rfl hl.1 rfl (lv_room (Nat.le_of_ble_eq_true rfl)) dX5_possible_17 ⟨Nat.zero_le _, Nat.zero_le _⟩).run (fun z_17 ez_17 => ?_)
    subst ez_17
    refine lv_if_eq (tgt := 29) hx hb dX5_possible_20 (by decide) (fun c_20 => ?_) (fun c_20 => ?_)
    · have hf := ho_t hf c_20
      refine lv_iinc (v := (x3 + 1)) (lv' := [(3, .int (x3 + 1)), (0, .ref o_t), (1, .ref o_a1), (2, .int x2)]) hx hb dX5_possible_29 hl (k := 3) rfl (hp_inc (by decide)) (by decide) rfl (fun ls hl => ?_)
      refine lv_goto (tgt := 4) hx hb dX5_possible_32 (by decide) ?_
      exact ih4 (x2, (x3 + 1)) _ hf _ (lv_sub hl [1, 2, 3, 0] rfl)
    · have hf := ho_f hf c_20
      refine lv_iload_n hx hb dX5_possible_23 rfl (lv_at hl 2 rfl) ?_
      refine lv_iconst (v := 1) hx hb dX5_possible_24 (by decide) ?_
      refine lv_iload_n hx hb dX5_possible_25 rfl (lv_at hl 3 rfl) ?_
      refine lv_ishl hx hb dX5_possible_26 ?_
      refine lv_ior hx hb dX5_possible_27 ?_
      refine lv_istore_n (lv' := [(2, .int (x2 ||| (1 <<< (x3 &&& 31)))), (0, .ref o_t), (1, .ref o_a1), (3, .int x3)]) hx hb dX5_possible_28 rfl hl (by decide) rfl (fun ls hl => ?_)
      refine lv_iinc (v := (x3 + 1)) (lv' := [(3, .int (x3 + 1)), (2, .int (x2 ||| (1 <<< (x3 &&& 31)))), (0, .ref o_t), (1, .ref o_a1)]) hx hb dX5_possible_29 hl (k := 3) rfl (hp_inc (by decide)) (by decide) rfl (fun ls hl => ?_)
      refine lv_goto (tgt := 4) hx hb dX5_possible_32 (by decide) ?_
      exact ih4 ((x2 ||| (1 <<< (x3 &&& 31))), (x3 + 1)) _ hf _ (lv_sub hl [2, 3, 1, 0] rfl)
set_option maxHeartbeats 4000000 in
set_option maxRecDepth 100000 in
theorem c_X5_possible (l : Launch) (dC : Nat → ClassId) (dI : Nat → Nat → Nat) (cI cII : ClassId) (o_t : Nat) (a_t : Nat → Nat) (r_t : Nat → Nat) (o_a1 : Nat) (a_a1 : Nat → Nat) (v_t : obV) (w_t : Nat → Nat → Int32) (v_a1 : obV)  (r : Int32) (hf : f_X5_possible  w_t v_a1  = some r) :
    Met l yX5_possible (wd yX5_possible cX5_possible 4 (some .int)) ({ frames := 1, cells := 0, slots := 0, locals := 22 } : Room) (va_Pc [.ref o_t, .ref o_a1] (pB (dC, dI) vwCl (wX5 o_t a_t r_t cI cII v_t w_t ++ (wX4 o_a1 a_a1 cI v_a1)) (hTY cI cII))) (vp_Si (fun z => r = z)) 0 0 (fun _ => False) := by
  refine Met.ofW (cc := cX5_possible) (maxL := 4) (ret := (some .int)) (by decide) rfl ?_
  intro p e s m args below meth c s₁ B hml hv
  obtain ⟨rfl, hP, hK, hN⟩ := hv
  have hx := B.exec
  have hb := B.bytes
  have hr := B.returns
  have hts := atoms_spec (ws := (wd yX5_possible cX5_possible 4 (some .int))) B.pre
  have hown : s.vm.findClass RX5 = some m.cls := findClass_of_methodNamed B.named
  have hlocks := B.notSynchronized
  have hl := lv_entry ([.ref o_t, .ref o_a1]) (n := 4) (Nat.le_of_ble_eq_true rfl)
  rw [lg_entry_eq]
  generalize (lg_sl ([.ref o_t, .ref o_a1]) ++ List.replicate (4 - (lg_sl ([.ref o_t, .ref o_a1])).length) Slot.unset).toArray = ls at hl ⊢
  have hl : lv_has ls 4 [(0, .ref o_t), (1, .ref o_a1)] := hl
  unfold f_X5_possible at hf
  refine lv_iconst (v := 0) hx hb dX5_possible_0 (by decide) ?_
  refine lv_istore_n (lv' := [(2, .int 0), (0, .ref o_t), (1, .ref o_a1)]) hx hb dX5_possible_1 rfl hl (by decide) rfl (fun ls hl => ?_)
  refine lv_iconst (v := 0) hx hb dX5_possible_2 (by decide) ?_
  refine lv_istore_n (lv' := [(3, .int 0), (2, .int 0), (0, .ref o_t), (1, .ref o_a1)]) hx hb dX5_possible_3 rfl hl (by decide) rfl (fun ls hl => ?_)
  exact w_X5_possible_l4 ⟨hx, hb, hml, hown, hts, hr, hlocks, hK, hN⟩  hP _ _ _ hf _ (lv_sub hl [2, 3, 1, 0] rfl)
set_option maxHeartbeats 4000000 in
set_option maxRecDepth 100000 in
theorem w_X5_mostLeft_l25 {p : Program} {l : Launch} {e : Env} {s : State} {m : MethodId} {args : Array Value} {below : List Frame} {meth : Method} {c : Code} {dC : Nat → ClassId} {dI : Nat → Nat → Nat} {cI cII : ClassId} {o_t : Nat} {a_t : Nat → Nat} {r_t : Nat → Nat} {A : Nat → Prop} (C0 : hC p s m args meth c dC dI cI cII RX5 cX5_mostLeft 6 (wd yX5_mostLeft cX5_mostLeft 6 (some .int)) (some .int)) (hA : ∀ q, s.heap.size ≤ q → A q)  {w_t : Nat → Nat → Int32} {x1 : Int32} {x2 : Int32}    :
    ∀ (n : Nat) (y : obV × Int32 × Int32) (r : Int32 × obV), f_X5_mostLeft_l25  w_t x1 x2  n y = some r → ∀ (H : Heap) (locs : List Loc) (ls : Array Slot), va_P (dC, dI) vwCl (wX5 o_t a_t r_t cI cII y.1 w_t) H → va_D A (wX5 o_t a_t r_t cI cII y.1 w_t) → va_S A s.heap H locs → lv_has ls 6 [(0, .ref o_t), (1, .int x1), (2, .int x2), (3, .int y.2.1), (4, .int y.2.2)] → W p l e ({ frames := 1, cells := 0, slots := 0, locals := 21 } : Room) s m args below meth c H locs 0 0 (MQ below (va_Qi (fun (z : Int32) (_ : Unit) => r.1 = z) (fun _ t => va_P (dC, dI) vwCl (wX5 o_t a_t r_t cI cII r.2 w_t) t.heap ∧ va_D A (wX5 o_t a_t r_t cI cII r.2 w_t)) A) args s 0 0 A) (F0 m 25 ls []) := by
  obtain ⟨hx, hb, hml, hown, hts, hr, hlocks, hK, hN⟩ := C0
  refine lp_W ?_
  intro k25 ih25 y r hf H locs ls hP hD hS hl
  obtain ⟨v_t, x3, x4⟩ := y
  have hf : f_X5_mostLeft_b25  v_t w_t x1 x2 x3 x4  k25 = some r := hf
  have hP : va_P (dC, dI) vwCl (wX5 o_t a_t r_t cI cII v_t w_t) H := hP
  have hD : va_D A (wX5 o_t a_t r_t cI cII v_t w_t) := hD
  have hl : lv_has ls 6 [(0, .ref o_t), (1, .int x1), (2, .int x2), (3, .int x3), (4, .int x4)] := hl
  unfold f_X5_mostLeft_b25 at hf
  refine lv_iload hx hb dX5_mostLeft_25 (lv_at hl 4 rfl) ?_
  refine lv_bipush (v := 10) hx hb dX5_mostLeft_27 (by decide) ?_
  refine lv_icmp_ge (tgt := 81) hx hb dX5_mostLeft_29 (by decide) (fun c_29 => ?_) (fun c_29 => ?_)
  · have hf := ho_t hf c_29
    refine lv_iload_n hx hb dX5_mostLeft_81 rfl (lv_at hl 3 rfl) ?_
    obtain rfl := Option.some.inj hf
    exact W.iret (v := x3) hx hb hr (fun t ht hW => ⟨⟨_, (), rfl, rfl, by rw [ht]; exact hP, hD⟩, hS.F ht⟩) hS.2.2 dX5_mostLeft_82 hlocks
  · have hf := ho_f hf c_29
    refine lv_iload_n hx hb dX5_mostLeft_32 rfl (lv_at hl 1 rfl) ?_
    refine lv_iconst (v := 1) hx hb dX5_mostLeft_33 (by decide) ?_
    refine lv_iload hx hb dX5_mostLeft_34 (lv_at hl 4 rfl) ?_
    refine lv_ishl hx hb dX5_mostLeft_36 ?_
    refine lv_iand hx hb dX5_mostLeft_37 ?_
    refine lv_if_eq (tgt := 75) hx hb dX5_mostLeft_38 (by decide) (fun c_38 => ?_) (fun c_38 => ?_)
    · have hf := ho_t hf c_38
      refine lv_iinc (v := (x4 + 1)) (lv' := [(4, .int (x4 + 1)), (0, .ref o_t), (1, .int x1), (2, .int x2), (3, .int x3)]) hx hb dX5_mostLeft_75 hl (k := 4) rfl (hp_inc (by decide)) (by decide) rfl (fun ls hl => ?_)
      refine lv_goto (tgt := 25) hx hb dX5_mostLeft_78 (by decide) ?_
      exact ih25 (v_t, x3, (x4 + 1)) _ hf _ _ _ hP hD hS (lv_sub hl [1, 2, 3, 4, 0] rfl)
    · have hf := ho_f hf c_38
      refine lv_aload_n hx hb dX5_mostLeft_41 rfl (lv_at hl 0 rfl) ?_
      refine va_get (D := (dC, dI)) (ci := 5) (v := .ref (a_t 1)) (C := RX5) (T := TX5) (N := 4) hx hb hts hw_X5 hown hK hP 0 rfl rfl 1 (by decide) (hts _ (List.mem_cons_of_mem _ mw_200)) (fun _ h9 => h9) rfl dX5_mostLeft_42 ?_
      refine lv_iload hx hb dX5_mostLeft_45 (lv_at hl 4 rfl) ?_
      obtain ⟨h_row_47, hf⟩ := ho_g hf
      refine va_aldA (r := r_t) hx hb hK hP 1 1 rfl rfl h_row_47 dX5_mostLeft_47 ?_
      refine lv_iload_n hx hb dX5_mostLeft_48 rfl (lv_at hl 2 rfl) ?_
      obtain ⟨h_49, hf⟩ := ho_g hf
      refine va_iald (n := 20) (f := (w_t (Int32.toNatClampNeg x4))) hx hb hK hP (4 + Int32.toNatClampNeg x4) 0 (hp_row0 h_row_47) rfl h_49 dX5_mostLeft_49 ?_
      refine lv_istore (lv' := [(5, .int ((w_t (Int32.toNatClampNeg x4)) (Int32.toNatClampNeg x2))), (0, .ref o_t), (1, .int x1), (2, .int x2), (3, .int x3), (4, .int x4)]) hx hb dX5_mostLeft_50 hl (by decide) rfl (fun ls hl => ?_)
      refine lv_aload_n hx hb dX5_mostLeft_52 rfl (lv_at hl 1 rfl) ?_
      refine va_get (D := (dC, dI)) (ci := 5) (v := .ref (a_t 3)) (C := RX5) (T := TX5) (N := 4) hx hb hts hw_X5 hown hK hP 0 rfl rfl 3 (by decide) (hts _ (List.mem_cons_of_mem _ mw_203)) (fun _ h9 => h9) rfl dX5_mostLeft_53 ?_
      refine lv_iload hx hb dX5_mostLeft_56 (lv_at hl 0 rfl) ?_
      refine lv_dup2_11 hx hb dX5_mostLeft_58 rfl rfl ?_
      obtain ⟨h_59, hf⟩ := ho_g hf
      refine va_iald (n := 6) (f := (v_t.2 3)) hx hb hK hP 3 0 rfl rfl h_59 dX5_mostLeft_59 ?_
      refine lv_iconst (v := 1) hx hb dX5_mostLeft_60 (by decide) ?_
      refine lv_iadd hx hb dX5_mostLeft_61 ?_
      obtain ⟨h_62, hf⟩ := ho_g hf
      refine va_iast (n := 6) (f := (v_t.2 3)) hx hb hK hP hD hS 3 0 rfl rfl h_62 dX5_mostLeft_62 (fun H locs hP hD hS => ?_)
      have hP : va_P (dC, dI) vwCl (wX5 o_t a_t r_t cI cII (oA v_t 3 (Int32.toNatClampNeg ((w_t (Int32.toNatClampNeg x4)) (Int32.toNatClampNeg x2))) (((v_t.2 3) (Int32.toNatClampNeg ((w_t (Int32.toNatClampNeg x4)) (Int32.toNatClampNeg x2)))) + 1)) w_t) H := hP
      have hD : va_D A (wX5 o_t a_t r_t cI cII (oA v_t 3 (Int32.toNatClampNeg ((w_t (Int32.toNatClampNeg x4)) (Int32.toNatClampNeg x2))) (((v_t.2 3) (Int32.toNatClampNeg ((w_t (Int32.toNatClampNeg x4)) (Int32.toNatClampNeg x2)))) + 1)) w_t) := hD
      obtain ⟨v_t_62, e_v_t_62⟩ : ∃ z : obV, z = (oA v_t 3 (Int32.toNatClampNeg ((w_t (Int32.toNatClampNeg x4)) (Int32.toNatClampNeg x2))) (((v_t.2 3) (Int32.toNatClampNeg ((w_t (Int32.toNatClampNeg x4)) (Int32.toNatClampNeg x2)))) + 1)) := ⟨_, rfl⟩
      rw [← e_v_t_62] at hP hD
      have hf := ho_l hf v_t_62 e_v_t_62
      refine lv_iload_n hx hb dX5_mostLeft_63 rfl (lv_at hl 4 rfl) ?_
      refine lv_aload_n hx hb dX5_mostLeft_64 rfl (lv_at hl 1 rfl) ?_
      refine va_get (D := (dC, dI)) (ci := 5) (v := .ref (a_t 3)) (C := RX5) (T := TX5) (N := 4) hx hb hts hw_X5 hown hK hP 0 rfl rfl 3 (by decide) (hts _ (List.mem_cons_of_mem _ mw_203)) (fun _ h9 => h9) rfl dX5_mostLeft_65 ?_
      refine lv_iload hx hb dX5_mostLeft_68 (lv_at hl 0 rfl) ?_
      obtain ⟨h_70, hf⟩ := ho_g hf
      refine va_iald (n := 6) (f := (v_t_62.2 3)) hx hb hK hP 3 0 rfl rfl h_70 dX5_mostLeft_70 ?_
      refine va_mmax hx hb (hml.trans hl.1.symm) hown (hts _ (List.mem_cons_of_mem _ mw_417)) (hts _ (List.mem_cons_of_mem _ mw_370)) (hts _ (List.mem_cons_of_mem _ mw_61)) (hts _ (List.mem_cons_of_mem _ mw_371)) (Nat.le_of_ble_eq_true rfl) (Nat.le_of_ble_eq_true rfl) (Nat.zero_le _) (Nat.zero_le _) dX5_mostLeft_71 ?_
      refine lv_topi (fun z_74 e_74 => ?_)
      have hf := ho_l hf z_74 e_74
      refine lv_istore_n (lv' := [(3, .int z_74), (5, .int ((w_t (Int32.toNatClampNeg x4)) (Int32.toNatClampNeg x2))), (0, .ref o_t), (1, .int x1), (2, .int x2), (4, .int x4)]) hx hb dX5_mostLeft_74 rfl hl (by decide) rfl (fun ls hl => ?_)
      refine lv_iinc (v := (x4 + 1)) (lv' := [(4, .int (x4 + 1)), (3, .int z_74), (5, .int ((w_t (Int32.toNatClampNeg x4)) (Int32.toNatClampNeg x2))), (0, .ref o_t), (1, .int x1), (2, .int x2)]) hx hb dX5_mostLeft_75 hl (k := 5) rfl (hp_inc (by decide)) (by decide) rfl (fun ls hl => ?_)
      refine lv_goto (tgt := 25) hx hb dX5_mostLeft_78 (by decide) ?_
      exact ih25 (v_t_62, z_74, (x4 + 1)) _ hf _ _ _ hP hD hS (lv_sub hl [3, 4, 5, 1, 0] rfl)
set_option maxHeartbeats 4000000 in
set_option maxRecDepth 100000 in
theorem w_X5_mostLeft_l2 {p : Program} {l : Launch} {e : Env} {s : State} {m : MethodId} {args : Array Value} {below : List Frame} {meth : Method} {c : Code} {dC : Nat → ClassId} {dI : Nat → Nat → Nat} {cI cII : ClassId} {o_t : Nat} {a_t : Nat → Nat} {r_t : Nat → Nat} {A : Nat → Prop} (C0 : hC p s m args meth c dC dI cI cII RX5 cX5_mostLeft 6 (wd yX5_mostLeft cX5_mostLeft 6 (some .int)) (some .int)) (hA : ∀ q, s.heap.size ≤ q → A q)  {w_t : Nat → Nat → Int32} {x1 : Int32} {x2 : Int32}    :
    ∀ (n : Nat) (y : obV × Int32) (r : Int32 × obV), f_X5_mostLeft_l2  w_t x1 x2  n y = some r → ∀ (H : Heap) (locs : List Loc) (ls : Array Slot), va_P (dC, dI) vwCl (wX5 o_t a_t r_t cI cII y.1 w_t) H → va_D A (wX5 o_t a_t r_t cI cII y.1 w_t) → va_S A s.heap H locs → lv_has ls 6 [(0, .ref o_t), (1, .int x1), (2, .int x2), (3, .int y.2)] → W p l e ({ frames := 1, cells := 0, slots := 0, locals := 21 } : Room) s m args below meth c H locs 0 0 (MQ below (va_Qi (fun (z : Int32) (_ : Unit) => r.1 = z) (fun _ t => va_P (dC, dI) vwCl (wX5 o_t a_t r_t cI cII r.2 w_t) t.heap ∧ va_D A (wX5 o_t a_t r_t cI cII r.2 w_t)) A) args s 0 0 A) (F0 m 2 ls []) := by
  obtain ⟨hx, hb, hml, hown, hts, hr, hlocks, hK, hN⟩ := C0
  refine lp_W ?_
  intro k2 ih2 y r hf H locs ls hP hD hS hl
  obtain ⟨v_t, x3⟩ := y
  have hf : f_X5_mostLeft_b2  v_t w_t x1 x2 x3  k2 = some r := hf
  have hP : va_P (dC, dI) vwCl (wX5 o_t a_t r_t cI cII v_t w_t) H := hP
  have hD : va_D A (wX5 o_t a_t r_t cI cII v_t w_t) := hD
  have hl : lv_has ls 6 [(0, .ref o_t), (1, .int x1), (2, .int x2), (3, .int x3)] := hl
  unfold f_X5_mostLeft_b2 at hf
  refine lv_iload_n hx hb dX5_mostLeft_2 rfl (lv_at hl 3 rfl) ?_
  refine lv_iconst (v := 5) hx hb dX5_mostLeft_3 (by decide) ?_
  refine lv_icmp_gt (tgt := 20) hx hb dX5_mostLeft_4 (by decide) (fun c_4 => ?_) (fun c_4 => ?_)
  · have hf := ho_t hf c_4
    refine lv_iconst (v := 0) hx hb dX5_mostLeft_20 (by decide) ?_
    refine lv_istore_n (lv' := [(3, .int 0), (0, .ref o_t), (1, .int x1), (2, .int x2)]) hx hb dX5_mostLeft_21 rfl hl (by decide) rfl (fun ls hl => ?_)
    refine lv_iconst (v := 0) hx hb dX5_mostLeft_22 (by decide) ?_
    refine lv_istore (lv' := [(4, .int 0), (3, .int 0), (0, .ref o_t), (1, .int x1), (2, .int x2)]) hx hb dX5_mostLeft_23 hl (by decide) rfl (fun ls hl => ?_)
    exact w_X5_mostLeft_l25 ⟨hx, hb, hml, hown, hts, hr, hlocks, hK, hN⟩ hA  _ _ _ hf _ _ _ hP hD hS (lv_sub hl [2, 3, 4, 1, 0] rfl)
  · have hf := ho_f hf c_4
    refine lv_aload_n hx hb dX5_mostLeft_7 rfl (lv_at hl 0 rfl) ?_
    refine va_get (D := (dC, dI)) (ci := 5) (v := .ref (a_t 3)) (C := RX5) (T := TX5) (N := 4) hx hb hts hw_X5 hown hK hP 0 rfl rfl 3 (by decide) (hts _ (List.mem_cons_of_mem _ mw_203)) (fun _ h9 => h9) rfl dX5_mostLeft_8 ?_
    refine lv_iload_n hx hb dX5_mostLeft_11 rfl (lv_at hl 3 rfl) ?_
    refine lv_iconst (v := 0) hx hb dX5_mostLeft_12 (by decide) ?_
    obtain ⟨h_13, hf⟩ := ho_g hf
    refine va_iast (n := 6) (f := (v_t.2 3)) hx hb hK hP hD hS 3 0 rfl rfl h_13 dX5_mostLeft_13 (fun H locs hP hD hS => ?_)
    have hP : va_P (dC, dI) vwCl (wX5 o_t a_t r_t cI cII (oA v_t 3 (Int32.toNatClampNeg x3) 0) w_t) H := hP
    have hD : va_D A (wX5 o_t a_t r_t cI cII (oA v_t 3 (Int32.toNatClampNeg x3) 0) w_t) := hD
    obtain ⟨v_t_13, e_v_t_13⟩ : ∃ z : obV, z = (oA v_t 3 (Int32.toNatClampNeg x3) 0) := ⟨_, rfl⟩
    rw [← e_v_t_13] at hP hD
    have hf := ho_l hf v_t_13 e_v_t_13
    refine lv_iinc (v := (x3 + 1)) (lv' := [(3, .int (x3 + 1)), (0, .ref o_t), (1, .int x1), (2, .int x2)]) hx hb dX5_mostLeft_14 hl (k := 3) rfl (hp_inc (by decide)) (by decide) rfl (fun ls hl => ?_)
    refine lv_goto (tgt := 2) hx hb dX5_mostLeft_17 (by decide) ?_
    exact ih2 (v_t_13, (x3 + 1)) _ hf _ _ _ hP hD hS (lv_sub hl [1, 2, 3, 0] rfl)
set_option maxHeartbeats 4000000 in
set_option maxRecDepth 100000 in
theorem c_X5_mostLeft (l : Launch) (dC : Nat → ClassId) (dI : Nat → Nat → Nat) (cI cII : ClassId) (o_t : Nat) (a_t : Nat → Nat) (r_t : Nat → Nat) (v_t : obV) (w_t : Nat → Nat → Int32) (x1 : Int32) (x2 : Int32) (sz : Nat) (r : Int32 × obV) (hf : f_X5_mostLeft  v_t w_t x1 x2 = some r) :
    Met l yX5_mostLeft (wd yX5_mostLeft cX5_mostLeft 6 (some .int)) ({ frames := 1, cells := 0, slots := 0, locals := 21 } : Room) (va_Pc [.ref o_t, .int x1, .int x2] (qB (dC, dI) vwCl (wX5 o_t a_t r_t cI cII v_t w_t) (hTY cI cII) sz)) (va_Qi (fun (z : Int32) (_ : Unit) => r.1 = z) (fun _ t => va_P (dC, dI) vwCl (wX5 o_t a_t r_t cI cII r.2 w_t) t.heap ∧ va_D (va_A (wX5 o_t a_t r_t cI cII v_t w_t) sz) (wX5 o_t a_t r_t cI cII r.2 w_t)) (va_A (wX5 o_t a_t r_t cI cII v_t w_t) sz)) 0 0 (va_A (wX5 o_t a_t r_t cI cII v_t w_t) sz) := by
  refine Met.ofW (cc := cX5_mostLeft) (maxL := 6) (ret := (some .int)) (by decide) rfl ?_
  intro p e s m args below meth c s₁ B hml hv
  obtain ⟨rfl, hsz, hD0, hP, hK, hN⟩ := hv
  have hx := B.exec
  have hb := B.bytes
  have hr := B.returns
  have hts := atoms_spec (ws := (wd yX5_mostLeft cX5_mostLeft 6 (some .int))) B.pre
  have hown : s.vm.findClass RX5 = some m.cls := findClass_of_methodNamed B.named
  have hlocks := B.notSynchronized
  subst hsz
  have hD := hD0.self (sz := s.heap.size)
  generalize hAe : va_A (wX5 o_t a_t r_t cI cII v_t w_t) s.heap.size = A at hD ⊢
  have hA : ∀ q : Nat, s.heap.size ≤ q → A q := fun q h => by rw [← hAe]; exact Or.inr h
  have hS : va_S A s.heap s.heap [] := va_S.rf
  have hl := lv_entry ([.ref o_t, .int x1, .int x2]) (n := 6) (Nat.le_of_ble_eq_true rfl)
  rw [lg_entry_eq]
  generalize (lg_sl ([.ref o_t, .int x1, .int x2]) ++ List.replicate (6 - (lg_sl ([.ref o_t, .int x1, .int x2])).length) Slot.unset).toArray = ls at hl ⊢
  have hl : lv_has ls 6 [(0, .ref o_t), (1, .int x1), (2, .int x2)] := hl
  clear hAe hD0
  unfold f_X5_mostLeft at hf
  refine lv_iconst (v := 0) hx hb dX5_mostLeft_0 (by decide) ?_
  refine lv_istore_n (lv' := [(3, .int 0), (0, .ref o_t), (1, .int x1), (2, .int x2)]) hx hb dX5_mostLeft_1 rfl hl (by decide) rfl (fun ls hl => ?_)
  exact w_X5_mostLeft_l2 ⟨hx, hb, hml, hown, hts, hr, hlocks, hK, hN⟩ hA  _ _ _ hf _ _ _ hP hD hS (lv_sub hl [1, 2, 3, 0] rfl)
set_option maxHeartbeats 4000000 in
set_option maxRecDepth 100000 in
theorem w_X5_bestLook_l14 {p : Program} {l : Launch} {e : Env} {s : State} {m : MethodId} {args : Array Value} {below : List Frame} {meth : Method} {c : Code} {dC : Nat → ClassId} {dI : Nat → Nat → Nat} {cI cII : ClassId} {o_t : Nat} {a_t : Nat → Nat} {r_t : Nat → Nat} {A : Nat → Prop} (C0 : hC p s m args meth c dC dI cI cII RX5 cX5_bestLook 6 (wd yX5_bestLook cX5_bestLook 6 (some .int)) (some .int)) (hA : ∀ q, s.heap.size ≤ q → A q)  {w_t : Nat → Nat → Int32} {x1 : Int32}    :
    ∀ (n : Nat) (y : obV × Int32 × Int32 × Int32) (r : Int32 × obV), f_X5_bestLook_l14  w_t x1  n y = some r → ∀ (H : Heap) (locs : List Loc) (ls : Array Slot), va_P (dC, dI) vwCl (wX5 o_t a_t r_t cI cII y.1 w_t) H → va_D A (wX5 o_t a_t r_t cI cII y.1 w_t) → va_S A s.heap H locs → lv_has ls 6 [(0, .ref o_t), (1, .int x1), (2, .int y.2.1), (3, .int y.2.2.1), (4, .int y.2.2.2)] → W p l e ({ frames := 2, cells := 0, slots := 0, locals := 46 } : Room) s m args below meth c H locs 0 0 (MQ below (va_Qi (fun (z : Int32) (_ : Unit) => r.1 = z) (fun _ t => va_P (dC, dI) vwCl (wX5 o_t a_t r_t cI cII r.2 w_t) t.heap ∧ va_D A (wX5 o_t a_t r_t cI cII r.2 w_t)) A) args s 0 0 A) (F0 m 14 ls []) := by
  obtain ⟨hx, hb, hml, hown, hts, hr, hlocks, hK, hN⟩ := C0
  refine lp_W ?_
  intro k14 ih14 y r hf H locs ls hP hD hS hl
  obtain ⟨v_t, x2, x3, x4⟩ := y
  have hf : f_X5_bestLook_b14  v_t w_t x1 x2 x3 x4  k14 = some r := hf
  have hP : va_P (dC, dI) vwCl (wX5 o_t a_t r_t cI cII v_t w_t) H := hP
  have hD : va_D A (wX5 o_t a_t r_t cI cII v_t w_t) := hD
  have hl : lv_has ls 6 [(0, .ref o_t), (1, .int x1), (2, .int x2), (3, .int x3), (4, .int x4)] := hl
  unfold f_X5_bestLook_b14 at hf
  refine lv_iload hx hb dX5_bestLook_14 (lv_at hl 4 rfl) ?_
  refine lv_bipush (v := 20) hx hb dX5_bestLook_16 (by decide) ?_
  refine lv_icmp_ge (tgt := 48) hx hb dX5_bestLook_18 (by decide) (fun c_18 => ?_) (fun c_18 => ?_)
  · have hf := ho_t hf c_18
    refine lv_iload_n hx hb dX5_bestLook_48 rfl (lv_at hl 2 rfl) ?_
    obtain rfl := Option.some.inj hf
    exact W.iret (v := x2) hx hb hr (fun t ht hW => ⟨⟨_, (), rfl, rfl, by rw [ht]; exact hP, hD⟩, hS.F ht⟩) hS.2.2 dX5_bestLook_49 hlocks
  · have hf := ho_f hf c_18
    refine lv_aload_n hx hb dX5_bestLook_21 rfl (lv_at hl 0 rfl) ?_
    refine lv_iload_n hx hb dX5_bestLook_22 rfl (lv_at hl 1 rfl) ?_
    refine lv_iload hx hb dX5_bestLook_23 (lv_at hl 4 rfl) ?_
    obtain ⟨u_25, e_25, hf⟩ := ho_b hf
    have hFc := va_free (wc := (wX5 o_t a_t r_t cI cII v_t w_t)) hD hS hA [0, 1, 2, 3, 4, 5, 6, 7, 8, 9, 10, 11, 12, 13] rfl
    refine va_calli (va_runV (As := [.int x1, .int x4]) (rest := []) ⟨hx, hb, hml, hown, hts⟩ (c_X5_mostLeft l dC dI cI cII o_t a_t r_t v_t w_t (x1) (x4) _ u_25 e_25) (cwV 2 hts (hw_giV mw_413 mw_415 mw_7 mw_58 mw_416) rfl rfl rfl (by decide +kernel) ⟨Nat.le_of_ble_eq_true rfl, Nat.le_of_ble_eq_true rfl⟩) ⟨qB_blind, va_recv hK hP (ci := 5) (q0 := 0) rfl rfl, fun U hU hW => ⟨rfl, qB_go hP hD hK hN hU hW⟩⟩ rfl rfl hl.1 rfl (lv_room (Nat.le_of_ble_eq_true rfl)) dX5_bestLook_25 ⟨Nat.zero_le _, Nat.zero_le _⟩) hS (fun q _ h => hFc q h) hFc (fun z_25 u t H1 locs ht hvm ez_25 hB hz1 hk1 hS => ?_)
    subst ez_25
    obtain ⟨hP1, hD1⟩ := hB
    rw [ht] at hP1
    clear hP hD
    generalize H1 = H at hP1 hS ⊢
    have hP : va_P (dC, dI) vwCl (wX5 o_t a_t r_t cI cII u_25.2 w_t) H := hP1
    have hD : va_D A (wX5 o_t a_t r_t cI cII u_25.2 w_t) := hD1.weaken (fun _ q _ h => hFc q.1 h)
    refine lv_istore (lv' := [(5, .int u_25.1), (0, .ref o_t), (1, .int x1), (2, .int x2), (3, .int x3), (4, .int x4)]) hx hb dX5_bestLook_28 hl (by decide) rfl (fun ls hl => ?_)
    refine lv_iload hx hb dX5_bestLook_30 (lv_at hl 0 rfl) ?_
    refine lv_iload_n hx hb dX5_bestLook_32 rfl (lv_at hl 4 rfl) ?_
    refine lv_icmp_ge (tgt := 42) hx hb dX5_bestLook_33 (by decide) (fun c_33 => ?_) (fun c_33 => ?_)
    · have hf := ho_t hf c_33
      refine lv_iinc (v := (x4 + 1)) (lv' := [(4, .int (x4 + 1)), (5, .int u_25.1), (0, .ref o_t), (1, .int x1), (2, .int x2), (3, .int x3)]) hx hb dX5_bestLook_42 hl (k := 5) rfl (hp_inc (by decide)) (by decide) rfl (fun ls hl => ?_)
      refine lv_goto (tgt := 14) hx hb dX5_bestLook_45 (by decide) ?_
      exact ih14 (u_25.2, x2, x3, (x4 + 1)) _ hf _ _ _ hP hD hS (lv_sub hl [2, 3, 4, 5, 0] rfl)
    · have hf := ho_f hf c_33
      refine lv_iload hx hb dX5_bestLook_36 (lv_at hl 0 rfl) ?_
      refine lv_istore_n (lv' := [(3, .int u_25.1), (5, .int u_25.1), (0, .ref o_t), (1, .int x1), (2, .int x2), (4, .int x4)]) hx hb dX5_bestLook_38 rfl hl (by decide) rfl (fun ls hl => ?_)
      refine lv_iload hx hb dX5_bestLook_39 (lv_at hl 5 rfl) ?_
      refine lv_istore_n (lv' := [(2, .int x4), (3, .int u_25.1), (5, .int u_25.1), (0, .ref o_t), (1, .int x1), (4, .int x4)]) hx hb dX5_bestLook_41 rfl hl (by decide) rfl (fun ls hl => ?_)
      refine lv_iinc (v := (x4 + 1)) (lv' := [(4, .int (x4 + 1)), (2, .int x4), (3, .int u_25.1), (5, .int u_25.1), (0, .ref o_t), (1, .int x1)]) hx hb dX5_bestLook_42 hl (k := 5) rfl (hp_inc (by decide)) (by decide) rfl (fun ls hl => ?_)
      refine lv_goto (tgt := 14) hx hb dX5_bestLook_45 (by decide) ?_
      exact ih14 (u_25.2, x4, u_25.1, (x4 + 1)) _ hf _ _ _ hP hD hS (lv_sub hl [4, 5, 1, 2, 0] rfl)
set_option maxHeartbeats 4000000 in
set_option maxRecDepth 100000 in
theorem c_X5_bestLook (l : Launch) (dC : Nat → ClassId) (dI : Nat → Nat → Nat) (cI cII : ClassId) (o_t : Nat) (a_t : Nat → Nat) (r_t : Nat → Nat) (v_t : obV) (w_t : Nat → Nat → Int32) (x1 : Int32) (sz : Nat) (r : Int32 × obV) (hf : f_X5_bestLook  v_t w_t x1 = some r) :
    Met l yX5_bestLook (wd yX5_bestLook cX5_bestLook 6 (some .int)) ({ frames := 2, cells := 0, slots := 0, locals := 46 } : Room) (va_Pc [.ref o_t, .int x1] (qB (dC, dI) vwCl (wX5 o_t a_t r_t cI cII v_t w_t) (hTY cI cII) sz)) (va_Qi (fun (z : Int32) (_ : Unit) => r.1 = z) (fun _ t => va_P (dC, dI) vwCl (wX5 o_t a_t r_t cI cII r.2 w_t) t.heap ∧ va_D (va_A (wX5 o_t a_t r_t cI cII v_t w_t) sz) (wX5 o_t a_t r_t cI cII r.2 w_t)) (va_A (wX5 o_t a_t r_t cI cII v_t w_t) sz)) 0 0 (va_A (wX5 o_t a_t r_t cI cII v_t w_t) sz) := by
  refine Met.ofW (cc := cX5_bestLook) (maxL := 6) (ret := (some .int)) (by decide) rfl ?_
  intro p e s m args below meth c s₁ B hml hv
  obtain ⟨rfl, hsz, hD0, hP, hK, hN⟩ := hv
  have hx := B.exec
  have hb := B.bytes
  have hr := B.returns
  have hts := atoms_spec (ws := (wd yX5_bestLook cX5_bestLook 6 (some .int))) B.pre
  have hown : s.vm.findClass RX5 = some m.cls := findClass_of_methodNamed B.named
  have hlocks := B.notSynchronized
  subst hsz
  have hD := hD0.self (sz := s.heap.size)
  generalize hAe : va_A (wX5 o_t a_t r_t cI cII v_t w_t) s.heap.size = A at hD ⊢
  have hA : ∀ q : Nat, s.heap.size ≤ q → A q := fun q h => by rw [← hAe]; exact Or.inr h
  have hS : va_S A s.heap s.heap [] := va_S.rf
  have hl := lv_entry ([.ref o_t, .int x1]) (n := 6) (Nat.le_of_ble_eq_true rfl)
  rw [lg_entry_eq]
  generalize (lg_sl ([.ref o_t, .int x1]) ++ List.replicate (6 - (lg_sl ([.ref o_t, .int x1])).length) Slot.unset).toArray = ls at hl ⊢
  have hl : lv_has ls 6 [(0, .ref o_t), (1, .int x1)] := hl
  clear hAe hD0
  unfold f_X5_bestLook at hf
  refine lv_iload_n hx hb dX5_bestLook_0 rfl (lv_at hl 1 rfl) ?_
  refine lv_if_ne (tgt := 6) hx hb dX5_bestLook_1 (by decide) (fun c_1 => ?_) (fun c_1 => ?_)
  · have hf := ho_f hf c_1
    refine lv_iconst (v := 0) hx hb dX5_bestLook_6 (by decide) ?_
    refine lv_istore_n (lv' := [(2, .int 0), (0, .ref o_t), (1, .int x1)]) hx hb dX5_bestLook_7 rfl hl (by decide) rfl (fun ls hl => ?_)
    refine lv_bipush (v := 11) hx hb dX5_bestLook_8 (by decide) ?_
    refine lv_istore_n (lv' := [(3, .int 11), (2, .int 0), (0, .ref o_t), (1, .int x1)]) hx hb dX5_bestLook_10 rfl hl (by decide) rfl (fun ls hl => ?_)
    refine lv_iconst (v := 0) hx hb dX5_bestLook_11 (by decide) ?_
    refine lv_istore (lv' := [(4, .int 0), (3, .int 11), (2, .int 0), (0, .ref o_t), (1, .int x1)]) hx hb dX5_bestLook_12 hl (by decide) rfl (fun ls hl => ?_)
    exact w_X5_bestLook_l14 ⟨hx, hb, hml, hown, hts, hr, hlocks, hK, hN⟩ hA  _ _ _ hf _ _ _ hP hD hS (lv_sub hl [3, 4, 2, 1, 0] rfl)
  · have hf := ho_t hf c_1
    refine lv_iconst (v := (-1)) hx hb dX5_bestLook_4 (by decide) ?_
    obtain rfl := Option.some.inj hf
    exact W.iret (v := (-1)) hx hb hr (fun t ht hW => ⟨⟨_, (), rfl, rfl, by rw [ht]; exact hP, hD⟩, hS.F ht⟩) hS.2.2 dX5_bestLook_5 hlocks
