set_option maxHeartbeats 4000000 in
set_option maxRecDepth 100000 in
theorem c_X7_patience (l : Launch) (dC : Nat → ClassId) (dI : Nat → Nat → Nat) (cI cII : ClassId) (o_t : Nat) (a_t : Nat → Nat) (v_t : obV) (h_t : Int64) (x1 : Int32) (sz : Nat) (r : Int32 × obV) (hf : f_X7_patience  v_t x1 = some r) :
    Met l yX7_patience (wd yX7_patience cX7_patience 3 (some .int)) ({ frames := 1, cells := 0, slots := 0, locals := 25 } : Room) (va_Pc [.ref o_t, .int x1] (qB (dC, dI) vwCl (wX7 o_t a_t cI v_t h_t) (hTY cI cII) sz)) (va_Qi (fun (z : Int32) (_ : Unit) => r.1 = z) (fun _ t => va_P (dC, dI) vwCl (wX7 o_t a_t cI r.2 h_t) t.heap ∧ va_D (va_A (wX7 o_t a_t cI v_t h_t) sz) (wX7 o_t a_t cI r.2 h_t)) (va_A (wX7 o_t a_t cI v_t h_t) sz)) 0 0 (va_A (wX7 o_t a_t cI v_t h_t) sz) := by
  refine Met.ofW (cc := cX7_patience) (maxL := 3) (ret := (some .int)) (by decide) rfl ?_
  intro p e s m args below meth c s₁ B hml hv
  obtain ⟨rfl, hsz, hD0, hP, hK, hN⟩ := hv
  have hx := B.exec
  have hb := B.bytes
  have hr := B.returns
  have hts := atoms_spec (ws := (wd yX7_patience cX7_patience 3 (some .int))) B.pre
  have hown : s.vm.findClass RX7 = some m.cls := findClass_of_methodNamed B.named
  have hlocks := B.notSynchronized
  subst hsz
  have hD := hD0.self (sz := s.heap.size)
  generalize hAe : va_A (wX7 o_t a_t cI v_t h_t) s.heap.size = A at hD ⊢
  have hA : ∀ q : Nat, s.heap.size ≤ q → A q := fun q h => by rw [← hAe]; exact Or.inr h
  have hS : va_S A s.heap s.heap [] := va_S.rf
  have hl := lv_entry ([.ref o_t, .int x1]) (n := 3) (Nat.le_of_ble_eq_true rfl)
  rw [lg_entry_eq]
  generalize (lg_sl ([.ref o_t, .int x1]) ++ List.replicate (3 - (lg_sl ([.ref o_t, .int x1])).length) Slot.unset).toArray = ls at hl ⊢
  have hl : lv_has ls 3 [(0, .ref o_t), (1, .int x1)] := hl
  clear hAe hD0
  unfold f_X7_patience at hf
  refine lv_iload_n hx hb dX7_patience_0 rfl (lv_at hl 1 rfl) ?_
  refine lv_i2l (v := (Int32.toInt64 x1)) hx hb dX7_patience_1 rfl ?_
  refine lv_lconst (v := 0) hx hb dX7_patience_2 (by decide) ?_
  refine lv_ldc2 (v := 20) hx hb hown (hts _ (List.mem_cons_of_mem _ mw_806)) dX7_patience_3 ?_
  obtain ⟨u_6, e_6, hf⟩ := ho_b hf
  have hPc := hP.sub (ws' := ([] : va_W)) [] rfl
  refine vp_callSi (va_runS (As := [.long (Int32.toInt64 x1), .long 0, .long 20]) (rest := []) ⟨hx, hb, hml, hown, hts⟩ (c_X7_in l dC dI cI cII ((Int32.toInt64 x1)) (0) (20) u_6 e_6) (va_cwS 3 hts (hw_giS mw_694 mw_695 mw_60 mw_696) rfl rfl rfl (by decide +kernel) ⟨Nat.le_of_ble_eq_true rfl, Nat.le_of_ble_eq_true rfl⟩) ⟨pB_blind, fun U hU hW => ⟨rfl, pB_go hPc hK hN hU hW⟩⟩ rfl rfl hl.1 rfl (lv_room (Nat.le_of_ble_eq_true rfl)) dX7_patience_6 ⟨Nat.zero_le _, Nat.zero_le _⟩).run (fun z_6 ez_6 => ?_)
  subst ez_6
  refine lv_if_ne (tgt := 15) hx hb dX7_patience_9 (by decide) (fun c_9 => ?_) (fun c_9 => ?_)
  · have hf := ho_f hf c_9
    refine lv_aload_n hx hb dX7_patience_15 rfl (lv_at hl 0 rfl) ?_
    obtain ⟨u_16, e_16, hf⟩ := ho_b hf
    refine vp_callSi (va_runV (As := []) (rest := []) ⟨hx, hb, hml, hown, hts⟩ (c_X7_lacks l dC dI cI cII o_t a_t v_t h_t u_16 e_16) (cwV 0 hts (hw_giV mw_807 mw_809 mw_35 mw_60 mw_810) rfl rfl rfl (by decide +kernel) ⟨Nat.le_of_ble_eq_true rfl, Nat.le_of_ble_eq_true rfl⟩) ⟨pB_blind, va_recv hK hP (ci := 7) (q0 := 0) rfl rfl, fun U hU hW => ⟨rfl, pB_go hP hK hN hU hW⟩⟩ rfl rfl hl.1 rfl (lv_room (Nat.le_of_ble_eq_true rfl)) dX7_patience_16 ⟨Nat.zero_le _, Nat.zero_le _⟩).run (fun z_16 ez_16 => ?_)
    subst ez_16
    refine lv_if_eq (tgt := 25) hx hb dX7_patience_19 (by decide) (fun c_19 => ?_) (fun c_19 => ?_)
    · have hf := ho_t hf c_19
      refine lv_aload_n hx hb dX7_patience_25 rfl (lv_at hl 0 rfl) ?_
      refine va_get (D := (dC, dI)) (ci := 7) (v := .int (v_t.1 7)) (C := RX7) (T := TX7) (N := 30) hx hb hts hw_X7 hown hK hP 0 rfl rfl 7 (by decide) (hts _ (List.mem_cons_of_mem _ mw_605)) (fun _ h9 => h9) rfl dX7_patience_26 ?_
      refine lv_istore_n (lv' := [(2, .int (v_t.1 7)), (0, .ref o_t), (1, .int x1)]) hx hb dX7_patience_29 rfl hl (by decide) rfl (fun ls hl => ?_)
      refine lv_aload_n hx hb dX7_patience_30 rfl (lv_at hl 1 rfl) ?_
      refine lv_iload_n hx hb dX7_patience_31 rfl (lv_at hl 2 rfl) ?_
      refine va_put (D := (dC, dI)) (ci := 7) (v := .int x1) (ty := .int) (C := RX7) (T := TX7) (N := 30) hx hb hts hw_X7 tyX7 tyX7_ok nmX7 hown hK hP hD hS 0 rfl rfl 7 (by decide) (hts _ (List.mem_cons_of_mem _ mw_605)) (fun _ h9 => h9) rfl (by decide +kernel) rfl rfl (Nat.le_of_ble_eq_true rfl) dX7_patience_32 (fun H locs hP hD hS => ?_)
      have hP : va_P (dC, dI) vwCl (wX7 o_t a_t cI (oF v_t 7 x1) h_t) H := hP
      have hD : va_D A (wX7 o_t a_t cI (oF v_t 7 x1) h_t) := hD
      obtain ⟨v_t_32, e_v_t_32⟩ : ∃ z : obV, z = (oF v_t 7 x1) := ⟨_, rfl⟩
      rw [← e_v_t_32] at hP hD
      have hf := ho_l hf v_t_32 e_v_t_32
      refine lv_aload_n hx hb dX7_patience_35 rfl (lv_at hl 1 rfl) ?_
      refine lv_dup hx hb dX7_patience_36 rfl ?_
      refine va_get (D := (dC, dI)) (ci := 7) (v := .int (v_t_32.1 8)) (C := RX7) (T := TX7) (N := 30) hx hb hts hw_X7 hown hK hP 0 rfl rfl 8 (by decide) (hts _ (List.mem_cons_of_mem _ mw_606)) (fun _ h9 => h9) rfl dX7_patience_37 ?_
      refine lv_iconst (v := 1) hx hb dX7_patience_40 (by decide) ?_
      refine lv_iadd hx hb dX7_patience_41 ?_
      refine va_put (D := (dC, dI)) (ci := 7) (v := .int ((v_t_32.1 8) + 1)) (ty := .int) (C := RX7) (T := TX7) (N := 30) hx hb hts hw_X7 tyX7 tyX7_ok nmX7 hown hK hP hD hS 0 rfl rfl 8 (by decide) (hts _ (List.mem_cons_of_mem _ mw_606)) (fun _ h9 => h9) rfl (by decide +kernel) rfl rfl (Nat.le_of_ble_eq_true rfl) dX7_patience_42 (fun H locs hP hD hS => ?_)
      have hP : va_P (dC, dI) vwCl (wX7 o_t a_t cI (oF v_t_32 8 ((v_t_32.1 8) + 1)) h_t) H := hP
      have hD : va_D A (wX7 o_t a_t cI (oF v_t_32 8 ((v_t_32.1 8) + 1)) h_t) := hD
      obtain ⟨v_t_42, e_v_t_42⟩ : ∃ z : obV, z = (oF v_t_32 8 ((v_t_32.1 8) + 1)) := ⟨_, rfl⟩
      rw [← e_v_t_42] at hP hD
      have hf := ho_l hf v_t_42 e_v_t_42
      refine lv_iload_n hx hb dX7_patience_45 rfl (lv_at hl 0 rfl) ?_
      obtain rfl := Option.some.inj hf
      exact W.iret (v := (v_t.1 7)) hx hb hr (fun t ht hW => ⟨⟨_, (), rfl, rfl, by rw [ht]; exact hP, hD⟩, hS.F ht⟩) hS.2.2 dX7_patience_46 hlocks
    · have hf := ho_f hf c_19
      refine lv_bipush (v := (-103)) hx hb dX7_patience_22 (by decide) ?_
      obtain rfl := Option.some.inj hf
      exact W.iret (v := (-103)) hx hb hr (fun t ht hW => ⟨⟨_, (), rfl, rfl, by rw [ht]; exact hP, hD⟩, hS.F ht⟩) hS.2.2 dX7_patience_24 hlocks
  · have hf := ho_t hf c_9
    refine lv_bipush (v := (-102)) hx hb dX7_patience_12 (by decide) ?_
    obtain rfl := Option.some.inj hf
    exact W.iret (v := (-102)) hx hb hr (fun t ht hW => ⟨⟨_, (), rfl, rfl, by rw [ht]; exact hP, hD⟩, hS.F ht⟩) hS.2.2 dX7_patience_14 hlocks
set_option maxHeartbeats 4000000 in
set_option maxRecDepth 100000 in
theorem c_X7_dayOf (l : Launch) (dC : Nat → ClassId) (dI : Nat → Nat → Nat) (cI cII : ClassId) (o_t : Nat) (a_t : Nat → Nat) (v_t : obV) (h_t : Int64) (x1 : Int32) (sz : Nat) (r : Int32 × obV) (hf : f_X7_dayOf  v_t x1 = some r) :
    Met l yX7_dayOf (wd yX7_dayOf cX7_dayOf 2 (some .int)) ({ frames := 4, cells := 0, slots := 0, locals := 90 } : Room) (va_Pc [.ref o_t, .int x1] (qB (dC, dI) vwCl (wX7 o_t a_t cI v_t h_t) (hTY cI cII) sz)) (va_Qi (fun (z : Int32) (_ : Unit) => r.1 = z) (fun _ t => va_P (dC, dI) vwCl (wX7 o_t a_t cI r.2 h_t) t.heap ∧ va_D (va_A (wX7 o_t a_t cI v_t h_t) sz) (wX7 o_t a_t cI r.2 h_t)) (va_A (wX7 o_t a_t cI v_t h_t) sz)) 0 0 (va_A (wX7 o_t a_t cI v_t h_t) sz) := by
  refine Met.ofW (cc := cX7_dayOf) (maxL := 2) (ret := (some .int)) (by decide) rfl ?_
  intro p e s m args below meth c s₁ B hml hv
  obtain ⟨rfl, hsz, hD0, hP, hK, hN⟩ := hv
  have hx := B.exec
  have hb := B.bytes
  have hr := B.returns
  have hts := atoms_spec (ws := (wd yX7_dayOf cX7_dayOf 2 (some .int))) B.pre
  have hown : s.vm.findClass RX7 = some m.cls := findClass_of_methodNamed B.named
  have hlocks := B.notSynchronized
  subst hsz
  have hD := hD0.self (sz := s.heap.size)
  generalize hAe : va_A (wX7 o_t a_t cI v_t h_t) s.heap.size = A at hD ⊢
  have hA : ∀ q : Nat, s.heap.size ≤ q → A q := fun q h => by rw [← hAe]; exact Or.inr h
  have hS : va_S A s.heap s.heap [] := va_S.rf
  have hl := lv_entry ([.ref o_t, .int x1]) (n := 2) (Nat.le_of_ble_eq_true rfl)
  rw [lg_entry_eq]
  generalize (lg_sl ([.ref o_t, .int x1]) ++ List.replicate (2 - (lg_sl ([.ref o_t, .int x1])).length) Slot.unset).toArray = ls at hl ⊢
  have hl : lv_has ls 2 [(0, .ref o_t), (1, .int x1)] := hl
  clear hAe hD0
  unfold f_X7_dayOf at hf
  refine lv_aload_n hx hb dX7_dayOf_0 rfl (lv_at hl 0 rfl) ?_
  obtain ⟨u_1, e_1, hf⟩ := ho_b hf
  have hFc := va_free (wc := (wX7 o_t a_t cI v_t h_t)) hD hS hA [0, 1, 2, 3, 4, 5, 6, 7, 8, 9, 10, 11, 12] rfl
  refine va_callv (va_runV (As := []) (rest := []) ⟨hx, hb, hml, hown, hts⟩ (c_X7_layDay l dC dI cI cII o_t a_t v_t h_t _ u_1 e_1) (cwV 0 hts (hw_giV mw_737 mw_739 mw_22 mw_60 mw_740) rfl rfl rfl (by decide +kernel) ⟨Nat.le_of_ble_eq_true rfl, Nat.le_of_ble_eq_true rfl⟩) ⟨qB_blind, va_recv hK hP (ci := 7) (q0 := 0) rfl rfl, fun U hU hW => ⟨rfl, qB_go hP hD hK hN hU hW⟩⟩ rfl rfl hl.1 rfl (lv_room (Nat.le_of_ble_eq_true rfl)) dX7_dayOf_1 ⟨Nat.zero_le _, Nat.zero_le _⟩) hS (fun q _ h => hFc q h) hFc (fun u t H1 locs ht hvm hw hB hz1 hk1 hS => ?_)
  obtain ⟨hP1, hD1⟩ := hB
  rw [ht] at hP1
  clear hP hD
  generalize H1 = H at hP1 hS ⊢
  have hP : va_P (dC, dI) vwCl (wX7 o_t a_t cI u_1 h_t) H := hP1
  have hD : va_D A (wX7 o_t a_t cI u_1 h_t) := hD1.weaken (fun _ q _ h => hFc q.1 h)
  refine lv_iload_n hx hb dX7_dayOf_4 rfl (lv_at hl 1 rfl) ?_
  refine lv_if_ne (tgt := 15) hx hb dX7_dayOf_5 (by decide) (fun c_5 => ?_) (fun c_5 => ?_)
  · have hf := ho_f hf c_5
    refine lv_iload_n hx hb dX7_dayOf_15 rfl (lv_at hl 1 rfl) ?_
    refine lv_iconst (v := 1) hx hb dX7_dayOf_16 (by decide) ?_
    refine lv_icmp_ne (tgt := 27) hx hb dX7_dayOf_17 (by decide) (fun c_17 => ?_) (fun c_17 => ?_)
    · have hf := ho_f hf c_17
      refine lv_iload_n hx hb dX7_dayOf_27 rfl (lv_at hl 1 rfl) ?_
      refine lv_iconst (v := 2) hx hb dX7_dayOf_28 (by decide) ?_
      refine lv_icmp_ne (tgt := 39) hx hb dX7_dayOf_29 (by decide) (fun c_29 => ?_) (fun c_29 => ?_)
      · have hf := ho_f hf c_29
        refine lv_iload_n hx hb dX7_dayOf_39 rfl (lv_at hl 1 rfl) ?_
        refine lv_iconst (v := 3) hx hb dX7_dayOf_40 (by decide) ?_
        refine lv_icmp_ne (tgt := 51) hx hb dX7_dayOf_41 (by decide) (fun c_41 => ?_) (fun c_41 => ?_)
        · have hf := ho_f hf c_41
          refine lv_aload_n hx hb dX7_dayOf_51 rfl (lv_at hl 0 rfl) ?_
          refine va_get (D := (dC, dI)) (ci := 7) (v := .int (u_1.1 14)) (C := RX7) (T := TX7) (N := 30) hx hb hts hw_X7 hown hK hP 0 rfl rfl 14 (by decide) (hts _ (List.mem_cons_of_mem _ mw_612)) (fun _ h9 => h9) rfl dX7_dayOf_52 ?_
          obtain rfl := Option.some.inj hf
          exact W.iret (v := (u_1.1 14)) hx hb hr (fun t ht hW => ⟨⟨_, (), rfl, rfl, by rw [ht]; exact hP, hD⟩, hS.F ht⟩) hS.2.2 dX7_dayOf_55 hlocks
        · have hf := ho_t hf c_41
          refine lv_aload_n hx hb dX7_dayOf_44 rfl (lv_at hl 0 rfl) ?_
          refine va_get (D := (dC, dI)) (ci := 7) (v := .int (u_1.1 13)) (C := RX7) (T := TX7) (N := 30) hx hb hts hw_X7 hown hK hP 0 rfl rfl 13 (by decide) (hts _ (List.mem_cons_of_mem _ mw_611)) (fun _ h9 => h9) rfl dX7_dayOf_45 ?_
          refine lv_goto (tgt := 55) hx hb dX7_dayOf_48 (by decide) ?_
          obtain rfl := Option.some.inj hf
          exact W.iret (v := (u_1.1 13)) hx hb hr (fun t ht hW => ⟨⟨_, (), rfl, rfl, by rw [ht]; exact hP, hD⟩, hS.F ht⟩) hS.2.2 dX7_dayOf_55 hlocks
      · have hf := ho_t hf c_29
        refine lv_aload_n hx hb dX7_dayOf_32 rfl (lv_at hl 0 rfl) ?_
        obtain ⟨u_33, e_33, hf⟩ := ho_b hf
        refine vp_callSi (va_runV (As := []) (rest := []) ⟨hx, hb, hml, hown, hts⟩ (c_X7_meetings l dC dI cI cII o_t a_t u_1 h_t u_33 e_33) (cwV 0 hts (hw_giV mw_827 mw_829 mw_39 mw_60 mw_830) rfl rfl rfl (by decide +kernel) ⟨Nat.le_of_ble_eq_true rfl, Nat.le_of_ble_eq_true rfl⟩) ⟨pB_blind, va_recv hK hP (ci := 7) (q0 := 0) rfl rfl, fun U hU hW => ⟨rfl, pB_go hP hK hN hU hW⟩⟩ rfl rfl hl.1 rfl (lv_room (Nat.le_of_ble_eq_true rfl)) dX7_dayOf_33 ⟨Nat.zero_le _, Nat.zero_le _⟩).run (fun z_33 ez_33 => ?_)
        subst ez_33
        refine lv_goto (tgt := 55) hx hb dX7_dayOf_36 (by decide) ?_
        obtain rfl := Option.some.inj hf
        exact W.iret (v := u_33) hx hb hr (fun t ht hW => ⟨⟨_, (), rfl, rfl, by rw [ht]; exact hP, hD⟩, hS.F ht⟩) hS.2.2 dX7_dayOf_55 hlocks
    · have hf := ho_t hf c_17
      refine lv_aload_n hx hb dX7_dayOf_20 rfl (lv_at hl 0 rfl) ?_
      obtain ⟨u_21, e_21, hf⟩ := ho_b hf
      refine vp_callSi (va_runV (As := []) (rest := []) ⟨hx, hb, hml, hown, hts⟩ (c_X7_helpedMany l dC dI cI cII o_t a_t u_1 h_t u_21 e_21) (cwV 0 hts (hw_giV mw_823 mw_825 mw_38 mw_60 mw_826) rfl rfl rfl (by decide +kernel) ⟨Nat.le_of_ble_eq_true rfl, Nat.le_of_ble_eq_true rfl⟩) ⟨pB_blind, va_recv hK hP (ci := 7) (q0 := 0) rfl rfl, fun U hU hW => ⟨rfl, pB_go hP hK hN hU hW⟩⟩ rfl rfl hl.1 rfl (lv_room (Nat.le_of_ble_eq_true rfl)) dX7_dayOf_21 ⟨Nat.zero_le _, Nat.zero_le _⟩).run (fun z_21 ez_21 => ?_)
      subst ez_21
      refine lv_goto (tgt := 55) hx hb dX7_dayOf_24 (by decide) ?_
      obtain rfl := Option.some.inj hf
      exact W.iret (v := u_21) hx hb hr (fun t ht hW => ⟨⟨_, (), rfl, rfl, by rw [ht]; exact hP, hD⟩, hS.F ht⟩) hS.2.2 dX7_dayOf_55 hlocks
  · have hf := ho_t hf c_5
    refine lv_aload_n hx hb dX7_dayOf_8 rfl (lv_at hl 0 rfl) ?_
    obtain ⟨u_9, e_9, hf⟩ := ho_b hf
    refine vp_callSi (va_runV (As := []) (rest := []) ⟨hx, hb, hml, hown, hts⟩ (c_X7_receivedMany l dC dI cI cII o_t a_t u_1 h_t u_9 e_9) (cwV 0 hts (hw_giV mw_819 mw_821 mw_37 mw_60 mw_822) rfl rfl rfl (by decide +kernel) ⟨Nat.le_of_ble_eq_true rfl, Nat.le_of_ble_eq_true rfl⟩) ⟨pB_blind, va_recv hK hP (ci := 7) (q0 := 0) rfl rfl, fun U hU hW => ⟨rfl, pB_go hP hK hN hU hW⟩⟩ rfl rfl hl.1 rfl (lv_room (Nat.le_of_ble_eq_true rfl)) dX7_dayOf_9 ⟨Nat.zero_le _, Nat.zero_le _⟩).run (fun z_9 ez_9 => ?_)
    subst ez_9
    refine lv_goto (tgt := 55) hx hb dX7_dayOf_12 (by decide) ?_
    obtain rfl := Option.some.inj hf
    exact W.iret (v := u_9) hx hb hr (fun t ht hW => ⟨⟨_, (), rfl, rfl, by rw [ht]; exact hP, hD⟩, hS.F ht⟩) hS.2.2 dX7_dayOf_55 hlocks
set_option maxHeartbeats 4000000 in
set_option maxRecDepth 100000 in
theorem c_X7_day (l : Launch) (dC : Nat → ClassId) (dI : Nat → Nat → Nat) (cI cII : ClassId) (o_t : Nat) (a_t : Nat → Nat) (v_t : obV) (h_t : Int64) (x1 : Int32) (sz : Nat) (r : Int32 × obV) (hf : f_X7_day  v_t x1 = some r) :
    Met l yX7_day (wd yX7_day cX7_day 2 (some .int)) ({ frames := 5, cells := 0, slots := 0, locals := 111 } : Room) (va_Pc [.ref o_t, .int x1] (qB (dC, dI) vwCl (wX7 o_t a_t cI v_t h_t) (hTY cI cII) sz)) (va_Qi (fun (z : Int32) (_ : Unit) => r.1 = z) (fun _ t => va_P (dC, dI) vwCl (wX7 o_t a_t cI r.2 h_t) t.heap ∧ va_D (va_A (wX7 o_t a_t cI v_t h_t) sz) (wX7 o_t a_t cI r.2 h_t)) (va_A (wX7 o_t a_t cI v_t h_t) sz)) 0 0 (va_A (wX7 o_t a_t cI v_t h_t) sz) := by
  refine Met.ofW (cc := cX7_day) (maxL := 2) (ret := (some .int)) (by decide) rfl ?_
  intro p e s m args below meth c s₁ B hml hv
  obtain ⟨rfl, hsz, hD0, hP, hK, hN⟩ := hv
  have hx := B.exec
  have hb := B.bytes
  have hr := B.returns
  have hts := atoms_spec (ws := (wd yX7_day cX7_day 2 (some .int))) B.pre
  have hown : s.vm.findClass RX7 = some m.cls := findClass_of_methodNamed B.named
  have hlocks := B.notSynchronized
  subst hsz
  have hD := hD0.self (sz := s.heap.size)
  generalize hAe : va_A (wX7 o_t a_t cI v_t h_t) s.heap.size = A at hD ⊢
  have hA : ∀ q : Nat, s.heap.size ≤ q → A q := fun q h => by rw [← hAe]; exact Or.inr h
  have hS : va_S A s.heap s.heap [] := va_S.rf
  have hl := lv_entry ([.ref o_t, .int x1]) (n := 2) (Nat.le_of_ble_eq_true rfl)
  rw [lg_entry_eq]
  generalize (lg_sl ([.ref o_t, .int x1]) ++ List.replicate (2 - (lg_sl ([.ref o_t, .int x1])).length) Slot.unset).toArray = ls at hl ⊢
  have hl : lv_has ls 2 [(0, .ref o_t), (1, .int x1)] := hl
  clear hAe hD0
  unfold f_X7_day at hf
  refine lv_iload_n hx hb dX7_day_0 rfl (lv_at hl 1 rfl) ?_
  refine lv_i2l (v := (Int32.toInt64 x1)) hx hb dX7_day_1 rfl ?_
  refine lv_lconst (v := 0) hx hb dX7_day_2 (by decide) ?_
  refine lv_ldc2 (v := 4) hx hb hown (hts _ (List.mem_cons_of_mem _ mw_793)) dX7_day_3 ?_
  obtain ⟨u_6, e_6, hf⟩ := ho_b hf
  have hPc := hP.sub (ws' := ([] : va_W)) [] rfl
  refine vp_callSi (va_runS (As := [.long (Int32.toInt64 x1), .long 0, .long 4]) (rest := []) ⟨hx, hb, hml, hown, hts⟩ (c_X7_in l dC dI cI cII ((Int32.toInt64 x1)) (0) (4) u_6 e_6) (va_cwS 3 hts (hw_giS mw_694 mw_695 mw_60 mw_696) rfl rfl rfl (by decide +kernel) ⟨Nat.le_of_ble_eq_true rfl, Nat.le_of_ble_eq_true rfl⟩) ⟨pB_blind, fun U hU hW => ⟨rfl, pB_go hPc hK hN hU hW⟩⟩ rfl rfl hl.1 rfl (lv_room (Nat.le_of_ble_eq_true rfl)) dX7_day_6 ⟨Nat.zero_le _, Nat.zero_le _⟩).run (fun z_6 ez_6 => ?_)
  subst ez_6
  refine lv_if_ne (tgt := 15) hx hb dX7_day_9 (by decide) (fun c_9 => ?_) (fun c_9 => ?_)
  · have hf := ho_f hf c_9
    refine lv_aload_n hx hb dX7_day_15 rfl (lv_at hl 0 rfl) ?_
    obtain ⟨u_16, e_16, hf⟩ := ho_b hf
    refine vp_callSi (va_runV (As := []) (rest := []) ⟨hx, hb, hml, hown, hts⟩ (c_X7_lacks l dC dI cI cII o_t a_t v_t h_t u_16 e_16) (cwV 0 hts (hw_giV mw_807 mw_809 mw_35 mw_60 mw_810) rfl rfl rfl (by decide +kernel) ⟨Nat.le_of_ble_eq_true rfl, Nat.le_of_ble_eq_true rfl⟩) ⟨pB_blind, va_recv hK hP (ci := 7) (q0 := 0) rfl rfl, fun U hU hW => ⟨rfl, pB_go hP hK hN hU hW⟩⟩ rfl rfl hl.1 rfl (lv_room (Nat.le_of_ble_eq_true rfl)) dX7_day_16 ⟨Nat.zero_le _, Nat.zero_le _⟩).run (fun z_16 ez_16 => ?_)
    subst ez_16
    refine lv_if_eq (tgt := 27) hx hb dX7_day_19 (by decide) (fun c_19 => ?_) (fun c_19 => ?_)
    · have hf := ho_t hf c_19
      refine lv_aload_n hx hb dX7_day_27 rfl (lv_at hl 0 rfl) ?_
      refine lv_iload_n hx hb dX7_day_28 rfl (lv_at hl 1 rfl) ?_
      obtain ⟨u_29, e_29, hf⟩ := ho_b hf
      have hFc := va_free (wc := (wX7 o_t a_t cI v_t h_t)) hD hS hA [0, 1, 2, 3, 4, 5, 6, 7, 8, 9, 10, 11, 12] rfl
      refine va_calli (va_runV (As := [.int x1]) (rest := []) ⟨hx, hb, hml, hown, hts⟩ (c_X7_dayOf l dC dI cI cII o_t a_t v_t h_t (x1) _ u_29 e_29) (cwV 1 hts (hw_giV mw_815 mw_817 mw_36 mw_60 mw_818) rfl rfl rfl (by decide +kernel) ⟨Nat.le_of_ble_eq_true rfl, Nat.le_of_ble_eq_true rfl⟩) ⟨qB_blind, va_recv hK hP (ci := 7) (q0 := 0) rfl rfl, fun U hU hW => ⟨rfl, qB_go hP hD hK hN hU hW⟩⟩ rfl rfl hl.1 rfl (lv_room (Nat.le_of_ble_eq_true rfl)) dX7_day_29 ⟨Nat.zero_le _, Nat.zero_le _⟩) hS (fun q _ h => hFc q h) hFc (fun z_29 u t H1 locs ht hvm ez_29 hB hz1 hk1 hS => ?_)
      subst ez_29
      obtain ⟨hP1, hD1⟩ := hB
      rw [ht] at hP1
      clear hP hD
      generalize H1 = H at hP1 hS ⊢
      have hP : va_P (dC, dI) vwCl (wX7 o_t a_t cI u_29.2 h_t) H := hP1
      have hD : va_D A (wX7 o_t a_t cI u_29.2 h_t) := hD1.weaken (fun _ q _ h => hFc q.1 h)
      obtain rfl := Option.some.inj hf
      exact W.iret (v := u_29.1) hx hb hr (fun t ht hW => ⟨⟨_, (), rfl, rfl, by rw [ht]; exact hP, hD⟩, hS.F ht⟩) hS.2.2 dX7_day_32 hlocks
    · have hf := ho_f hf c_19
      refine lv_bipush (v := (-103)) hx hb dX7_day_22 (by decide) ?_
      refine lv_goto (tgt := 32) hx hb dX7_day_24 (by decide) ?_
      obtain rfl := Option.some.inj hf
      exact W.iret (v := (-103)) hx hb hr (fun t ht hW => ⟨⟨_, (), rfl, rfl, by rw [ht]; exact hP, hD⟩, hS.F ht⟩) hS.2.2 dX7_day_32 hlocks
  · have hf := ho_t hf c_9
    refine lv_bipush (v := (-102)) hx hb dX7_day_12 (by decide) ?_
    obtain rfl := Option.some.inj hf
    exact W.iret (v := (-102)) hx hb hr (fun t ht hW => ⟨⟨_, (), rfl, rfl, by rw [ht]; exact hP, hD⟩, hS.F ht⟩) hS.2.2 dX7_day_14 hlocks
set_option maxHeartbeats 4000000 in
set_option maxRecDepth 100000 in
theorem c_X7_waitingOf (l : Launch) (dC : Nat → ClassId) (dI : Nat → Nat → Nat) (cI cII : ClassId) (o_t : Nat) (a_t : Nat → Nat) (v_t : obV) (h_t : Int64) (x1 : Int32) (sz : Nat) (r : Int32 × obV) (hf : f_X7_waitingOf  v_t x1 = some r) :
    Met l yX7_waitingOf (wd yX7_waitingOf cX7_waitingOf 2 (some .int)) ({ frames := 4, cells := 0, slots := 0, locals := 90 } : Room) (va_Pc [.ref o_t, .int x1] (qB (dC, dI) vwCl (wX7 o_t a_t cI v_t h_t) (hTY cI cII) sz)) (va_Qi (fun (z : Int32) (_ : Unit) => r.1 = z) (fun _ t => va_P (dC, dI) vwCl (wX7 o_t a_t cI r.2 h_t) t.heap ∧ va_D (va_A (wX7 o_t a_t cI v_t h_t) sz) (wX7 o_t a_t cI r.2 h_t)) (va_A (wX7 o_t a_t cI v_t h_t) sz)) 0 0 (va_A (wX7 o_t a_t cI v_t h_t) sz) := by
  refine Met.ofW (cc := cX7_waitingOf) (maxL := 2) (ret := (some .int)) (by decide) rfl ?_
  intro p e s m args below meth c s₁ B hml hv
  obtain ⟨rfl, hsz, hD0, hP, hK, hN⟩ := hv
  have hx := B.exec
  have hb := B.bytes
  have hr := B.returns
  have hts := atoms_spec (ws := (wd yX7_waitingOf cX7_waitingOf 2 (some .int))) B.pre
  have hown : s.vm.findClass RX7 = some m.cls := findClass_of_methodNamed B.named
  have hlocks := B.notSynchronized
  subst hsz
  have hD := hD0.self (sz := s.heap.size)
  generalize hAe : va_A (wX7 o_t a_t cI v_t h_t) s.heap.size = A at hD ⊢
  have hA : ∀ q : Nat, s.heap.size ≤ q → A q := fun q h => by rw [← hAe]; exact Or.inr h
  have hS : va_S A s.heap s.heap [] := va_S.rf
  have hl := lv_entry ([.ref o_t, .int x1]) (n := 2) (Nat.le_of_ble_eq_true rfl)
  rw [lg_entry_eq]
  generalize (lg_sl ([.ref o_t, .int x1]) ++ List.replicate (2 - (lg_sl ([.ref o_t, .int x1])).length) Slot.unset).toArray = ls at hl ⊢
  have hl : lv_has ls 2 [(0, .ref o_t), (1, .int x1)] := hl
  clear hAe hD0
  unfold f_X7_waitingOf at hf
  refine lv_aload_n hx hb dX7_waitingOf_0 rfl (lv_at hl 0 rfl) ?_
  obtain ⟨u_1, e_1, hf⟩ := ho_b hf
  have hFc := va_free (wc := (wX7 o_t a_t cI v_t h_t)) hD hS hA [0, 1, 2, 3, 4, 5, 6, 7, 8, 9, 10, 11, 12] rfl
  refine va_callv (va_runV (As := []) (rest := []) ⟨hx, hb, hml, hown, hts⟩ (c_X7_layDay l dC dI cI cII o_t a_t v_t h_t _ u_1 e_1) (cwV 0 hts (hw_giV mw_737 mw_739 mw_22 mw_60 mw_740) rfl rfl rfl (by decide +kernel) ⟨Nat.le_of_ble_eq_true rfl, Nat.le_of_ble_eq_true rfl⟩) ⟨qB_blind, va_recv hK hP (ci := 7) (q0 := 0) rfl rfl, fun U hU hW => ⟨rfl, qB_go hP hD hK hN hU hW⟩⟩ rfl rfl hl.1 rfl (lv_room (Nat.le_of_ble_eq_true rfl)) dX7_waitingOf_1 ⟨Nat.zero_le _, Nat.zero_le _⟩) hS (fun q _ h => hFc q h) hFc (fun u t H1 locs ht hvm hw hB hz1 hk1 hS => ?_)
  obtain ⟨hP1, hD1⟩ := hB
  rw [ht] at hP1
  clear hP hD
  generalize H1 = H at hP1 hS ⊢
  have hP : va_P (dC, dI) vwCl (wX7 o_t a_t cI u_1 h_t) H := hP1
  have hD : va_D A (wX7 o_t a_t cI u_1 h_t) := hD1.weaken (fun _ q _ h => hFc q.1 h)
  refine lv_aload_n hx hb dX7_waitingOf_4 rfl (lv_at hl 0 rfl) ?_
  refine lv_iload_n hx hb dX7_waitingOf_5 rfl (lv_at hl 1 rfl) ?_
  obtain ⟨u_6, e_6, hf⟩ := ho_b hf
  refine vp_callSi (va_runV (As := [.int x1]) (rest := []) ⟨hx, hb, hml, hown, hts⟩ (c_X7_waitingAt l dC dI cI cII o_t a_t u_1 h_t (x1) u_6 e_6) (cwV 1 hts (hw_giV mw_781 mw_783 mw_33 mw_60 mw_784) rfl rfl rfl (by decide +kernel) ⟨Nat.le_of_ble_eq_true rfl, Nat.le_of_ble_eq_true rfl⟩) ⟨pB_blind, va_recv hK hP (ci := 7) (q0 := 0) rfl rfl, fun U hU hW => ⟨rfl, pB_go hP hK hN hU hW⟩⟩ rfl rfl hl.1 rfl (lv_room (Nat.le_of_ble_eq_true rfl)) dX7_waitingOf_6 ⟨Nat.zero_le _, Nat.zero_le _⟩).run (fun z_6 ez_6 => ?_)
  subst ez_6
  obtain rfl := Option.some.inj hf
  exact W.iret (v := u_6) hx hb hr (fun t ht hW => ⟨⟨_, (), rfl, rfl, by rw [ht]; exact hP, hD⟩, hS.F ht⟩) hS.2.2 dX7_waitingOf_9 hlocks
set_option maxHeartbeats 4000000 in
set_option maxRecDepth 100000 in
theorem c_X7_waiting (l : Launch) (dC : Nat → ClassId) (dI : Nat → Nat → Nat) (cI cII : ClassId) (o_t : Nat) (a_t : Nat → Nat) (v_t : obV) (h_t : Int64) (x1 : Int32) (sz : Nat) (r : Int32 × obV) (hf : f_X7_waiting  v_t x1 = some r) :
    Met l yX7_waiting (wd yX7_waiting cX7_waiting 2 (some .int)) ({ frames := 5, cells := 0, slots := 0, locals := 111 } : Room) (va_Pc [.ref o_t, .int x1] (qB (dC, dI) vwCl (wX7 o_t a_t cI v_t h_t) (hTY cI cII) sz)) (va_Qi (fun (z : Int32) (_ : Unit) => r.1 = z) (fun _ t => va_P (dC, dI) vwCl (wX7 o_t a_t cI r.2 h_t) t.heap ∧ va_D (va_A (wX7 o_t a_t cI v_t h_t) sz) (wX7 o_t a_t cI r.2 h_t)) (va_A (wX7 o_t a_t cI v_t h_t) sz)) 0 0 (va_A (wX7 o_t a_t cI v_t h_t) sz) := by
  refine Met.ofW (cc := cX7_waiting) (maxL := 2) (ret := (some .int)) (by decide) rfl ?_
  intro p e s m args below meth c s₁ B hml hv
  obtain ⟨rfl, hsz, hD0, hP, hK, hN⟩ := hv
  have hx := B.exec
  have hb := B.bytes
  have hr := B.returns
  have hts := atoms_spec (ws := (wd yX7_waiting cX7_waiting 2 (some .int))) B.pre
  have hown : s.vm.findClass RX7 = some m.cls := findClass_of_methodNamed B.named
  have hlocks := B.notSynchronized
  subst hsz
  have hD := hD0.self (sz := s.heap.size)
  generalize hAe : va_A (wX7 o_t a_t cI v_t h_t) s.heap.size = A at hD ⊢
  have hA : ∀ q : Nat, s.heap.size ≤ q → A q := fun q h => by rw [← hAe]; exact Or.inr h
  have hS : va_S A s.heap s.heap [] := va_S.rf
  have hl := lv_entry ([.ref o_t, .int x1]) (n := 2) (Nat.le_of_ble_eq_true rfl)
  rw [lg_entry_eq]
  generalize (lg_sl ([.ref o_t, .int x1]) ++ List.replicate (2 - (lg_sl ([.ref o_t, .int x1])).length) Slot.unset).toArray = ls at hl ⊢
  have hl : lv_has ls 2 [(0, .ref o_t), (1, .int x1)] := hl
  clear hAe hD0
  unfold f_X7_waiting at hf
  refine lv_iload_n hx hb dX7_waiting_0 rfl (lv_at hl 1 rfl) ?_
  refine lv_i2l (v := (Int32.toInt64 x1)) hx hb dX7_waiting_1 rfl ?_
  refine lv_lconst (v := 0) hx hb dX7_waiting_2 (by decide) ?_
  refine lv_ldc2 (v := 19) hx hb hown (hts _ (List.mem_cons_of_mem _ mw_835)) dX7_waiting_3 ?_
  obtain ⟨u_6, e_6, hf⟩ := ho_b hf
  have hPc := hP.sub (ws' := ([] : va_W)) [] rfl
  refine vp_callSi (va_runS (As := [.long (Int32.toInt64 x1), .long 0, .long 19]) (rest := []) ⟨hx, hb, hml, hown, hts⟩ (c_X7_in l dC dI cI cII ((Int32.toInt64 x1)) (0) (19) u_6 e_6) (va_cwS 3 hts (hw_giS mw_694 mw_695 mw_60 mw_696) rfl rfl rfl (by decide +kernel) ⟨Nat.le_of_ble_eq_true rfl, Nat.le_of_ble_eq_true rfl⟩) ⟨pB_blind, fun U hU hW => ⟨rfl, pB_go hPc hK hN hU hW⟩⟩ rfl rfl hl.1 rfl (lv_room (Nat.le_of_ble_eq_true rfl)) dX7_waiting_6 ⟨Nat.zero_le _, Nat.zero_le _⟩).run (fun z_6 ez_6 => ?_)
  subst ez_6
  refine lv_if_ne (tgt := 15) hx hb dX7_waiting_9 (by decide) (fun c_9 => ?_) (fun c_9 => ?_)
  · have hf := ho_f hf c_9
    refine lv_aload_n hx hb dX7_waiting_15 rfl (lv_at hl 0 rfl) ?_
    obtain ⟨u_16, e_16, hf⟩ := ho_b hf
    refine vp_callSi (va_runV (As := []) (rest := []) ⟨hx, hb, hml, hown, hts⟩ (c_X7_lacks l dC dI cI cII o_t a_t v_t h_t u_16 e_16) (cwV 0 hts (hw_giV mw_807 mw_809 mw_35 mw_60 mw_810) rfl rfl rfl (by decide +kernel) ⟨Nat.le_of_ble_eq_true rfl, Nat.le_of_ble_eq_true rfl⟩) ⟨pB_blind, va_recv hK hP (ci := 7) (q0 := 0) rfl rfl, fun U hU hW => ⟨rfl, pB_go hP hK hN hU hW⟩⟩ rfl rfl hl.1 rfl (lv_room (Nat.le_of_ble_eq_true rfl)) dX7_waiting_16 ⟨Nat.zero_le _, Nat.zero_le _⟩).run (fun z_16 ez_16 => ?_)
    subst ez_16
    refine lv_if_eq (tgt := 27) hx hb dX7_waiting_19 (by decide) (fun c_19 => ?_) (fun c_19 => ?_)
    · have hf := ho_t hf c_19
      refine lv_aload_n hx hb dX7_waiting_27 rfl (lv_at hl 0 rfl) ?_
      refine lv_iload_n hx hb dX7_waiting_28 rfl (lv_at hl 1 rfl) ?_
      obtain ⟨u_29, e_29, hf⟩ := ho_b hf
      have hFc := va_free (wc := (wX7 o_t a_t cI v_t h_t)) hD hS hA [0, 1, 2, 3, 4, 5, 6, 7, 8, 9, 10, 11, 12] rfl
      refine va_calli (va_runV (As := [.int x1]) (rest := []) ⟨hx, hb, hml, hown, hts⟩ (c_X7_waitingOf l dC dI cI cII o_t a_t v_t h_t (x1) _ u_29 e_29) (cwV 1 hts (hw_giV mw_836 mw_838 mw_40 mw_60 mw_839) rfl rfl rfl (by decide +kernel) ⟨Nat.le_of_ble_eq_true rfl, Nat.le_of_ble_eq_true rfl⟩) ⟨qB_blind, va_recv hK hP (ci := 7) (q0 := 0) rfl rfl, fun U hU hW => ⟨rfl, qB_go hP hD hK hN hU hW⟩⟩ rfl rfl hl.1 rfl (lv_room (Nat.le_of_ble_eq_true rfl)) dX7_waiting_29 ⟨Nat.zero_le _, Nat.zero_le _⟩) hS (fun q _ h => hFc q h) hFc (fun z_29 u t H1 locs ht hvm ez_29 hB hz1 hk1 hS => ?_)
      subst ez_29
      obtain ⟨hP1, hD1⟩ := hB
      rw [ht] at hP1
      clear hP hD
      generalize H1 = H at hP1 hS ⊢
      have hP : va_P (dC, dI) vwCl (wX7 o_t a_t cI u_29.2 h_t) H := hP1
      have hD : va_D A (wX7 o_t a_t cI u_29.2 h_t) := hD1.weaken (fun _ q _ h => hFc q.1 h)
      obtain rfl := Option.some.inj hf
      exact W.iret (v := u_29.1) hx hb hr (fun t ht hW => ⟨⟨_, (), rfl, rfl, by rw [ht]; exact hP, hD⟩, hS.F ht⟩) hS.2.2 dX7_waiting_32 hlocks
    · have hf := ho_f hf c_19
      refine lv_bipush (v := (-103)) hx hb dX7_waiting_22 (by decide) ?_
      refine lv_goto (tgt := 32) hx hb dX7_waiting_24 (by decide) ?_
      obtain rfl := Option.some.inj hf
      exact W.iret (v := (-103)) hx hb hr (fun t ht hW => ⟨⟨_, (), rfl, rfl, by rw [ht]; exact hP, hD⟩, hS.F ht⟩) hS.2.2 dX7_waiting_32 hlocks
  · have hf := ho_t hf c_9
    refine lv_bipush (v := (-102)) hx hb dX7_waiting_12 (by decide) ?_
    obtain rfl := Option.some.inj hf
    exact W.iret (v := (-102)) hx hb hr (fun t ht hW => ⟨⟨_, (), rfl, rfl, by rw [ht]; exact hP, hD⟩, hS.F ht⟩) hS.2.2 dX7_waiting_14 hlocks
set_option maxHeartbeats 4000000 in
set_option maxRecDepth 100000 in
theorem w_X7_layOrder_l12 {p : Program} {l : Launch} {e : Env} {s : State} {m : MethodId} {args : Array Value} {below : List Frame} {meth : Method} {c : Code} {dC : Nat → ClassId} {dI : Nat → Nat → Nat} {cI cII : ClassId} {o_t : Nat} {a_t : Nat → Nat} {A : Nat → Prop} (C0 : hC p s m args meth c dC dI cI cII RX7 cX7_layOrder 5 (wd yX7_layOrder cX7_layOrder 5 (some .boolean)) (some .boolean)) (hA : ∀ q, s.heap.size ≤ q → A q) {h_t : Int64}     :
    ∀ (n : Nat) (y : obV × Int32 × Int32 × Int32) (r : Int32 × obV), f_X7_layOrder_l12    n y = some r → ∀ (H : Heap) (locs : List Loc) (ls : Array Slot), va_P (dC, dI) vwCl (wX7 o_t a_t cI y.1 h_t) H → va_D A (wX7 o_t a_t cI y.1 h_t) → va_S A s.heap H locs → lv_has ls 5 [(0, .ref o_t), (2, .int y.2.1), (3, .int y.2.2.1), (4, .int y.2.2.2)] → W p l e ({ frames := 0, cells := 0, slots := 0, locals := 0 } : Room) s m args below meth c H locs 0 0 (MQ below (va_Qi (fun (z : Int32) (_ : Unit) => r.1 = z) (fun _ t => va_P (dC, dI) vwCl (wX7 o_t a_t cI r.2 h_t) t.heap ∧ va_D A (wX7 o_t a_t cI r.2 h_t)) A) args s 0 0 A) (F0 m 12 ls []) := by
  obtain ⟨hx, hb, hml, hown, hts, hr, hlocks, hK, hN⟩ := C0
  refine lp_W ?_
  intro k12 ih12 y r hf H locs ls hP hD hS hl
  obtain ⟨v_t, x2, x3, x4⟩ := y
  have hf : f_X7_layOrder_b12  v_t x2 x3 x4  k12 = some r := hf
  have hP : va_P (dC, dI) vwCl (wX7 o_t a_t cI v_t h_t) H := hP
  have hD : va_D A (wX7 o_t a_t cI v_t h_t) := hD
  have hl : lv_has ls 5 [(0, .ref o_t), (2, .int x2), (3, .int x3), (4, .int x4)] := hl
  unfold f_X7_layOrder_b12 at hf
  refine lv_iload hx hb dX7_layOrder_12 (lv_at hl 3 rfl) ?_
  refine lv_if_lt (tgt := 55) hx hb dX7_layOrder_14 (by decide) (fun c_14 => ?_) (fun c_14 => ?_)
  · have hf := ho_t hf c_14
    refine lv_iload_n hx hb dX7_layOrder_55 rfl (lv_at hl 2 rfl) ?_
    refine lv_iconst (v := 1) hx hb dX7_layOrder_56 (by decide) ?_
    refine lv_aload_n hx hb dX7_layOrder_57 rfl (lv_at hl 0 rfl) ?_
    refine va_get (D := (dC, dI)) (ci := 7) (v := .int (v_t.1 6)) (C := RX7) (T := TX7) (N := 30) hx hb hts hw_X7 hown hK hP 0 rfl rfl 6 (by decide) (hts _ (List.mem_cons_of_mem _ mw_604)) (fun _ h9 => h9) rfl dX7_layOrder_58 ?_
    refine lv_ishl hx hb dX7_layOrder_61 ?_
    refine lv_iconst (v := 1) hx hb dX7_layOrder_62 (by decide) ?_
    refine lv_isub hx hb dX7_layOrder_63 ?_
    refine lv_icmp_ne (tgt := 71) hx hb dX7_layOrder_64 (by decide) (fun c_64 => ?_) (fun c_64 => ?_)
    · have hf := ho_f hf c_64
      refine lv_iconst (v := 0) hx hb dX7_layOrder_71 (by decide) ?_
      obtain rfl := Option.some.inj hf
      exact W.zret (v := 0) hx hb hr (by decide) (fun t ht hW => ⟨⟨_, (), rfl, rfl, by rw [ht]; exact hP, hD⟩, hS.F ht⟩) hS.2.2 dX7_layOrder_72 hlocks
    · have hf := ho_t hf c_64
      refine lv_iconst (v := 1) hx hb dX7_layOrder_67 (by decide) ?_
      refine lv_goto (tgt := 72) hx hb dX7_layOrder_68 (by decide) ?_
      obtain rfl := Option.some.inj hf
      exact W.zret (v := 1) hx hb hr (by decide) (fun t ht hW => ⟨⟨_, (), rfl, rfl, by rw [ht]; exact hP, hD⟩, hS.F ht⟩) hS.2.2 dX7_layOrder_72 hlocks
  · have hf := ho_f hf c_14
    refine lv_aload_n hx hb dX7_layOrder_17 rfl (lv_at hl 0 rfl) ?_
    refine va_get (D := (dC, dI)) (ci := 7) (v := .ref (a_t 16)) (C := RX7) (T := TX7) (N := 30) hx hb hts hw_X7 hown hK hP 0 rfl rfl 16 (by decide) (hts _ (List.mem_cons_of_mem _ mw_614)) (fun _ h9 => h9) rfl dX7_layOrder_18 ?_
    refine lv_iload hx hb dX7_layOrder_21 (lv_at hl 3 rfl) ?_
    refine lv_iload_n hx hb dX7_layOrder_23 rfl (lv_at hl 1 rfl) ?_
    refine lv_aload_n hx hb dX7_layOrder_24 rfl (lv_at hl 0 rfl) ?_
    refine va_get (D := (dC, dI)) (ci := 7) (v := .int (v_t.1 6)) (C := RX7) (T := TX7) (N := 30) hx hb hts hw_X7 hown hK hP 0 rfl rfl 6 (by decide) (hts _ (List.mem_cons_of_mem _ mw_604)) (fun _ h9 => h9) rfl dX7_layOrder_25 ?_
    obtain ⟨h_28, hf⟩ := ho_g hf
    refine lv_irem hx hb dX7_layOrder_28 h_28 ?_
    obtain ⟨h_29, hf⟩ := ho_g hf
    refine va_iast (n := 5) (f := (v_t.2 16)) hx hb hK hP hD hS 6 0 rfl rfl h_29 dX7_layOrder_29 (fun H locs hP hD hS => ?_)
    have hP : va_P (dC, dI) vwCl (wX7 o_t a_t cI (oA v_t 16 (Int32.toNatClampNeg x4) (x2 - x2 / (v_t.1 6) * (v_t.1 6))) h_t) H := hP
    have hD : va_D A (wX7 o_t a_t cI (oA v_t 16 (Int32.toNatClampNeg x4) (x2 - x2 / (v_t.1 6) * (v_t.1 6))) h_t) := hD
    obtain ⟨v_t_29, e_v_t_29⟩ : ∃ z : obV, z = (oA v_t 16 (Int32.toNatClampNeg x4) (x2 - x2 / (v_t.1 6) * (v_t.1 6))) := ⟨_, rfl⟩
    rw [← e_v_t_29] at hP hD
    have hf := ho_l hf v_t_29 e_v_t_29
    refine lv_iload_n hx hb dX7_layOrder_30 rfl (lv_at hl 2 rfl) ?_
    refine lv_iconst (v := 1) hx hb dX7_layOrder_31 (by decide) ?_
    refine lv_aload_n hx hb dX7_layOrder_32 rfl (lv_at hl 0 rfl) ?_
    refine va_get (D := (dC, dI)) (ci := 7) (v := .ref (a_t 16)) (C := RX7) (T := TX7) (N := 30) hx hb hts hw_X7 hown hK hP 0 rfl rfl 16 (by decide) (hts _ (List.mem_cons_of_mem _ mw_614)) (fun _ h9 => h9) rfl dX7_layOrder_33 ?_
    refine lv_iload hx hb dX7_layOrder_36 (lv_at hl 3 rfl) ?_
    obtain ⟨h_38, hf⟩ := ho_g hf
    refine va_iald (n := 5) (f := (v_t_29.2 16)) hx hb hK hP 6 0 rfl rfl h_38 dX7_layOrder_38 ?_
    refine lv_ishl hx hb dX7_layOrder_39 ?_
    refine lv_ior hx hb dX7_layOrder_40 ?_
    refine lv_topi (fun z_41 e_41 => ?_)
    have hf := ho_l hf z_41 e_41
    refine lv_istore_n (lv' := [(3, .int z_41), (0, .ref o_t), (2, .int x2), (4, .int x4)]) hx hb dX7_layOrder_41 rfl hl (by decide) rfl (fun ls hl => ?_)
    refine lv_iload_n hx hb dX7_layOrder_42 rfl (lv_at hl 2 rfl) ?_
    refine lv_aload_n hx hb dX7_layOrder_43 rfl (lv_at hl 1 rfl) ?_
    refine va_get (D := (dC, dI)) (ci := 7) (v := .int (v_t_29.1 6)) (C := RX7) (T := TX7) (N := 30) hx hb hts hw_X7 hown hK hP 0 rfl rfl 6 (by decide) (hts _ (List.mem_cons_of_mem _ mw_604)) (fun _ h9 => h9) rfl dX7_layOrder_44 ?_
    obtain ⟨h_47, hf⟩ := ho_g hf
    refine lv_idiv hx hb dX7_layOrder_47 h_47 ?_
    refine lv_istore_n (lv' := [(2, .int (x2 / (v_t_29.1 6))), (3, .int z_41), (0, .ref o_t), (4, .int x4)]) hx hb dX7_layOrder_48 rfl hl (by decide) rfl (fun ls hl => ?_)
    refine lv_iinc (v := (x4 + (-1))) (lv' := [(4, .int (x4 + (-1))), (2, .int (x2 / (v_t_29.1 6))), (3, .int z_41), (0, .ref o_t)]) hx hb dX7_layOrder_49 hl (k := 3) rfl (hp_inc (by decide)) (by decide) rfl (fun ls hl => ?_)
    refine lv_goto (tgt := 12) hx hb dX7_layOrder_52 (by decide) ?_
    exact ih12 (v_t_29, (x2 / (v_t_29.1 6)), z_41, (x4 + (-1))) _ hf _ _ _ hP hD hS (lv_sub hl [3, 1, 2, 0] rfl)
set_option maxHeartbeats 4000000 in
set_option maxRecDepth 100000 in
theorem c_X7_layOrder (l : Launch) (dC : Nat → ClassId) (dI : Nat → Nat → Nat) (cI cII : ClassId) (o_t : Nat) (a_t : Nat → Nat) (v_t : obV) (h_t : Int64) (x1 : Int32) (sz : Nat) (r : Int32 × obV) (hf : f_X7_layOrder  v_t x1 = some r) :
    Met l yX7_layOrder (wd yX7_layOrder cX7_layOrder 5 (some .boolean)) ({ frames := 0, cells := 0, slots := 0, locals := 0 } : Room) (va_Pc [.ref o_t, .int x1] (qB (dC, dI) vwCl (wX7 o_t a_t cI v_t h_t) (hTY cI cII) sz)) (va_Qi (fun (z : Int32) (_ : Unit) => r.1 = z) (fun _ t => va_P (dC, dI) vwCl (wX7 o_t a_t cI r.2 h_t) t.heap ∧ va_D (va_A (wX7 o_t a_t cI v_t h_t) sz) (wX7 o_t a_t cI r.2 h_t)) (va_A (wX7 o_t a_t cI v_t h_t) sz)) 0 0 (va_A (wX7 o_t a_t cI v_t h_t) sz) := by
  refine Met.ofW (cc := cX7_layOrder) (maxL := 5) (ret := (some .boolean)) (by decide) rfl ?_
  intro p e s m args below meth c s₁ B hml hv
  obtain ⟨rfl, hsz, hD0, hP, hK, hN⟩ := hv
  have hx := B.exec
  have hb := B.bytes
  have hr := B.returns
  have hts := atoms_spec (ws := (wd yX7_layOrder cX7_layOrder 5 (some .boolean))) B.pre
  have hown : s.vm.findClass RX7 = some m.cls := findClass_of_methodNamed B.named
  have hlocks := B.notSynchronized
  subst hsz
  have hD := hD0.self (sz := s.heap.size)
  generalize hAe : va_A (wX7 o_t a_t cI v_t h_t) s.heap.size = A at hD ⊢
  have hA : ∀ q : Nat, s.heap.size ≤ q → A q := fun q h => by rw [← hAe]; exact Or.inr h
  have hS : va_S A s.heap s.heap [] := va_S.rf
  have hl := lv_entry ([.ref o_t, .int x1]) (n := 5) (Nat.le_of_ble_eq_true rfl)
  rw [lg_entry_eq]
  generalize (lg_sl ([.ref o_t, .int x1]) ++ List.replicate (5 - (lg_sl ([.ref o_t, .int x1])).length) Slot.unset).toArray = ls at hl ⊢
  have hl : lv_has ls 5 [(0, .ref o_t), (1, .int x1)] := hl
  clear hAe hD0
  unfold f_X7_layOrder at hf
  refine lv_iload_n hx hb dX7_layOrder_0 rfl (lv_at hl 1 rfl) ?_
  refine lv_istore_n (lv' := [(2, .int x1), (0, .ref o_t), (1, .int x1)]) hx hb dX7_layOrder_1 rfl hl (by decide) rfl (fun ls hl => ?_)
  refine lv_iconst (v := 0) hx hb dX7_layOrder_2 (by decide) ?_
  refine lv_istore_n (lv' := [(3, .int 0), (2, .int x1), (0, .ref o_t), (1, .int x1)]) hx hb dX7_layOrder_3 rfl hl (by decide) rfl (fun ls hl => ?_)
  refine lv_aload_n hx hb dX7_layOrder_4 rfl (lv_at hl 2 rfl) ?_
  refine va_get (D := (dC, dI)) (ci := 7) (v := .int (v_t.1 6)) (C := RX7) (T := TX7) (N := 30) hx hb hts hw_X7 hown hK hP 0 rfl rfl 6 (by decide) (hts _ (List.mem_cons_of_mem _ mw_604)) (fun _ h9 => h9) rfl dX7_layOrder_5 ?_
  refine lv_iconst (v := 1) hx hb dX7_layOrder_8 (by decide) ?_
  refine lv_isub hx hb dX7_layOrder_9 ?_
  refine lv_istore (lv' := [(4, .int ((v_t.1 6) - 1)), (3, .int 0), (2, .int x1), (0, .ref o_t), (1, .int x1)]) hx hb dX7_layOrder_10 hl (by decide) rfl (fun ls hl => ?_)
  exact w_X7_layOrder_l12 ⟨hx, hb, hml, hown, hts, hr, hlocks, hK, hN⟩ hA  _ _ _ hf _ _ _ hP hD hS (lv_sub hl [3, 2, 1, 0] rfl)
set_option maxHeartbeats 4000000 in
set_option maxRecDepth 100000 in
theorem w_X7_helpedBy_b50 {p : Program} {l : Launch} {e : Env} {s : State} {m : MethodId} {args : Array Value} {below : List Frame} {meth : Method} {c : Code} {dC : Nat → ClassId} {dI : Nat → Nat → Nat} {cI cII : ClassId} {o_t : Nat} {a_t : Nat → Nat} {A : Nat → Prop} (C0 : hC p s m args meth c dC dI cI cII RX7 cX7_helpedBy 5 (wd yX7_helpedBy cX7_helpedBy 5 (some .int)) (some .int)) (hA : ∀ q, s.heap.size ≤ q → A q) {h_t : Int64} {v_t : obV} {x1 : Int32} {x2 : Int32} {x4 : Int32} {s0 : Int32} {k17 : obV × Int32 × Int32 × Int32 × Int32 → Option (Int32 × obV)} (ih17 : ∀ (y : obV × Int32 × Int32 × Int32 × Int32) (r : Int32 × obV), k17 y = some r → ∀ (H : Heap) (locs : List Loc) (ls : Array Slot), va_P (dC, dI) vwCl (wX7 o_t a_t cI y.1 h_t) H → va_D A (wX7 o_t a_t cI y.1 h_t) → va_S A s.heap H locs → lv_has ls 5 [(0, .ref o_t), (1, .int y.2.1), (2, .int y.2.2.1), (3, .int y.2.2.2.1), (4, .int y.2.2.2.2)] → W p l e ({ frames := 2, cells := 0, slots := 0, locals := 46 } : Room) s m args below meth c H locs 0 0 (MQ below (va_Qi (fun (z : Int32) (_ : Unit) => r.1 = z) (fun _ t => va_P (dC, dI) vwCl (wX7 o_t a_t cI r.2 h_t) t.heap ∧ va_D A (wX7 o_t a_t cI r.2 h_t)) A) args s 0 0 A) (F0 m 17 ls []))  {H : Heap} {locs : List Loc} (hP : va_P (dC, dI) vwCl (wX7 o_t a_t cI v_t h_t) H) (hD : va_D A (wX7 o_t a_t cI v_t h_t)) (hS : va_S A s.heap H locs) {r : Int32 × obV} (hf : f_X7_helpedBy_b50  v_t x1 x2 x4 s0 k17 = some r) {ls : Array Slot} (hl : lv_has ls 5 [(0, .ref o_t), (1, .int x1), (2, .int x2), (4, .int x4)]) :
    W p l e ({ frames := 2, cells := 0, slots := 0, locals := 46 } : Room) s m args below meth c H locs 0 0 (MQ below (va_Qi (fun (z : Int32) (_ : Unit) => r.1 = z) (fun _ t => va_P (dC, dI) vwCl (wX7 o_t a_t cI r.2 h_t) t.heap ∧ va_D A (wX7 o_t a_t cI r.2 h_t)) A) args s 0 0 A) (F0 m 50 ls [.int s0]) := by
  obtain ⟨hx, hb, hml, hown, hts, hr, hlocks, hK, hN⟩ := C0
  unfold f_X7_helpedBy_b50 at hf
  refine lv_istore_n (lv' := [(3, .int s0), (0, .ref o_t), (1, .int x1), (2, .int x2), (4, .int x4)]) hx hb dX7_helpedBy_50 rfl hl (by decide) rfl (fun ls hl => ?_)
  refine lv_iload_n hx hb dX7_helpedBy_51 rfl (lv_at hl 0 rfl) ?_
  refine lv_if_ne (tgt := 104) hx hb dX7_helpedBy_52 (by decide) (fun c_52 => ?_) (fun c_52 => ?_)
  · have hf := ho_f hf c_52
    refine lv_iinc (v := (x4 + 1)) (lv' := [(4, .int (x4 + 1)), (3, .int s0), (0, .ref o_t), (1, .int x1), (2, .int x2)]) hx hb dX7_helpedBy_104 hl (k := 4) rfl (hp_inc (by decide)) (by decide) rfl (fun ls hl => ?_)
    refine lv_goto (tgt := 17) hx hb dX7_helpedBy_107 (by decide) ?_
    exact ih17 (v_t, x1, x2, s0, (x4 + 1)) _ hf _ _ _ hP hD hS (lv_sub hl [2, 3, 4, 1, 0] rfl)
  · have hf := ho_t hf c_52
    refine lv_iload_n hx hb dX7_helpedBy_55 rfl (lv_at hl 2 rfl) ?_
    refine lv_aload_n hx hb dX7_helpedBy_56 rfl (lv_at hl 1 rfl) ?_
    refine lv_aload_n hx hb dX7_helpedBy_57 rfl (lv_at hl 1 rfl) ?_
    refine va_get (D := (dC, dI)) (ci := 7) (v := .ref (a_t 16)) (C := RX7) (T := TX7) (N := 30) hx hb hts hw_X7 hown hK hP 0 rfl rfl 16 (by decide) (hts _ (List.mem_cons_of_mem _ mw_614)) (fun _ h9 => h9) rfl dX7_helpedBy_58 ?_
    refine lv_iload hx hb dX7_helpedBy_61 (lv_at hl 4 rfl) ?_
    obtain ⟨h_63, hf⟩ := ho_g hf
    refine va_iald (n := 5) (f := (v_t.2 16)) hx hb hK hP 6 0 rfl rfl h_63 dX7_helpedBy_63 ?_
    obtain ⟨u_64, e_64, hf⟩ := ho_b hf
    refine vp_callSi (va_runV (As := [.int ((v_t.2 16) (Int32.toNatClampNeg x4))]) (rest := [.int x1]) ⟨hx, hb, hml, hown, hts⟩ (c_X7_wearsOf l dC dI cI cII o_t a_t v_t h_t (((v_t.2 16) (Int32.toNatClampNeg x4))) u_64 e_64) (cwV 1 hts (hw_giV mw_753 mw_755 mw_26 mw_60 mw_756) rfl rfl rfl (by decide +kernel) ⟨Nat.le_of_ble_eq_true rfl, Nat.le_of_ble_eq_true rfl⟩) ⟨pB_blind, va_recv hK hP (ci := 7) (q0 := 0) rfl rfl, fun U hU hW => ⟨rfl, pB_go hP hK hN hU hW⟩⟩ rfl rfl hl.1 rfl (lv_room (Nat.le_of_ble_eq_true rfl)) dX7_helpedBy_64 ⟨Nat.zero_le _, Nat.zero_le _⟩).run (fun z_64 ez_64 => ?_)
    subst ez_64
    refine lv_isub hx hb dX7_helpedBy_67 ?_
    refine lv_istore_n (lv' := [(1, .int (x1 - u_64)), (3, .int s0), (0, .ref o_t), (2, .int x2), (4, .int x4)]) hx hb dX7_helpedBy_68 rfl hl (by decide) rfl (fun ls hl => ?_)
    refine lv_aload_n hx hb dX7_helpedBy_69 rfl (lv_at hl 2 rfl) ?_
    refine lv_aload_n hx hb dX7_helpedBy_70 rfl (lv_at hl 2 rfl) ?_
    refine va_get (D := (dC, dI)) (ci := 7) (v := .ref (a_t 16)) (C := RX7) (T := TX7) (N := 30) hx hb hts hw_X7 hown hK hP 0 rfl rfl 16 (by decide) (hts _ (List.mem_cons_of_mem _ mw_614)) (fun _ h9 => h9) rfl dX7_helpedBy_71 ?_
    refine lv_iload hx hb dX7_helpedBy_74 (lv_at hl 4 rfl) ?_
    obtain ⟨h_76, hf⟩ := ho_g hf
    refine va_iald (n := 5) (f := (v_t.2 16)) hx hb hK hP 6 0 rfl rfl h_76 dX7_helpedBy_76 ?_
    obtain ⟨u_77, e_77, hf⟩ := ho_b hf
    have hFc := va_free (wc := (wX7 o_t a_t cI v_t h_t)) hD hS hA [0, 1, 2, 3, 4, 5, 6, 7, 8, 9, 10, 11, 12] rfl
    refine va_callv (va_runV (As := [.int ((v_t.2 16) (Int32.toNatClampNeg x4))]) (rest := []) ⟨hx, hb, hml, hown, hts⟩ (c_X7_tellSaying l dC dI cI cII o_t a_t v_t h_t (((v_t.2 16) (Int32.toNatClampNeg x4))) _ u_77 e_77) (cwV 1 hts (hw_giV mw_761 mw_763 mw_28 mw_60 mw_764) rfl rfl rfl (by decide +kernel) ⟨Nat.le_of_ble_eq_true rfl, Nat.le_of_ble_eq_true rfl⟩) ⟨qB_blind, va_recv hK hP (ci := 7) (q0 := 0) rfl rfl, fun U hU hW => ⟨rfl, qB_go hP hD hK hN hU hW⟩⟩ rfl rfl hl.1 rfl (lv_room (Nat.le_of_ble_eq_true rfl)) dX7_helpedBy_77 ⟨Nat.zero_le _, Nat.zero_le _⟩) hS (fun q _ h => hFc q h) hFc (fun u t H1 locs ht hvm hw hB hz1 hk1 hS => ?_)
    obtain ⟨hP1, hD1⟩ := hB
    rw [ht] at hP1
    clear hP hD
    generalize H1 = H at hP1 hS ⊢
    have hP : va_P (dC, dI) vwCl (wX7 o_t a_t cI u_77 h_t) H := hP1
    have hD : va_D A (wX7 o_t a_t cI u_77 h_t) := hD1.weaken (fun _ q _ h => hFc q.1 h)
    refine lv_iload_n hx hb dX7_helpedBy_80 rfl (lv_at hl 3 rfl) ?_
    refine lv_aload_n hx hb dX7_helpedBy_81 rfl (lv_at hl 2 rfl) ?_
    refine va_get (D := (dC, dI)) (ci := 7) (v := .ref (a_t 12)) (C := RX7) (T := TX7) (N := 30) hx hb hts hw_X7 hown hK hP 0 rfl rfl 12 (by decide) (hts _ (List.mem_cons_of_mem _ mw_610)) (fun _ h9 => h9) rfl dX7_helpedBy_82 ?_
    refine lv_aload_n hx hb dX7_helpedBy_85 rfl (lv_at hl 2 rfl) ?_
    refine va_get (D := (dC, dI)) (ci := 7) (v := .ref (a_t 16)) (C := RX7) (T := TX7) (N := 30) hx hb hts hw_X7 hown hK hP 0 rfl rfl 16 (by decide) (hts _ (List.mem_cons_of_mem _ mw_614)) (fun _ h9 => h9) rfl dX7_helpedBy_86 ?_
    refine lv_iload hx hb dX7_helpedBy_89 (lv_at hl 4 rfl) ?_
    obtain ⟨h_91, hf⟩ := ho_g hf
    refine va_iald (n := 5) (f := (u_77.2 16)) hx hb hK hP 6 0 rfl rfl h_91 dX7_helpedBy_91 ?_
    obtain ⟨h_92, hf⟩ := ho_g hf
    refine va_iald (n := 5) (f := (u_77.2 12)) hx hb hK hP 5 0 rfl rfl h_92 dX7_helpedBy_92 ?_
    refine lv_iconst (v := (-1)) hx hb dX7_helpedBy_93 (by decide) ?_
    refine lv_icmp_ne (tgt := 101) hx hb dX7_helpedBy_94 (by decide) (fun c_94 => ?_) (fun c_94 => ?_)
    · have hf := ho_f hf c_94
      refine lv_iconst (v := 1) hx hb dX7_helpedBy_101 (by decide) ?_
      refine lv_iadd hx hb dX7_helpedBy_102 ?_
      refine lv_istore_n (lv' := [(2, .int (x2 + 1)), (1, .int (x1 - u_64)), (3, .int s0), (0, .ref o_t), (4, .int x4)]) hx hb dX7_helpedBy_103 rfl hl (by decide) rfl (fun ls hl => ?_)
      refine lv_iinc (v := (x4 + 1)) (lv' := [(4, .int (x4 + 1)), (2, .int (x2 + 1)), (1, .int (x1 - u_64)), (3, .int s0), (0, .ref o_t)]) hx hb dX7_helpedBy_104 hl (k := 4) rfl (hp_inc (by decide)) (by decide) rfl (fun ls hl => ?_)
      refine lv_goto (tgt := 17) hx hb dX7_helpedBy_107 (by decide) ?_
      exact ih17 (u_77, (x1 - u_64), (x2 + 1), s0, (x4 + 1)) _ hf _ _ _ hP hD hS (lv_sub hl [4, 2, 1, 3, 0] rfl)
    · have hf := ho_t hf c_94
      refine lv_iconst (v := 0) hx hb dX7_helpedBy_97 (by decide) ?_
      refine lv_goto (tgt := 102) hx hb dX7_helpedBy_98 (by decide) ?_
      refine lv_iadd hx hb dX7_helpedBy_102 ?_
      refine lv_istore_n (lv' := [(2, .int (x2 + 0)), (1, .int (x1 - u_64)), (3, .int s0), (0, .ref o_t), (4, .int x4)]) hx hb dX7_helpedBy_103 rfl hl (by decide) rfl (fun ls hl => ?_)
      refine lv_iinc (v := (x4 + 1)) (lv' := [(4, .int (x4 + 1)), (2, .int (x2 + 0)), (1, .int (x1 - u_64)), (3, .int s0), (0, .ref o_t)]) hx hb dX7_helpedBy_104 hl (k := 4) rfl (hp_inc (by decide)) (by decide) rfl (fun ls hl => ?_)
      refine lv_goto (tgt := 17) hx hb dX7_helpedBy_107 (by decide) ?_
      exact ih17 (u_77, (x1 - u_64), (x2 + 0), s0, (x4 + 1)) _ hf _ _ _ hP hD hS (lv_sub hl [4, 2, 1, 3, 0] rfl)
set_option maxHeartbeats 4000000 in
set_option maxRecDepth 100000 in
theorem w_X7_helpedBy_l17 {p : Program} {l : Launch} {e : Env} {s : State} {m : MethodId} {args : Array Value} {below : List Frame} {meth : Method} {c : Code} {dC : Nat → ClassId} {dI : Nat → Nat → Nat} {cI cII : ClassId} {o_t : Nat} {a_t : Nat → Nat} {A : Nat → Prop} (C0 : hC p s m args meth c dC dI cI cII RX7 cX7_helpedBy 5 (wd yX7_helpedBy cX7_helpedBy 5 (some .int)) (some .int)) (hA : ∀ q, s.heap.size ≤ q → A q) {h_t : Int64}     :
    ∀ (n : Nat) (y : obV × Int32 × Int32 × Int32 × Int32) (r : Int32 × obV), f_X7_helpedBy_l17    n y = some r → ∀ (H : Heap) (locs : List Loc) (ls : Array Slot), va_P (dC, dI) vwCl (wX7 o_t a_t cI y.1 h_t) H → va_D A (wX7 o_t a_t cI y.1 h_t) → va_S A s.heap H locs → lv_has ls 5 [(0, .ref o_t), (1, .int y.2.1), (2, .int y.2.2.1), (3, .int y.2.2.2.1), (4, .int y.2.2.2.2)] → W p l e ({ frames := 2, cells := 0, slots := 0, locals := 46 } : Room) s m args below meth c H locs 0 0 (MQ below (va_Qi (fun (z : Int32) (_ : Unit) => r.1 = z) (fun _ t => va_P (dC, dI) vwCl (wX7 o_t a_t cI r.2 h_t) t.heap ∧ va_D A (wX7 o_t a_t cI r.2 h_t)) A) args s 0 0 A) (F0 m 17 ls []) := by
  obtain ⟨hx, hb, hml, hown, hts, hr, hlocks, hK, hN⟩ := C0
  refine lp_W ?_
  intro k17 ih17 y r hf H locs ls hP hD hS hl
  obtain ⟨v_t, x1, x2, x3, x4⟩ := y
  have hf : f_X7_helpedBy_b17  v_t x1 x2 x3 x4  k17 = some r := hf
  have hP : va_P (dC, dI) vwCl (wX7 o_t a_t cI v_t h_t) H := hP
  have hD : va_D A (wX7 o_t a_t cI v_t h_t) := hD
  have hl : lv_has ls 5 [(0, .ref o_t), (1, .int x1), (2, .int x2), (3, .int x3), (4, .int x4)] := hl
  unfold f_X7_helpedBy_b17 at hf
  refine lv_iload hx hb dX7_helpedBy_17 (lv_at hl 4 rfl) ?_
  refine lv_aload_n hx hb dX7_helpedBy_19 rfl (lv_at hl 0 rfl) ?_
  refine va_get (D := (dC, dI)) (ci := 7) (v := .int (v_t.1 6)) (C := RX7) (T := TX7) (N := 30) hx hb hts hw_X7 hown hK hP 0 rfl rfl 6 (by decide) (hts _ (List.mem_cons_of_mem _ mw_604)) (fun _ h9 => h9) rfl dX7_helpedBy_20 ?_
  refine lv_icmp_ge (tgt := 110) hx hb dX7_helpedBy_23 (by decide) (fun c_23 => ?_) (fun c_23 => ?_)
  · have hf := ho_t hf c_23
    refine lv_iload_n hx hb dX7_helpedBy_110 rfl (lv_at hl 2 rfl) ?_
    obtain rfl := Option.some.inj hf
    exact W.iret (v := x2) hx hb hr (fun t ht hW => ⟨⟨_, (), rfl, rfl, by rw [ht]; exact hP, hD⟩, hS.F ht⟩) hS.2.2 dX7_helpedBy_111 hlocks
  · have hf := ho_f hf c_23
    refine lv_iload_n hx hb dX7_helpedBy_26 rfl (lv_at hl 3 rfl) ?_
    refine lv_if_ne (tgt := 45) hx hb dX7_helpedBy_27 (by decide) (fun c_27 => ?_) (fun c_27 => ?_)
    · have hf := ho_f hf c_27
      refine lv_iconst (v := 1) hx hb dX7_helpedBy_45 (by decide) ?_
      refine lv_goto (tgt := 50) hx hb dX7_helpedBy_46 (by decide) ?_
      exact w_X7_helpedBy_b50 ⟨hx, hb, hml, hown, hts, hr, hlocks, hK, hN⟩ hA ih17 hP hD hS hf (lv_sub hl [0, 1, 2, 4] rfl)
    · have hf := ho_t hf c_27
      refine lv_iload_n hx hb dX7_helpedBy_30 rfl (lv_at hl 1 rfl) ?_
      refine lv_aload_n hx hb dX7_helpedBy_31 rfl (lv_at hl 0 rfl) ?_
      refine lv_aload_n hx hb dX7_helpedBy_32 rfl (lv_at hl 0 rfl) ?_
      refine va_get (D := (dC, dI)) (ci := 7) (v := .ref (a_t 16)) (C := RX7) (T := TX7) (N := 30) hx hb hts hw_X7 hown hK hP 0 rfl rfl 16 (by decide) (hts _ (List.mem_cons_of_mem _ mw_614)) (fun _ h9 => h9) rfl dX7_helpedBy_33 ?_
      refine lv_iload hx hb dX7_helpedBy_36 (lv_at hl 4 rfl) ?_
      obtain ⟨h_38, hf⟩ := ho_g hf
      refine va_iald (n := 5) (f := (v_t.2 16)) hx hb hK hP 6 0 rfl rfl h_38 dX7_helpedBy_38 ?_
      obtain ⟨u_39, e_39, hf⟩ := ho_b hf
      refine vp_callSi (va_runV (As := [.int ((v_t.2 16) (Int32.toNatClampNeg x4))]) (rest := [.int x1]) ⟨hx, hb, hml, hown, hts⟩ (c_X7_wearsOf l dC dI cI cII o_t a_t v_t h_t (((v_t.2 16) (Int32.toNatClampNeg x4))) u_39 e_39) (cwV 1 hts (hw_giV mw_753 mw_755 mw_26 mw_60 mw_756) rfl rfl rfl (by decide +kernel) ⟨Nat.le_of_ble_eq_true rfl, Nat.le_of_ble_eq_true rfl⟩) ⟨pB_blind, va_recv hK hP (ci := 7) (q0 := 0) rfl rfl, fun U hU hW => ⟨rfl, pB_go hP hK hN hU hW⟩⟩ rfl rfl hl.1 rfl (lv_room (Nat.le_of_ble_eq_true rfl)) dX7_helpedBy_39 ⟨Nat.zero_le _, Nat.zero_le _⟩).run (fun z_39 ez_39 => ?_)
      subst ez_39
      refine lv_icmp_ge (tgt := 49) hx hb dX7_helpedBy_42 (by decide) (fun c_42 => ?_) (fun c_42 => ?_)
      · have hf := ho_t hf c_42
        refine lv_iconst (v := 0) hx hb dX7_helpedBy_49 (by decide) ?_
        exact w_X7_helpedBy_b50 ⟨hx, hb, hml, hown, hts, hr, hlocks, hK, hN⟩ hA ih17 hP hD hS hf (lv_sub hl [0, 1, 2, 4] rfl)
      · have hf := ho_f hf c_42
        refine lv_iconst (v := 1) hx hb dX7_helpedBy_45 (by decide) ?_
        refine lv_goto (tgt := 50) hx hb dX7_helpedBy_46 (by decide) ?_
        exact w_X7_helpedBy_b50 ⟨hx, hb, hml, hown, hts, hr, hlocks, hK, hN⟩ hA ih17 hP hD hS hf (lv_sub hl [0, 1, 2, 4] rfl)
set_option maxHeartbeats 4000000 in
set_option maxRecDepth 100000 in
theorem c_X7_helpedBy (l : Launch) (dC : Nat → ClassId) (dI : Nat → Nat → Nat) (cI cII : ClassId) (o_t : Nat) (a_t : Nat → Nat) (v_t : obV) (h_t : Int64)  (sz : Nat) (r : Int32 × obV) (hf : f_X7_helpedBy  v_t  = some r) :
    Met l yX7_helpedBy (wd yX7_helpedBy cX7_helpedBy 5 (some .int)) ({ frames := 2, cells := 0, slots := 0, locals := 46 } : Room) (va_Pc [.ref o_t] (qB (dC, dI) vwCl (wX7 o_t a_t cI v_t h_t) (hTY cI cII) sz)) (va_Qi (fun (z : Int32) (_ : Unit) => r.1 = z) (fun _ t => va_P (dC, dI) vwCl (wX7 o_t a_t cI r.2 h_t) t.heap ∧ va_D (va_A (wX7 o_t a_t cI v_t h_t) sz) (wX7 o_t a_t cI r.2 h_t)) (va_A (wX7 o_t a_t cI v_t h_t) sz)) 0 0 (va_A (wX7 o_t a_t cI v_t h_t) sz) := by
  refine Met.ofW (cc := cX7_helpedBy) (maxL := 5) (ret := (some .int)) (by decide) rfl ?_
  intro p e s m args below meth c s₁ B hml hv
  obtain ⟨rfl, hsz, hD0, hP, hK, hN⟩ := hv
  have hx := B.exec
  have hb := B.bytes
  have hr := B.returns
  have hts := atoms_spec (ws := (wd yX7_helpedBy cX7_helpedBy 5 (some .int))) B.pre
  have hown : s.vm.findClass RX7 = some m.cls := findClass_of_methodNamed B.named
  have hlocks := B.notSynchronized
  subst hsz
  have hD := hD0.self (sz := s.heap.size)
  generalize hAe : va_A (wX7 o_t a_t cI v_t h_t) s.heap.size = A at hD ⊢
  have hA : ∀ q : Nat, s.heap.size ≤ q → A q := fun q h => by rw [← hAe]; exact Or.inr h
  have hS : va_S A s.heap s.heap [] := va_S.rf
  have hl := lv_entry ([.ref o_t]) (n := 5) (Nat.le_of_ble_eq_true rfl)
  rw [lg_entry_eq]
  generalize (lg_sl ([.ref o_t]) ++ List.replicate (5 - (lg_sl ([.ref o_t])).length) Slot.unset).toArray = ls at hl ⊢
  have hl : lv_has ls 5 [(0, .ref o_t)] := hl
  clear hAe hD0
  unfold f_X7_helpedBy at hf
  refine lv_aload_n hx hb dX7_helpedBy_0 rfl (lv_at hl 0 rfl) ?_
  refine lv_iconst (v := 0) hx hb dX7_helpedBy_1 (by decide) ?_
  refine va_put (D := (dC, dI)) (ci := 7) (v := .int 0) (ty := .int) (C := RX7) (T := TX7) (N := 30) hx hb hts hw_X7 tyX7 tyX7_ok nmX7 hown hK hP hD hS 0 rfl rfl 15 (by decide) (hts _ (List.mem_cons_of_mem _ mw_613)) (fun _ h9 => h9) rfl (by decide +kernel) rfl rfl (Nat.le_of_ble_eq_true rfl) dX7_helpedBy_2 (fun H locs hP hD hS => ?_)
  have hP : va_P (dC, dI) vwCl (wX7 o_t a_t cI (oF v_t 15 0) h_t) H := hP
  have hD : va_D A (wX7 o_t a_t cI (oF v_t 15 0) h_t) := hD
  obtain ⟨v_t_2, e_v_t_2⟩ : ∃ z : obV, z = (oF v_t 15 0) := ⟨_, rfl⟩
  rw [← e_v_t_2] at hP hD
  have hf := ho_l hf v_t_2 e_v_t_2
  refine lv_aload_n hx hb dX7_helpedBy_5 rfl (lv_at hl 0 rfl) ?_
  refine va_get (D := (dC, dI)) (ci := 7) (v := .int (v_t_2.1 7)) (C := RX7) (T := TX7) (N := 30) hx hb hts hw_X7 hown hK hP 0 rfl rfl 7 (by decide) (hts _ (List.mem_cons_of_mem _ mw_605)) (fun _ h9 => h9) rfl dX7_helpedBy_6 ?_
  refine lv_istore_n (lv' := [(1, .int (v_t_2.1 7)), (0, .ref o_t)]) hx hb dX7_helpedBy_9 rfl hl (by decide) rfl (fun ls hl => ?_)
  refine lv_iconst (v := 0) hx hb dX7_helpedBy_10 (by decide) ?_
  refine lv_istore_n (lv' := [(2, .int 0), (1, .int (v_t_2.1 7)), (0, .ref o_t)]) hx hb dX7_helpedBy_11 rfl hl (by decide) rfl (fun ls hl => ?_)
  refine lv_iconst (v := 0) hx hb dX7_helpedBy_12 (by decide) ?_
  refine lv_istore_n (lv' := [(3, .int 0), (2, .int 0), (1, .int (v_t_2.1 7)), (0, .ref o_t)]) hx hb dX7_helpedBy_13 rfl hl (by decide) rfl (fun ls hl => ?_)
  refine lv_iconst (v := 0) hx hb dX7_helpedBy_14 (by decide) ?_
  refine lv_istore (lv' := [(4, .int 0), (3, .int 0), (2, .int 0), (1, .int (v_t_2.1 7)), (0, .ref o_t)]) hx hb dX7_helpedBy_15 hl (by decide) rfl (fun ls hl => ?_)
  exact w_X7_helpedBy_l17 ⟨hx, hb, hml, hown, hts, hr, hlocks, hK, hN⟩ hA  _ _ _ hf _ _ _ hP hD hS (lv_sub hl [4, 3, 2, 1, 0] rfl)
set_option maxHeartbeats 4000000 in
set_option maxRecDepth 100000 in
theorem w_X7_orderOf_l30 {p : Program} {l : Launch} {e : Env} {s : State} {m : MethodId} {args : Array Value} {below : List Frame} {meth : Method} {c : Code} {dC : Nat → ClassId} {dI : Nat → Nat → Nat} {cI cII : ClassId} {o_t : Nat} {a_t : Nat → Nat} {A : Nat → Prop} (C0 : hC p s m args meth c dC dI cI cII RX7 cX7_orderOf 6 (wd yX7_orderOf cX7_orderOf 6 (some .int)) (some .int)) (hA : ∀ q, s.heap.size ≤ q → A q) {h_t : Int64} {x1 : Int32} {x2 : Int32}    :
    ∀ (n : Nat) (y : obV × Int32 × Int32) (r : Int32 × obV), f_X7_orderOf_l30  x1 x2  n y = some r → ∀ (H : Heap) (locs : List Loc) (ls : Array Slot), va_P (dC, dI) vwCl (wX7 o_t a_t cI y.1 h_t) H → va_D A (wX7 o_t a_t cI y.1 h_t) → va_S A s.heap H locs → lv_has ls 6 [(0, .ref o_t), (1, .int x1), (2, .int x2), (3, .int y.2.1), (4, .int y.2.2)] → W p l e ({ frames := 3, cells := 0, slots := 0, locals := 70 } : Room) s m args below meth c H locs 0 0 (MQ below (va_Qi (fun (z : Int32) (_ : Unit) => r.1 = z) (fun _ t => va_P (dC, dI) vwCl (wX7 o_t a_t cI r.2 h_t) t.heap ∧ va_D A (wX7 o_t a_t cI r.2 h_t)) A) args s 0 0 A) (F0 m 30 ls []) := by
  obtain ⟨hx, hb, hml, hown, hts, hr, hlocks, hK, hN⟩ := C0
  refine lp_W ?_
  intro k30 ih30 y r hf H locs ls hP hD hS hl
  obtain ⟨v_t, x3, x4⟩ := y
  have hf : f_X7_orderOf_b30  v_t x1 x2 x3 x4  k30 = some r := hf
  have hP : va_P (dC, dI) vwCl (wX7 o_t a_t cI v_t h_t) H := hP
  have hD : va_D A (wX7 o_t a_t cI v_t h_t) := hD
  have hl : lv_has ls 6 [(0, .ref o_t), (1, .int x1), (2, .int x2), (3, .int x3), (4, .int x4)] := hl
  unfold f_X7_orderOf_b30 at hf
  refine lv_iload hx hb dX7_orderOf_30 (lv_at hl 4 rfl) ?_
  refine lv_iload_n hx hb dX7_orderOf_32 rfl (lv_at hl 2 rfl) ?_
  refine lv_icmp_ge (tgt := 77) hx hb dX7_orderOf_33 (by decide) (fun c_33 => ?_) (fun c_33 => ?_)
  · have hf := ho_t hf c_33
    refine lv_iload_n hx hb dX7_orderOf_77 rfl (lv_at hl 1 rfl) ?_
    refine lv_if_ne (tgt := 85) hx hb dX7_orderOf_78 (by decide) (fun c_78 => ?_) (fun c_78 => ?_)
    · have hf := ho_f hf c_78
      refine lv_iload_n hx hb dX7_orderOf_85 rfl (lv_at hl 1 rfl) ?_
      refine lv_bipush (v := 10) hx hb dX7_orderOf_86 (by decide) ?_
      refine lv_isub hx hb dX7_orderOf_88 ?_
      refine lv_aload_n hx hb dX7_orderOf_89 rfl (lv_at hl 0 rfl) ?_
      refine va_get (D := (dC, dI)) (ci := 7) (v := .int (v_t.1 6)) (C := RX7) (T := TX7) (N := 30) hx hb hts hw_X7 hown hK hP 0 rfl rfl 6 (by decide) (hts _ (List.mem_cons_of_mem _ mw_604)) (fun _ h9 => h9) rfl dX7_orderOf_90 ?_
      refine lv_icmp_ge (tgt := 108) hx hb dX7_orderOf_93 (by decide) (fun c_93 => ?_) (fun c_93 => ?_)
      · have hf := ho_t hf c_93
        refine lv_iconst (v := (-1)) hx hb dX7_orderOf_108 (by decide) ?_
        obtain rfl := Option.some.inj hf
        exact W.iret (v := (-1)) hx hb hr (fun t ht hW => ⟨⟨_, (), rfl, rfl, by rw [ht]; exact hP, hD⟩, hS.F ht⟩) hS.2.2 dX7_orderOf_109 hlocks
      · have hf := ho_f hf c_93
        refine lv_aload_n hx hb dX7_orderOf_96 rfl (lv_at hl 0 rfl) ?_
        refine va_get (D := (dC, dI)) (ci := 7) (v := .ref (a_t 17)) (C := RX7) (T := TX7) (N := 30) hx hb hts hw_X7 hown hK hP 0 rfl rfl 17 (by decide) (hts _ (List.mem_cons_of_mem _ mw_615)) (fun _ h9 => h9) rfl dX7_orderOf_97 ?_
        refine lv_iload_n hx hb dX7_orderOf_100 rfl (lv_at hl 1 rfl) ?_
        refine lv_bipush (v := 10) hx hb dX7_orderOf_101 (by decide) ?_
        refine lv_isub hx hb dX7_orderOf_103 ?_
        obtain ⟨h_104, hf⟩ := ho_g hf
        refine va_iald (n := 5) (f := (v_t.2 17)) hx hb hK hP 7 0 rfl rfl h_104 dX7_orderOf_104 ?_
        refine lv_goto (tgt := 109) hx hb dX7_orderOf_105 (by decide) ?_
        obtain rfl := Option.some.inj hf
        exact W.iret (v := ((v_t.2 17) (Int32.toNatClampNeg (x1 - 10)))) hx hb hr (fun t ht hW => ⟨⟨_, (), rfl, rfl, by rw [ht]; exact hP, hD⟩, hS.F ht⟩) hS.2.2 dX7_orderOf_109 hlocks
    · have hf := ho_t hf c_78
      refine lv_iload_n hx hb dX7_orderOf_81 rfl (lv_at hl 3 rfl) ?_
      refine lv_goto (tgt := 109) hx hb dX7_orderOf_82 (by decide) ?_
      obtain rfl := Option.some.inj hf
      exact W.iret (v := x3) hx hb hr (fun t ht hW => ⟨⟨_, (), rfl, rfl, by rw [ht]; exact hP, hD⟩, hS.F ht⟩) hS.2.2 dX7_orderOf_109 hlocks
  · have hf := ho_f hf c_33
    refine lv_aload_n hx hb dX7_orderOf_36 rfl (lv_at hl 0 rfl) ?_
    refine lv_iload hx hb dX7_orderOf_37 (lv_at hl 4 rfl) ?_
    obtain ⟨u_39, e_39, hf⟩ := ho_b hf
    have hFc := va_free (wc := (wX7 o_t a_t cI v_t h_t)) hD hS hA [0, 1, 2, 3, 4, 5, 6, 7, 8, 9, 10, 11, 12] rfl
    refine va_calli (va_runV (As := [.int x4]) (rest := []) ⟨hx, hb, hml, hown, hts⟩ (c_X7_layOrder l dC dI cI cII o_t a_t v_t h_t (x4) _ u_39 e_39) (cwV 1 hts (hw_giV mw_850 mw_852 mw_42 mw_60 mw_853) rfl rfl rfl (by decide +kernel) ⟨Nat.le_of_ble_eq_true rfl, Nat.le_of_ble_eq_true rfl⟩) ⟨qB_blind, va_recv hK hP (ci := 7) (q0 := 0) rfl rfl, fun U hU hW => ⟨rfl, qB_go hP hD hK hN hU hW⟩⟩ rfl rfl hl.1 rfl (lv_room (Nat.le_of_ble_eq_true rfl)) dX7_orderOf_39 ⟨Nat.zero_le _, Nat.zero_le _⟩) hS (fun q _ h => hFc q h) hFc (fun z_39 u t H1 locs ht hvm ez_39 hB hz1 hk1 hS => ?_)
    subst ez_39
    obtain ⟨hP1, hD1⟩ := hB
    rw [ht] at hP1
    clear hP hD
    generalize H1 = H at hP1 hS ⊢
    have hP : va_P (dC, dI) vwCl (wX7 o_t a_t cI u_39.2 h_t) H := hP1
    have hD : va_D A (wX7 o_t a_t cI u_39.2 h_t) := hD1.weaken (fun _ q _ h => hFc q.1 h)
    refine lv_if_eq (tgt := 71) hx hb dX7_orderOf_42 (by decide) (fun c_42 => ?_) (fun c_42 => ?_)
    · have hf := ho_t hf c_42
      refine lv_iinc (v := (x4 + 1)) (lv' := [(4, .int (x4 + 1)), (0, .ref o_t), (1, .int x1), (2, .int x2), (3, .int x3)]) hx hb dX7_orderOf_71 hl (k := 4) rfl (hp_inc (by decide)) (by decide) rfl (fun ls hl => ?_)
      refine lv_goto (tgt := 30) hx hb dX7_orderOf_74 (by decide) ?_
      exact ih30 (u_39.2, x3, (x4 + 1)) _ hf _ _ _ hP hD hS (lv_sub hl [1, 2, 3, 4, 0] rfl)
    · have hf := ho_f hf c_42
      refine lv_aload_n hx hb dX7_orderOf_45 rfl (lv_at hl 0 rfl) ?_
      obtain ⟨u_46, e_46, hf⟩ := ho_b hf
      have hFc := va_free (wc := (wX7 o_t a_t cI u_39.2 h_t)) hD hS hA [0, 1, 2, 3, 4, 5, 6, 7, 8, 9, 10, 11, 12] rfl
      refine va_calli (va_runV (As := []) (rest := []) ⟨hx, hb, hml, hown, hts⟩ (c_X7_helpedBy l dC dI cI cII o_t a_t u_39.2 h_t _ u_46 e_46) (cwV 0 hts (hw_giV mw_854 mw_856 mw_43 mw_60 mw_857) rfl rfl rfl (by decide +kernel) ⟨Nat.le_of_ble_eq_true rfl, Nat.le_of_ble_eq_true rfl⟩) ⟨qB_blind, va_recv hK hP (ci := 7) (q0 := 0) rfl rfl, fun U hU hW => ⟨rfl, qB_go hP hD hK hN hU hW⟩⟩ rfl rfl hl.1 rfl (lv_room (Nat.le_of_ble_eq_true rfl)) dX7_orderOf_46 ⟨Nat.zero_le _, Nat.zero_le _⟩) hS (fun q _ h => hFc q h) hFc (fun z_46 u t H1 locs ht hvm ez_46 hB hz1 hk1 hS => ?_)
      subst ez_46
      obtain ⟨hP1, hD1⟩ := hB
      rw [ht] at hP1
      clear hP hD
      generalize H1 = H at hP1 hS ⊢
      have hP : va_P (dC, dI) vwCl (wX7 o_t a_t cI u_46.2 h_t) H := hP1
      have hD : va_D A (wX7 o_t a_t cI u_46.2 h_t) := hD1.weaken (fun _ q _ h => hFc q.1 h)
      refine lv_istore (lv' := [(5, .int u_46.1), (0, .ref o_t), (1, .int x1), (2, .int x2), (3, .int x3), (4, .int x4)]) hx hb dX7_orderOf_49 hl (by decide) rfl (fun ls hl => ?_)
      refine lv_iload hx hb dX7_orderOf_51 (lv_at hl 0 rfl) ?_
      refine lv_iload_n hx hb dX7_orderOf_53 rfl (lv_at hl 4 rfl) ?_
      refine lv_icmp_le (tgt := 71) hx hb dX7_orderOf_54 (by decide) (fun c_54 => ?_) (fun c_54 => ?_)
      · have hf := ho_t hf c_54
        refine lv_iinc (v := (x4 + 1)) (lv' := [(4, .int (x4 + 1)), (5, .int u_46.1), (0, .ref o_t), (1, .int x1), (2, .int x2), (3, .int x3)]) hx hb dX7_orderOf_71 hl (k := 5) rfl (hp_inc (by decide)) (by decide) rfl (fun ls hl => ?_)
        refine lv_goto (tgt := 30) hx hb dX7_orderOf_74 (by decide) ?_
        exact ih30 (u_46.2, x3, (x4 + 1)) _ hf _ _ _ hP hD hS (lv_sub hl [2, 3, 4, 5, 0] rfl)
      · have hf := ho_f hf c_54
        refine lv_iload hx hb dX7_orderOf_57 (lv_at hl 0 rfl) ?_
        refine lv_istore_n (lv' := [(3, .int u_46.1), (5, .int u_46.1), (0, .ref o_t), (1, .int x1), (2, .int x2), (4, .int x4)]) hx hb dX7_orderOf_59 rfl hl (by decide) rfl (fun ls hl => ?_)
        refine lv_aload_n hx hb dX7_orderOf_60 rfl (lv_at hl 2 rfl) ?_
        refine va_get (D := (dC, dI)) (ci := 7) (v := .ref (a_t 16)) (C := RX7) (T := TX7) (N := 30) hx hb hts hw_X7 hown hK hP 0 rfl rfl 16 (by decide) (hts _ (List.mem_cons_of_mem _ mw_614)) (fun _ h9 => h9) rfl dX7_orderOf_61 ?_
        refine lv_aload_n hx hb dX7_orderOf_64 rfl (lv_at hl 2 rfl) ?_
        refine va_get (D := (dC, dI)) (ci := 7) (v := .ref (a_t 17)) (C := RX7) (T := TX7) (N := 30) hx hb hts hw_X7 hown hK hP 0 rfl rfl 17 (by decide) (hts _ (List.mem_cons_of_mem _ mw_615)) (fun _ h9 => h9) rfl dX7_orderOf_65 ?_
        obtain ⟨u_68, e_68, hf⟩ := ho_b hf
        have hPc := hP.sub (ws' := ([((a_t 16), .inl (cI, 5, .inl (u_46.2.2 16)))] ++ ([((a_t 17), .inl (cI, 5, .inl (u_46.2.2 17)))]))) [6, 7] rfl
        have hDc := hD.sub (ws' := ([((a_t 16), .inl (cI, 5, .inl (u_46.2.2 16)))] ++ ([((a_t 17), .inl (cI, 5, .inl (u_46.2.2 17)))]))) [6, 7] (by decide) rfl
        have hFc := va_free (wc := ([((a_t 16), .inl (cI, 5, .inl (u_46.2.2 16)))] ++ ([((a_t 17), .inl (cI, 5, .inl (u_46.2.2 17)))]))) hD hS hA [6, 7] rfl
        refine va_callv (va_runS (As := [.ref (a_t 16), .ref (a_t 17)]) (rest := []) ⟨hx, hb, hml, hown, hts⟩ (c_X7_copy l dC dI cI cII (a_t 16) 5 (a_t 17) 5 (u_46.2.2 16) (u_46.2.2 17) _ u_68 e_68) (va_cwS 2 hts (hw_giS mw_722 mw_723 mw_60 mw_724) rfl rfl rfl (by decide +kernel) ⟨Nat.le_of_ble_eq_true rfl, Nat.le_of_ble_eq_true rfl⟩) ⟨qB_blind, fun U hU hW => ⟨rfl, qB_go hPc hDc hK hN hU hW⟩⟩ rfl rfl hl.1 rfl (lv_room (Nat.le_of_ble_eq_true rfl)) dX7_orderOf_68 ⟨Nat.zero_le _, Nat.zero_le _⟩) hS (fun q _ h => hFc q h) hFc (fun u t H1 locs ht hvm hw hB hz1 hk1 hS => ?_)
        obtain ⟨hP1, hD1⟩ := hB
        rw [ht] at hP1
        obtain ⟨hP, hD⟩ := va_join (wr := ([(o_t, .inr (7, [.ref (a_t 0), .int (u_46.2.1 1), .ref (a_t 2), .int (u_46.2.1 3), .int (u_46.2.1 4), .int (u_46.2.1 5), .int (u_46.2.1 6), .int (u_46.2.1 7), .int (u_46.2.1 8), .int (u_46.2.1 9), .ref (a_t 10), .ref (a_t 11), .ref (a_t 12), .int (u_46.2.1 13), .int (u_46.2.1 14), .int (u_46.2.1 15), .ref (a_t 16), .ref (a_t 17), .int (u_46.2.1 18), .ref (a_t 19), .ref (a_t 20), .int (u_46.2.1 21), .ref (a_t 22), .int (u_46.2.1 23), .int (u_46.2.1 24), .int (u_46.2.1 25), .int (u_46.2.1 26), .ref (a_t 27), .ref (a_t 28), .long h_t])), (a_t 0, .inl (cI, 24, .inl (u_46.2.2 0))), (a_t 2, .inl (cI, 15, .inl (u_46.2.2 2))), (a_t 10, .inl (cI, 15, .inl (u_46.2.2 10))), (a_t 11, .inl (cI, 5, .inl (u_46.2.2 11))), (a_t 12, .inl (cI, 5, .inl (u_46.2.2 12))), (a_t 19, .inl (cI, 16, .inl (u_46.2.2 19))), (a_t 20, .inl (cI, 120, .inl (u_46.2.2 20))), (a_t 22, .inl (cI, 15, .inl (u_46.2.2 22))), (a_t 27, .inl (cI, 15, .inl (u_46.2.2 27))), (a_t 28, .inl (cI, 16, .inl (u_46.2.2 28)))])) (w1 := ([((a_t 16), .inl (cI, 5, .inl (u_46.2.2 16)))] ++ ([((a_t 17), .inl (cI, 5, .inl ((oC u_46.2 17 u_68).2 17)))]))) hP hD [6, 7] [0, 1, 2, 3, 4, 5, 8, 9, 10, 11, 12] rfl rfl (by decide) (by decide) hk1 hFc hP1 hD1
        generalize H1 = H at hP hS ⊢
        have hP : va_P (dC, dI) vwCl (wX7 o_t a_t cI (oC u_46.2 17 u_68) h_t) H := hP.sub [0, 1, 2, 3, 4, 5, 11, 12, 6, 7, 8, 9, 10] rfl
        have hD : va_D A (wX7 o_t a_t cI (oC u_46.2 17 u_68) h_t) := hD.sub [0, 1, 2, 3, 4, 5, 11, 12, 6, 7, 8, 9, 10] (by decide) rfl
        refine lv_iinc (v := (x4 + 1)) (lv' := [(4, .int (x4 + 1)), (3, .int u_46.1), (5, .int u_46.1), (0, .ref o_t), (1, .int x1), (2, .int x2)]) hx hb dX7_orderOf_71 hl (k := 5) rfl (hp_inc (by decide)) (by decide) rfl (fun ls hl => ?_)
        refine lv_goto (tgt := 30) hx hb dX7_orderOf_74 (by decide) ?_
        exact ih30 ((oC u_46.2 17 u_68), u_46.1, (x4 + 1)) _ hf _ _ _ hP hD hS (lv_sub hl [3, 4, 5, 1, 0] rfl)
set_option maxHeartbeats 4000000 in
set_option maxRecDepth 100000 in
theorem w_X7_orderOf_l4 {p : Program} {l : Launch} {e : Env} {s : State} {m : MethodId} {args : Array Value} {below : List Frame} {meth : Method} {c : Code} {dC : Nat → ClassId} {dI : Nat → Nat → Nat} {cI cII : ClassId} {o_t : Nat} {a_t : Nat → Nat} {A : Nat → Prop} (C0 : hC p s m args meth c dC dI cI cII RX7 cX7_orderOf 6 (wd yX7_orderOf cX7_orderOf 6 (some .int)) (some .int)) (hA : ∀ q, s.heap.size ≤ q → A q) {h_t : Int64} {v_t : obV} {x1 : Int32}    :
    ∀ (n : Nat) (y : Int32 × Int32) (r : Int32 × obV), f_X7_orderOf_l4  v_t x1  n y = some r → ∀ (H : Heap) (locs : List Loc) (ls : Array Slot), va_P (dC, dI) vwCl (wX7 o_t a_t cI v_t h_t) H → va_D A (wX7 o_t a_t cI v_t h_t) → va_S A s.heap H locs → lv_has ls 6 [(0, .ref o_t), (1, .int x1), (2, .int y.1), (3, .int y.2)] → W p l e ({ frames := 3, cells := 0, slots := 0, locals := 70 } : Room) s m args below meth c H locs 0 0 (MQ below (va_Qi (fun (z : Int32) (_ : Unit) => r.1 = z) (fun _ t => va_P (dC, dI) vwCl (wX7 o_t a_t cI r.2 h_t) t.heap ∧ va_D A (wX7 o_t a_t cI r.2 h_t)) A) args s 0 0 A) (F0 m 4 ls []) := by
  obtain ⟨hx, hb, hml, hown, hts, hr, hlocks, hK, hN⟩ := C0
  refine lp_W ?_
  intro k4 ih4 y r hf H locs ls hP hD hS hl
  obtain ⟨x2, x3⟩ := y
  have hf : f_X7_orderOf_b4  v_t x1 x2 x3  k4 = some r := hf
  have hP : va_P (dC, dI) vwCl (wX7 o_t a_t cI v_t h_t) H := hP
  have hD : va_D A (wX7 o_t a_t cI v_t h_t) := hD
  have hl : lv_has ls 6 [(0, .ref o_t), (1, .int x1), (2, .int x2), (3, .int x3)] := hl
  unfold f_X7_orderOf_b4 at hf
  refine lv_iload_n hx hb dX7_orderOf_4 rfl (lv_at hl 3 rfl) ?_
  refine lv_aload_n hx hb dX7_orderOf_5 rfl (lv_at hl 0 rfl) ?_
  refine va_get (D := (dC, dI)) (ci := 7) (v := .int (v_t.1 6)) (C := RX7) (T := TX7) (N := 30) hx hb hts hw_X7 hown hK hP 0 rfl rfl 6 (by decide) (hts _ (List.mem_cons_of_mem _ mw_604)) (fun _ h9 => h9) rfl dX7_orderOf_6 ?_
  refine lv_icmp_ge (tgt := 25) hx hb dX7_orderOf_9 (by decide) (fun c_9 => ?_) (fun c_9 => ?_)
  · have hf := ho_t hf c_9
    refine lv_iconst (v := (-1)) hx hb dX7_orderOf_25 (by decide) ?_
    refine lv_istore_n (lv' := [(3, .int (-1)), (0, .ref o_t), (1, .int x1), (2, .int x2)]) hx hb dX7_orderOf_26 rfl hl (by decide) rfl (fun ls hl => ?_)
    refine lv_iconst (v := 0) hx hb dX7_orderOf_27 (by decide) ?_
    refine lv_istore (lv' := [(4, .int 0), (3, .int (-1)), (0, .ref o_t), (1, .int x1), (2, .int x2)]) hx hb dX7_orderOf_28 hl (by decide) rfl (fun ls hl => ?_)
    exact w_X7_orderOf_l30 ⟨hx, hb, hml, hown, hts, hr, hlocks, hK, hN⟩ hA  _ _ _ hf _ _ _ hP hD hS (lv_sub hl [2, 3, 4, 1, 0] rfl)
  · have hf := ho_f hf c_9
    refine lv_iload_n hx hb dX7_orderOf_12 rfl (lv_at hl 2 rfl) ?_
    refine lv_aload_n hx hb dX7_orderOf_13 rfl (lv_at hl 0 rfl) ?_
    refine va_get (D := (dC, dI)) (ci := 7) (v := .int (v_t.1 6)) (C := RX7) (T := TX7) (N := 30) hx hb hts hw_X7 hown hK hP 0 rfl rfl 6 (by decide) (hts _ (List.mem_cons_of_mem _ mw_604)) (fun _ h9 => h9) rfl dX7_orderOf_14 ?_
    refine lv_imul hx hb dX7_orderOf_17 ?_
    refine lv_istore_n (lv' := [(2, .int (x2 * (v_t.1 6))), (0, .ref o_t), (1, .int x1), (3, .int x3)]) hx hb dX7_orderOf_18 rfl hl (by decide) rfl (fun ls hl => ?_)
    refine lv_iinc (v := (x3 + 1)) (lv' := [(3, .int (x3 + 1)), (2, .int (x2 * (v_t.1 6))), (0, .ref o_t), (1, .int x1)]) hx hb dX7_orderOf_19 hl (k := 3) rfl (hp_inc (by decide)) (by decide) rfl (fun ls hl => ?_)
    refine lv_goto (tgt := 4) hx hb dX7_orderOf_22 (by decide) ?_
    exact ih4 ((x2 * (v_t.1 6)), (x3 + 1)) _ hf _ _ _ hP hD hS (lv_sub hl [2, 3, 1, 0] rfl)
set_option maxHeartbeats 4000000 in
set_option maxRecDepth 100000 in
theorem c_X7_orderOf (l : Launch) (dC : Nat → ClassId) (dI : Nat → Nat → Nat) (cI cII : ClassId) (o_t : Nat) (a_t : Nat → Nat) (v_t : obV) (h_t : Int64) (x1 : Int32) (sz : Nat) (r : Int32 × obV) (hf : f_X7_orderOf  v_t x1 = some r) :
    Met l yX7_orderOf (wd yX7_orderOf cX7_orderOf 6 (some .int)) ({ frames := 3, cells := 0, slots := 0, locals := 70 } : Room) (va_Pc [.ref o_t, .int x1] (qB (dC, dI) vwCl (wX7 o_t a_t cI v_t h_t) (hTY cI cII) sz)) (va_Qi (fun (z : Int32) (_ : Unit) => r.1 = z) (fun _ t => va_P (dC, dI) vwCl (wX7 o_t a_t cI r.2 h_t) t.heap ∧ va_D (va_A (wX7 o_t a_t cI v_t h_t) sz) (wX7 o_t a_t cI r.2 h_t)) (va_A (wX7 o_t a_t cI v_t h_t) sz)) 0 0 (va_A (wX7 o_t a_t cI v_t h_t) sz) := by
  refine Met.ofW (cc := cX7_orderOf) (maxL := 6) (ret := (some .int)) (by decide) rfl ?_
  intro p e s m args below meth c s₁ B hml hv
  obtain ⟨rfl, hsz, hD0, hP, hK, hN⟩ := hv
  have hx := B.exec
  have hb := B.bytes
  have hr := B.returns
  have hts := atoms_spec (ws := (wd yX7_orderOf cX7_orderOf 6 (some .int))) B.pre
  have hown : s.vm.findClass RX7 = some m.cls := findClass_of_methodNamed B.named
  have hlocks := B.notSynchronized
  subst hsz
  have hD := hD0.self (sz := s.heap.size)
  generalize hAe : va_A (wX7 o_t a_t cI v_t h_t) s.heap.size = A at hD ⊢
  have hA : ∀ q : Nat, s.heap.size ≤ q → A q := fun q h => by rw [← hAe]; exact Or.inr h
  have hS : va_S A s.heap s.heap [] := va_S.rf
  have hl := lv_entry ([.ref o_t, .int x1]) (n := 6) (Nat.le_of_ble_eq_true rfl)
  rw [lg_entry_eq]
  generalize (lg_sl ([.ref o_t, .int x1]) ++ List.replicate (6 - (lg_sl ([.ref o_t, .int x1])).length) Slot.unset).toArray = ls at hl ⊢
  have hl : lv_has ls 6 [(0, .ref o_t), (1, .int x1)] := hl
  clear hAe hD0
  unfold f_X7_orderOf at hf
  refine lv_iconst (v := 1) hx hb dX7_orderOf_0 (by decide) ?_
  refine lv_istore_n (lv' := [(2, .int 1), (0, .ref o_t), (1, .int x1)]) hx hb dX7_orderOf_1 rfl hl (by decide) rfl (fun ls hl => ?_)
  refine lv_iconst (v := 0) hx hb dX7_orderOf_2 (by decide) ?_
  refine lv_istore_n (lv' := [(3, .int 0), (2, .int 1), (0, .ref o_t), (1, .int x1)]) hx hb dX7_orderOf_3 rfl hl (by decide) rfl (fun ls hl => ?_)
  exact w_X7_orderOf_l4 ⟨hx, hb, hml, hown, hts, hr, hlocks, hK, hN⟩ hA  _ _ _ hf _ _ _ hP hD hS (lv_sub hl [2, 3, 1, 0] rfl)
set_option maxHeartbeats 4000000 in
set_option maxRecDepth 100000 in
theorem w_X7_order_b21 {p : Program} {l : Launch} {e : Env} {s : State} {m : MethodId} {args : Array Value} {below : List Frame} {meth : Method} {c : Code} {dC : Nat → ClassId} {dI : Nat → Nat → Nat} {cI cII : ClassId} {o_t : Nat} {a_t : Nat → Nat} {A : Nat → Prop} (C0 : hC p s m args meth c dC dI cI cII RX7 cX7_order 2 (wd yX7_order cX7_order 2 (some .int)) (some .int)) (hA : ∀ q, s.heap.size ≤ q → A q) {h_t : Int64} {v_t : obV} {x1 : Int32}    {H : Heap} {locs : List Loc} (hP : va_P (dC, dI) vwCl (wX7 o_t a_t cI v_t h_t) H) (hD : va_D A (wX7 o_t a_t cI v_t h_t)) (hS : va_S A s.heap H locs) {r : Int32 × obV} (hf : f_X7_order_b21  v_t x1  = some r) {ls : Array Slot} (hl : lv_has ls 2 [(0, .ref o_t), (1, .int x1)]) :
    W p l e ({ frames := 4, cells := 0, slots := 0, locals := 95 } : Room) s m args below meth c H locs 0 0 (MQ below (va_Qi (fun (z : Int32) (_ : Unit) => r.1 = z) (fun _ t => va_P (dC, dI) vwCl (wX7 o_t a_t cI r.2 h_t) t.heap ∧ va_D A (wX7 o_t a_t cI r.2 h_t)) A) args s 0 0 A) (F0 m 21 ls []) := by
  obtain ⟨hx, hb, hml, hown, hts, hr, hlocks, hK, hN⟩ := C0
  unfold f_X7_order_b21 at hf
  refine lv_aload_n hx hb dX7_order_21 rfl (lv_at hl 0 rfl) ?_
  obtain ⟨u_22, e_22, hf⟩ := ho_b hf
  refine vp_callSi (va_runV (As := []) (rest := []) ⟨hx, hb, hml, hown, hts⟩ (c_X7_lacks l dC dI cI cII o_t a_t v_t h_t u_22 e_22) (cwV 0 hts (hw_giV mw_807 mw_809 mw_35 mw_60 mw_810) rfl rfl rfl (by decide +kernel) ⟨Nat.le_of_ble_eq_true rfl, Nat.le_of_ble_eq_true rfl⟩) ⟨pB_blind, va_recv hK hP (ci := 7) (q0 := 0) rfl rfl, fun U hU hW => ⟨rfl, pB_go hP hK hN hU hW⟩⟩ rfl rfl hl.1 rfl (lv_room (Nat.le_of_ble_eq_true rfl)) dX7_order_22 ⟨Nat.zero_le _, Nat.zero_le _⟩).run (fun z_22 ez_22 => ?_)
  subst ez_22
  refine lv_if_eq (tgt := 33) hx hb dX7_order_25 (by decide) (fun c_25 => ?_) (fun c_25 => ?_)
  · have hf := ho_t hf c_25
    refine lv_aload_n hx hb dX7_order_33 rfl (lv_at hl 0 rfl) ?_
    refine lv_iload_n hx hb dX7_order_34 rfl (lv_at hl 1 rfl) ?_
    obtain ⟨u_35, e_35, hf⟩ := ho_b hf
    have hFc := va_free (wc := (wX7 o_t a_t cI v_t h_t)) hD hS hA [0, 1, 2, 3, 4, 5, 6, 7, 8, 9, 10, 11, 12] rfl
    refine va_calli (va_runV (As := [.int x1]) (rest := []) ⟨hx, hb, hml, hown, hts⟩ (c_X7_orderOf l dC dI cI cII o_t a_t v_t h_t (x1) _ u_35 e_35) (cwV 1 hts (hw_giV mw_846 mw_848 mw_41 mw_60 mw_849) rfl rfl rfl (by decide +kernel) ⟨Nat.le_of_ble_eq_true rfl, Nat.le_of_ble_eq_true rfl⟩) ⟨qB_blind, va_recv hK hP (ci := 7) (q0 := 0) rfl rfl, fun U hU hW => ⟨rfl, qB_go hP hD hK hN hU hW⟩⟩ rfl rfl hl.1 rfl (lv_room (Nat.le_of_ble_eq_true rfl)) dX7_order_35 ⟨Nat.zero_le _, Nat.zero_le _⟩) hS (fun q _ h => hFc q h) hFc (fun z_35 u t H1 locs ht hvm ez_35 hB hz1 hk1 hS => ?_)
    subst ez_35
    obtain ⟨hP1, hD1⟩ := hB
    rw [ht] at hP1
    clear hP hD
    generalize H1 = H at hP1 hS ⊢
    have hP : va_P (dC, dI) vwCl (wX7 o_t a_t cI u_35.2 h_t) H := hP1
    have hD : va_D A (wX7 o_t a_t cI u_35.2 h_t) := hD1.weaken (fun _ q _ h => hFc q.1 h)
    obtain rfl := Option.some.inj hf
    exact W.iret (v := u_35.1) hx hb hr (fun t ht hW => ⟨⟨_, (), rfl, rfl, by rw [ht]; exact hP, hD⟩, hS.F ht⟩) hS.2.2 dX7_order_38 hlocks
  · have hf := ho_f hf c_25
    refine lv_bipush (v := (-103)) hx hb dX7_order_28 (by decide) ?_
    refine lv_goto (tgt := 38) hx hb dX7_order_30 (by decide) ?_
    obtain rfl := Option.some.inj hf
    exact W.iret (v := (-103)) hx hb hr (fun t ht hW => ⟨⟨_, (), rfl, rfl, by rw [ht]; exact hP, hD⟩, hS.F ht⟩) hS.2.2 dX7_order_38 hlocks
set_option maxHeartbeats 4000000 in
set_option maxRecDepth 100000 in
theorem c_X7_order (l : Launch) (dC : Nat → ClassId) (dI : Nat → Nat → Nat) (cI cII : ClassId) (o_t : Nat) (a_t : Nat → Nat) (v_t : obV) (h_t : Int64) (x1 : Int32) (sz : Nat) (r : Int32 × obV) (hf : f_X7_order  v_t x1 = some r) :
    Met l yX7_order (wd yX7_order cX7_order 2 (some .int)) ({ frames := 4, cells := 0, slots := 0, locals := 95 } : Room) (va_Pc [.ref o_t, .int x1] (qB (dC, dI) vwCl (wX7 o_t a_t cI v_t h_t) (hTY cI cII) sz)) (va_Qi (fun (z : Int32) (_ : Unit) => r.1 = z) (fun _ t => va_P (dC, dI) vwCl (wX7 o_t a_t cI r.2 h_t) t.heap ∧ va_D (va_A (wX7 o_t a_t cI v_t h_t) sz) (wX7 o_t a_t cI r.2 h_t)) (va_A (wX7 o_t a_t cI v_t h_t) sz)) 0 0 (va_A (wX7 o_t a_t cI v_t h_t) sz) := by
  refine Met.ofW (cc := cX7_order) (maxL := 2) (ret := (some .int)) (by decide) rfl ?_
  intro p e s m args below meth c s₁ B hml hv
  obtain ⟨rfl, hsz, hD0, hP, hK, hN⟩ := hv
  have hx := B.exec
  have hb := B.bytes
  have hr := B.returns
  have hts := atoms_spec (ws := (wd yX7_order cX7_order 2 (some .int))) B.pre
  have hown : s.vm.findClass RX7 = some m.cls := findClass_of_methodNamed B.named
  have hlocks := B.notSynchronized
  subst hsz
  have hD := hD0.self (sz := s.heap.size)
  generalize hAe : va_A (wX7 o_t a_t cI v_t h_t) s.heap.size = A at hD ⊢
  have hA : ∀ q : Nat, s.heap.size ≤ q → A q := fun q h => by rw [← hAe]; exact Or.inr h
  have hS : va_S A s.heap s.heap [] := va_S.rf
  have hl := lv_entry ([.ref o_t, .int x1]) (n := 2) (Nat.le_of_ble_eq_true rfl)
  rw [lg_entry_eq]
  generalize (lg_sl ([.ref o_t, .int x1]) ++ List.replicate (2 - (lg_sl ([.ref o_t, .int x1])).length) Slot.unset).toArray = ls at hl ⊢
  have hl : lv_has ls 2 [(0, .ref o_t), (1, .int x1)] := hl
  clear hAe hD0
  unfold f_X7_order at hf
  refine lv_iload_n hx hb dX7_order_0 rfl (lv_at hl 1 rfl) ?_
  refine lv_if_eq (tgt := 21) hx hb dX7_order_1 (by decide) (fun c_1 => ?_) (fun c_1 => ?_)
  · have hf := ho_t hf c_1
    exact w_X7_order_b21 ⟨hx, hb, hml, hown, hts, hr, hlocks, hK, hN⟩ hA  hP hD hS hf (lv_sub hl [0, 1] rfl)
  · have hf := ho_f hf c_1
    refine lv_iload_n hx hb dX7_order_4 rfl (lv_at hl 1 rfl) ?_
    refine lv_i2l (v := (Int32.toInt64 x1)) hx hb dX7_order_5 rfl ?_
    refine lv_ldc2 (v := 10) hx hb hown (hts _ (List.mem_cons_of_mem _ mw_844)) dX7_order_6 ?_
    refine lv_ldc2 (v := 14) hx hb hown (hts _ (List.mem_cons_of_mem _ mw_845)) dX7_order_9 ?_
    obtain ⟨u_12, e_12, hf⟩ := ho_b hf
    have hPc := hP.sub (ws' := ([] : va_W)) [] rfl
    refine vp_callSi (va_runS (As := [.long (Int32.toInt64 x1), .long 10, .long 14]) (rest := []) ⟨hx, hb, hml, hown, hts⟩ (c_X7_in l dC dI cI cII ((Int32.toInt64 x1)) (10) (14) u_12 e_12) (va_cwS 3 hts (hw_giS mw_694 mw_695 mw_60 mw_696) rfl rfl rfl (by decide +kernel) ⟨Nat.le_of_ble_eq_true rfl, Nat.le_of_ble_eq_true rfl⟩) ⟨pB_blind, fun U hU hW => ⟨rfl, pB_go hPc hK hN hU hW⟩⟩ rfl rfl hl.1 rfl (lv_room (Nat.le_of_ble_eq_true rfl)) dX7_order_12 ⟨Nat.zero_le _, Nat.zero_le _⟩).run (fun z_12 ez_12 => ?_)
    subst ez_12
    refine lv_if_ne (tgt := 21) hx hb dX7_order_15 (by decide) (fun c_15 => ?_) (fun c_15 => ?_)
    · have hf := ho_f hf c_15
      exact w_X7_order_b21 ⟨hx, hb, hml, hown, hts, hr, hlocks, hK, hN⟩ hA  hP hD hS hf (lv_sub hl [0, 1] rfl)
    · have hf := ho_t hf c_15
      refine lv_bipush (v := (-102)) hx hb dX7_order_18 (by decide) ?_
      obtain rfl := Option.some.inj hf
      exact W.iret (v := (-102)) hx hb hr (fun t ht hW => ⟨⟨_, (), rfl, rfl, by rw [ht]; exact hP, hD⟩, hS.F ht⟩) hS.2.2 dX7_order_20 hlocks
set_option maxHeartbeats 4000000 in
set_option maxRecDepth 100000 in
theorem w_X7_fitOf_b65 {p : Program} {l : Launch} {e : Env} {s : State} {m : MethodId} {args : Array Value} {below : List Frame} {meth : Method} {c : Code} {dC : Nat → ClassId} {dI : Nat → Nat → Nat} {cI cII : ClassId} {o_t : Nat} {a_t : Nat → Nat} {A : Nat → Prop} (C0 : hC p s m args meth c dC dI cI cII RX7 cX7_fitOf 8 (wd yX7_fitOf cX7_fitOf 8 (some .int)) (some .int)) (hA : ∀ q, s.heap.size ≤ q → A q) {h_t : Int64} {v_t : obV} {x1 : Int32} {x2 : Int32} {x3 : Int32} {x5 : Int32} {x6 : Int32} {x7 : Int32} {s0 : Int32} {k22 : obV × Int32 × Int32 × Int32 → Option (Int32 × obV)} (ih22 : ∀ (y : obV × Int32 × Int32 × Int32) (r : Int32 × obV), k22 y = some r → ∀ (H : Heap) (locs : List Loc) (ls : Array Slot), va_P (dC, dI) vwCl (wX7 o_t a_t cI y.1 h_t) H → va_D A (wX7 o_t a_t cI y.1 h_t) → va_S A s.heap H locs → lv_has ls 8 [(0, .ref o_t), (1, .int x1), (2, .int x2), (3, .int x3), (4, .int y.2.1), (5, .int y.2.2.1), (6, .int y.2.2.2)] → W p l e ({ frames := 4, cells := 0, slots := 0, locals := 90 } : Room) s m args below meth c H locs 0 0 (MQ below (va_Qi (fun (z : Int32) (_ : Unit) => r.1 = z) (fun _ t => va_P (dC, dI) vwCl (wX7 o_t a_t cI r.2 h_t) t.heap ∧ va_D A (wX7 o_t a_t cI r.2 h_t)) A) args s 0 0 A) (F0 m 22 ls []))  {H : Heap} {locs : List Loc} (hP : va_P (dC, dI) vwCl (wX7 o_t a_t cI v_t h_t) H) (hD : va_D A (wX7 o_t a_t cI v_t h_t)) (hS : va_S A s.heap H locs) {r : Int32 × obV} (hf : f_X7_fitOf_b65  v_t x1 x2 x3 x5 x6 x7 s0 k22 = some r) {ls : Array Slot} (hl : lv_has ls 8 [(0, .ref o_t), (1, .int x1), (2, .int x2), (3, .int x3), (5, .int x5), (6, .int x6), (7, .int x7)]) :
    W p l e ({ frames := 4, cells := 0, slots := 0, locals := 90 } : Room) s m args below meth c H locs 0 0 (MQ below (va_Qi (fun (z : Int32) (_ : Unit) => r.1 = z) (fun _ t => va_P (dC, dI) vwCl (wX7 o_t a_t cI r.2 h_t) t.heap ∧ va_D A (wX7 o_t a_t cI r.2 h_t)) A) args s 0 0 A) (F0 m 65 ls [.int s0]) := by
  obtain ⟨hx, hb, hml, hown, hts, hr, hlocks, hK, hN⟩ := C0
  unfold f_X7_fitOf_b65 at hf
  refine lv_istore (lv' := [(4, .int s0), (0, .ref o_t), (1, .int x1), (2, .int x2), (3, .int x3), (5, .int x5), (6, .int x6), (7, .int x7)]) hx hb dX7_fitOf_65 hl (by decide) rfl (fun ls hl => ?_)
  refine lv_iload hx hb dX7_fitOf_67 (lv_at hl 7 rfl) ?_
  refine lv_iload hx hb dX7_fitOf_69 (lv_at hl 5 rfl) ?_
  refine lv_icmp_ge (tgt := 79) hx hb dX7_fitOf_71 (by decide) (fun c_71 => ?_) (fun c_71 => ?_)
  · have hf := ho_t hf c_71
    refine lv_iload hx hb dX7_fitOf_79 (lv_at hl 5 rfl) ?_
    refine lv_istore (lv' := [(5, .int x5), (4, .int s0), (0, .ref o_t), (1, .int x1), (2, .int x2), (3, .int x3), (6, .int x6), (7, .int x7)]) hx hb dX7_fitOf_81 hl (by decide) rfl (fun ls hl => ?_)
    refine lv_iinc (v := (x6 + 1)) (lv' := [(6, .int (x6 + 1)), (5, .int x5), (4, .int s0), (0, .ref o_t), (1, .int x1), (2, .int x2), (3, .int x3), (7, .int x7)]) hx hb dX7_fitOf_83 hl (k := 6) rfl (hp_inc (by decide)) (by decide) rfl (fun ls hl => ?_)
    refine lv_goto (tgt := 22) hx hb dX7_fitOf_86 (by decide) ?_
    exact ih22 (v_t, s0, x5, (x6 + 1)) _ hf _ _ _ hP hD hS (lv_sub hl [3, 4, 5, 6, 2, 1, 0] rfl)
  · have hf := ho_f hf c_71
    refine lv_iload hx hb dX7_fitOf_74 (lv_at hl 7 rfl) ?_
    refine lv_goto (tgt := 81) hx hb dX7_fitOf_76 (by decide) ?_
    refine lv_istore (lv' := [(5, .int x7), (4, .int s0), (0, .ref o_t), (1, .int x1), (2, .int x2), (3, .int x3), (6, .int x6), (7, .int x7)]) hx hb dX7_fitOf_81 hl (by decide) rfl (fun ls hl => ?_)
    refine lv_iinc (v := (x6 + 1)) (lv' := [(6, .int (x6 + 1)), (5, .int x7), (4, .int s0), (0, .ref o_t), (1, .int x1), (2, .int x2), (3, .int x3), (7, .int x7)]) hx hb dX7_fitOf_83 hl (k := 6) rfl (hp_inc (by decide)) (by decide) rfl (fun ls hl => ?_)
    refine lv_goto (tgt := 22) hx hb dX7_fitOf_86 (by decide) ?_
    exact ih22 (v_t, s0, x7, (x6 + 1)) _ hf _ _ _ hP hD hS (lv_sub hl [3, 4, 5, 6, 2, 1, 0] rfl)
set_option maxHeartbeats 4000000 in
set_option maxRecDepth 100000 in
theorem w_X7_fitOf_l22 {p : Program} {l : Launch} {e : Env} {s : State} {m : MethodId} {args : Array Value} {below : List Frame} {meth : Method} {c : Code} {dC : Nat → ClassId} {dI : Nat → Nat → Nat} {cI cII : ClassId} {o_t : Nat} {a_t : Nat → Nat} {A : Nat → Prop} (C0 : hC p s m args meth c dC dI cI cII RX7 cX7_fitOf 8 (wd yX7_fitOf cX7_fitOf 8 (some .int)) (some .int)) (hA : ∀ q, s.heap.size ≤ q → A q) {h_t : Int64} {x1 : Int32} {x2 : Int32} {x3 : Int32}    :
    ∀ (n : Nat) (y : obV × Int32 × Int32 × Int32) (r : Int32 × obV), f_X7_fitOf_l22  x1 x2 x3  n y = some r → ∀ (H : Heap) (locs : List Loc) (ls : Array Slot), va_P (dC, dI) vwCl (wX7 o_t a_t cI y.1 h_t) H → va_D A (wX7 o_t a_t cI y.1 h_t) → va_S A s.heap H locs → lv_has ls 8 [(0, .ref o_t), (1, .int x1), (2, .int x2), (3, .int x3), (4, .int y.2.1), (5, .int y.2.2.1), (6, .int y.2.2.2)] → W p l e ({ frames := 4, cells := 0, slots := 0, locals := 90 } : Room) s m args below meth c H locs 0 0 (MQ below (va_Qi (fun (z : Int32) (_ : Unit) => r.1 = z) (fun _ t => va_P (dC, dI) vwCl (wX7 o_t a_t cI r.2 h_t) t.heap ∧ va_D A (wX7 o_t a_t cI r.2 h_t)) A) args s 0 0 A) (F0 m 22 ls []) := by
  obtain ⟨hx, hb, hml, hown, hts, hr, hlocks, hK, hN⟩ := C0
  refine lp_W ?_
  intro k22 ih22 y r hf H locs ls hP hD hS hl
  obtain ⟨v_t, x4, x5, x6⟩ := y
  have hf : f_X7_fitOf_b22  v_t x1 x2 x3 x4 x5 x6  k22 = some r := hf
  have hP : va_P (dC, dI) vwCl (wX7 o_t a_t cI v_t h_t) H := hP
  have hD : va_D A (wX7 o_t a_t cI v_t h_t) := hD
  have hl : lv_has ls 8 [(0, .ref o_t), (1, .int x1), (2, .int x2), (3, .int x3), (4, .int x4), (5, .int x5), (6, .int x6)] := hl
  unfold f_X7_fitOf_b22 at hf
  refine lv_iload hx hb dX7_fitOf_22 (lv_at hl 6 rfl) ?_
  refine lv_bipush (v := 10) hx hb dX7_fitOf_24 (by decide) ?_
  refine lv_icmp_ge (tgt := 89) hx hb dX7_fitOf_26 (by decide) (fun c_26 => ?_) (fun c_26 => ?_)
  · have hf := ho_t hf c_26
    refine lv_aload_n hx hb dX7_fitOf_89 rfl (lv_at hl 0 rfl) ?_
    refine va_get (D := (dC, dI)) (ci := 7) (v := .ref (a_t 10)) (C := RX7) (T := TX7) (N := 30) hx hb hts hw_X7 hown hK hP 0 rfl rfl 10 (by decide) (hts _ (List.mem_cons_of_mem _ mw_608)) (fun _ h9 => h9) rfl dX7_fitOf_90 ?_
    refine lv_iconst (v := 3) hx hb dX7_fitOf_93 (by decide) ?_
    refine lv_iload_n hx hb dX7_fitOf_94 rfl (lv_at hl 1 rfl) ?_
    refine lv_imul hx hb dX7_fitOf_95 ?_
    refine lv_iconst (v := 2) hx hb dX7_fitOf_96 (by decide) ?_
    refine lv_iadd hx hb dX7_fitOf_97 ?_
    refine lv_iload_n hx hb dX7_fitOf_98 rfl (lv_at hl 3 rfl) ?_
    obtain ⟨h_99, hf⟩ := ho_g hf
    refine va_iast (n := 15) (f := (v_t.2 10)) hx hb hK hP hD hS 3 0 rfl rfl h_99 dX7_fitOf_99 (fun H locs hP hD hS => ?_)
    have hP : va_P (dC, dI) vwCl (wX7 o_t a_t cI (oA v_t 10 (Int32.toNatClampNeg ((3 * x1) + 2)) x3) h_t) H := hP
    have hD : va_D A (wX7 o_t a_t cI (oA v_t 10 (Int32.toNatClampNeg ((3 * x1) + 2)) x3) h_t) := hD
    obtain ⟨v_t_99, e_v_t_99⟩ : ∃ z : obV, z = (oA v_t 10 (Int32.toNatClampNeg ((3 * x1) + 2)) x3) := ⟨_, rfl⟩
    rw [← e_v_t_99] at hP hD
    have hf := ho_l hf v_t_99 e_v_t_99
    refine lv_iload_n hx hb dX7_fitOf_100 rfl (lv_at hl 2 rfl) ?_
    refine lv_if_ne (tgt := 109) hx hb dX7_fitOf_101 (by decide) (fun c_101 => ?_) (fun c_101 => ?_)
    · have hf := ho_f hf c_101
      refine lv_iload hx hb dX7_fitOf_109 (lv_at hl 5 rfl) ?_
      obtain rfl := Option.some.inj hf
      exact W.iret (v := x5) hx hb hr (fun t ht hW => ⟨⟨_, (), rfl, rfl, by rw [ht]; exact hP, hD⟩, hS.F ht⟩) hS.2.2 dX7_fitOf_111 hlocks
    · have hf := ho_t hf c_101
      refine lv_iload hx hb dX7_fitOf_104 (lv_at hl 4 rfl) ?_
      refine lv_goto (tgt := 111) hx hb dX7_fitOf_106 (by decide) ?_
      obtain rfl := Option.some.inj hf
      exact W.iret (v := x4) hx hb hr (fun t ht hW => ⟨⟨_, (), rfl, rfl, by rw [ht]; exact hP, hD⟩, hS.F ht⟩) hS.2.2 dX7_fitOf_111 hlocks
  · have hf := ho_f hf c_26
    refine lv_aload_n hx hb dX7_fitOf_29 rfl (lv_at hl 0 rfl) ?_
    refine va_get (D := (dC, dI)) (ci := 7) (v := .ref (a_t 10)) (C := RX7) (T := TX7) (N := 30) hx hb hts hw_X7 hown hK hP 0 rfl rfl 10 (by decide) (hts _ (List.mem_cons_of_mem _ mw_608)) (fun _ h9 => h9) rfl dX7_fitOf_30 ?_
    refine lv_iconst (v := 3) hx hb dX7_fitOf_33 (by decide) ?_
    refine lv_iload_n hx hb dX7_fitOf_34 rfl (lv_at hl 1 rfl) ?_
    refine lv_imul hx hb dX7_fitOf_35 ?_
    refine lv_iconst (v := 2) hx hb dX7_fitOf_36 (by decide) ?_
    refine lv_iadd hx hb dX7_fitOf_37 ?_
    refine lv_iload hx hb dX7_fitOf_38 (lv_at hl 6 rfl) ?_
    obtain ⟨h_40, hf⟩ := ho_g hf
    refine va_iast (n := 15) (f := (v_t.2 10)) hx hb hK hP hD hS 3 0 rfl rfl h_40 dX7_fitOf_40 (fun H locs hP hD hS => ?_)
    have hP : va_P (dC, dI) vwCl (wX7 o_t a_t cI (oA v_t 10 (Int32.toNatClampNeg ((3 * x1) + 2)) x6) h_t) H := hP
    have hD : va_D A (wX7 o_t a_t cI (oA v_t 10 (Int32.toNatClampNeg ((3 * x1) + 2)) x6) h_t) := hD
    obtain ⟨v_t_40, e_v_t_40⟩ : ∃ z : obV, z = (oA v_t 10 (Int32.toNatClampNeg ((3 * x1) + 2)) x6) := ⟨_, rfl⟩
    rw [← e_v_t_40] at hP hD
    have hf := ho_l hf v_t_40 e_v_t_40
    refine lv_aload_n hx hb dX7_fitOf_41 rfl (lv_at hl 0 rfl) ?_
    obtain ⟨u_42, e_42, hf⟩ := ho_b hf
    have hFc := va_free (wc := (wX7 o_t a_t cI v_t_40 h_t)) hD hS hA [0, 1, 2, 3, 4, 5, 6, 7, 8, 9, 10, 11, 12] rfl
    refine va_callv (va_runV (As := []) (rest := []) ⟨hx, hb, hml, hown, hts⟩ (c_X7_layDay l dC dI cI cII o_t a_t v_t_40 h_t _ u_42 e_42) (cwV 0 hts (hw_giV mw_737 mw_739 mw_22 mw_60 mw_740) rfl rfl rfl (by decide +kernel) ⟨Nat.le_of_ble_eq_true rfl, Nat.le_of_ble_eq_true rfl⟩) ⟨qB_blind, va_recv hK hP (ci := 7) (q0 := 0) rfl rfl, fun U hU hW => ⟨rfl, qB_go hP hD hK hN hU hW⟩⟩ rfl rfl hl.1 rfl (lv_room (Nat.le_of_ble_eq_true rfl)) dX7_fitOf_42 ⟨Nat.zero_le _, Nat.zero_le _⟩) hS (fun q _ h => hFc q h) hFc (fun u t H1 locs ht hvm hw hB hz1 hk1 hS => ?_)
    obtain ⟨hP1, hD1⟩ := hB
    rw [ht] at hP1
    clear hP hD
    generalize H1 = H at hP1 hS ⊢
    have hP : va_P (dC, dI) vwCl (wX7 o_t a_t cI u_42 h_t) H := hP1
    have hD : va_D A (wX7 o_t a_t cI u_42 h_t) := hD1.weaken (fun _ q _ h => hFc q.1 h)
    refine lv_aload_n hx hb dX7_fitOf_45 rfl (lv_at hl 0 rfl) ?_
    obtain ⟨u_46, e_46, hf⟩ := ho_b hf
    refine vp_callSi (va_runV (As := []) (rest := []) ⟨hx, hb, hml, hown, hts⟩ (c_X7_meetings l dC dI cI cII o_t a_t u_42 h_t u_46 e_46) (cwV 0 hts (hw_giV mw_827 mw_829 mw_39 mw_60 mw_830) rfl rfl rfl (by decide +kernel) ⟨Nat.le_of_ble_eq_true rfl, Nat.le_of_ble_eq_true rfl⟩) ⟨pB_blind, va_recv hK hP (ci := 7) (q0 := 0) rfl rfl, fun U hU hW => ⟨rfl, pB_go hP hK hN hU hW⟩⟩ rfl rfl hl.1 rfl (lv_room (Nat.le_of_ble_eq_true rfl)) dX7_fitOf_46 ⟨Nat.zero_le _, Nat.zero_le _⟩).run (fun z_46 ez_46 => ?_)
    subst ez_46
    refine lv_istore (lv' := [(7, .int u_46), (0, .ref o_t), (1, .int x1), (2, .int x2), (3, .int x3), (4, .int x4), (5, .int x5), (6, .int x6)]) hx hb dX7_fitOf_49 hl (by decide) rfl (fun ls hl => ?_)
    refine lv_iload hx hb dX7_fitOf_51 (lv_at hl 0 rfl) ?_
    refine lv_iload hx hb dX7_fitOf_53 (lv_at hl 6 rfl) ?_
    refine lv_icmp_ge (tgt := 63) hx hb dX7_fitOf_55 (by decide) (fun c_55 => ?_) (fun c_55 => ?_)
    · have hf := ho_t hf c_55
      refine lv_iload hx hb dX7_fitOf_63 (lv_at hl 5 rfl) ?_
      exact w_X7_fitOf_b65 ⟨hx, hb, hml, hown, hts, hr, hlocks, hK, hN⟩ hA ih22 hP hD hS hf (lv_sub hl [1, 2, 3, 4, 6, 7, 0] rfl)
    · have hf := ho_f hf c_55
      refine lv_iload hx hb dX7_fitOf_58 (lv_at hl 7 rfl) ?_
      refine lv_goto (tgt := 65) hx hb dX7_fitOf_60 (by decide) ?_
      exact w_X7_fitOf_b65 ⟨hx, hb, hml, hown, hts, hr, hlocks, hK, hN⟩ hA ih22 hP hD hS hf (lv_sub hl [1, 2, 3, 4, 6, 7, 0] rfl)
set_option maxHeartbeats 4000000 in
set_option maxRecDepth 100000 in
theorem c_X7_fitOf (l : Launch) (dC : Nat → ClassId) (dI : Nat → Nat → Nat) (cI cII : ClassId) (o_t : Nat) (a_t : Nat → Nat) (v_t : obV) (h_t : Int64) (x1 : Int32) (x2 : Int32) (sz : Nat) (r : Int32 × obV) (hf : f_X7_fitOf  v_t x1 x2 = some r) :
    Met l yX7_fitOf (wd yX7_fitOf cX7_fitOf 8 (some .int)) ({ frames := 4, cells := 0, slots := 0, locals := 90 } : Room) (va_Pc [.ref o_t, .int x1, .int x2] (qB (dC, dI) vwCl (wX7 o_t a_t cI v_t h_t) (hTY cI cII) sz)) (va_Qi (fun (z : Int32) (_ : Unit) => r.1 = z) (fun _ t => va_P (dC, dI) vwCl (wX7 o_t a_t cI r.2 h_t) t.heap ∧ va_D (va_A (wX7 o_t a_t cI v_t h_t) sz) (wX7 o_t a_t cI r.2 h_t)) (va_A (wX7 o_t a_t cI v_t h_t) sz)) 0 0 (va_A (wX7 o_t a_t cI v_t h_t) sz) := by
  refine Met.ofW (cc := cX7_fitOf) (maxL := 8) (ret := (some .int)) (by decide) rfl ?_
  intro p e s m args below meth c s₁ B hml hv
  obtain ⟨rfl, hsz, hD0, hP, hK, hN⟩ := hv
  have hx := B.exec
  have hb := B.bytes
  have hr := B.returns
  have hts := atoms_spec (ws := (wd yX7_fitOf cX7_fitOf 8 (some .int))) B.pre
  have hown : s.vm.findClass RX7 = some m.cls := findClass_of_methodNamed B.named
  have hlocks := B.notSynchronized
  subst hsz
  have hD := hD0.self (sz := s.heap.size)
  generalize hAe : va_A (wX7 o_t a_t cI v_t h_t) s.heap.size = A at hD ⊢
  have hA : ∀ q : Nat, s.heap.size ≤ q → A q := fun q h => by rw [← hAe]; exact Or.inr h
  have hS : va_S A s.heap s.heap [] := va_S.rf
  have hl := lv_entry ([.ref o_t, .int x1, .int x2]) (n := 8) (Nat.le_of_ble_eq_true rfl)
  rw [lg_entry_eq]
  generalize (lg_sl ([.ref o_t, .int x1, .int x2]) ++ List.replicate (8 - (lg_sl ([.ref o_t, .int x1, .int x2])).length) Slot.unset).toArray = ls at hl ⊢
  have hl : lv_has ls 8 [(0, .ref o_t), (1, .int x1), (2, .int x2)] := hl
  clear hAe hD0
  unfold f_X7_fitOf at hf
  refine lv_aload_n hx hb dX7_fitOf_0 rfl (lv_at hl 0 rfl) ?_
  refine va_get (D := (dC, dI)) (ci := 7) (v := .ref (a_t 10)) (C := RX7) (T := TX7) (N := 30) hx hb hts hw_X7 hown hK hP 0 rfl rfl 10 (by decide) (hts _ (List.mem_cons_of_mem _ mw_608)) (fun _ h9 => h9) rfl dX7_fitOf_1 ?_
  refine lv_iconst (v := 3) hx hb dX7_fitOf_4 (by decide) ?_
  refine lv_iload_n hx hb dX7_fitOf_5 rfl (lv_at hl 1 rfl) ?_
  refine lv_imul hx hb dX7_fitOf_6 ?_
  refine lv_iconst (v := 2) hx hb dX7_fitOf_7 (by decide) ?_
  refine lv_iadd hx hb dX7_fitOf_8 ?_
  obtain ⟨h_9, hf⟩ := ho_g hf
  refine va_iald (n := 15) (f := (v_t.2 10)) hx hb hK hP 3 0 rfl rfl h_9 dX7_fitOf_9 ?_
  refine lv_istore_n (lv' := [(3, .int ((v_t.2 10) (Int32.toNatClampNeg ((3 * x1) + 2)))), (0, .ref o_t), (1, .int x1), (2, .int x2)]) hx hb dX7_fitOf_10 rfl hl (by decide) rfl (fun ls hl => ?_)
  refine lv_iconst (v := (-1)) hx hb dX7_fitOf_11 (by decide) ?_
  refine lv_istore (lv' := [(4, .int (-1)), (3, .int ((v_t.2 10) (Int32.toNatClampNeg ((3 * x1) + 2)))), (0, .ref o_t), (1, .int x1), (2, .int x2)]) hx hb dX7_fitOf_12 hl (by decide) rfl (fun ls hl => ?_)
  refine lv_sipush (v := 9999) hx hb dX7_fitOf_14 (by decide) ?_
  refine lv_istore (lv' := [(5, .int 9999), (4, .int (-1)), (3, .int ((v_t.2 10) (Int32.toNatClampNeg ((3 * x1) + 2)))), (0, .ref o_t), (1, .int x1), (2, .int x2)]) hx hb dX7_fitOf_17 hl (by decide) rfl (fun ls hl => ?_)
  refine lv_iconst (v := 0) hx hb dX7_fitOf_19 (by decide) ?_
  refine lv_istore (lv' := [(6, .int 0), (5, .int 9999), (4, .int (-1)), (3, .int ((v_t.2 10) (Int32.toNatClampNeg ((3 * x1) + 2)))), (0, .ref o_t), (1, .int x1), (2, .int x2)]) hx hb dX7_fitOf_20 hl (by decide) rfl (fun ls hl => ?_)
  exact w_X7_fitOf_l22 ⟨hx, hb, hml, hown, hts, hr, hlocks, hK, hN⟩ hA  _ _ _ hf _ _ _ hP hD hS (lv_sub hl [4, 5, 6, 3, 2, 1, 0] rfl)
set_option maxHeartbeats 4000000 in
set_option maxRecDepth 100000 in
theorem c_X7_fit (l : Launch) (dC : Nat → ClassId) (dI : Nat → Nat → Nat) (cI cII : ClassId) (o_t : Nat) (a_t : Nat → Nat) (v_t : obV) (h_t : Int64) (x1 : Int32) (x2 : Int32) (sz : Nat) (r : Int32 × obV) (hf : f_X7_fit  v_t x1 x2 = some r) :
    Met l yX7_fit (wd yX7_fit cX7_fit 3 (some .int)) ({ frames := 5, cells := 0, slots := 0, locals := 117 } : Room) (va_Pc [.ref o_t, .int x1, .int x2] (qB (dC, dI) vwCl (wX7 o_t a_t cI v_t h_t) (hTY cI cII) sz)) (va_Qi (fun (z : Int32) (_ : Unit) => r.1 = z) (fun _ t => va_P (dC, dI) vwCl (wX7 o_t a_t cI r.2 h_t) t.heap ∧ va_D (va_A (wX7 o_t a_t cI v_t h_t) sz) (wX7 o_t a_t cI r.2 h_t)) (va_A (wX7 o_t a_t cI v_t h_t) sz)) 0 0 (va_A (wX7 o_t a_t cI v_t h_t) sz) := by
  refine Met.ofW (cc := cX7_fit) (maxL := 3) (ret := (some .int)) (by decide) rfl ?_
  intro p e s m args below meth c s₁ B hml hv
  obtain ⟨rfl, hsz, hD0, hP, hK, hN⟩ := hv
  have hx := B.exec
  have hb := B.bytes
  have hr := B.returns
  have hts := atoms_spec (ws := (wd yX7_fit cX7_fit 3 (some .int))) B.pre
  have hown : s.vm.findClass RX7 = some m.cls := findClass_of_methodNamed B.named
  have hlocks := B.notSynchronized
  subst hsz
  have hD := hD0.self (sz := s.heap.size)
  generalize hAe : va_A (wX7 o_t a_t cI v_t h_t) s.heap.size = A at hD ⊢
  have hA : ∀ q : Nat, s.heap.size ≤ q → A q := fun q h => by rw [← hAe]; exact Or.inr h
  have hS : va_S A s.heap s.heap [] := va_S.rf
  have hl := lv_entry ([.ref o_t, .int x1, .int x2]) (n := 3) (Nat.le_of_ble_eq_true rfl)
  rw [lg_entry_eq]
  generalize (lg_sl ([.ref o_t, .int x1, .int x2]) ++ List.replicate (3 - (lg_sl ([.ref o_t, .int x1, .int x2])).length) Slot.unset).toArray = ls at hl ⊢
  have hl : lv_has ls 3 [(0, .ref o_t), (1, .int x1), (2, .int x2)] := hl
  clear hAe hD0
  unfold f_X7_fit at hf
  refine lv_aload_n hx hb dX7_fit_0 rfl (lv_at hl 0 rfl) ?_
  refine lv_iload_n hx hb dX7_fit_1 rfl (lv_at hl 1 rfl) ?_
  obtain ⟨u_2, e_2, hf⟩ := ho_b hf
  refine vp_callSi (va_runV (As := [.int x1]) (rest := []) ⟨hx, hb, hml, hown, hts⟩ (c_X7_isPilgrim l dC dI cI cII o_t a_t v_t h_t (x1) u_2 e_2) (cwV 1 hts (hw_giV mw_729 mw_731 mw_20 mw_60 mw_732) rfl rfl rfl (by decide +kernel) ⟨Nat.le_of_ble_eq_true rfl, Nat.le_of_ble_eq_true rfl⟩) ⟨pB_blind, va_recv hK hP (ci := 7) (q0 := 0) rfl rfl, fun U hU hW => ⟨rfl, pB_go hP hK hN hU hW⟩⟩ rfl rfl hl.1 rfl (lv_room (Nat.le_of_ble_eq_true rfl)) dX7_fit_2 ⟨Nat.zero_le _, Nat.zero_le _⟩).run (fun z_2 ez_2 => ?_)
  subst ez_2
  refine lv_if_ne (tgt := 11) hx hb dX7_fit_5 (by decide) (fun c_5 => ?_) (fun c_5 => ?_)
  · have hf := ho_f hf c_5
    refine lv_iload_n hx hb dX7_fit_11 rfl (lv_at hl 2 rfl) ?_
    refine lv_i2l (v := (Int32.toInt64 x2)) hx hb dX7_fit_12 rfl ?_
    refine lv_lconst (v := 0) hx hb dX7_fit_13 (by decide) ?_
    refine lv_lconst (v := 1) hx hb dX7_fit_14 (by decide) ?_
    obtain ⟨u_15, e_15, hf⟩ := ho_b hf
    have hPc := hP.sub (ws' := ([] : va_W)) [] rfl
    refine vp_callSi (va_runS (As := [.long (Int32.toInt64 x2), .long 0, .long 1]) (rest := []) ⟨hx, hb, hml, hown, hts⟩ (c_X7_in l dC dI cI cII ((Int32.toInt64 x2)) (0) (1) u_15 e_15) (va_cwS 3 hts (hw_giS mw_694 mw_695 mw_60 mw_696) rfl rfl rfl (by decide +kernel) ⟨Nat.le_of_ble_eq_true rfl, Nat.le_of_ble_eq_true rfl⟩) ⟨pB_blind, fun U hU hW => ⟨rfl, pB_go hPc hK hN hU hW⟩⟩ rfl rfl hl.1 rfl (lv_room (Nat.le_of_ble_eq_true rfl)) dX7_fit_15 ⟨Nat.zero_le _, Nat.zero_le _⟩).run (fun z_15 ez_15 => ?_)
    subst ez_15
    refine lv_if_eq (tgt := 30) hx hb dX7_fit_18 (by decide) (fun c_18 => ?_) (fun c_18 => ?_)
    · have hf := ho_t hf c_18
      refine lv_bipush (v := (-102)) hx hb dX7_fit_30 (by decide) ?_
      obtain rfl := Option.some.inj hf
      exact W.iret (v := (-102)) hx hb hr (fun t ht hW => ⟨⟨_, (), rfl, rfl, by rw [ht]; exact hP, hD⟩, hS.F ht⟩) hS.2.2 dX7_fit_32 hlocks
    · have hf := ho_f hf c_18
      refine lv_aload_n hx hb dX7_fit_21 rfl (lv_at hl 0 rfl) ?_
      refine lv_iload_n hx hb dX7_fit_22 rfl (lv_at hl 1 rfl) ?_
      refine lv_iload_n hx hb dX7_fit_23 rfl (lv_at hl 2 rfl) ?_
      obtain ⟨u_24, e_24, hf⟩ := ho_b hf
      have hFc := va_free (wc := (wX7 o_t a_t cI v_t h_t)) hD hS hA [0, 1, 2, 3, 4, 5, 6, 7, 8, 9, 10, 11, 12] rfl
      refine va_calli (va_runV (As := [.int x1, .int x2]) (rest := []) ⟨hx, hb, hml, hown, hts⟩ (c_X7_fitOf l dC dI cI cII o_t a_t v_t h_t (x1) (x2) _ u_24 e_24) (cwV 2 hts (hw_giV mw_862 mw_864 mw_44 mw_60 mw_865) rfl rfl rfl (by decide +kernel) ⟨Nat.le_of_ble_eq_true rfl, Nat.le_of_ble_eq_true rfl⟩) ⟨qB_blind, va_recv hK hP (ci := 7) (q0 := 0) rfl rfl, fun U hU hW => ⟨rfl, qB_go hP hD hK hN hU hW⟩⟩ rfl rfl hl.1 rfl (lv_room (Nat.le_of_ble_eq_true rfl)) dX7_fit_24 ⟨Nat.zero_le _, Nat.zero_le _⟩) hS (fun q _ h => hFc q h) hFc (fun z_24 u t H1 locs ht hvm ez_24 hB hz1 hk1 hS => ?_)
      subst ez_24
      obtain ⟨hP1, hD1⟩ := hB
      rw [ht] at hP1
      clear hP hD
      generalize H1 = H at hP1 hS ⊢
      have hP : va_P (dC, dI) vwCl (wX7 o_t a_t cI u_24.2 h_t) H := hP1
      have hD : va_D A (wX7 o_t a_t cI u_24.2 h_t) := hD1.weaken (fun _ q _ h => hFc q.1 h)
      refine lv_goto (tgt := 32) hx hb dX7_fit_27 (by decide) ?_
      obtain rfl := Option.some.inj hf
      exact W.iret (v := u_24.1) hx hb hr (fun t ht hW => ⟨⟨_, (), rfl, rfl, by rw [ht]; exact hP, hD⟩, hS.F ht⟩) hS.2.2 dX7_fit_32 hlocks
  · have hf := ho_t hf c_5
    refine lv_bipush (v := (-101)) hx hb dX7_fit_8 (by decide) ?_
    obtain rfl := Option.some.inj hf
    exact W.iret (v := (-101)) hx hb hr (fun t ht hW => ⟨⟨_, (), rfl, rfl, by rw [ht]; exact hP, hD⟩, hS.F ht⟩) hS.2.2 dX7_fit_10 hlocks
set_option maxHeartbeats 4000000 in
set_option maxRecDepth 100000 in
theorem c_X7_see (l : Launch) (dC : Nat → ClassId) (dI : Nat → Nat → Nat) (cI cII : ClassId) (o_t : Nat) (a_t : Nat → Nat) (v_t : obV) (h_t : Int64) (x1 : Int32) (x2 : Int32) (sz : Nat) (r : Int32 × obV) (hf : f_X7_see  v_t x1 x2 = some r) :
    Met l yX7_see (wd yX7_see cX7_see 3 (some .int)) ({ frames := 1, cells := 0, slots := 0, locals := 25 } : Room) (va_Pc [.ref o_t, .int x1, .int x2] (qB (dC, dI) vwCl (wX7 o_t a_t cI v_t h_t) (hTY cI cII) sz)) (va_Qi (fun (z : Int32) (_ : Unit) => r.1 = z) (fun _ t => va_P (dC, dI) vwCl (wX7 o_t a_t cI r.2 h_t) t.heap ∧ va_D (va_A (wX7 o_t a_t cI v_t h_t) sz) (wX7 o_t a_t cI r.2 h_t)) (va_A (wX7 o_t a_t cI v_t h_t) sz)) 0 0 (va_A (wX7 o_t a_t cI v_t h_t) sz) := by
  refine Met.ofW (cc := cX7_see) (maxL := 3) (ret := (some .int)) (by decide) rfl ?_
  intro p e s m args below meth c s₁ B hml hv
  obtain ⟨rfl, hsz, hD0, hP, hK, hN⟩ := hv
  have hx := B.exec
  have hb := B.bytes
  have hr := B.returns
  have hts := atoms_spec (ws := (wd yX7_see cX7_see 3 (some .int))) B.pre
  have hown : s.vm.findClass RX7 = some m.cls := findClass_of_methodNamed B.named
  have hlocks := B.notSynchronized
  subst hsz
  have hD := hD0.self (sz := s.heap.size)
  generalize hAe : va_A (wX7 o_t a_t cI v_t h_t) s.heap.size = A at hD ⊢
  have hA : ∀ q : Nat, s.heap.size ≤ q → A q := fun q h => by rw [← hAe]; exact Or.inr h
  have hS : va_S A s.heap s.heap [] := va_S.rf
  have hl := lv_entry ([.ref o_t, .int x1, .int x2]) (n := 3) (Nat.le_of_ble_eq_true rfl)
  rw [lg_entry_eq]
  generalize (lg_sl ([.ref o_t, .int x1, .int x2]) ++ List.replicate (3 - (lg_sl ([.ref o_t, .int x1, .int x2])).length) Slot.unset).toArray = ls at hl ⊢
  have hl : lv_has ls 3 [(0, .ref o_t), (1, .int x1), (2, .int x2)] := hl
  clear hAe hD0
  unfold f_X7_see at hf
  refine lv_iload_n hx hb dX7_see_0 rfl (lv_at hl 1 rfl) ?_
  refine lv_i2l (v := (Int32.toInt64 x1)) hx hb dX7_see_1 rfl ?_
  refine lv_lconst (v := 0) hx hb dX7_see_2 (by decide) ?_
  refine lv_ldc2 (v := 19) hx hb hown (hts _ (List.mem_cons_of_mem _ mw_835)) dX7_see_3 ?_
  obtain ⟨u_6, e_6, hf⟩ := ho_b hf
  have hPc := hP.sub (ws' := ([] : va_W)) [] rfl
  refine vp_callSi (va_runS (As := [.long (Int32.toInt64 x1), .long 0, .long 19]) (rest := []) ⟨hx, hb, hml, hown, hts⟩ (c_X7_in l dC dI cI cII ((Int32.toInt64 x1)) (0) (19) u_6 e_6) (va_cwS 3 hts (hw_giS mw_694 mw_695 mw_60 mw_696) rfl rfl rfl (by decide +kernel) ⟨Nat.le_of_ble_eq_true rfl, Nat.le_of_ble_eq_true rfl⟩) ⟨pB_blind, fun U hU hW => ⟨rfl, pB_go hPc hK hN hU hW⟩⟩ rfl rfl hl.1 rfl (lv_room (Nat.le_of_ble_eq_true rfl)) dX7_see_6 ⟨Nat.zero_le _, Nat.zero_le _⟩).run (fun z_6 ez_6 => ?_)
  subst ez_6
  refine lv_if_eq (tgt := 24) hx hb dX7_see_9 (by decide) (fun c_9 => ?_) (fun c_9 => ?_)
  · have hf := ho_t hf c_9
    refine lv_bipush (v := (-102)) hx hb dX7_see_24 (by decide) ?_
    obtain rfl := Option.some.inj hf
    exact W.iret (v := (-102)) hx hb hr (fun t ht hW => ⟨⟨_, (), rfl, rfl, by rw [ht]; exact hP, hD⟩, hS.F ht⟩) hS.2.2 dX7_see_26 hlocks
  · have hf := ho_f hf c_9
    refine lv_iload_n hx hb dX7_see_12 rfl (lv_at hl 2 rfl) ?_
    refine lv_i2l (v := (Int32.toInt64 x2)) hx hb dX7_see_13 rfl ?_
    refine lv_lconst (v := 0) hx hb dX7_see_14 (by decide) ?_
    refine lv_ldc2 (v := 5) hx hb hown (hts _ (List.mem_cons_of_mem _ mw_716)) dX7_see_15 ?_
    obtain ⟨u_18, e_18, hf⟩ := ho_b hf
    have hPc := hP.sub (ws' := ([] : va_W)) [] rfl
    refine vp_callSi (va_runS (As := [.long (Int32.toInt64 x2), .long 0, .long 5]) (rest := []) ⟨hx, hb, hml, hown, hts⟩ (c_X7_in l dC dI cI cII ((Int32.toInt64 x2)) (0) (5) u_18 e_18) (va_cwS 3 hts (hw_giS mw_694 mw_695 mw_60 mw_696) rfl rfl rfl (by decide +kernel) ⟨Nat.le_of_ble_eq_true rfl, Nat.le_of_ble_eq_true rfl⟩) ⟨pB_blind, fun U hU hW => ⟨rfl, pB_go hPc hK hN hU hW⟩⟩ rfl rfl hl.1 rfl (lv_room (Nat.le_of_ble_eq_true rfl)) dX7_see_18 ⟨Nat.zero_le _, Nat.zero_le _⟩).run (fun z_18 ez_18 => ?_)
    subst ez_18
    refine lv_if_ne (tgt := 27) hx hb dX7_see_21 (by decide) (fun c_21 => ?_) (fun c_21 => ?_)
    · have hf := ho_f hf c_21
      refine lv_aload_n hx hb dX7_see_27 rfl (lv_at hl 0 rfl) ?_
      refine va_get (D := (dC, dI)) (ci := 7) (v := .int (v_t.1 18)) (C := RX7) (T := TX7) (N := 30) hx hb hts hw_X7 hown hK hP 0 rfl rfl 18 (by decide) (hts _ (List.mem_cons_of_mem _ mw_616)) (fun _ h9 => h9) rfl dX7_see_28 ?_
      refine lv_bipush (v := 8) hx hb dX7_see_31 (by decide) ?_
      refine lv_icmp_ne (tgt := 39) hx hb dX7_see_33 (by decide) (fun c_33 => ?_) (fun c_33 => ?_)
      · have hf := ho_f hf c_33
        refine lv_aload_n hx hb dX7_see_39 rfl (lv_at hl 0 rfl) ?_
        refine va_get (D := (dC, dI)) (ci := 7) (v := .ref (a_t 19)) (C := RX7) (T := TX7) (N := 30) hx hb hts hw_X7 hown hK hP 0 rfl rfl 19 (by decide) (hts _ (List.mem_cons_of_mem _ mw_617)) (fun _ h9 => h9) rfl dX7_see_40 ?_
        refine lv_iconst (v := 2) hx hb dX7_see_43 (by decide) ?_
        refine lv_aload_n hx hb dX7_see_44 rfl (lv_at hl 0 rfl) ?_
        refine va_get (D := (dC, dI)) (ci := 7) (v := .int (v_t.1 18)) (C := RX7) (T := TX7) (N := 30) hx hb hts hw_X7 hown hK hP 0 rfl rfl 18 (by decide) (hts _ (List.mem_cons_of_mem _ mw_616)) (fun _ h9 => h9) rfl dX7_see_45 ?_
        refine lv_imul hx hb dX7_see_48 ?_
        refine lv_iload_n hx hb dX7_see_49 rfl (lv_at hl 1 rfl) ?_
        obtain ⟨h_50, hf⟩ := ho_g hf
        refine va_iast (n := 16) (f := (v_t.2 19)) hx hb hK hP hD hS 8 0 rfl rfl h_50 dX7_see_50 (fun H locs hP hD hS => ?_)
        have hP : va_P (dC, dI) vwCl (wX7 o_t a_t cI (oA v_t 19 (Int32.toNatClampNeg (2 * (v_t.1 18))) x1) h_t) H := hP
        have hD : va_D A (wX7 o_t a_t cI (oA v_t 19 (Int32.toNatClampNeg (2 * (v_t.1 18))) x1) h_t) := hD
        obtain ⟨v_t_50, e_v_t_50⟩ : ∃ z : obV, z = (oA v_t 19 (Int32.toNatClampNeg (2 * (v_t.1 18))) x1) := ⟨_, rfl⟩
        rw [← e_v_t_50] at hP hD
        have hf := ho_l hf v_t_50 e_v_t_50
        refine lv_aload_n hx hb dX7_see_51 rfl (lv_at hl 0 rfl) ?_
        refine va_get (D := (dC, dI)) (ci := 7) (v := .ref (a_t 19)) (C := RX7) (T := TX7) (N := 30) hx hb hts hw_X7 hown hK hP 0 rfl rfl 19 (by decide) (hts _ (List.mem_cons_of_mem _ mw_617)) (fun _ h9 => h9) rfl dX7_see_52 ?_
        refine lv_iconst (v := 2) hx hb dX7_see_55 (by decide) ?_
        refine lv_aload_n hx hb dX7_see_56 rfl (lv_at hl 0 rfl) ?_
        refine va_get (D := (dC, dI)) (ci := 7) (v := .int (v_t_50.1 18)) (C := RX7) (T := TX7) (N := 30) hx hb hts hw_X7 hown hK hP 0 rfl rfl 18 (by decide) (hts _ (List.mem_cons_of_mem _ mw_616)) (fun _ h9 => h9) rfl dX7_see_57 ?_
        refine lv_imul hx hb dX7_see_60 ?_
        refine lv_iconst (v := 1) hx hb dX7_see_61 (by decide) ?_
        refine lv_iadd hx hb dX7_see_62 ?_
        refine lv_iload_n hx hb dX7_see_63 rfl (lv_at hl 2 rfl) ?_
        obtain ⟨h_64, hf⟩ := ho_g hf
        refine va_iast (n := 16) (f := (v_t_50.2 19)) hx hb hK hP hD hS 8 0 rfl rfl h_64 dX7_see_64 (fun H locs hP hD hS => ?_)
        have hP : va_P (dC, dI) vwCl (wX7 o_t a_t cI (oA v_t_50 19 (Int32.toNatClampNeg ((2 * (v_t_50.1 18)) + 1)) x2) h_t) H := hP
        have hD : va_D A (wX7 o_t a_t cI (oA v_t_50 19 (Int32.toNatClampNeg ((2 * (v_t_50.1 18)) + 1)) x2) h_t) := hD
        obtain ⟨v_t_64, e_v_t_64⟩ : ∃ z : obV, z = (oA v_t_50 19 (Int32.toNatClampNeg ((2 * (v_t_50.1 18)) + 1)) x2) := ⟨_, rfl⟩
        rw [← e_v_t_64] at hP hD
        have hf := ho_l hf v_t_64 e_v_t_64
        refine lv_aload_n hx hb dX7_see_65 rfl (lv_at hl 0 rfl) ?_
        refine lv_dup hx hb dX7_see_66 rfl ?_
        refine va_get (D := (dC, dI)) (ci := 7) (v := .int (v_t_64.1 18)) (C := RX7) (T := TX7) (N := 30) hx hb hts hw_X7 hown hK hP 0 rfl rfl 18 (by decide) (hts _ (List.mem_cons_of_mem _ mw_616)) (fun _ h9 => h9) rfl dX7_see_67 ?_
        refine lv_iconst (v := 1) hx hb dX7_see_70 (by decide) ?_
        refine lv_iadd hx hb dX7_see_71 ?_
        refine va_put (D := (dC, dI)) (ci := 7) (v := .int ((v_t_64.1 18) + 1)) (ty := .int) (C := RX7) (T := TX7) (N := 30) hx hb hts hw_X7 tyX7 tyX7_ok nmX7 hown hK hP hD hS 0 rfl rfl 18 (by decide) (hts _ (List.mem_cons_of_mem _ mw_616)) (fun _ h9 => h9) rfl (by decide +kernel) rfl rfl (Nat.le_of_ble_eq_true rfl) dX7_see_72 (fun H locs hP hD hS => ?_)
        have hP : va_P (dC, dI) vwCl (wX7 o_t a_t cI (oF v_t_64 18 ((v_t_64.1 18) + 1)) h_t) H := hP
        have hD : va_D A (wX7 o_t a_t cI (oF v_t_64 18 ((v_t_64.1 18) + 1)) h_t) := hD
        obtain ⟨v_t_72, e_v_t_72⟩ : ∃ z : obV, z = (oF v_t_64 18 ((v_t_64.1 18) + 1)) := ⟨_, rfl⟩
        rw [← e_v_t_72] at hP hD
        have hf := ho_l hf v_t_72 e_v_t_72
        refine lv_aload_n hx hb dX7_see_75 rfl (lv_at hl 0 rfl) ?_
        refine va_get (D := (dC, dI)) (ci := 7) (v := .int (v_t_72.1 18)) (C := RX7) (T := TX7) (N := 30) hx hb hts hw_X7 hown hK hP 0 rfl rfl 18 (by decide) (hts _ (List.mem_cons_of_mem _ mw_616)) (fun _ h9 => h9) rfl dX7_see_76 ?_
        obtain rfl := Option.some.inj hf
        exact W.iret (v := (v_t_72.1 18)) hx hb hr (fun t ht hW => ⟨⟨_, (), rfl, rfl, by rw [ht]; exact hP, hD⟩, hS.F ht⟩) hS.2.2 dX7_see_79 hlocks
      · have hf := ho_t hf c_33
        refine lv_bipush (v := (-104)) hx hb dX7_see_36 (by decide) ?_
        obtain rfl := Option.some.inj hf
        exact W.iret (v := (-104)) hx hb hr (fun t ht hW => ⟨⟨_, (), rfl, rfl, by rw [ht]; exact hP, hD⟩, hS.F ht⟩) hS.2.2 dX7_see_38 hlocks
    · have hf := ho_t hf c_21
      refine lv_bipush (v := (-102)) hx hb dX7_see_24 (by decide) ?_
      obtain rfl := Option.some.inj hf
      exact W.iret (v := (-102)) hx hb hr (fun t ht hW => ⟨⟨_, (), rfl, rfl, by rw [ht]; exact hP, hD⟩, hS.F ht⟩) hS.2.2 dX7_see_26 hlocks
set_option maxHeartbeats 4000000 in
set_option maxRecDepth 100000 in
theorem c_X7_forget (l : Launch) (dC : Nat → ClassId) (dI : Nat → Nat → Nat) (cI cII : ClassId) (o_t : Nat) (a_t : Nat → Nat) (v_t : obV) (h_t : Int64)  (sz : Nat) (r : Int32 × obV) (hf : f_X7_forget  v_t  = some r) :
    Met l yX7_forget (wd yX7_forget cX7_forget 2 (some .int)) ({ frames := 0, cells := 0, slots := 0, locals := 0 } : Room) (va_Pc [.ref o_t] (qB (dC, dI) vwCl (wX7 o_t a_t cI v_t h_t) (hTY cI cII) sz)) (va_Qi (fun (z : Int32) (_ : Unit) => r.1 = z) (fun _ t => va_P (dC, dI) vwCl (wX7 o_t a_t cI r.2 h_t) t.heap ∧ va_D (va_A (wX7 o_t a_t cI v_t h_t) sz) (wX7 o_t a_t cI r.2 h_t)) (va_A (wX7 o_t a_t cI v_t h_t) sz)) 0 0 (va_A (wX7 o_t a_t cI v_t h_t) sz) := by
  refine Met.ofW (cc := cX7_forget) (maxL := 2) (ret := (some .int)) (by decide) rfl ?_
  intro p e s m args below meth c s₁ B hml hv
  obtain ⟨rfl, hsz, hD0, hP, hK, hN⟩ := hv
  have hx := B.exec
  have hb := B.bytes
  have hr := B.returns
  have hts := atoms_spec (ws := (wd yX7_forget cX7_forget 2 (some .int))) B.pre
  have hown : s.vm.findClass RX7 = some m.cls := findClass_of_methodNamed B.named
  have hlocks := B.notSynchronized
  subst hsz
  have hD := hD0.self (sz := s.heap.size)
  generalize hAe : va_A (wX7 o_t a_t cI v_t h_t) s.heap.size = A at hD ⊢
  have hA : ∀ q : Nat, s.heap.size ≤ q → A q := fun q h => by rw [← hAe]; exact Or.inr h
  have hS : va_S A s.heap s.heap [] := va_S.rf
  have hl := lv_entry ([.ref o_t]) (n := 2) (Nat.le_of_ble_eq_true rfl)
  rw [lg_entry_eq]
  generalize (lg_sl ([.ref o_t]) ++ List.replicate (2 - (lg_sl ([.ref o_t])).length) Slot.unset).toArray = ls at hl ⊢
  have hl : lv_has ls 2 [(0, .ref o_t)] := hl
  clear hAe hD0
  unfold f_X7_forget at hf
  refine lv_aload_n hx hb dX7_forget_0 rfl (lv_at hl 0 rfl) ?_
  refine va_get (D := (dC, dI)) (ci := 7) (v := .int (v_t.1 18)) (C := RX7) (T := TX7) (N := 30) hx hb hts hw_X7 hown hK hP 0 rfl rfl 18 (by decide) (hts _ (List.mem_cons_of_mem _ mw_616)) (fun _ h9 => h9) rfl dX7_forget_1 ?_
  refine lv_istore_n (lv' := [(1, .int (v_t.1 18)), (0, .ref o_t)]) hx hb dX7_forget_4 rfl hl (by decide) rfl (fun ls hl => ?_)
  refine lv_aload_n hx hb dX7_forget_5 rfl (lv_at hl 1 rfl) ?_
  refine lv_iconst (v := 0) hx hb dX7_forget_6 (by decide) ?_
  refine va_put (D := (dC, dI)) (ci := 7) (v := .int 0) (ty := .int) (C := RX7) (T := TX7) (N := 30) hx hb hts hw_X7 tyX7 tyX7_ok nmX7 hown hK hP hD hS 0 rfl rfl 18 (by decide) (hts _ (List.mem_cons_of_mem _ mw_616)) (fun _ h9 => h9) rfl (by decide +kernel) rfl rfl (Nat.le_of_ble_eq_true rfl) dX7_forget_7 (fun H locs hP hD hS => ?_)
  have hP : va_P (dC, dI) vwCl (wX7 o_t a_t cI (oF v_t 18 0) h_t) H := hP
  have hD : va_D A (wX7 o_t a_t cI (oF v_t 18 0) h_t) := hD
  obtain ⟨v_t_7, e_v_t_7⟩ : ∃ z : obV, z = (oF v_t 18 0) := ⟨_, rfl⟩
  rw [← e_v_t_7] at hP hD
  have hf := ho_l hf v_t_7 e_v_t_7
  refine lv_iload_n hx hb dX7_forget_10 rfl (lv_at hl 0 rfl) ?_
  obtain rfl := Option.some.inj hf
  exact W.iret (v := (v_t.1 18)) hx hb hr (fun t ht hW => ⟨⟨_, (), rfl, rfl, by rw [ht]; exact hP, hD⟩, hS.F ht⟩) hS.2.2 dX7_forget_11 hlocks
set_option maxHeartbeats 4000000 in
set_option maxRecDepth 100000 in
theorem c_X7_draw (l : Launch) (dC : Nat → ClassId) (dI : Nat → Nat → Nat) (cI cII : ClassId) (o_t : Nat) (a_t : Nat → Nat) (v_t : obV) (h_t : Int64) (x1 : Int32) (sz : Nat) (r : Int32 × obV) (hf : f_X7_draw  v_t x1 = some r) :
    Met l yX7_draw (wd yX7_draw cX7_draw 2 (some .int)) ({ frames := 0, cells := 0, slots := 0, locals := 0 } : Room) (va_Pc [.ref o_t, .int x1] (qB (dC, dI) vwCl (wX7 o_t a_t cI v_t h_t) (hTY cI cII) sz)) (va_Qi (fun (z : Int32) (_ : Unit) => r.1 = z) (fun _ t => va_P (dC, dI) vwCl (wX7 o_t a_t cI r.2 h_t) t.heap ∧ va_D (va_A (wX7 o_t a_t cI v_t h_t) sz) (wX7 o_t a_t cI r.2 h_t)) (va_A (wX7 o_t a_t cI v_t h_t) sz)) 0 0 (va_A (wX7 o_t a_t cI v_t h_t) sz) := by
  refine Met.ofW (cc := cX7_draw) (maxL := 2) (ret := (some .int)) (by decide) rfl ?_
  intro p e s m args below meth c s₁ B hml hv
  obtain ⟨rfl, hsz, hD0, hP, hK, hN⟩ := hv
  have hx := B.exec
  have hb := B.bytes
  have hr := B.returns
  have hts := atoms_spec (ws := (wd yX7_draw cX7_draw 2 (some .int))) B.pre
  have hown : s.vm.findClass RX7 = some m.cls := findClass_of_methodNamed B.named
  have hlocks := B.notSynchronized
  subst hsz
  have hD := hD0.self (sz := s.heap.size)
  generalize hAe : va_A (wX7 o_t a_t cI v_t h_t) s.heap.size = A at hD ⊢
  have hA : ∀ q : Nat, s.heap.size ≤ q → A q := fun q h => by rw [← hAe]; exact Or.inr h
  have hS : va_S A s.heap s.heap [] := va_S.rf
  have hl := lv_entry ([.ref o_t, .int x1]) (n := 2) (Nat.le_of_ble_eq_true rfl)
  rw [lg_entry_eq]
  generalize (lg_sl ([.ref o_t, .int x1]) ++ List.replicate (2 - (lg_sl ([.ref o_t, .int x1])).length) Slot.unset).toArray = ls at hl ⊢
  have hl : lv_has ls 2 [(0, .ref o_t), (1, .int x1)] := hl
  clear hAe hD0
  unfold f_X7_draw at hf
  refine lv_aload_n hx hb dX7_draw_0 rfl (lv_at hl 0 rfl) ?_
  refine lv_ldc2 (v := 1103515245) hx hb hown (hts _ (List.mem_cons_of_mem _ mw_884)) dX7_draw_1 ?_
  refine lv_aload_n hx hb dX7_draw_4 rfl (lv_at hl 0 rfl) ?_
  refine va_get (D := (dC, dI)) (ci := 7) (v := .int (v_t.1 21)) (C := RX7) (T := TX7) (N := 30) hx hb hts hw_X7 hown hK hP 0 rfl rfl 21 (by decide) (hts _ (List.mem_cons_of_mem _ mw_619)) (fun _ h9 => h9) rfl dX7_draw_5 ?_
  refine lv_i2l (v := (Int32.toInt64 (v_t.1 21))) hx hb dX7_draw_8 rfl ?_
  refine lv_lmul hx hb dX7_draw_9 ?_
  refine lv_ldc2 (v := 12345) hx hb hown (hts _ (List.mem_cons_of_mem _ mw_885)) dX7_draw_10 ?_
  refine lv_ladd hx hb dX7_draw_13 ?_
  refine lv_ldc2 (v := 2147483647) hx hb hown (hts _ (List.mem_cons_of_mem _ mw_886)) dX7_draw_14 ?_
  refine lv_land hx hb dX7_draw_17 ?_
  refine lv_l2i (v := (Int64.toInt32 (((1103515245 * (Int32.toInt64 (v_t.1 21))) + 12345) &&& 2147483647))) hx hb dX7_draw_18 rfl ?_
  refine va_put (D := (dC, dI)) (ci := 7) (v := .int (Int64.toInt32 (((1103515245 * (Int32.toInt64 (v_t.1 21))) + 12345) &&& 2147483647))) (ty := .int) (C := RX7) (T := TX7) (N := 30) hx hb hts hw_X7 tyX7 tyX7_ok nmX7 hown hK hP hD hS 0 rfl rfl 21 (by decide) (hts _ (List.mem_cons_of_mem _ mw_619)) (fun _ h9 => h9) rfl (by decide +kernel) rfl rfl (Nat.le_of_ble_eq_true rfl) dX7_draw_19 (fun H locs hP hD hS => ?_)
  have hP : va_P (dC, dI) vwCl (wX7 o_t a_t cI (oF v_t 21 (Int64.toInt32 (((1103515245 * (Int32.toInt64 (v_t.1 21))) + 12345) &&& 2147483647))) h_t) H := hP
  have hD : va_D A (wX7 o_t a_t cI (oF v_t 21 (Int64.toInt32 (((1103515245 * (Int32.toInt64 (v_t.1 21))) + 12345) &&& 2147483647))) h_t) := hD
  obtain ⟨v_t_19, e_v_t_19⟩ : ∃ z : obV, z = (oF v_t 21 (Int64.toInt32 (((1103515245 * (Int32.toInt64 (v_t.1 21))) + 12345) &&& 2147483647))) := ⟨_, rfl⟩
  rw [← e_v_t_19] at hP hD
  have hf := ho_l hf v_t_19 e_v_t_19
  refine lv_aload_n hx hb dX7_draw_22 rfl (lv_at hl 0 rfl) ?_
  refine va_get (D := (dC, dI)) (ci := 7) (v := .int (v_t_19.1 21)) (C := RX7) (T := TX7) (N := 30) hx hb hts hw_X7 hown hK hP 0 rfl rfl 21 (by decide) (hts _ (List.mem_cons_of_mem _ mw_619)) (fun _ h9 => h9) rfl dX7_draw_23 ?_
  refine lv_ldc (v := 65536) hx hb hown (hts _ (List.mem_cons_of_mem _ mw_887)) dX7_draw_26 ?_
  refine lv_idiv hx hb dX7_draw_28 (by decide) ?_
  refine lv_iload_n hx hb dX7_draw_29 rfl (lv_at hl 1 rfl) ?_
  obtain ⟨h_30, hf⟩ := ho_g hf
  refine lv_irem hx hb dX7_draw_30 h_30 ?_
  obtain rfl := Option.some.inj hf
  exact W.iret (v := (((v_t_19.1 21) / 65536) - ((v_t_19.1 21) / 65536) / x1 * x1)) hx hb hr (fun t ht hW => ⟨⟨_, (), rfl, rfl, by rw [ht]; exact hP, hD⟩, hS.F ht⟩) hS.2.2 dX7_draw_31 hlocks
set_option maxHeartbeats 4000000 in
set_option maxRecDepth 100000 in
theorem w_X7_seasons_l75 {p : Program} {l : Launch} {e : Env} {s : State} {m : MethodId} {args : Array Value} {below : List Frame} {meth : Method} {c : Code} {dC : Nat → ClassId} {dI : Nat → Nat → Nat} {cI cII : ClassId} {o_t : Nat} {a_t : Nat → Nat} {A : Nat → Prop} (C0 : hC p s m args meth c dC dI cI cII RX7 cX7_seasons 8 (wd yX7_seasons cX7_seasons 8 (some .int)) (some .int)) (hA : ∀ q, s.heap.size ≤ q → A q) {h_t : Int64} {x1 : Int32} {x3 : Int32} {x4 : Int32} {x5 : Int32} {x6 : Int32} {k66 : obV × Int32 × Int32 × Int32 → Option (Int32 × obV)} (ih66 : ∀ (y : obV × Int32 × Int32 × Int32) (r : Int32 × obV), k66 y = some r → ∀ (H : Heap) (locs : List Loc) (ls : Array Slot), va_P (dC, dI) vwCl (wX7 o_t a_t cI y.1 h_t) H → va_D A (wX7 o_t a_t cI y.1 h_t) → va_S A s.heap H locs → lv_has ls 8 [(0, .ref o_t), (1, .int x1), (3, .int x3), (4, .int y.2.1), (5, .int y.2.2.1), (6, .int y.2.2.2)] → W p l e ({ frames := 4, cells := 0, slots := 0, locals := 90 } : Room) s m args below meth c H locs 0 0 (MQ below (va_Qi (fun (z : Int32) (_ : Unit) => r.1 = z) (fun _ t => va_P (dC, dI) vwCl (wX7 o_t a_t cI r.2 h_t) t.heap ∧ va_D A (wX7 o_t a_t cI r.2 h_t)) A) args s 0 0 A) (F0 m 66 ls []))  :
    ∀ (n : Nat) (y : obV × Int32) (r : Int32 × obV), f_X7_seasons_l75  x1 x3 x4 x5 x6 k66 n y = some r → ∀ (H : Heap) (locs : List Loc) (ls : Array Slot), va_P (dC, dI) vwCl (wX7 o_t a_t cI y.1 h_t) H → va_D A (wX7 o_t a_t cI y.1 h_t) → va_S A s.heap H locs → lv_has ls 8 [(0, .ref o_t), (1, .int x1), (3, .int x3), (4, .int x4), (5, .int x5), (6, .int x6), (7, .int y.2)] → W p l e ({ frames := 4, cells := 0, slots := 0, locals := 90 } : Room) s m args below meth c H locs 0 0 (MQ below (va_Qi (fun (z : Int32) (_ : Unit) => r.1 = z) (fun _ t => va_P (dC, dI) vwCl (wX7 o_t a_t cI r.2 h_t) t.heap ∧ va_D A (wX7 o_t a_t cI r.2 h_t)) A) args s 0 0 A) (F0 m 75 ls []) := by
  obtain ⟨hx, hb, hml, hown, hts, hr, hlocks, hK, hN⟩ := C0
  refine lp_W ?_
  intro k75 ih75 y r hf H locs ls hP hD hS hl
  obtain ⟨v_t, x7⟩ := y
  have hf : f_X7_seasons_b75  v_t x1 x3 x4 x5 x6 x7 k66 k75 = some r := hf
  have hP : va_P (dC, dI) vwCl (wX7 o_t a_t cI v_t h_t) H := hP
  have hD : va_D A (wX7 o_t a_t cI v_t h_t) := hD
  have hl : lv_has ls 8 [(0, .ref o_t), (1, .int x1), (3, .int x3), (4, .int x4), (5, .int x5), (6, .int x6), (7, .int x7)] := hl
  unfold f_X7_seasons_b75 at hf
  refine lv_iload hx hb dX7_seasons_75 (lv_at hl 6 rfl) ?_
  refine lv_aload_n hx hb dX7_seasons_77 rfl (lv_at hl 0 rfl) ?_
  refine va_get (D := (dC, dI)) (ci := 7) (v := .int (v_t.1 6)) (C := RX7) (T := TX7) (N := 30) hx hb hts hw_X7 hown hK hP 0 rfl rfl 6 (by decide) (hts _ (List.mem_cons_of_mem _ mw_604)) (fun _ h9 => h9) rfl dX7_seasons_78 ?_
  refine lv_icmp_ge (tgt := 107) hx hb dX7_seasons_81 (by decide) (fun c_81 => ?_) (fun c_81 => ?_)
  · have hf := ho_t hf c_81
    refine lv_aload_n hx hb dX7_seasons_107 rfl (lv_at hl 0 rfl) ?_
    obtain ⟨u_108, e_108, hf⟩ := ho_b hf
    have hFc := va_free (wc := (wX7 o_t a_t cI v_t h_t)) hD hS hA [0, 1, 2, 3, 4, 5, 6, 7, 8, 9, 10, 11, 12] rfl
    refine va_callv (va_runV (As := []) (rest := []) ⟨hx, hb, hml, hown, hts⟩ (c_X7_layDay l dC dI cI cII o_t a_t v_t h_t _ u_108 e_108) (cwV 0 hts (hw_giV mw_737 mw_739 mw_22 mw_60 mw_740) rfl rfl rfl (by decide +kernel) ⟨Nat.le_of_ble_eq_true rfl, Nat.le_of_ble_eq_true rfl⟩) ⟨qB_blind, va_recv hK hP (ci := 7) (q0 := 0) rfl rfl, fun U hU hW => ⟨rfl, qB_go hP hD hK hN hU hW⟩⟩ rfl rfl hl.1 rfl (lv_room (Nat.le_of_ble_eq_true rfl)) dX7_seasons_108 ⟨Nat.zero_le _, Nat.zero_le _⟩) hS (fun q _ h => hFc q h) hFc (fun u t H1 locs ht hvm hw hB hz1 hk1 hS => ?_)
    obtain ⟨hP1, hD1⟩ := hB
    rw [ht] at hP1
    clear hP hD
    generalize H1 = H at hP1 hS ⊢
    have hP : va_P (dC, dI) vwCl (wX7 o_t a_t cI u_108 h_t) H := hP1
    have hD : va_D A (wX7 o_t a_t cI u_108 h_t) := hD1.weaken (fun _ q _ h => hFc q.1 h)
    refine lv_iload hx hb dX7_seasons_111 (lv_at hl 3 rfl) ?_
    refine lv_aload_n hx hb dX7_seasons_113 rfl (lv_at hl 0 rfl) ?_
    obtain ⟨u_114, e_114, hf⟩ := ho_b hf
    refine vp_callSi (va_runV (As := []) (rest := [.int x4]) ⟨hx, hb, hml, hown, hts⟩ (c_X7_helpedMany l dC dI cI cII o_t a_t u_108 h_t u_114 e_114) (cwV 0 hts (hw_giV mw_823 mw_825 mw_38 mw_60 mw_826) rfl rfl rfl (by decide +kernel) ⟨Nat.le_of_ble_eq_true rfl, Nat.le_of_ble_eq_true rfl⟩) ⟨pB_blind, va_recv hK hP (ci := 7) (q0 := 0) rfl rfl, fun U hU hW => ⟨rfl, pB_go hP hK hN hU hW⟩⟩ rfl rfl hl.1 rfl (lv_room (Nat.le_of_ble_eq_true rfl)) dX7_seasons_114 ⟨Nat.zero_le _, Nat.zero_le _⟩).run (fun z_114 ez_114 => ?_)
    subst ez_114
    refine lv_iadd hx hb dX7_seasons_117 ?_
    refine lv_istore (lv' := [(4, .int (x4 + u_114)), (0, .ref o_t), (1, .int x1), (3, .int x3), (5, .int x5), (6, .int x6), (7, .int x7)]) hx hb dX7_seasons_118 hl (by decide) rfl (fun ls hl => ?_)
    refine lv_iload hx hb dX7_seasons_120 (lv_at hl 4 rfl) ?_
    refine lv_aload_n hx hb dX7_seasons_122 rfl (lv_at hl 1 rfl) ?_
    obtain ⟨u_123, e_123, hf⟩ := ho_b hf
    refine vp_callSi (va_runV (As := []) (rest := [.int x5]) ⟨hx, hb, hml, hown, hts⟩ (c_X7_meetings l dC dI cI cII o_t a_t u_108 h_t u_123 e_123) (cwV 0 hts (hw_giV mw_827 mw_829 mw_39 mw_60 mw_830) rfl rfl rfl (by decide +kernel) ⟨Nat.le_of_ble_eq_true rfl, Nat.le_of_ble_eq_true rfl⟩) ⟨pB_blind, va_recv hK hP (ci := 7) (q0 := 0) rfl rfl, fun U hU hW => ⟨rfl, pB_go hP hK hN hU hW⟩⟩ rfl rfl hl.1 rfl (lv_room (Nat.le_of_ble_eq_true rfl)) dX7_seasons_123 ⟨Nat.zero_le _, Nat.zero_le _⟩).run (fun z_123 ez_123 => ?_)
    subst ez_123
    refine lv_iadd hx hb dX7_seasons_126 ?_
    refine lv_istore (lv' := [(5, .int (x5 + u_123)), (4, .int (x4 + u_114)), (0, .ref o_t), (1, .int x1), (3, .int x3), (6, .int x6), (7, .int x7)]) hx hb dX7_seasons_127 hl (by decide) rfl (fun ls hl => ?_)
    refine lv_iinc (v := (x6 + 1)) (lv' := [(6, .int (x6 + 1)), (5, .int (x5 + u_123)), (4, .int (x4 + u_114)), (0, .ref o_t), (1, .int x1), (3, .int x3), (7, .int x7)]) hx hb dX7_seasons_129 hl (k := 5) rfl (hp_inc (by decide)) (by decide) rfl (fun ls hl => ?_)
    refine lv_goto (tgt := 66) hx hb dX7_seasons_132 (by decide) ?_
    exact ih66 (u_108, (x4 + u_114), (x5 + u_123), (x6 + 1)) _ hf _ _ _ hP hD hS (lv_sub hl [3, 4, 5, 2, 1, 0] rfl)
  · have hf := ho_f hf c_81
    refine lv_aload_n hx hb dX7_seasons_84 rfl (lv_at hl 0 rfl) ?_
    refine va_get (D := (dC, dI)) (ci := 7) (v := .ref (a_t 10)) (C := RX7) (T := TX7) (N := 30) hx hb hts hw_X7 hown hK hP 0 rfl rfl 10 (by decide) (hts _ (List.mem_cons_of_mem _ mw_608)) (fun _ h9 => h9) rfl dX7_seasons_85 ?_
    refine lv_iconst (v := 3) hx hb dX7_seasons_88 (by decide) ?_
    refine lv_iload hx hb dX7_seasons_89 (lv_at hl 6 rfl) ?_
    refine lv_imul hx hb dX7_seasons_91 ?_
    refine lv_iconst (v := 2) hx hb dX7_seasons_92 (by decide) ?_
    refine lv_iadd hx hb dX7_seasons_93 ?_
    refine lv_aload_n hx hb dX7_seasons_94 rfl (lv_at hl 0 rfl) ?_
    refine lv_bipush (v := 10) hx hb dX7_seasons_95 (by decide) ?_
    obtain ⟨u_97, e_97, hf⟩ := ho_b hf
    have hFc := va_free (wc := (wX7 o_t a_t cI v_t h_t)) hD hS hA [0, 1, 2, 3, 4, 5, 6, 7, 8, 9, 10, 11, 12] rfl
    refine va_calli (va_runV (As := [.int 10]) (rest := [.int ((3 * x7) + 2), .ref (a_t 10)]) ⟨hx, hb, hml, hown, hts⟩ (c_X7_draw l dC dI cI cII o_t a_t v_t h_t (10) _ u_97 e_97) (cwV 1 hts (hw_giV mw_880 mw_882 mw_45 mw_60 mw_883) rfl rfl rfl (by decide +kernel) ⟨Nat.le_of_ble_eq_true rfl, Nat.le_of_ble_eq_true rfl⟩) ⟨qB_blind, va_recv hK hP (ci := 7) (q0 := 0) rfl rfl, fun U hU hW => ⟨rfl, qB_go hP hD hK hN hU hW⟩⟩ rfl rfl hl.1 rfl (lv_room (Nat.le_of_ble_eq_true rfl)) dX7_seasons_97 ⟨Nat.zero_le _, Nat.zero_le _⟩) hS (fun q _ h => hFc q h) hFc (fun z_97 u t H1 locs ht hvm ez_97 hB hz1 hk1 hS => ?_)
    subst ez_97
    obtain ⟨hP1, hD1⟩ := hB
    rw [ht] at hP1
    clear hP hD
    generalize H1 = H at hP1 hS ⊢
    have hP : va_P (dC, dI) vwCl (wX7 o_t a_t cI u_97.2 h_t) H := hP1
    have hD : va_D A (wX7 o_t a_t cI u_97.2 h_t) := hD1.weaken (fun _ q _ h => hFc q.1 h)
    obtain ⟨h_100, hf⟩ := ho_g hf
    refine va_iast (n := 15) (f := (u_97.2.2 10)) hx hb hK hP hD hS 3 0 rfl rfl h_100 dX7_seasons_100 (fun H locs hP hD hS => ?_)
    have hP : va_P (dC, dI) vwCl (wX7 o_t a_t cI (oA u_97.2 10 (Int32.toNatClampNeg ((3 * x7) + 2)) u_97.1) h_t) H := hP
    have hD : va_D A (wX7 o_t a_t cI (oA u_97.2 10 (Int32.toNatClampNeg ((3 * x7) + 2)) u_97.1) h_t) := hD
    obtain ⟨v_t_100, e_v_t_100⟩ : ∃ z : obV, z = (oA u_97.2 10 (Int32.toNatClampNeg ((3 * x7) + 2)) u_97.1) := ⟨_, rfl⟩
    rw [← e_v_t_100] at hP hD
    have hf := ho_l hf v_t_100 e_v_t_100
    refine lv_iinc (v := (x7 + 1)) (lv' := [(7, .int (x7 + 1)), (0, .ref o_t), (1, .int x1), (3, .int x3), (4, .int x4), (5, .int x5), (6, .int x6)]) hx hb dX7_seasons_101 hl (k := 6) rfl (hp_inc (by decide)) (by decide) rfl (fun ls hl => ?_)
    refine lv_goto (tgt := 75) hx hb dX7_seasons_104 (by decide) ?_
    exact ih75 (v_t_100, (x7 + 1)) _ hf _ _ _ hP hD hS (lv_sub hl [1, 2, 3, 4, 5, 6, 0] rfl)
set_option maxHeartbeats 4000000 in
set_option maxRecDepth 100000 in
theorem w_X7_seasons_l66 {p : Program} {l : Launch} {e : Env} {s : State} {m : MethodId} {args : Array Value} {below : List Frame} {meth : Method} {c : Code} {dC : Nat → ClassId} {dI : Nat → Nat → Nat} {cI cII : ClassId} {o_t : Nat} {a_t : Nat → Nat} {A : Nat → Prop} (C0 : hC p s m args meth c dC dI cI cII RX7 cX7_seasons 8 (wd yX7_seasons cX7_seasons 8 (some .int)) (some .int)) (hA : ∀ q, s.heap.size ≤ q → A q) {h_t : Int64} {x1 : Int32} {x3 : Int32}    :
    ∀ (n : Nat) (y : obV × Int32 × Int32 × Int32) (r : Int32 × obV), f_X7_seasons_l66  x1 x3  n y = some r → ∀ (H : Heap) (locs : List Loc) (ls : Array Slot), va_P (dC, dI) vwCl (wX7 o_t a_t cI y.1 h_t) H → va_D A (wX7 o_t a_t cI y.1 h_t) → va_S A s.heap H locs → lv_has ls 8 [(0, .ref o_t), (1, .int x1), (3, .int x3), (4, .int y.2.1), (5, .int y.2.2.1), (6, .int y.2.2.2)] → W p l e ({ frames := 4, cells := 0, slots := 0, locals := 90 } : Room) s m args below meth c H locs 0 0 (MQ below (va_Qi (fun (z : Int32) (_ : Unit) => r.1 = z) (fun _ t => va_P (dC, dI) vwCl (wX7 o_t a_t cI r.2 h_t) t.heap ∧ va_D A (wX7 o_t a_t cI r.2 h_t)) A) args s 0 0 A) (F0 m 66 ls []) := by
  obtain ⟨hx, hb, hml, hown, hts, hr, hlocks, hK, hN⟩ := C0
  refine lp_W ?_
  intro k66 ih66 y r hf H locs ls hP hD hS hl
  obtain ⟨v_t, x4, x5, x6⟩ := y
  have hf : f_X7_seasons_b66  v_t x1 x3 x4 x5 x6  k66 = some r := hf
  have hP : va_P (dC, dI) vwCl (wX7 o_t a_t cI v_t h_t) H := hP
  have hD : va_D A (wX7 o_t a_t cI v_t h_t) := hD
  have hl : lv_has ls 8 [(0, .ref o_t), (1, .int x1), (3, .int x3), (4, .int x4), (5, .int x5), (6, .int x6)] := hl
  unfold f_X7_seasons_b66 at hf
  refine lv_iload hx hb dX7_seasons_66 (lv_at hl 5 rfl) ?_
  refine lv_iload_n hx hb dX7_seasons_68 rfl (lv_at hl 1 rfl) ?_
  refine lv_icmp_ge (tgt := 135) hx hb dX7_seasons_69 (by decide) (fun c_69 => ?_) (fun c_69 => ?_)
  · have hf := ho_t hf c_69
    refine lv_aload_n hx hb dX7_seasons_135 rfl (lv_at hl 0 rfl) ?_
    refine va_get (D := (dC, dI)) (ci := 7) (v := .ref (a_t 22)) (C := RX7) (T := TX7) (N := 30) hx hb hts hw_X7 hown hK hP 0 rfl rfl 22 (by decide) (hts _ (List.mem_cons_of_mem _ mw_620)) (fun _ h9 => h9) rfl dX7_seasons_136 ?_
    refine lv_aload_n hx hb dX7_seasons_139 rfl (lv_at hl 0 rfl) ?_
    refine va_get (D := (dC, dI)) (ci := 7) (v := .ref (a_t 10)) (C := RX7) (T := TX7) (N := 30) hx hb hts hw_X7 hown hK hP 0 rfl rfl 10 (by decide) (hts _ (List.mem_cons_of_mem _ mw_608)) (fun _ h9 => h9) rfl dX7_seasons_140 ?_
    obtain ⟨u_143, e_143, hf⟩ := ho_b hf
    have hPc := hP.sub (ws' := ([((a_t 22), .inl (cI, 15, .inl (v_t.2 22)))] ++ ([((a_t 10), .inl (cI, 15, .inl (v_t.2 10)))]))) [10, 3] rfl
    have hDc := hD.sub (ws' := ([((a_t 22), .inl (cI, 15, .inl (v_t.2 22)))] ++ ([((a_t 10), .inl (cI, 15, .inl (v_t.2 10)))]))) [10, 3] (by decide) rfl
    have hFc := va_free (wc := ([((a_t 22), .inl (cI, 15, .inl (v_t.2 22)))] ++ ([((a_t 10), .inl (cI, 15, .inl (v_t.2 10)))]))) hD hS hA [10, 3] rfl
    refine va_callv (va_runS (As := [.ref (a_t 22), .ref (a_t 10)]) (rest := []) ⟨hx, hb, hml, hown, hts⟩ (c_X7_copy l dC dI cI cII (a_t 22) 15 (a_t 10) 15 (v_t.2 22) (v_t.2 10) _ u_143 e_143) (va_cwS 2 hts (hw_giS mw_722 mw_723 mw_60 mw_724) rfl rfl rfl (by decide +kernel) ⟨Nat.le_of_ble_eq_true rfl, Nat.le_of_ble_eq_true rfl⟩) ⟨qB_blind, fun U hU hW => ⟨rfl, qB_go hPc hDc hK hN hU hW⟩⟩ rfl rfl hl.1 rfl (lv_room (Nat.le_of_ble_eq_true rfl)) dX7_seasons_143 ⟨Nat.zero_le _, Nat.zero_le _⟩) hS (fun q _ h => hFc q h) hFc (fun u t H1 locs ht hvm hw hB hz1 hk1 hS => ?_)
    obtain ⟨hP1, hD1⟩ := hB
    rw [ht] at hP1
    obtain ⟨hP, hD⟩ := va_join (wr := ([(o_t, .inr (7, [.ref (a_t 0), .int (v_t.1 1), .ref (a_t 2), .int (v_t.1 3), .int (v_t.1 4), .int (v_t.1 5), .int (v_t.1 6), .int (v_t.1 7), .int (v_t.1 8), .int (v_t.1 9), .ref (a_t 10), .ref (a_t 11), .ref (a_t 12), .int (v_t.1 13), .int (v_t.1 14), .int (v_t.1 15), .ref (a_t 16), .ref (a_t 17), .int (v_t.1 18), .ref (a_t 19), .ref (a_t 20), .int (v_t.1 21), .ref (a_t 22), .int (v_t.1 23), .int (v_t.1 24), .int (v_t.1 25), .int (v_t.1 26), .ref (a_t 27), .ref (a_t 28), .long h_t])), (a_t 0, .inl (cI, 24, .inl (v_t.2 0))), (a_t 2, .inl (cI, 15, .inl (v_t.2 2))), (a_t 11, .inl (cI, 5, .inl (v_t.2 11))), (a_t 12, .inl (cI, 5, .inl (v_t.2 12))), (a_t 16, .inl (cI, 5, .inl (v_t.2 16))), (a_t 17, .inl (cI, 5, .inl (v_t.2 17))), (a_t 19, .inl (cI, 16, .inl (v_t.2 19))), (a_t 20, .inl (cI, 120, .inl (v_t.2 20))), (a_t 27, .inl (cI, 15, .inl (v_t.2 27))), (a_t 28, .inl (cI, 16, .inl (v_t.2 28)))])) (w1 := ([((a_t 22), .inl (cI, 15, .inl (v_t.2 22)))] ++ ([((a_t 10), .inl (cI, 15, .inl ((oC v_t 10 u_143).2 10)))]))) hP hD [10, 3] [0, 1, 2, 4, 5, 6, 7, 8, 9, 11, 12] rfl rfl (by decide) (by decide) hk1 hFc hP1 hD1
    generalize H1 = H at hP hS ⊢
    have hP : va_P (dC, dI) vwCl (wX7 o_t a_t cI (oC v_t 10 u_143) h_t) H := hP.sub [0, 1, 2, 12, 3, 4, 5, 6, 7, 8, 11, 9, 10] rfl
    have hD : va_D A (wX7 o_t a_t cI (oC v_t 10 u_143) h_t) := hD.sub [0, 1, 2, 12, 3, 4, 5, 6, 7, 8, 11, 9, 10] (by decide) rfl
    refine lv_iload_n hx hb dX7_seasons_146 rfl (lv_at hl 2 rfl) ?_
    refine lv_if_ne (tgt := 155) hx hb dX7_seasons_147 (by decide) (fun c_147 => ?_) (fun c_147 => ?_)
    · have hf := ho_f hf c_147
      refine lv_iload_n hx hb dX7_seasons_155 rfl (lv_at hl 2 rfl) ?_
      refine lv_iconst (v := 1) hx hb dX7_seasons_156 (by decide) ?_
      refine lv_icmp_ne (tgt := 165) hx hb dX7_seasons_157 (by decide) (fun c_157 => ?_) (fun c_157 => ?_)
      · have hf := ho_f hf c_157
        refine lv_aload_n hx hb dX7_seasons_165 rfl (lv_at hl 0 rfl) ?_
        refine va_get (D := (dC, dI)) (ci := 7) (v := .int (v_t.1 21)) (C := RX7) (T := TX7) (N := 30) hx hb hts hw_X7 hown hK hP 0 rfl rfl 21 (by decide) (hts _ (List.mem_cons_of_mem _ mw_619)) (fun _ h9 => h9) rfl dX7_seasons_166 ?_
        obtain rfl := Option.some.inj hf
        exact W.iret (v := (v_t.1 21)) hx hb hr (fun t ht hW => ⟨⟨_, (), rfl, rfl, by rw [ht]; exact hP, hD⟩, hS.F ht⟩) hS.2.2 dX7_seasons_169 hlocks
      · have hf := ho_t hf c_157
        refine lv_iload hx hb dX7_seasons_160 (lv_at hl 4 rfl) ?_
        refine lv_goto (tgt := 169) hx hb dX7_seasons_162 (by decide) ?_
        obtain rfl := Option.some.inj hf
        exact W.iret (v := x5) hx hb hr (fun t ht hW => ⟨⟨_, (), rfl, rfl, by rw [ht]; exact hP, hD⟩, hS.F ht⟩) hS.2.2 dX7_seasons_169 hlocks
    · have hf := ho_t hf c_147
      refine lv_iload hx hb dX7_seasons_150 (lv_at hl 3 rfl) ?_
      refine lv_goto (tgt := 169) hx hb dX7_seasons_152 (by decide) ?_
      obtain rfl := Option.some.inj hf
      exact W.iret (v := x4) hx hb hr (fun t ht hW => ⟨⟨_, (), rfl, rfl, by rw [ht]; exact hP, hD⟩, hS.F ht⟩) hS.2.2 dX7_seasons_169 hlocks
  · have hf := ho_f hf c_69
    refine lv_iconst (v := 0) hx hb dX7_seasons_72 (by decide) ?_
    refine lv_istore (lv' := [(7, .int 0), (0, .ref o_t), (1, .int x1), (3, .int x3), (4, .int x4), (5, .int x5), (6, .int x6)]) hx hb dX7_seasons_73 hl (by decide) rfl (fun ls hl => ?_)
    exact w_X7_seasons_l75 ⟨hx, hb, hml, hown, hts, hr, hlocks, hK, hN⟩ hA ih66 _ _ _ hf _ _ _ hP hD hS (lv_sub hl [1, 2, 3, 4, 5, 6, 0] rfl)
set_option maxHeartbeats 4000000 in
set_option maxRecDepth 100000 in
theorem c_X7_seasons (l : Launch) (dC : Nat → ClassId) (dI : Nat → Nat → Nat) (cI cII : ClassId) (o_t : Nat) (a_t : Nat → Nat) (v_t : obV) (h_t : Int64) (x1 : Int32) (x2 : Int32) (x3 : Int32) (sz : Nat) (r : Int32 × obV) (hf : f_X7_seasons  v_t x1 x2 x3 = some r) :
    Met l yX7_seasons (wd yX7_seasons cX7_seasons 8 (some .int)) ({ frames := 4, cells := 0, slots := 0, locals := 90 } : Room) (va_Pc [.ref o_t, .int x1, .int x2, .int x3] (qB (dC, dI) vwCl (wX7 o_t a_t cI v_t h_t) (hTY cI cII) sz)) (va_Qi (fun (z : Int32) (_ : Unit) => r.1 = z) (fun _ t => va_P (dC, dI) vwCl (wX7 o_t a_t cI r.2 h_t) t.heap ∧ va_D (va_A (wX7 o_t a_t cI v_t h_t) sz) (wX7 o_t a_t cI r.2 h_t)) (va_A (wX7 o_t a_t cI v_t h_t) sz)) 0 0 (va_A (wX7 o_t a_t cI v_t h_t) sz) := by
  refine Met.ofW (cc := cX7_seasons) (maxL := 8) (ret := (some .int)) (by decide) rfl ?_
  intro p e s m args below meth c s₁ B hml hv
  obtain ⟨rfl, hsz, hD0, hP, hK, hN⟩ := hv
  have hx := B.exec
  have hb := B.bytes
  have hr := B.returns
  have hts := atoms_spec (ws := (wd yX7_seasons cX7_seasons 8 (some .int))) B.pre
  have hown : s.vm.findClass RX7 = some m.cls := findClass_of_methodNamed B.named
  have hlocks := B.notSynchronized
  subst hsz
  have hD := hD0.self (sz := s.heap.size)
  generalize hAe : va_A (wX7 o_t a_t cI v_t h_t) s.heap.size = A at hD ⊢
  have hA : ∀ q : Nat, s.heap.size ≤ q → A q := fun q h => by rw [← hAe]; exact Or.inr h
  have hS : va_S A s.heap s.heap [] := va_S.rf
  have hl := lv_entry ([.ref o_t, .int x1, .int x2, .int x3]) (n := 8) (Nat.le_of_ble_eq_true rfl)
  rw [lg_entry_eq]
  generalize (lg_sl ([.ref o_t, .int x1, .int x2, .int x3]) ++ List.replicate (8 - (lg_sl ([.ref o_t, .int x1, .int x2, .int x3])).length) Slot.unset).toArray = ls at hl ⊢
  have hl : lv_has ls 8 [(0, .ref o_t), (1, .int x1), (2, .int x2), (3, .int x3)] := hl
  clear hAe hD0
  unfold f_X7_seasons at hf
  refine lv_iload_n hx hb dX7_seasons_0 rfl (lv_at hl 1 rfl) ?_
  refine lv_i2l (v := (Int32.toInt64 x1)) hx hb dX7_seasons_1 rfl ?_
  refine lv_lconst (v := 1) hx hb dX7_seasons_2 (by decide) ?_
  refine lv_ldc2 (v := 30) hx hb hown (hts _ (List.mem_cons_of_mem _ mw_878)) dX7_seasons_3 ?_
  obtain ⟨u_6, e_6, hf⟩ := ho_b hf
  have hPc := hP.sub (ws' := ([] : va_W)) [] rfl
  refine vp_callSi (va_runS (As := [.long (Int32.toInt64 x1), .long 1, .long 30]) (rest := []) ⟨hx, hb, hml, hown, hts⟩ (c_X7_in l dC dI cI cII ((Int32.toInt64 x1)) (1) (30) u_6 e_6) (va_cwS 3 hts (hw_giS mw_694 mw_695 mw_60 mw_696) rfl rfl rfl (by decide +kernel) ⟨Nat.le_of_ble_eq_true rfl, Nat.le_of_ble_eq_true rfl⟩) ⟨pB_blind, fun U hU hW => ⟨rfl, pB_go hPc hK hN hU hW⟩⟩ rfl rfl hl.1 rfl (lv_room (Nat.le_of_ble_eq_true rfl)) dX7_seasons_6 ⟨Nat.zero_le _, Nat.zero_le _⟩).run (fun z_6 ez_6 => ?_)
  subst ez_6
  refine lv_if_eq (tgt := 28) hx hb dX7_seasons_9 (by decide) (fun c_9 => ?_) (fun c_9 => ?_)
  · have hf := ho_t hf c_9
    refine lv_bipush (v := (-102)) hx hb dX7_seasons_28 (by decide) ?_
    obtain rfl := Option.some.inj hf
    exact W.iret (v := (-102)) hx hb hr (fun t ht hW => ⟨⟨_, (), rfl, rfl, by rw [ht]; exact hP, hD⟩, hS.F ht⟩) hS.2.2 dX7_seasons_30 hlocks
  · have hf := ho_f hf c_9
    refine lv_iload_n hx hb dX7_seasons_12 rfl (lv_at hl 2 rfl) ?_
    refine lv_if_lt (tgt := 28) hx hb dX7_seasons_13 (by decide) (fun c_13 => ?_) (fun c_13 => ?_)
    · have hf := ho_t hf c_13
      refine lv_bipush (v := (-102)) hx hb dX7_seasons_28 (by decide) ?_
      obtain rfl := Option.some.inj hf
      exact W.iret (v := (-102)) hx hb hr (fun t ht hW => ⟨⟨_, (), rfl, rfl, by rw [ht]; exact hP, hD⟩, hS.F ht⟩) hS.2.2 dX7_seasons_30 hlocks
    · have hf := ho_f hf c_13
      refine lv_iload_n hx hb dX7_seasons_16 rfl (lv_at hl 3 rfl) ?_
      refine lv_i2l (v := (Int32.toInt64 x3)) hx hb dX7_seasons_17 rfl ?_
      refine lv_lconst (v := 0) hx hb dX7_seasons_18 (by decide) ?_
      refine lv_ldc2 (v := 2) hx hb hown (hts _ (List.mem_cons_of_mem _ mw_879)) dX7_seasons_19 ?_
      obtain ⟨u_22, e_22, hf⟩ := ho_b hf
      have hPc := hP.sub (ws' := ([] : va_W)) [] rfl
      refine vp_callSi (va_runS (As := [.long (Int32.toInt64 x3), .long 0, .long 2]) (rest := []) ⟨hx, hb, hml, hown, hts⟩ (c_X7_in l dC dI cI cII ((Int32.toInt64 x3)) (0) (2) u_22 e_22) (va_cwS 3 hts (hw_giS mw_694 mw_695 mw_60 mw_696) rfl rfl rfl (by decide +kernel) ⟨Nat.le_of_ble_eq_true rfl, Nat.le_of_ble_eq_true rfl⟩) ⟨pB_blind, fun U hU hW => ⟨rfl, pB_go hPc hK hN hU hW⟩⟩ rfl rfl hl.1 rfl (lv_room (Nat.le_of_ble_eq_true rfl)) dX7_seasons_22 ⟨Nat.zero_le _, Nat.zero_le _⟩).run (fun z_22 ez_22 => ?_)
      subst ez_22
      refine lv_if_ne (tgt := 31) hx hb dX7_seasons_25 (by decide) (fun c_25 => ?_) (fun c_25 => ?_)
      · have hf := ho_f hf c_25
        refine lv_aload_n hx hb dX7_seasons_31 rfl (lv_at hl 0 rfl) ?_
        obtain ⟨u_32, e_32, hf⟩ := ho_b hf
        refine vp_callSi (va_runV (As := []) (rest := []) ⟨hx, hb, hml, hown, hts⟩ (c_X7_lacks l dC dI cI cII o_t a_t v_t h_t u_32 e_32) (cwV 0 hts (hw_giV mw_807 mw_809 mw_35 mw_60 mw_810) rfl rfl rfl (by decide +kernel) ⟨Nat.le_of_ble_eq_true rfl, Nat.le_of_ble_eq_true rfl⟩) ⟨pB_blind, va_recv hK hP (ci := 7) (q0 := 0) rfl rfl, fun U hU hW => ⟨rfl, pB_go hP hK hN hU hW⟩⟩ rfl rfl hl.1 rfl (lv_room (Nat.le_of_ble_eq_true rfl)) dX7_seasons_32 ⟨Nat.zero_le _, Nat.zero_le _⟩).run (fun z_32 ez_32 => ?_)
        subst ez_32
        refine lv_if_eq (tgt := 41) hx hb dX7_seasons_35 (by decide) (fun c_35 => ?_) (fun c_35 => ?_)
        · have hf := ho_t hf c_35
          refine lv_aload_n hx hb dX7_seasons_41 rfl (lv_at hl 0 rfl) ?_
          refine va_get (D := (dC, dI)) (ci := 7) (v := .ref (a_t 10)) (C := RX7) (T := TX7) (N := 30) hx hb hts hw_X7 hown hK hP 0 rfl rfl 10 (by decide) (hts _ (List.mem_cons_of_mem _ mw_608)) (fun _ h9 => h9) rfl dX7_seasons_42 ?_
          refine lv_aload_n hx hb dX7_seasons_45 rfl (lv_at hl 0 rfl) ?_
          refine va_get (D := (dC, dI)) (ci := 7) (v := .ref (a_t 22)) (C := RX7) (T := TX7) (N := 30) hx hb hts hw_X7 hown hK hP 0 rfl rfl 22 (by decide) (hts _ (List.mem_cons_of_mem _ mw_620)) (fun _ h9 => h9) rfl dX7_seasons_46 ?_
          obtain ⟨u_49, e_49, hf⟩ := ho_b hf
          have hPc := hP.sub (ws' := ([((a_t 10), .inl (cI, 15, .inl (v_t.2 10)))] ++ ([((a_t 22), .inl (cI, 15, .inl (v_t.2 22)))]))) [3, 10] rfl
          have hDc := hD.sub (ws' := ([((a_t 10), .inl (cI, 15, .inl (v_t.2 10)))] ++ ([((a_t 22), .inl (cI, 15, .inl (v_t.2 22)))]))) [3, 10] (by decide) rfl
          have hFc := va_free (wc := ([((a_t 10), .inl (cI, 15, .inl (v_t.2 10)))] ++ ([((a_t 22), .inl (cI, 15, .inl (v_t.2 22)))]))) hD hS hA [3, 10] rfl
          refine va_callv (va_runS (As := [.ref (a_t 10), .ref (a_t 22)]) (rest := []) ⟨hx, hb, hml, hown, hts⟩ (c_X7_copy l dC dI cI cII (a_t 10) 15 (a_t 22) 15 (v_t.2 10) (v_t.2 22) _ u_49 e_49) (va_cwS 2 hts (hw_giS mw_722 mw_723 mw_60 mw_724) rfl rfl rfl (by decide +kernel) ⟨Nat.le_of_ble_eq_true rfl, Nat.le_of_ble_eq_true rfl⟩) ⟨qB_blind, fun U hU hW => ⟨rfl, qB_go hPc hDc hK hN hU hW⟩⟩ rfl rfl hl.1 rfl (lv_room (Nat.le_of_ble_eq_true rfl)) dX7_seasons_49 ⟨Nat.zero_le _, Nat.zero_le _⟩) hS (fun q _ h => hFc q h) hFc (fun u t H1 locs ht hvm hw hB hz1 hk1 hS => ?_)
          obtain ⟨hP1, hD1⟩ := hB
          rw [ht] at hP1
          obtain ⟨hP, hD⟩ := va_join (wr := ([(o_t, .inr (7, [.ref (a_t 0), .int (v_t.1 1), .ref (a_t 2), .int (v_t.1 3), .int (v_t.1 4), .int (v_t.1 5), .int (v_t.1 6), .int (v_t.1 7), .int (v_t.1 8), .int (v_t.1 9), .ref (a_t 10), .ref (a_t 11), .ref (a_t 12), .int (v_t.1 13), .int (v_t.1 14), .int (v_t.1 15), .ref (a_t 16), .ref (a_t 17), .int (v_t.1 18), .ref (a_t 19), .ref (a_t 20), .int (v_t.1 21), .ref (a_t 22), .int (v_t.1 23), .int (v_t.1 24), .int (v_t.1 25), .int (v_t.1 26), .ref (a_t 27), .ref (a_t 28), .long h_t])), (a_t 0, .inl (cI, 24, .inl (v_t.2 0))), (a_t 2, .inl (cI, 15, .inl (v_t.2 2))), (a_t 11, .inl (cI, 5, .inl (v_t.2 11))), (a_t 12, .inl (cI, 5, .inl (v_t.2 12))), (a_t 16, .inl (cI, 5, .inl (v_t.2 16))), (a_t 17, .inl (cI, 5, .inl (v_t.2 17))), (a_t 19, .inl (cI, 16, .inl (v_t.2 19))), (a_t 20, .inl (cI, 120, .inl (v_t.2 20))), (a_t 27, .inl (cI, 15, .inl (v_t.2 27))), (a_t 28, .inl (cI, 16, .inl (v_t.2 28)))])) (w1 := ([((a_t 10), .inl (cI, 15, .inl (v_t.2 10)))] ++ ([((a_t 22), .inl (cI, 15, .inl ((oC v_t 22 u_49).2 22)))]))) hP hD [3, 10] [0, 1, 2, 4, 5, 6, 7, 8, 9, 11, 12] rfl rfl (by decide) (by decide) hk1 hFc hP1 hD1
          generalize H1 = H at hP hS ⊢
          have hP : va_P (dC, dI) vwCl (wX7 o_t a_t cI (oC v_t 22 u_49) h_t) H := hP.sub [0, 1, 2, 11, 3, 4, 5, 6, 7, 8, 12, 9, 10] rfl
          have hD : va_D A (wX7 o_t a_t cI (oC v_t 22 u_49) h_t) := hD.sub [0, 1, 2, 11, 3, 4, 5, 6, 7, 8, 12, 9, 10] (by decide) rfl
          refine lv_aload_n hx hb dX7_seasons_52 rfl (lv_at hl 0 rfl) ?_
          refine lv_iload_n hx hb dX7_seasons_53 rfl (lv_at hl 2 rfl) ?_
          refine va_put (D := (dC, dI)) (ci := 7) (v := .int x2) (ty := .int) (C := RX7) (T := TX7) (N := 30) hx hb hts hw_X7 tyX7 tyX7_ok nmX7 hown hK hP hD hS 0 rfl rfl 21 (by decide) (hts _ (List.mem_cons_of_mem _ mw_619)) (fun _ h9 => h9) rfl (by decide +kernel) rfl rfl (Nat.le_of_ble_eq_true rfl) dX7_seasons_54 (fun H locs hP hD hS => ?_)
          have hP : va_P (dC, dI) vwCl (wX7 o_t a_t cI (oF (oC v_t 22 u_49) 21 x2) h_t) H := hP
          have hD : va_D A (wX7 o_t a_t cI (oF (oC v_t 22 u_49) 21 x2) h_t) := hD
          obtain ⟨v_t_54, e_v_t_54⟩ : ∃ z : obV, z = (oF (oC v_t 22 u_49) 21 x2) := ⟨_, rfl⟩
          rw [← e_v_t_54] at hP hD
          have hf := ho_l hf v_t_54 e_v_t_54
          refine lv_iconst (v := 0) hx hb dX7_seasons_57 (by decide) ?_
          refine lv_istore (lv' := [(4, .int 0), (0, .ref o_t), (1, .int x1), (2, .int x2), (3, .int x3)]) hx hb dX7_seasons_58 hl (by decide) rfl (fun ls hl => ?_)
          refine lv_iconst (v := 0) hx hb dX7_seasons_60 (by decide) ?_
          refine lv_istore (lv' := [(5, .int 0), (4, .int 0), (0, .ref o_t), (1, .int x1), (2, .int x2), (3, .int x3)]) hx hb dX7_seasons_61 hl (by decide) rfl (fun ls hl => ?_)
          refine lv_iconst (v := 0) hx hb dX7_seasons_63 (by decide) ?_
          refine lv_istore (lv' := [(6, .int 0), (5, .int 0), (4, .int 0), (0, .ref o_t), (1, .int x1), (2, .int x2), (3, .int x3)]) hx hb dX7_seasons_64 hl (by decide) rfl (fun ls hl => ?_)
          exact w_X7_seasons_l66 ⟨hx, hb, hml, hown, hts, hr, hlocks, hK, hN⟩ hA  _ _ _ hf _ _ _ hP hD hS (lv_sub hl [3, 4, 6, 2, 1, 0] rfl)
        · have hf := ho_f hf c_35
          refine lv_bipush (v := (-103)) hx hb dX7_seasons_38 (by decide) ?_
          obtain rfl := Option.some.inj hf
          exact W.iret (v := (-103)) hx hb hr (fun t ht hW => ⟨⟨_, (), rfl, rfl, by rw [ht]; exact hP, hD⟩, hS.F ht⟩) hS.2.2 dX7_seasons_40 hlocks
      · have hf := ho_t hf c_25
        refine lv_bipush (v := (-102)) hx hb dX7_seasons_28 (by decide) ?_
        obtain rfl := Option.some.inj hf
        exact W.iret (v := (-102)) hx hb hr (fun t ht hW => ⟨⟨_, (), rfl, rfl, by rw [ht]; exact hP, hD⟩, hS.F ht⟩) hS.2.2 dX7_seasons_30 hlocks
