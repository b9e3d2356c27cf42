set_option maxHeartbeats 4000000 in
set_option maxRecDepth 100000 in
theorem c_X6_letter (l : Launch) (dC : Nat → ClassId) (dI : Nat → Nat → Nat) (cI cII : ClassId) (o_t : Nat) (a_t : Nat → Nat) (a_t_page : Nat → Nat) (v_t : obV) (v_t_page : obV) (x1 : Int32) (sz : Nat) (r : Int32 × obV) (hf : f_X6_letter  v_t_page x1 = some r) :
    Met l yX6_letter (wd yX6_letter cX6_letter 2 (some .int)) ({ frames := 1, cells := 0, slots := 0, locals := 22 } : Room) (va_Pc [.ref o_t, .int x1] (qB (dC, dI) vwCl (wX6 o_t a_t cI v_t ++ (wX3 (a_t 0) a_t_page cI v_t_page)) (hTY cI cII) sz)) (va_Qi (fun (z : Int32) (_ : Unit) => r.1 = z) (fun _ t => va_P (dC, dI) vwCl (wX6 o_t a_t cI v_t ++ (wX3 (a_t 0) a_t_page cI r.2)) t.heap ∧ va_D (va_A (wX6 o_t a_t cI v_t ++ (wX3 (a_t 0) a_t_page cI v_t_page)) sz) (wX6 o_t a_t cI v_t ++ (wX3 (a_t 0) a_t_page cI r.2))) (va_A (wX6 o_t a_t cI v_t ++ (wX3 (a_t 0) a_t_page cI v_t_page)) sz)) 0 0 (va_A (wX6 o_t a_t cI v_t ++ (wX3 (a_t 0) a_t_page cI v_t_page)) sz) := by
  refine Met.ofW (cc := cX6_letter) (maxL := 2) (ret := (some .int)) (by decide) rfl ?_
  intro p e s m args below meth c s₁ B hml hv
  obtain ⟨rfl, hsz, hD0, hP, hK, hN⟩ := hv
  have hx := B.exec
  have hb := B.bytes
  have hr := B.returns
  have hts := atoms_spec (ws := (wd yX6_letter cX6_letter 2 (some .int))) B.pre
  have hown : s.vm.findClass RX6 = some m.cls := findClass_of_methodNamed B.named
  have hlocks := B.notSynchronized
  subst hsz
  have hD := hD0.self (sz := s.heap.size)
  generalize hAe : va_A (wX6 o_t a_t cI v_t ++ (wX3 (a_t 0) a_t_page cI v_t_page)) s.heap.size = A at hD ⊢
  have hA : ∀ q : Nat, s.heap.size ≤ q → A q := fun q h => by rw [← hAe]; exact Or.inr h
  have hS : va_S A s.heap s.heap [] := va_S.rf
  have hl := lv_entry ([.ref o_t, .int x1]) (n := 2) (Nat.le_of_ble_eq_true rfl)
  rw [lg_entry_eq]
  generalize (lg_sl ([.ref o_t, .int x1]) ++ List.replicate (2 - (lg_sl ([.ref o_t, .int x1])).length) Slot.unset).toArray = ls at hl ⊢
  have hl : lv_has ls 2 [(0, .ref o_t), (1, .int x1)] := hl
  clear hAe hD0
  unfold f_X6_letter at hf
  refine lv_iload_n hx hb dX6_letter_0 rfl (lv_at hl 1 rfl) ?_
  refine lv_iconst (v := 1) hx hb dX6_letter_1 (by decide) ?_
  refine lv_bipush (v := 126) hx hb dX6_letter_2 (by decide) ?_
  obtain ⟨u_4, e_4, hf⟩ := ho_b hf
  have hPc := hP.sub (ws' := ([] : va_W)) [] rfl
  refine vp_callSi (va_runS (As := [.int x1, .int 1, .int 126]) (rest := []) ⟨hx, hb, hml, hown, hts⟩ (c_X6_isWithin l dC dI cI cII (x1) (1) (126) u_4 e_4) (va_cwS 3 hts (hw_giS mw_262 mw_263 mw_53 mw_264) rfl rfl rfl (by decide +kernel) ⟨Nat.le_of_ble_eq_true rfl, Nat.le_of_ble_eq_true rfl⟩) ⟨pB_blind, fun U hU hW => ⟨rfl, pB_go hPc hK hN hU hW⟩⟩ rfl rfl hl.1 rfl (lv_room (Nat.le_of_ble_eq_true rfl)) dX6_letter_4 ⟨Nat.zero_le _, Nat.zero_le _⟩).run (fun z_4 ez_4 => ?_)
  subst ez_4
  refine lv_if_ne (tgt := 13) hx hb dX6_letter_7 (by decide) (fun c_7 => ?_) (fun c_7 => ?_)
  · have hf := ho_f hf c_7
    refine lv_aload_n hx hb dX6_letter_13 rfl (lv_at hl 0 rfl) ?_
    refine va_get (D := (dC, dI)) (ci := 6) (v := .ref (a_t 0)) (C := RX6) (T := TX6) (N := 8) hx hb hts hw_X6 hown hK hP 0 rfl rfl 0 (by decide) (hts _ (List.mem_cons_of_mem _ mw_233)) (fun _ h9 => h9) rfl dX6_letter_14 ?_
    refine va_get (D := (dC, dI)) (ci := 3) (v := .int (v_t_page.1 1)) (C := RX3) (T := TX3) (N := 2) hx hb hts hw_X3 hown hK hP 1 rfl rfl 1 (by decide) (hts _ (List.mem_cons_of_mem _ mw_82)) (fun _ h9 => h9) rfl dX6_letter_17 ?_
    refine lv_bipush (v := 24) hx hb dX6_letter_20 (by decide) ?_
    refine lv_icmp_lt (tgt := 28) hx hb dX6_letter_22 (by decide) (fun c_22 => ?_) (fun c_22 => ?_)
    · have hf := ho_t hf c_22
      refine lv_aload_n hx hb dX6_letter_28 rfl (lv_at hl 0 rfl) ?_
      refine va_get (D := (dC, dI)) (ci := 6) (v := .ref (a_t 0)) (C := RX6) (T := TX6) (N := 8) hx hb hts hw_X6 hown hK hP 0 rfl rfl 0 (by decide) (hts _ (List.mem_cons_of_mem _ mw_233)) (fun _ h9 => h9) rfl dX6_letter_29 ?_
      refine lv_iload_n hx hb dX6_letter_32 rfl (lv_at hl 1 rfl) ?_
      obtain ⟨u_33, e_33, hf⟩ := ho_b hf
      have hPc := hP.sub (ws' := (wX3 (a_t 0) a_t_page cI v_t_page)) [1, 2] rfl
      have hDc := hD.sub (ws' := (wX3 (a_t 0) a_t_page cI v_t_page)) [1, 2] (by decide) rfl
      have hFc := va_free (wc := (wX3 (a_t 0) a_t_page cI v_t_page)) hD hS hA [1, 2] rfl
      refine va_callv (va_runV (As := [.int x1]) (rest := []) ⟨hx, hb, hml, hown, hts⟩ (c_X3_write l dC dI cI cII (a_t 0) a_t_page v_t_page (x1) _ u_33 e_33) (cwV 1 hts (hw_giV mw_265 mw_266 mw_267 mw_54 mw_268) rfl rfl rfl (by decide +kernel) ⟨Nat.le_of_ble_eq_true rfl, Nat.le_of_ble_eq_true rfl⟩) ⟨qB_blind, va_recv hK hPc (ci := 3) (q0 := 0) rfl rfl, fun U hU hW => ⟨rfl, qB_go hPc hDc hK hN hU hW⟩⟩ rfl rfl hl.1 rfl (lv_room (Nat.le_of_ble_eq_true rfl)) dX6_letter_33 ⟨Nat.zero_le _, Nat.zero_le _⟩) hS (fun q _ h => hFc q h) hFc (fun u t H1 locs ht hvm hw hB hz1 hk1 hS => ?_)
      obtain ⟨hP1, hD1⟩ := hB
      rw [ht] at hP1
      obtain ⟨hP, hD⟩ := va_join (wr := (wX6 o_t a_t cI v_t)) (w1 := (wX3 (a_t 0) a_t_page cI u_33)) hP hD [1, 2] [0] rfl rfl (by decide) (by decide) hk1 hFc hP1 hD1
      generalize H1 = H at hP hS ⊢
      have hP : va_P (dC, dI) vwCl (wX6 o_t a_t cI v_t ++ (wX3 (a_t 0) a_t_page cI u_33)) H := hP.sub [0, 1, 2] rfl
      have hD : va_D A (wX6 o_t a_t cI v_t ++ (wX3 (a_t 0) a_t_page cI u_33)) := hD.sub [0, 1, 2] (by decide) rfl
      refine lv_aload_n hx hb dX6_letter_36 rfl (lv_at hl 0 rfl) ?_
      refine va_get (D := (dC, dI)) (ci := 6) (v := .ref (a_t 0)) (C := RX6) (T := TX6) (N := 8) hx hb hts hw_X6 hown hK hP 0 rfl rfl 0 (by decide) (hts _ (List.mem_cons_of_mem _ mw_233)) (fun _ h9 => h9) rfl dX6_letter_37 ?_
      refine va_get (D := (dC, dI)) (ci := 3) (v := .int (u_33.1 1)) (C := RX3) (T := TX3) (N := 2) hx hb hts hw_X3 hown hK hP 1 rfl rfl 1 (by decide) (hts _ (List.mem_cons_of_mem _ mw_82)) (fun _ h9 => h9) rfl dX6_letter_40 ?_
      obtain rfl := Option.some.inj hf
      exact W.iret (v := (u_33.1 1)) hx hb hr (fun t ht hW => ⟨⟨_, (), rfl, rfl, by rw [ht]; exact hP, hD⟩, hS.F ht⟩) hS.2.2 dX6_letter_43 hlocks
    · have hf := ho_f hf c_22
      refine lv_bipush (v := (-104)) hx hb dX6_letter_25 (by decide) ?_
      obtain rfl := Option.some.inj hf
      exact W.iret (v := (-104)) hx hb hr (fun t ht hW => ⟨⟨_, (), rfl, rfl, by rw [ht]; exact hP, hD⟩, hS.F ht⟩) hS.2.2 dX6_letter_27 hlocks
  · have hf := ho_t hf c_7
    refine lv_bipush (v := (-102)) hx hb dX6_letter_10 (by decide) ?_
    obtain rfl := Option.some.inj hf
    exact W.iret (v := (-102)) hx hb hr (fun t ht hW => ⟨⟨_, (), rfl, rfl, by rw [ht]; exact hP, hD⟩, hS.F ht⟩) hS.2.2 dX6_letter_12 hlocks
set_option maxHeartbeats 4000000 in
set_option maxRecDepth 100000 in
theorem c_X6_blank (l : Launch) (dC : Nat → ClassId) (dI : Nat → Nat → Nat) (cI cII : ClassId) (o_t : Nat) (a_t : Nat → Nat) (a_t_page : Nat → Nat) (v_t : obV) (v_t_page : obV)  (sz : Nat) (r : Int32 × obV) (hf : f_X6_blank  v_t_page  = some r) :
    Met l yX6_blank (wd yX6_blank cX6_blank 2 (some .int)) ({ frames := 0, cells := 0, slots := 0, locals := 0 } : Room) (va_Pc [.ref o_t] (qB (dC, dI) vwCl (wX6 o_t a_t cI v_t ++ (wX3 (a_t 0) a_t_page cI v_t_page)) (hTY cI cII) sz)) (va_Qi (fun (z : Int32) (_ : Unit) => r.1 = z) (fun _ t => va_P (dC, dI) vwCl (wX6 o_t a_t cI v_t ++ (wX3 (a_t 0) a_t_page cI r.2)) t.heap ∧ va_D (va_A (wX6 o_t a_t cI v_t ++ (wX3 (a_t 0) a_t_page cI v_t_page)) sz) (wX6 o_t a_t cI v_t ++ (wX3 (a_t 0) a_t_page cI r.2))) (va_A (wX6 o_t a_t cI v_t ++ (wX3 (a_t 0) a_t_page cI v_t_page)) sz)) 0 0 (va_A (wX6 o_t a_t cI v_t ++ (wX3 (a_t 0) a_t_page cI v_t_page)) sz) := by
  refine Met.ofW (cc := cX6_blank) (maxL := 2) (ret := (some .int)) (by decide) rfl ?_
  intro p e s m args below meth c s₁ B hml hv
  obtain ⟨rfl, hsz, hD0, hP, hK, hN⟩ := hv
  have hx := B.exec
  have hb := B.bytes
  have hr := B.returns
  have hts := atoms_spec (ws := (wd yX6_blank cX6_blank 2 (some .int))) B.pre
  have hown : s.vm.findClass RX6 = some m.cls := findClass_of_methodNamed B.named
  have hlocks := B.notSynchronized
  subst hsz
  have hD := hD0.self (sz := s.heap.size)
  generalize hAe : va_A (wX6 o_t a_t cI v_t ++ (wX3 (a_t 0) a_t_page cI v_t_page)) s.heap.size = A at hD ⊢
  have hA : ∀ q : Nat, s.heap.size ≤ q → A q := fun q h => by rw [← hAe]; exact Or.inr h
  have hS : va_S A s.heap s.heap [] := va_S.rf
  have hl := lv_entry ([.ref o_t]) (n := 2) (Nat.le_of_ble_eq_true rfl)
  rw [lg_entry_eq]
  generalize (lg_sl ([.ref o_t]) ++ List.replicate (2 - (lg_sl ([.ref o_t])).length) Slot.unset).toArray = ls at hl ⊢
  have hl : lv_has ls 2 [(0, .ref o_t)] := hl
  clear hAe hD0
  unfold f_X6_blank at hf
  refine lv_aload_n hx hb dX6_blank_0 rfl (lv_at hl 0 rfl) ?_
  refine va_get (D := (dC, dI)) (ci := 6) (v := .ref (a_t 0)) (C := RX6) (T := TX6) (N := 8) hx hb hts hw_X6 hown hK hP 0 rfl rfl 0 (by decide) (hts _ (List.mem_cons_of_mem _ mw_233)) (fun _ h9 => h9) rfl dX6_blank_1 ?_
  refine va_get (D := (dC, dI)) (ci := 3) (v := .int (v_t_page.1 1)) (C := RX3) (T := TX3) (N := 2) hx hb hts hw_X3 hown hK hP 1 rfl rfl 1 (by decide) (hts _ (List.mem_cons_of_mem _ mw_82)) (fun _ h9 => h9) rfl dX6_blank_4 ?_
  refine lv_istore_n (lv' := [(1, .int (v_t_page.1 1)), (0, .ref o_t)]) hx hb dX6_blank_7 rfl hl (by decide) rfl (fun ls hl => ?_)
  refine lv_aload_n hx hb dX6_blank_8 rfl (lv_at hl 1 rfl) ?_
  refine va_get (D := (dC, dI)) (ci := 6) (v := .ref (a_t 0)) (C := RX6) (T := TX6) (N := 8) hx hb hts hw_X6 hown hK hP 0 rfl rfl 0 (by decide) (hts _ (List.mem_cons_of_mem _ mw_233)) (fun _ h9 => h9) rfl dX6_blank_9 ?_
  refine lv_iconst (v := 0) hx hb dX6_blank_12 (by decide) ?_
  refine va_put (D := (dC, dI)) (ci := 3) (v := .int 0) (ty := .int) (C := RX3) (T := TX3) (N := 2) hx hb hts hw_X3 tyX3 tyX3_ok nmX3 hown hK hP hD hS 1 rfl rfl 1 (by decide) (hts _ (List.mem_cons_of_mem _ mw_82)) (fun _ h9 => h9) rfl (by decide +kernel) rfl rfl (Nat.le_of_ble_eq_true rfl) dX6_blank_13 (fun H locs hP hD hS => ?_)
  have hP : va_P (dC, dI) vwCl (wX6 o_t a_t cI v_t ++ (wX3 (a_t 0) a_t_page cI (oF v_t_page 1 0))) H := hP
  have hD : va_D A (wX6 o_t a_t cI v_t ++ (wX3 (a_t 0) a_t_page cI (oF v_t_page 1 0))) := hD
  obtain ⟨v_t_page_13, e_v_t_page_13⟩ : ∃ z : obV, z = (oF v_t_page 1 0) := ⟨_, rfl⟩
  rw [← e_v_t_page_13] at hP hD
  have hf := ho_l hf v_t_page_13 e_v_t_page_13
  refine lv_iload_n hx hb dX6_blank_16 rfl (lv_at hl 0 rfl) ?_
  obtain rfl := Option.some.inj hf
  exact W.iret (v := (v_t_page.1 1)) hx hb hr (fun t ht hW => ⟨⟨_, (), rfl, rfl, by rw [ht]; exact hP, hD⟩, hS.F ht⟩) hS.2.2 dX6_blank_17 hlocks
set_option maxHeartbeats 4000000 in
set_option maxRecDepth 100000 in
theorem c_X6_fault (l : Launch) (dC : Nat → ClassId) (dI : Nat → Nat → Nat) (cI cII : ClassId) (o_t : Nat) (a_t : Nat → Nat) (a_t_page : Nat → Nat) (v_t : obV) (v_t_page : obV)  (r : Int32) (hf : f_X6_fault  v_t_page  = some r) :
    Met l yX6_fault (wd yX6_fault cX6_fault 1 (some .int)) ({ frames := 3, cells := 0, slots := 0, locals := 66 } : Room) (va_Pc [.ref o_t] (pB (dC, dI) vwCl (wX6 o_t a_t cI v_t ++ (wX3 (a_t 0) a_t_page cI v_t_page)) (hTY cI cII))) (vp_Si (fun z => r = z)) 0 0 (fun _ => False) := by
  refine Met.ofW (cc := cX6_fault) (maxL := 1) (ret := (some .int)) (by decide) rfl ?_
  intro p e s m args below meth c s₁ B hml hv
  obtain ⟨rfl, hP, hK, hN⟩ := hv
  have hx := B.exec
  have hb := B.bytes
  have hr := B.returns
  have hts := atoms_spec (ws := (wd yX6_fault cX6_fault 1 (some .int))) B.pre
  have hown : s.vm.findClass RX6 = some m.cls := findClass_of_methodNamed B.named
  have hlocks := B.notSynchronized
  have hl := lv_entry ([.ref o_t]) (n := 1) (Nat.le_of_ble_eq_true rfl)
  rw [lg_entry_eq]
  generalize (lg_sl ([.ref o_t]) ++ List.replicate (1 - (lg_sl ([.ref o_t])).length) Slot.unset).toArray = ls at hl ⊢
  have hl : lv_has ls 1 [(0, .ref o_t)] := hl
  unfold f_X6_fault at hf
  refine lv_aload_n hx hb dX6_fault_0 rfl (lv_at hl 0 rfl) ?_
  refine va_get (D := (dC, dI)) (ci := 6) (v := .ref (a_t 0)) (C := RX6) (T := TX6) (N := 8) hx hb hts hw_X6 hown hK hP 0 rfl rfl 0 (by decide) (hts _ (List.mem_cons_of_mem _ mw_233)) (fun _ h9 => h9) rfl dX6_fault_1 ?_
  obtain ⟨u_4, e_4, hf⟩ := ho_b hf
  have hPc := hP.sub (ws' := (wX3 (a_t 0) a_t_page cI v_t_page)) [1, 2] rfl
  refine vp_callSi (va_runV (As := []) (rest := []) ⟨hx, hb, hml, hown, hts⟩ (c_X3_firstWrong l dC dI cI cII (a_t 0) a_t_page v_t_page u_4 e_4) (cwV 0 hts (hw_giV mw_277 mw_278 mw_279 mw_54 mw_280) rfl rfl rfl (by decide +kernel) ⟨Nat.le_of_ble_eq_true rfl, Nat.le_of_ble_eq_true rfl⟩) ⟨pB_blind, va_recv hK hPc (ci := 3) (q0 := 0) rfl rfl, fun U hU hW => ⟨rfl, pB_go hPc hK hN hU hW⟩⟩ rfl rfl hl.1 rfl (lv_room (Nat.le_of_ble_eq_true rfl)) dX6_fault_4 ⟨Nat.zero_le _, Nat.zero_le _⟩).run (fun z_4 ez_4 => ?_)
  subst ez_4
  obtain rfl := Option.some.inj hf
  exact W.iret (v := u_4) hx hb hr (fun t ht hW => ⟨_, rfl, rfl, ht⟩) (fun q hq => by cases hq) dX6_fault_7 hlocks
set_option maxHeartbeats 4000000 in
set_option maxRecDepth 100000 in
theorem c_X6_cave (l : Launch) (dC : Nat → ClassId) (dI : Nat → Nat → Nat) (cI cII : ClassId) (o_t : Nat) (a_t : Nat → Nat) (a_t_page : Nat → Nat) (a_t_now : Nat → Nat) (a_t_now_seen : Nat → Nat) (v_t : obV) (v_t_page : obV) (v_t_now : obV) (v_t_now_seen : obV)  (sz : Nat) (r : Int32 × obV × obV × obV × obV) (hf : f_X6_cave  v_t v_t_page v_t_now v_t_now_seen  = some r) :
    Met l yX6_cave (wd yX6_cave cX6_cave 1 (some .int)) ({ frames := 4, cells := 0, slots := 0, locals := 86 } : Room) (va_Pc [.ref o_t] (qB (dC, dI) vwCl (wX6 o_t a_t cI v_t ++ (wX3 (a_t 0) a_t_page cI v_t_page ++ (wX1 (a_t 1) a_t_now cI v_t_now ++ (wX4 (a_t_now 3) a_t_now_seen cI v_t_now_seen)))) (hTY cI cII) sz)) (va_Qi (fun (z : Int32) (_ : Unit) => r.1 = z) (fun _ t => va_P (dC, dI) vwCl (wX6 o_t a_t cI r.2.1 ++ (wX3 (a_t 0) a_t_page cI r.2.2.1 ++ (wX1 (a_t 1) a_t_now cI r.2.2.2.1 ++ (wX4 (a_t_now 3) a_t_now_seen cI r.2.2.2.2)))) t.heap ∧ va_D (va_A (wX6 o_t a_t cI v_t ++ (wX3 (a_t 0) a_t_page cI v_t_page ++ (wX1 (a_t 1) a_t_now cI v_t_now ++ (wX4 (a_t_now 3) a_t_now_seen cI v_t_now_seen)))) sz) (wX6 o_t a_t cI r.2.1 ++ (wX3 (a_t 0) a_t_page cI r.2.2.1 ++ (wX1 (a_t 1) a_t_now cI r.2.2.2.1 ++ (wX4 (a_t_now 3) a_t_now_seen cI r.2.2.2.2))))) (va_A (wX6 o_t a_t cI v_t ++ (wX3 (a_t 0) a_t_page cI v_t_page ++ (wX1 (a_t 1) a_t_now cI v_t_now ++ (wX4 (a_t_now 3) a_t_now_seen cI v_t_now_seen)))) sz)) 0 0 (va_A (wX6 o_t a_t cI v_t ++ (wX3 (a_t 0) a_t_page cI v_t_page ++ (wX1 (a_t 1) a_t_now cI v_t_now ++ (wX4 (a_t_now 3) a_t_now_seen cI v_t_now_seen)))) sz) := by
  refine Met.ofW (cc := cX6_cave) (maxL := 1) (ret := (some .int)) (by decide) rfl ?_
  intro p e s m args below meth c s₁ B hml hv
  obtain ⟨rfl, hsz, hD0, hP, hK, hN⟩ := hv
  have hx := B.exec
  have hb := B.bytes
  have hr := B.returns
  have hts := atoms_spec (ws := (wd yX6_cave cX6_cave 1 (some .int))) B.pre
  have hown : s.vm.findClass RX6 = some m.cls := findClass_of_methodNamed B.named
  have hlocks := B.notSynchronized
  subst hsz
  have hD := hD0.self (sz := s.heap.size)
  generalize hAe : va_A (wX6 o_t a_t cI v_t ++ (wX3 (a_t 0) a_t_page cI v_t_page ++ (wX1 (a_t 1) a_t_now cI v_t_now ++ (wX4 (a_t_now 3) a_t_now_seen cI v_t_now_seen)))) s.heap.size = A at hD ⊢
  have hA : ∀ q : Nat, s.heap.size ≤ q → A q := fun q h => by rw [← hAe]; exact Or.inr h
  have hS : va_S A s.heap s.heap [] := va_S.rf
  have hl := lv_entry ([.ref o_t]) (n := 1) (Nat.le_of_ble_eq_true rfl)
  rw [lg_entry_eq]
  generalize (lg_sl ([.ref o_t]) ++ List.replicate (1 - (lg_sl ([.ref o_t])).length) Slot.unset).toArray = ls at hl ⊢
  have hl : lv_has ls 1 [(0, .ref o_t)] := hl
  clear hAe hD0
  unfold f_X6_cave at hf
  refine lv_aload_n hx hb dX6_cave_0 rfl (lv_at hl 0 rfl) ?_
  refine va_get (D := (dC, dI)) (ci := 6) (v := .ref (a_t 0)) (C := RX6) (T := TX6) (N := 8) hx hb hts hw_X6 hown hK hP 0 rfl rfl 0 (by decide) (hts _ (List.mem_cons_of_mem _ mw_233)) (fun _ h9 => h9) rfl dX6_cave_1 ?_
  obtain ⟨u_4, e_4, hf⟩ := ho_b hf
  have hPc := hP.sub (ws' := (wX3 (a_t 0) a_t_page cI v_t_page)) [1, 2] rfl
  refine vp_callSi (va_runV (As := []) (rest := []) ⟨hx, hb, hml, hown, hts⟩ (c_X3_isCave l dC dI cI cII (a_t 0) a_t_page v_t_page u_4 e_4) (cwV 0 hts (hw_giV mw_300 mw_301 mw_302 mw_54 mw_303) rfl rfl rfl (by decide +kernel) ⟨Nat.le_of_ble_eq_true rfl, Nat.le_of_ble_eq_true rfl⟩) ⟨pB_blind, va_recv hK hPc (ci := 3) (q0 := 0) rfl rfl, fun U hU hW => ⟨rfl, pB_go hPc hK hN hU hW⟩⟩ rfl rfl hl.1 rfl (lv_room (Nat.le_of_ble_eq_true rfl)) dX6_cave_4 ⟨Nat.zero_le _, Nat.zero_le _⟩).run (fun z_4 ez_4 => ?_)
  subst ez_4
  refine lv_if_ne (tgt := 13) hx hb dX6_cave_7 (by decide) (fun c_7 => ?_) (fun c_7 => ?_)
  · have hf := ho_f hf c_7
    refine lv_aload_n hx hb dX6_cave_13 rfl (lv_at hl 0 rfl) ?_
    refine va_get (D := (dC, dI)) (ci := 6) (v := .ref (a_t 1)) (C := RX6) (T := TX6) (N := 8) hx hb hts hw_X6 hown hK hP 0 rfl rfl 1 (by decide) (hts _ (List.mem_cons_of_mem _ mw_234)) (fun _ h9 => h9) rfl dX6_cave_14 ?_
    refine lv_aload_n hx hb dX6_cave_17 rfl (lv_at hl 0 rfl) ?_
    refine va_get (D := (dC, dI)) (ci := 6) (v := .ref (a_t 0)) (C := RX6) (T := TX6) (N := 8) hx hb hts hw_X6 hown hK hP 0 rfl rfl 0 (by decide) (hts _ (List.mem_cons_of_mem _ mw_233)) (fun _ h9 => h9) rfl dX6_cave_18 ?_
    obtain ⟨u_21, e_21, hf⟩ := ho_b hf
    have hPc := hP.sub (ws' := (wX1 (a_t 1) a_t_now cI v_t_now ++ (wX3 (a_t 0) a_t_page cI v_t_page ++ (wX4 (a_t_now 3) a_t_now_seen cI v_t_now_seen)))) [3, 4, 5, 6, 1, 2, 7, 8, 9] rfl
    have hDc := hD.sub (ws' := (wX1 (a_t 1) a_t_now cI v_t_now ++ (wX3 (a_t 0) a_t_page cI v_t_page ++ (wX4 (a_t_now 3) a_t_now_seen cI v_t_now_seen)))) [3, 4, 5, 6, 1, 2, 7, 8, 9] (by decide) rfl
    have hFc := va_free (wc := (wX1 (a_t 1) a_t_now cI v_t_now ++ (wX3 (a_t 0) a_t_page cI v_t_page ++ (wX4 (a_t_now 3) a_t_now_seen cI v_t_now_seen)))) hD hS hA [3, 4, 5, 6, 1, 2, 7, 8, 9] rfl
    refine va_callv (va_runV (As := [.ref (a_t 0)]) (rest := []) ⟨hx, hb, hml, hown, hts⟩ (c_X1_read l dC dI cI cII (a_t 1) a_t_now (a_t 0) a_t_page a_t_now_seen v_t_now v_t_page v_t_now_seen _ u_21 e_21) (cwV 1 hts (hw_giV mw_305 mw_306 mw_307 mw_55 mw_308) rfl rfl rfl (by decide +kernel) ⟨Nat.le_of_ble_eq_true rfl, Nat.le_of_ble_eq_true rfl⟩) ⟨qB_blind, va_recv hK hPc (ci := 1) (q0 := 0) rfl rfl, fun U hU hW => ⟨rfl, qB_go hPc hDc hK hN hU hW⟩⟩ rfl rfl hl.1 rfl (lv_room (Nat.le_of_ble_eq_true rfl)) dX6_cave_21 ⟨Nat.zero_le _, Nat.zero_le _⟩) hS (fun q _ h => hFc q h) hFc (fun u t H1 locs ht hvm hw hB hz1 hk1 hS => ?_)
    obtain ⟨hP1, hD1⟩ := hB
    rw [ht] at hP1
    obtain ⟨hP, hD⟩ := va_join (wr := (wX6 o_t a_t cI v_t)) (w1 := (wX1 (a_t 1) a_t_now cI u_21.1 ++ (wX3 (a_t 0) a_t_page cI v_t_page ++ (wX4 (a_t_now 3) a_t_now_seen cI u_21.2)))) hP hD [3, 4, 5, 6, 1, 2, 7, 8, 9] [0] rfl rfl (by decide) (by decide) hk1 hFc hP1 hD1
    generalize H1 = H at hP hS ⊢
    have hP : va_P (dC, dI) vwCl (wX6 o_t a_t cI v_t ++ (wX3 (a_t 0) a_t_page cI v_t_page ++ (wX1 (a_t 1) a_t_now cI u_21.1 ++ (wX4 (a_t_now 3) a_t_now_seen cI u_21.2)))) H := hP.sub [0, 5, 6, 1, 2, 3, 4, 7, 8, 9] rfl
    have hD : va_D A (wX6 o_t a_t cI v_t ++ (wX3 (a_t 0) a_t_page cI v_t_page ++ (wX1 (a_t 1) a_t_now cI u_21.1 ++ (wX4 (a_t_now 3) a_t_now_seen cI u_21.2)))) := hD.sub [0, 5, 6, 1, 2, 3, 4, 7, 8, 9] (by decide) rfl
    refine lv_aload_n hx hb dX6_cave_24 rfl (lv_at hl 0 rfl) ?_
    refine va_get (D := (dC, dI)) (ci := 6) (v := .ref (a_t 0)) (C := RX6) (T := TX6) (N := 8) hx hb hts hw_X6 hown hK hP 0 rfl rfl 0 (by decide) (hts _ (List.mem_cons_of_mem _ mw_233)) (fun _ h9 => h9) rfl dX6_cave_25 ?_
    refine lv_iconst (v := 0) hx hb dX6_cave_28 (by decide) ?_
    refine va_put (D := (dC, dI)) (ci := 3) (v := .int 0) (ty := .int) (C := RX3) (T := TX3) (N := 2) hx hb hts hw_X3 tyX3 tyX3_ok nmX3 hown hK hP hD hS 1 rfl rfl 1 (by decide) (hts _ (List.mem_cons_of_mem _ mw_82)) (fun _ h9 => h9) rfl (by decide +kernel) rfl rfl (Nat.le_of_ble_eq_true rfl) dX6_cave_29 (fun H locs hP hD hS => ?_)
    have hP : va_P (dC, dI) vwCl (wX6 o_t a_t cI v_t ++ (wX3 (a_t 0) a_t_page cI (oF v_t_page 1 0) ++ (wX1 (a_t 1) a_t_now cI u_21.1 ++ (wX4 (a_t_now 3) a_t_now_seen cI u_21.2)))) H := hP
    have hD : va_D A (wX6 o_t a_t cI v_t ++ (wX3 (a_t 0) a_t_page cI (oF v_t_page 1 0) ++ (wX1 (a_t 1) a_t_now cI u_21.1 ++ (wX4 (a_t_now 3) a_t_now_seen cI u_21.2)))) := hD
    obtain ⟨v_t_page_29, e_v_t_page_29⟩ : ∃ z : obV, z = (oF v_t_page 1 0) := ⟨_, rfl⟩
    rw [← e_v_t_page_29] at hP hD
    have hf := ho_l hf v_t_page_29 e_v_t_page_29
    refine lv_aload_n hx hb dX6_cave_32 rfl (lv_at hl 0 rfl) ?_
    refine lv_iconst (v := 0) hx hb dX6_cave_33 (by decide) ?_
    refine va_put (D := (dC, dI)) (ci := 6) (v := .int 0) (ty := .boolean) (C := RX6) (T := TX6) (N := 8) hx hb hts hw_X6 tyX6 tyX6_ok nmX6 hown hK hP hD hS 0 rfl rfl 6 (by decide) (hts _ (List.mem_cons_of_mem _ mw_239)) (fun _ h9 => h9) rfl (by decide +kernel) rfl rfl (Nat.le_of_ble_eq_true rfl) dX6_cave_34 (fun H locs hP hD hS => ?_)
    have hP : va_P (dC, dI) vwCl (wX6 o_t a_t cI (oF v_t 6 0) ++ (wX3 (a_t 0) a_t_page cI v_t_page_29 ++ (wX1 (a_t 1) a_t_now cI u_21.1 ++ (wX4 (a_t_now 3) a_t_now_seen cI u_21.2)))) H := hP
    have hD : va_D A (wX6 o_t a_t cI (oF v_t 6 0) ++ (wX3 (a_t 0) a_t_page cI v_t_page_29 ++ (wX1 (a_t 1) a_t_now cI u_21.1 ++ (wX4 (a_t_now 3) a_t_now_seen cI u_21.2)))) := hD
    obtain ⟨v_t_34, e_v_t_34⟩ : ∃ z : obV, z = (oF v_t 6 0) := ⟨_, rfl⟩
    rw [← e_v_t_34] at hP hD
    have hf := ho_l hf v_t_34 e_v_t_34
    refine lv_aload_n hx hb dX6_cave_37 rfl (lv_at hl 0 rfl) ?_
    refine lv_dup hx hb dX6_cave_38 rfl ?_
    refine va_get (D := (dC, dI)) (ci := 6) (v := .int (v_t_34.1 7)) (C := RX6) (T := TX6) (N := 8) hx hb hts hw_X6 hown hK hP 0 rfl rfl 7 (by decide) (hts _ (List.mem_cons_of_mem _ mw_240)) (fun _ h9 => h9) rfl dX6_cave_39 ?_
    refine lv_iconst (v := 1) hx hb dX6_cave_42 (by decide) ?_
    refine lv_iadd hx hb dX6_cave_43 ?_
    refine va_put (D := (dC, dI)) (ci := 6) (v := .int ((v_t_34.1 7) + 1)) (ty := .int) (C := RX6) (T := TX6) (N := 8) hx hb hts hw_X6 tyX6 tyX6_ok nmX6 hown hK hP hD hS 0 rfl rfl 7 (by decide) (hts _ (List.mem_cons_of_mem _ mw_240)) (fun _ h9 => h9) rfl (by decide +kernel) rfl rfl (Nat.le_of_ble_eq_true rfl) dX6_cave_44 (fun H locs hP hD hS => ?_)
    have hP : va_P (dC, dI) vwCl (wX6 o_t a_t cI (oF v_t_34 7 ((v_t_34.1 7) + 1)) ++ (wX3 (a_t 0) a_t_page cI v_t_page_29 ++ (wX1 (a_t 1) a_t_now cI u_21.1 ++ (wX4 (a_t_now 3) a_t_now_seen cI u_21.2)))) H := hP
    have hD : va_D A (wX6 o_t a_t cI (oF v_t_34 7 ((v_t_34.1 7) + 1)) ++ (wX3 (a_t 0) a_t_page cI v_t_page_29 ++ (wX1 (a_t 1) a_t_now cI u_21.1 ++ (wX4 (a_t_now 3) a_t_now_seen cI u_21.2)))) := hD
    obtain ⟨v_t_44, e_v_t_44⟩ : ∃ z : obV, z = (oF v_t_34 7 ((v_t_34.1 7) + 1)) := ⟨_, rfl⟩
    rw [← e_v_t_44] at hP hD
    have hf := ho_l hf v_t_44 e_v_t_44
    refine lv_aload_n hx hb dX6_cave_47 rfl (lv_at hl 0 rfl) ?_
    refine va_get (D := (dC, dI)) (ci := 6) (v := .ref (a_t 1)) (C := RX6) (T := TX6) (N := 8) hx hb hts hw_X6 hown hK hP 0 rfl rfl 1 (by decide) (hts _ (List.mem_cons_of_mem _ mw_234)) (fun _ h9 => h9) rfl dX6_cave_48 ?_
    refine va_get (D := (dC, dI)) (ci := 1) (v := .int (u_21.1.1 4)) (C := RX1) (T := TX1) (N := 7) hx hb hts hw_X1 hown hK hP 3 rfl rfl 4 (by decide) (hts _ (List.mem_cons_of_mem _ mw_126)) (fun _ h9 => h9) rfl dX6_cave_51 ?_
    obtain rfl := Option.some.inj hf
    exact W.iret (v := (u_21.1.1 4)) hx hb hr (fun t ht hW => ⟨⟨_, (), rfl, rfl, by rw [ht]; exact hP, hD⟩, hS.F ht⟩) hS.2.2 dX6_cave_54 hlocks
  · have hf := ho_t hf c_7
    refine lv_bipush (v := (-103)) hx hb dX6_cave_10 (by decide) ?_
    obtain rfl := Option.some.inj hf
    exact W.iret (v := (-103)) hx hb hr (fun t ht hW => ⟨⟨_, (), rfl, rfl, by rw [ht]; exact hP, hD⟩, hS.F ht⟩) hS.2.2 dX6_cave_12 hlocks
set_option maxHeartbeats 4000000 in
set_option maxRecDepth 100000 in
theorem c_X6_tellPilgrim (l : Launch) (dC : Nat → ClassId) (dI : Nat → Nat → Nat) (cI cII : ClassId) (o_t : Nat) (a_t : Nat → Nat) (a_t_trials : Nat → Nat) (r_t_trials : Nat → Nat) (a_t_now : Nat → Nat) (a_t_now_seen : Nat → Nat) (a_t_today : Nat → Nat) (v_t : obV) (v_t_trials : obV) (w_t_trials : Nat → Nat → Int32) (v_t_now : obV) (v_t_now_seen : obV) (v_t_today : obV) (x1 : Int32) (x2 : Int32) (sz : Nat) (r : Int32 × obV) (hf : f_X6_tellPilgrim  v_t_trials w_t_trials v_t_now v_t_now_seen v_t_today x1 x2 = some r) :
    Met l yX6_tellPilgrim (wd yX6_tellPilgrim cX6_tellPilgrim 3 (some .int)) ({ frames := 3, cells := 0, slots := 0, locals := 71 } : Room) (va_Pc [.ref o_t, .int x1, .int x2] (qB (dC, dI) vwCl (wX6 o_t a_t cI v_t ++ (wX5 (a_t 4) a_t_trials r_t_trials cI cII v_t_trials w_t_trials ++ (wX1 (a_t 1) a_t_now cI v_t_now ++ (wX4 (a_t_now 3) a_t_now_seen cI v_t_now_seen ++ (wX2 (a_t 3) a_t_today cI v_t_today))))) (hTY cI cII) sz)) (va_Qi (fun (z : Int32) (_ : Unit) => r.1 = z) (fun _ t => va_P (dC, dI) vwCl (wX6 o_t a_t cI v_t ++ (wX5 (a_t 4) a_t_trials r_t_trials cI cII r.2 w_t_trials ++ (wX1 (a_t 1) a_t_now cI v_t_now ++ (wX4 (a_t_now 3) a_t_now_seen cI v_t_now_seen ++ (wX2 (a_t 3) a_t_today cI v_t_today))))) t.heap ∧ va_D (va_A (wX6 o_t a_t cI v_t ++ (wX5 (a_t 4) a_t_trials r_t_trials cI cII v_t_trials w_t_trials ++ (wX1 (a_t 1) a_t_now cI v_t_now ++ (wX4 (a_t_now 3) a_t_now_seen cI v_t_now_seen ++ (wX2 (a_t 3) a_t_today cI v_t_today))))) sz) (wX6 o_t a_t cI v_t ++ (wX5 (a_t 4) a_t_trials r_t_trials cI cII r.2 w_t_trials ++ (wX1 (a_t 1) a_t_now cI v_t_now ++ (wX4 (a_t_now 3) a_t_now_seen cI v_t_now_seen ++ (wX2 (a_t 3) a_t_today cI v_t_today)))))) (va_A (wX6 o_t a_t cI v_t ++ (wX5 (a_t 4) a_t_trials r_t_trials cI cII v_t_trials w_t_trials ++ (wX1 (a_t 1) a_t_now cI v_t_now ++ (wX4 (a_t_now 3) a_t_now_seen cI v_t_now_seen ++ (wX2 (a_t 3) a_t_today cI v_t_today))))) sz)) 0 0 (va_A (wX6 o_t a_t cI v_t ++ (wX5 (a_t 4) a_t_trials r_t_trials cI cII v_t_trials w_t_trials ++ (wX1 (a_t 1) a_t_now cI v_t_now ++ (wX4 (a_t_now 3) a_t_now_seen cI v_t_now_seen ++ (wX2 (a_t 3) a_t_today cI v_t_today))))) sz) := by
  refine Met.ofW (cc := cX6_tellPilgrim) (maxL := 3) (ret := (some .int)) (by decide) rfl ?_
  intro p e s m args below meth c s₁ B hml hv
  obtain ⟨rfl, hsz, hD0, hP, hK, hN⟩ := hv
  have hx := B.exec
  have hb := B.bytes
  have hr := B.returns
  have hts := atoms_spec (ws := (wd yX6_tellPilgrim cX6_tellPilgrim 3 (some .int))) B.pre
  have hown : s.vm.findClass RX6 = some m.cls := findClass_of_methodNamed B.named
  have hlocks := B.notSynchronized
  subst hsz
  have hD := hD0.self (sz := s.heap.size)
  generalize hAe : va_A (wX6 o_t a_t cI v_t ++ (wX5 (a_t 4) a_t_trials r_t_trials cI cII v_t_trials w_t_trials ++ (wX1 (a_t 1) a_t_now cI v_t_now ++ (wX4 (a_t_now 3) a_t_now_seen cI v_t_now_seen ++ (wX2 (a_t 3) a_t_today cI v_t_today))))) s.heap.size = A at hD ⊢
  have hA : ∀ q : Nat, s.heap.size ≤ q → A q := fun q h => by rw [← hAe]; exact Or.inr h
  have hS : va_S A s.heap s.heap [] := va_S.rf
  have hl := lv_entry ([.ref o_t, .int x1, .int x2]) (n := 3) (Nat.le_of_ble_eq_true rfl)
  rw [lg_entry_eq]
  generalize (lg_sl ([.ref o_t, .int x1, .int x2]) ++ List.replicate (3 - (lg_sl ([.ref o_t, .int x1, .int x2])).length) Slot.unset).toArray = ls at hl ⊢
  have hl : lv_has ls 3 [(0, .ref o_t), (1, .int x1), (2, .int x2)] := hl
  clear hAe hD0
  unfold f_X6_tellPilgrim at hf
  refine lv_iload_n hx hb dX6_tellPilgrim_0 rfl (lv_at hl 2 rfl) ?_
  by_cases c_1_0 : x2 = 0
  · have hf := ho_t hf c_1_0
    refine lv_tableIn (tgt := 52) hx hb dX6_tellPilgrim_1 (by rw [c_1_0] <;> decide) (by rw [c_1_0] <;> decide) (by rw [c_1_0] <;> rfl) (by decide) ?_
    refine lv_aload_n hx hb dX6_tellPilgrim_52 rfl (lv_at hl 0 rfl) ?_
    refine va_get (D := (dC, dI)) (ci := 6) (v := .ref (a_t 1)) (C := RX6) (T := TX6) (N := 8) hx hb hts hw_X6 hown hK hP 0 rfl rfl 1 (by decide) (hts _ (List.mem_cons_of_mem _ mw_234)) (fun _ h9 => h9) rfl dX6_tellPilgrim_53 ?_
    refine va_get (D := (dC, dI)) (ci := 1) (v := .ref (a_t_now 0)) (C := RX1) (T := TX1) (N := 7) hx hb hts hw_X1 hown hK hP 15 rfl rfl 0 (by decide) (hts _ (List.mem_cons_of_mem _ mw_114)) (fun _ h9 => h9) rfl dX6_tellPilgrim_56 ?_
    refine lv_iload_n hx hb dX6_tellPilgrim_59 rfl (lv_at hl 1 rfl) ?_
    obtain ⟨h_60, hf⟩ := ho_g hf
    refine va_iald (n := 5) (f := (v_t_now.2 0)) hx hb hK hP 16 0 rfl rfl h_60 dX6_tellPilgrim_60 ?_
    obtain rfl := Option.some.inj hf
    exact W.iret (v := ((v_t_now.2 0) (Int32.toNatClampNeg x1))) hx hb hr (fun t ht hW => ⟨⟨_, (), rfl, rfl, by rw [ht]; exact hP, hD⟩, hS.F ht⟩) hS.2.2 dX6_tellPilgrim_61 hlocks
  have hf := ho_f hf c_1_0
  by_cases c_1_1 : x2 = 1
  · have hf := ho_t hf c_1_1
    refine lv_tableIn (tgt := 62) hx hb dX6_tellPilgrim_1 (by rw [c_1_1] <;> decide) (by rw [c_1_1] <;> decide) (by rw [c_1_1] <;> rfl) (by decide) ?_
    refine lv_aload_n hx hb dX6_tellPilgrim_62 rfl (lv_at hl 0 rfl) ?_
    refine va_get (D := (dC, dI)) (ci := 6) (v := .ref (a_t 1)) (C := RX6) (T := TX6) (N := 8) hx hb hts hw_X6 hown hK hP 0 rfl rfl 1 (by decide) (hts _ (List.mem_cons_of_mem _ mw_234)) (fun _ h9 => h9) rfl dX6_tellPilgrim_63 ?_
    refine va_get (D := (dC, dI)) (ci := 1) (v := .ref (a_t_now 1)) (C := RX1) (T := TX1) (N := 7) hx hb hts hw_X1 hown hK hP 15 rfl rfl 1 (by decide) (hts _ (List.mem_cons_of_mem _ mw_117)) (fun _ h9 => h9) rfl dX6_tellPilgrim_66 ?_
    refine lv_iload_n hx hb dX6_tellPilgrim_69 rfl (lv_at hl 1 rfl) ?_
    obtain ⟨h_70, hf⟩ := ho_g hf
    refine va_iald (n := 5) (f := (v_t_now.2 1)) hx hb hK hP 17 0 rfl rfl h_70 dX6_tellPilgrim_70 ?_
    obtain rfl := Option.some.inj hf
    exact W.iret (v := ((v_t_now.2 1) (Int32.toNatClampNeg x1))) hx hb hr (fun t ht hW => ⟨⟨_, (), rfl, rfl, by rw [ht]; exact hP, hD⟩, hS.F ht⟩) hS.2.2 dX6_tellPilgrim_71 hlocks
  have hf := ho_f hf c_1_1
  by_cases c_1_2 : x2 = 2
  · have hf := ho_t hf c_1_2
    refine lv_tableIn (tgt := 72) hx hb dX6_tellPilgrim_1 (by rw [c_1_2] <;> decide) (by rw [c_1_2] <;> decide) (by rw [c_1_2] <;> rfl) (by decide) ?_
    refine lv_aload_n hx hb dX6_tellPilgrim_72 rfl (lv_at hl 0 rfl) ?_
    refine va_get (D := (dC, dI)) (ci := 6) (v := .ref (a_t 1)) (C := RX6) (T := TX6) (N := 8) hx hb hts hw_X6 hown hK hP 0 rfl rfl 1 (by decide) (hts _ (List.mem_cons_of_mem _ mw_234)) (fun _ h9 => h9) rfl dX6_tellPilgrim_73 ?_
    refine va_get (D := (dC, dI)) (ci := 1) (v := .ref (a_t_now 2)) (C := RX1) (T := TX1) (N := 7) hx hb hts hw_X1 hown hK hP 15 rfl rfl 2 (by decide) (hts _ (List.mem_cons_of_mem _ mw_121)) (fun _ h9 => h9) rfl dX6_tellPilgrim_76 ?_
    refine lv_iload_n hx hb dX6_tellPilgrim_79 rfl (lv_at hl 1 rfl) ?_
    obtain ⟨h_80, hf⟩ := ho_g hf
    refine va_iald (n := 5) (f := (v_t_now.2 2)) hx hb hK hP 18 0 rfl rfl h_80 dX6_tellPilgrim_80 ?_
    obtain rfl := Option.some.inj hf
    exact W.iret (v := ((v_t_now.2 2) (Int32.toNatClampNeg x1))) hx hb hr (fun t ht hW => ⟨⟨_, (), rfl, rfl, by rw [ht]; exact hP, hD⟩, hS.F ht⟩) hS.2.2 dX6_tellPilgrim_81 hlocks
  have hf := ho_f hf c_1_2
  by_cases c_1_3 : x2 = 3
  · have hf := ho_t hf c_1_3
    refine lv_tableIn (tgt := 82) hx hb dX6_tellPilgrim_1 (by rw [c_1_3] <;> decide) (by rw [c_1_3] <;> decide) (by rw [c_1_3] <;> rfl) (by decide) ?_
    refine lv_aload_n hx hb dX6_tellPilgrim_82 rfl (lv_at hl 0 rfl) ?_
    refine va_get (D := (dC, dI)) (ci := 6) (v := .ref (a_t 1)) (C := RX6) (T := TX6) (N := 8) hx hb hts hw_X6 hown hK hP 0 rfl rfl 1 (by decide) (hts _ (List.mem_cons_of_mem _ mw_234)) (fun _ h9 => h9) rfl dX6_tellPilgrim_83 ?_
    refine lv_iload_n hx hb dX6_tellPilgrim_86 rfl (lv_at hl 1 rfl) ?_
    obtain ⟨u_87, e_87, hf⟩ := ho_b hf
    have hPc := hP.sub (ws' := (wX1 (a_t 1) a_t_now cI v_t_now)) [15, 16, 17, 18] rfl
    refine vp_callSi (va_runV (As := [.int x1]) (rest := []) ⟨hx, hb, hml, hown, hts⟩ (c_X1_stays l dC dI cI cII (a_t 1) a_t_now v_t_now (x1) u_87 e_87) (cwV 1 hts (hw_giV mw_395 mw_373 mw_374 mw_55 mw_375) rfl rfl rfl (by decide +kernel) ⟨Nat.le_of_ble_eq_true rfl, Nat.le_of_ble_eq_true rfl⟩) ⟨pB_blind, va_recv hK hPc (ci := 1) (q0 := 0) rfl rfl, fun U hU hW => ⟨rfl, pB_go hPc hK hN hU hW⟩⟩ rfl rfl hl.1 rfl (lv_room (Nat.le_of_ble_eq_true rfl)) dX6_tellPilgrim_87 ⟨Nat.zero_le _, Nat.zero_le _⟩).run (fun z_87 ez_87 => ?_)
    subst ez_87
    obtain rfl := Option.some.inj hf
    exact W.iret (v := u_87) hx hb hr (fun t ht hW => ⟨⟨_, (), rfl, rfl, by rw [ht]; exact hP, hD⟩, hS.F ht⟩) hS.2.2 dX6_tellPilgrim_90 hlocks
  have hf := ho_f hf c_1_3
  by_cases c_1_4 : x2 = 4
  · have hf := ho_t hf c_1_4
    refine lv_tableIn (tgt := 91) hx hb dX6_tellPilgrim_1 (by rw [c_1_4] <;> decide) (by rw [c_1_4] <;> decide) (by rw [c_1_4] <;> rfl) (by decide) ?_
    refine lv_aload_n hx hb dX6_tellPilgrim_91 rfl (lv_at hl 0 rfl) ?_
    refine va_get (D := (dC, dI)) (ci := 6) (v := .ref (a_t 1)) (C := RX6) (T := TX6) (N := 8) hx hb hts hw_X6 hown hK hP 0 rfl rfl 1 (by decide) (hts _ (List.mem_cons_of_mem _ mw_234)) (fun _ h9 => h9) rfl dX6_tellPilgrim_92 ?_
    refine lv_iload_n hx hb dX6_tellPilgrim_95 rfl (lv_at hl 1 rfl) ?_
    obtain ⟨u_96, e_96, hf⟩ := ho_b hf
    have hPc := hP.sub (ws' := (wX1 (a_t 1) a_t_now cI v_t_now)) [15, 16, 17, 18] rfl
    refine vp_callSi (va_runV (As := [.int x1]) (rest := []) ⟨hx, hb, hml, hown, hts⟩ (c_X1_wears l dC dI cI cII (a_t 1) a_t_now v_t_now (x1) u_96 e_96) (cwV 1 hts (hw_giV mw_396 mw_358 mw_359 mw_55 mw_360) rfl rfl rfl (by decide +kernel) ⟨Nat.le_of_ble_eq_true rfl, Nat.le_of_ble_eq_true rfl⟩) ⟨pB_blind, va_recv hK hPc (ci := 1) (q0 := 0) rfl rfl, fun U hU hW => ⟨rfl, pB_go hPc hK hN hU hW⟩⟩ rfl rfl hl.1 rfl (lv_room (Nat.le_of_ble_eq_true rfl)) dX6_tellPilgrim_96 ⟨Nat.zero_le _, Nat.zero_le _⟩).run (fun z_96 ez_96 => ?_)
    subst ez_96
    obtain rfl := Option.some.inj hf
    exact W.iret (v := u_96) hx hb hr (fun t ht hW => ⟨⟨_, (), rfl, rfl, by rw [ht]; exact hP, hD⟩, hS.F ht⟩) hS.2.2 dX6_tellPilgrim_99 hlocks
  have hf := ho_f hf c_1_4
  by_cases c_1_5 : x2 = 5
  · have hf := ho_t hf c_1_5
    refine lv_tableIn (tgt := 100) hx hb dX6_tellPilgrim_1 (by rw [c_1_5] <;> decide) (by rw [c_1_5] <;> decide) (by rw [c_1_5] <;> rfl) (by decide) ?_
    refine lv_aload_n hx hb dX6_tellPilgrim_100 rfl (lv_at hl 0 rfl) ?_
    refine va_get (D := (dC, dI)) (ci := 6) (v := .ref (a_t 3)) (C := RX6) (T := TX6) (N := 8) hx hb hts hw_X6 hown hK hP 0 rfl rfl 3 (by decide) (hts _ (List.mem_cons_of_mem _ mw_236)) (fun _ h9 => h9) rfl dX6_tellPilgrim_101 ?_
    refine va_get (D := (dC, dI)) (ci := 2) (v := .ref (a_t_today 1)) (C := RX2) (T := TX2) (N := 8) hx hb hts hw_X2 hown hK hP 22 rfl rfl 1 (by decide) (hts _ (List.mem_cons_of_mem _ mw_159)) (fun _ h9 => h9) rfl dX6_tellPilgrim_104 ?_
    refine lv_iload_n hx hb dX6_tellPilgrim_107 rfl (lv_at hl 1 rfl) ?_
    obtain ⟨h_108, hf⟩ := ho_g hf
    refine va_iald (n := 5) (f := (v_t_today.2 1)) hx hb hK hP 24 0 rfl rfl h_108 dX6_tellPilgrim_108 ?_
    obtain rfl := Option.some.inj hf
    exact W.iret (v := ((v_t_today.2 1) (Int32.toNatClampNeg x1))) hx hb hr (fun t ht hW => ⟨⟨_, (), rfl, rfl, by rw [ht]; exact hP, hD⟩, hS.F ht⟩) hS.2.2 dX6_tellPilgrim_109 hlocks
  have hf := ho_f hf c_1_5
  by_cases c_1_6 : x2 = 6
  · have hf := ho_t hf c_1_6
    refine lv_tableIn (tgt := 110) hx hb dX6_tellPilgrim_1 (by rw [c_1_6] <;> decide) (by rw [c_1_6] <;> decide) (by rw [c_1_6] <;> rfl) (by decide) ?_
    refine lv_aload_n hx hb dX6_tellPilgrim_110 rfl (lv_at hl 0 rfl) ?_
    refine va_get (D := (dC, dI)) (ci := 6) (v := .ref (a_t 3)) (C := RX6) (T := TX6) (N := 8) hx hb hts hw_X6 hown hK hP 0 rfl rfl 3 (by decide) (hts _ (List.mem_cons_of_mem _ mw_236)) (fun _ h9 => h9) rfl dX6_tellPilgrim_111 ?_
    refine lv_iload_n hx hb dX6_tellPilgrim_114 rfl (lv_at hl 1 rfl) ?_
    obtain ⟨u_115, e_115, hf⟩ := ho_b hf
    have hPc := hP.sub (ws' := (wX2 (a_t 3) a_t_today cI v_t_today)) [22, 23, 24, 25, 26] rfl
    refine vp_callSi (va_runV (As := [.int x1]) (rest := []) ⟨hx, hb, hml, hown, hts⟩ (c_X2_slotsWaited l dC dI cI cII (a_t 3) a_t_today v_t_today (x1) u_115 e_115) (cwV 1 hts (hw_giV mw_397 mw_398 mw_399 mw_57 mw_400) rfl rfl rfl (by decide +kernel) ⟨Nat.le_of_ble_eq_true rfl, Nat.le_of_ble_eq_true rfl⟩) ⟨pB_blind, va_recv hK hPc (ci := 2) (q0 := 0) rfl rfl, fun U hU hW => ⟨rfl, pB_go hPc hK hN hU hW⟩⟩ rfl rfl hl.1 rfl (lv_room (Nat.le_of_ble_eq_true rfl)) dX6_tellPilgrim_115 ⟨Nat.zero_le _, Nat.zero_le _⟩).run (fun z_115 ez_115 => ?_)
    subst ez_115
    obtain rfl := Option.some.inj hf
    exact W.iret (v := u_115) hx hb hr (fun t ht hW => ⟨⟨_, (), rfl, rfl, by rw [ht]; exact hP, hD⟩, hS.F ht⟩) hS.2.2 dX6_tellPilgrim_118 hlocks
  have hf := ho_f hf c_1_6
  by_cases c_1_7 : x2 = 7
  · have hf := ho_t hf c_1_7
    refine lv_tableIn (tgt := 119) hx hb dX6_tellPilgrim_1 (by rw [c_1_7] <;> decide) (by rw [c_1_7] <;> decide) (by rw [c_1_7] <;> rfl) (by decide) ?_
    refine lv_aload_n hx hb dX6_tellPilgrim_119 rfl (lv_at hl 0 rfl) ?_
    refine va_get (D := (dC, dI)) (ci := 6) (v := .ref (a_t 3)) (C := RX6) (T := TX6) (N := 8) hx hb hts hw_X6 hown hK hP 0 rfl rfl 3 (by decide) (hts _ (List.mem_cons_of_mem _ mw_236)) (fun _ h9 => h9) rfl dX6_tellPilgrim_120 ?_
    refine va_get (D := (dC, dI)) (ci := 2) (v := .ref (a_t_today 2)) (C := RX2) (T := TX2) (N := 8) hx hb hts hw_X2 hown hK hP 22 rfl rfl 2 (by decide) (hts _ (List.mem_cons_of_mem _ mw_161)) (fun _ h9 => h9) rfl dX6_tellPilgrim_123 ?_
    refine lv_iload_n hx hb dX6_tellPilgrim_126 rfl (lv_at hl 1 rfl) ?_
    obtain ⟨h_127, hf⟩ := ho_g hf
    refine va_iald (n := 5) (f := (v_t_today.2 2)) hx hb hK hP 25 0 rfl rfl h_127 dX6_tellPilgrim_127 ?_
    obtain rfl := Option.some.inj hf
    exact W.iret (v := ((v_t_today.2 2) (Int32.toNatClampNeg x1))) hx hb hr (fun t ht hW => ⟨⟨_, (), rfl, rfl, by rw [ht]; exact hP, hD⟩, hS.F ht⟩) hS.2.2 dX6_tellPilgrim_128 hlocks
  have hf := ho_f hf c_1_7
  by_cases c_1_8 : x2 = 8
  · have hf := ho_t hf c_1_8
    refine lv_tableIn (tgt := 129) hx hb dX6_tellPilgrim_1 (by rw [c_1_8] <;> decide) (by rw [c_1_8] <;> decide) (by rw [c_1_8] <;> rfl) (by decide) ?_
    refine lv_aload_n hx hb dX6_tellPilgrim_129 rfl (lv_at hl 0 rfl) ?_
    refine va_get (D := (dC, dI)) (ci := 6) (v := .ref (a_t 4)) (C := RX6) (T := TX6) (N := 8) hx hb hts hw_X6 hown hK hP 0 rfl rfl 4 (by decide) (hts _ (List.mem_cons_of_mem _ mw_237)) (fun _ h9 => h9) rfl dX6_tellPilgrim_130 ?_
    refine lv_aload_n hx hb dX6_tellPilgrim_133 rfl (lv_at hl 0 rfl) ?_
    refine va_get (D := (dC, dI)) (ci := 6) (v := .ref (a_t 1)) (C := RX6) (T := TX6) (N := 8) hx hb hts hw_X6 hown hK hP 0 rfl rfl 1 (by decide) (hts _ (List.mem_cons_of_mem _ mw_234)) (fun _ h9 => h9) rfl dX6_tellPilgrim_134 ?_
    refine va_get (D := (dC, dI)) (ci := 1) (v := .ref (a_t_now 3)) (C := RX1) (T := TX1) (N := 7) hx hb hts hw_X1 hown hK hP 15 rfl rfl 3 (by decide) (hts _ (List.mem_cons_of_mem _ mw_123)) (fun _ h9 => h9) rfl dX6_tellPilgrim_137 ?_
    obtain ⟨u_140, e_140, hf⟩ := ho_b hf
    have hPc := hP.sub (ws' := (wX5 (a_t 4) a_t_trials r_t_trials cI cII v_t_trials w_t_trials ++ (wX4 (a_t_now 3) a_t_now_seen cI v_t_now_seen))) [1, 2, 3, 4, 5, 6, 7, 8, 9, 10, 11, 12, 13, 14, 19, 20, 21] rfl
    refine vp_callSi (va_runV (As := [.ref (a_t_now 3)]) (rest := []) ⟨hx, hb, hml, hown, hts⟩ (c_X5_possible l dC dI cI cII (a_t 4) a_t_trials r_t_trials (a_t_now 3) a_t_now_seen v_t_trials w_t_trials v_t_now_seen u_140 e_140) (cwV 1 hts (hw_giV mw_401 mw_402 mw_403 mw_58 mw_404) rfl rfl rfl (by decide +kernel) ⟨Nat.le_of_ble_eq_true rfl, Nat.le_of_ble_eq_true rfl⟩) ⟨pB_blind, va_recv hK hPc (ci := 5) (q0 := 0) rfl rfl, fun U hU hW => ⟨rfl, pB_go hPc hK hN hU hW⟩⟩ rfl rfl hl.1 rfl (lv_room (Nat.le_of_ble_eq_true rfl)) dX6_tellPilgrim_140 ⟨Nat.zero_le _, Nat.zero_le _⟩).run (fun z_140 ez_140 => ?_)
    subst ez_140
    obtain rfl := Option.some.inj hf
    exact W.iret (v := u_140) hx hb hr (fun t ht hW => ⟨⟨_, (), rfl, rfl, by rw [ht]; exact hP, hD⟩, hS.F ht⟩) hS.2.2 dX6_tellPilgrim_143 hlocks
  have hf := ho_f hf c_1_8
  refine lv_tableOut (tgt := 144) hx hb dX6_tellPilgrim_1 (by have e0 := lv_neT c_1_0 (a := 0) (by decide); have e1 := lv_neT c_1_1 (a := 1) (by decide); have e2 := lv_neT c_1_2 (a := 2) (by decide); have e3 := lv_neT c_1_3 (a := 3) (by decide); have e4 := lv_neT c_1_4 (a := 4) (by decide); have e5 := lv_neT c_1_5 (a := 5) (by decide); have e6 := lv_neT c_1_6 (a := 6) (by decide); have e7 := lv_neT c_1_7 (a := 7) (by decide); have e8 := lv_neT c_1_8 (a := 8) (by decide); omega) (by decide) ?_
  refine lv_aload_n hx hb dX6_tellPilgrim_144 rfl (lv_at hl 0 rfl) ?_
  refine va_get (D := (dC, dI)) (ci := 6) (v := .ref (a_t 4)) (C := RX6) (T := TX6) (N := 8) hx hb hts hw_X6 hown hK hP 0 rfl rfl 4 (by decide) (hts _ (List.mem_cons_of_mem _ mw_237)) (fun _ h9 => h9) rfl dX6_tellPilgrim_145 ?_
  refine lv_aload_n hx hb dX6_tellPilgrim_148 rfl (lv_at hl 0 rfl) ?_
  refine va_get (D := (dC, dI)) (ci := 6) (v := .ref (a_t 4)) (C := RX6) (T := TX6) (N := 8) hx hb hts hw_X6 hown hK hP 0 rfl rfl 4 (by decide) (hts _ (List.mem_cons_of_mem _ mw_237)) (fun _ h9 => h9) rfl dX6_tellPilgrim_149 ?_
  refine lv_aload_n hx hb dX6_tellPilgrim_152 rfl (lv_at hl 0 rfl) ?_
  refine va_get (D := (dC, dI)) (ci := 6) (v := .ref (a_t 1)) (C := RX6) (T := TX6) (N := 8) hx hb hts hw_X6 hown hK hP 0 rfl rfl 1 (by decide) (hts _ (List.mem_cons_of_mem _ mw_234)) (fun _ h9 => h9) rfl dX6_tellPilgrim_153 ?_
  refine va_get (D := (dC, dI)) (ci := 1) (v := .ref (a_t_now 3)) (C := RX1) (T := TX1) (N := 7) hx hb hts hw_X1 hown hK hP 15 rfl rfl 3 (by decide) (hts _ (List.mem_cons_of_mem _ mw_123)) (fun _ h9 => h9) rfl dX6_tellPilgrim_156 ?_
  obtain ⟨u_159, e_159, hf⟩ := ho_b hf
  have hPc := hP.sub (ws' := (wX5 (a_t 4) a_t_trials r_t_trials cI cII v_t_trials w_t_trials ++ (wX4 (a_t_now 3) a_t_now_seen cI v_t_now_seen))) [1, 2, 3, 4, 5, 6, 7, 8, 9, 10, 11, 12, 13, 14, 19, 20, 21] rfl
  refine vp_callSi (va_runV (As := [.ref (a_t_now 3)]) (rest := [.ref (a_t 4)]) ⟨hx, hb, hml, hown, hts⟩ (c_X5_possible l dC dI cI cII (a_t 4) a_t_trials r_t_trials (a_t_now 3) a_t_now_seen v_t_trials w_t_trials v_t_now_seen u_159 e_159) (cwV 1 hts (hw_giV mw_401 mw_402 mw_403 mw_58 mw_404) rfl rfl rfl (by decide +kernel) ⟨Nat.le_of_ble_eq_true rfl, Nat.le_of_ble_eq_true rfl⟩) ⟨pB_blind, va_recv hK hPc (ci := 5) (q0 := 0) rfl rfl, fun U hU hW => ⟨rfl, pB_go hPc hK hN hU hW⟩⟩ rfl rfl hl.1 rfl (lv_room (Nat.le_of_ble_eq_true rfl)) dX6_tellPilgrim_159 ⟨Nat.zero_le _, Nat.zero_le _⟩).run (fun z_159 ez_159 => ?_)
  subst ez_159
  obtain ⟨u_162, e_162, hf⟩ := ho_b hf
  have hPc := hP.sub (ws' := (wX5 (a_t 4) a_t_trials r_t_trials cI cII v_t_trials w_t_trials)) [1, 2, 3, 4, 5, 6, 7, 8, 9, 10, 11, 12, 13, 14] rfl
  have hDc := hD.sub (ws' := (wX5 (a_t 4) a_t_trials r_t_trials cI cII v_t_trials w_t_trials)) [1, 2, 3, 4, 5, 6, 7, 8, 9, 10, 11, 12, 13, 14] (by decide) rfl
  have hFc := va_free (wc := (wX5 (a_t 4) a_t_trials r_t_trials cI cII v_t_trials w_t_trials)) hD hS hA [1, 2, 3, 4, 5, 6, 7, 8, 9, 10, 11, 12, 13, 14] rfl
  refine va_calli (va_runV (As := [.int u_159]) (rest := []) ⟨hx, hb, hml, hown, hts⟩ (c_X5_bestLook l dC dI cI cII (a_t 4) a_t_trials r_t_trials v_t_trials w_t_trials (u_159) _ u_162 e_162) (cwV 1 hts (hw_giV mw_409 mw_410 mw_411 mw_58 mw_412) rfl rfl rfl (by decide +kernel) ⟨Nat.le_of_ble_eq_true rfl, Nat.le_of_ble_eq_true rfl⟩) ⟨qB_blind, va_recv hK hPc (ci := 5) (q0 := 0) rfl rfl, fun U hU hW => ⟨rfl, qB_go hPc hDc hK hN hU hW⟩⟩ rfl rfl hl.1 rfl (lv_room (Nat.le_of_ble_eq_true rfl)) dX6_tellPilgrim_162 ⟨Nat.zero_le _, Nat.zero_le _⟩) hS (fun q _ h => hFc q h) hFc (fun z_162 u t H1 locs ht hvm ez_162 hB hz1 hk1 hS => ?_)
  subst ez_162
  obtain ⟨hP1, hD1⟩ := hB
  rw [ht] at hP1
  obtain ⟨hP, hD⟩ := va_join (wr := (wX6 o_t a_t cI v_t ++ (wX1 (a_t 1) a_t_now cI v_t_now ++ (wX4 (a_t_now 3) a_t_now_seen cI v_t_now_seen ++ (wX2 (a_t 3) a_t_today cI v_t_today))))) (w1 := (wX5 (a_t 4) a_t_trials r_t_trials cI cII u_162.2 w_t_trials)) hP hD [1, 2, 3, 4, 5, 6, 7, 8, 9, 10, 11, 12, 13, 14] [0, 15, 16, 17, 18, 19, 20, 21, 22, 23, 24, 25, 26] rfl rfl (by decide) (by decide) hk1 hFc hP1 hD1
  generalize H1 = H at hP hS ⊢
  have hP : va_P (dC, dI) vwCl (wX6 o_t a_t cI v_t ++ (wX5 (a_t 4) a_t_trials r_t_trials cI cII u_162.2 w_t_trials ++ (wX1 (a_t 1) a_t_now cI v_t_now ++ (wX4 (a_t_now 3) a_t_now_seen cI v_t_now_seen ++ (wX2 (a_t 3) a_t_today cI v_t_today))))) H := hP.sub [0, 13, 14, 15, 16, 17, 18, 19, 20, 21, 22, 23, 24, 25, 26, 1, 2, 3, 4, 5, 6, 7, 8, 9, 10, 11, 12] rfl
  have hD : va_D A (wX6 o_t a_t cI v_t ++ (wX5 (a_t 4) a_t_trials r_t_trials cI cII u_162.2 w_t_trials ++ (wX1 (a_t 1) a_t_now cI v_t_now ++ (wX4 (a_t_now 3) a_t_now_seen cI v_t_now_seen ++ (wX2 (a_t 3) a_t_today cI v_t_today))))) := hD.sub [0, 13, 14, 15, 16, 17, 18, 19, 20, 21, 22, 23, 24, 25, 26, 1, 2, 3, 4, 5, 6, 7, 8, 9, 10, 11, 12] (by decide) rfl
  obtain rfl := Option.some.inj hf
  exact W.iret (v := u_162.1) hx hb hr (fun t ht hW => ⟨⟨_, (), rfl, rfl, by rw [ht]; exact hP, hD⟩, hS.F ht⟩) hS.2.2 dX6_tellPilgrim_165 hlocks
set_option maxHeartbeats 4000000 in
set_option maxRecDepth 100000 in
theorem w_X6_pilgrim_b66 {p : Program} {l : Launch} {e : Env} {s : State} {m : MethodId} {args : Array Value} {below : List Frame} {meth : Method} {c : Code} {dC : Nat → ClassId} {dI : Nat → Nat → Nat} {cI cII : ClassId} {o_t : Nat} {a_t : Nat → Nat} {a_t_now : Nat → Nat} {a_t_today : Nat → Nat} {a_t_trials : Nat → Nat} {r_t_trials : Nat → Nat} {a_t_trials_day : Nat → Nat} {a_t_now_seen : Nat → Nat} {A : Nat → Prop} (C0 : hC p s m args meth c dC dI cI cII RX6 cX6_pilgrim 3 (wd yX6_pilgrim cX6_pilgrim 3 (some .int)) (some .int)) (hA : ∀ q, s.heap.size ≤ q → A q) {v_t : obV} {v_t_now : obV} {v_t_today : obV} {v_t_trials : obV} {w_t_trials : Nat → Nat → Int32} {v_t_trials_day : obV} {v_t_now_seen : obV} {x1 : Int32} {x2 : Int32}    {H : Heap} {locs : List Loc} (hP : va_P (dC, dI) vwCl (wX6 o_t a_t cI v_t ++ (wX1 (a_t 1) a_t_now cI v_t_now ++ (wX2 (a_t 3) a_t_today cI v_t_today ++ (wX5 (a_t 4) a_t_trials r_t_trials cI cII v_t_trials w_t_trials ++ (wX2 (a_t_trials 0) a_t_trials_day cI v_t_trials_day ++ (wX4 (a_t_now 3) a_t_now_seen cI v_t_now_seen)))))) H) (hD : va_D A (wX6 o_t a_t cI v_t ++ (wX1 (a_t 1) a_t_now cI v_t_now ++ (wX2 (a_t 3) a_t_today cI v_t_today ++ (wX5 (a_t 4) a_t_trials r_t_trials cI cII v_t_trials w_t_trials ++ (wX2 (a_t_trials 0) a_t_trials_day cI v_t_trials_day ++ (wX4 (a_t_now 3) a_t_now_seen cI v_t_now_seen))))))) (hS : va_S A s.heap H locs) {r : Int32 × obV × obV × (Nat → Nat → Int32) × obV} (hf : f_X6_pilgrim_b66  v_t_now v_t_today v_t_trials w_t_trials v_t_trials_day v_t_now_seen x1 x2  = some r) {ls : Array Slot} (hl : lv_has ls 3 [(0, .ref o_t), (1, .int x1), (2, .int x2)]) :
    W p l e ({ frames := 5, cells := 0, slots := 0, locals := 119 } : Room) s m args below meth c H locs 0 0 (MQ below (va_Qi (fun (z : Int32) (_ : Unit) => r.1 = z) (fun _ t => va_P (dC, dI) vwCl (wX6 o_t a_t cI v_t ++ (wX1 (a_t 1) a_t_now cI v_t_now ++ (wX2 (a_t 3) a_t_today cI r.2.1 ++ (wX5 (a_t 4) a_t_trials r_t_trials cI cII r.2.2.1 r.2.2.2.1 ++ (wX2 (a_t_trials 0) a_t_trials_day cI r.2.2.2.2 ++ (wX4 (a_t_now 3) a_t_now_seen cI v_t_now_seen)))))) t.heap ∧ va_D A (wX6 o_t a_t cI v_t ++ (wX1 (a_t 1) a_t_now cI v_t_now ++ (wX2 (a_t 3) a_t_today cI r.2.1 ++ (wX5 (a_t 4) a_t_trials r_t_trials cI cII r.2.2.1 r.2.2.2.1 ++ (wX2 (a_t_trials 0) a_t_trials_day cI r.2.2.2.2 ++ (wX4 (a_t_now 3) a_t_now_seen cI v_t_now_seen))))))) A) args s 0 0 A) (F0 m 66 ls []) := by
  obtain ⟨hx, hb, hml, hown, hts, hr, hlocks, hK, hN⟩ := C0
  unfold f_X6_pilgrim_b66 at hf
  refine lv_aload_n hx hb dX6_pilgrim_66 rfl (lv_at hl 0 rfl) ?_
  refine lv_iload_n hx hb dX6_pilgrim_67 rfl (lv_at hl 1 rfl) ?_
  refine lv_iload_n hx hb dX6_pilgrim_68 rfl (lv_at hl 2 rfl) ?_
  obtain ⟨u_69, e_69, hf⟩ := ho_b hf
  have hPc := hP.sub (ws' := (wX6 o_t a_t cI v_t ++ (wX5 (a_t 4) a_t_trials r_t_trials cI cII v_t_trials w_t_trials ++ (wX1 (a_t 1) a_t_now cI v_t_now ++ (wX4 (a_t_now 3) a_t_now_seen cI v_t_now_seen ++ (wX2 (a_t 3) a_t_today cI v_t_today)))))) [0, 10, 11, 12, 13, 14, 15, 16, 17, 18, 19, 20, 21, 22, 23, 1, 2, 3, 4, 29, 30, 31, 5, 6, 7, 8, 9] rfl
  have hDc := hD.sub (ws' := (wX6 o_t a_t cI v_t ++ (wX5 (a_t 4) a_t_trials r_t_trials cI cII v_t_trials w_t_trials ++ (wX1 (a_t 1) a_t_now cI v_t_now ++ (wX4 (a_t_now 3) a_t_now_seen cI v_t_now_seen ++ (wX2 (a_t 3) a_t_today cI v_t_today)))))) [0, 10, 11, 12, 13, 14, 15, 16, 17, 18, 19, 20, 21, 22, 23, 1, 2, 3, 4, 29, 30, 31, 5, 6, 7, 8, 9] (by decide) rfl
  have hFc := va_free (wc := (wX6 o_t a_t cI v_t ++ (wX5 (a_t 4) a_t_trials r_t_trials cI cII v_t_trials w_t_trials ++ (wX1 (a_t 1) a_t_now cI v_t_now ++ (wX4 (a_t_now 3) a_t_now_seen cI v_t_now_seen ++ (wX2 (a_t 3) a_t_today cI v_t_today)))))) hD hS hA [0, 10, 11, 12, 13, 14, 15, 16, 17, 18, 19, 20, 21, 22, 23, 1, 2, 3, 4, 29, 30, 31, 5, 6, 7, 8, 9] rfl
  refine va_calli (va_runV (As := [.int x1, .int x2]) (rest := []) ⟨hx, hb, hml, hown, hts⟩ (c_X6_tellPilgrim l dC dI cI cII o_t a_t a_t_trials r_t_trials a_t_now a_t_now_seen a_t_today v_t v_t_trials w_t_trials v_t_now v_t_now_seen v_t_today (x1) (x2) _ u_69 e_69) (cwV 2 hts (hw_giV mw_391 mw_393 mw_6 mw_53 mw_394) rfl rfl rfl (by decide +kernel) ⟨Nat.le_of_ble_eq_true rfl, Nat.le_of_ble_eq_true rfl⟩) ⟨qB_blind, va_recv hK hPc (ci := 6) (q0 := 0) rfl rfl, fun U hU hW => ⟨rfl, qB_go hPc hDc hK hN hU hW⟩⟩ rfl rfl hl.1 rfl (lv_room (Nat.le_of_ble_eq_true rfl)) dX6_pilgrim_69 ⟨Nat.zero_le _, Nat.zero_le _⟩) hS (fun q _ h => hFc q h) hFc (fun z_69 u t H1 locs ht hvm ez_69 hB hz1 hk1 hS => ?_)
  subst ez_69
  obtain ⟨hP1, hD1⟩ := hB
  rw [ht] at hP1
  obtain ⟨hP, hD⟩ := va_join (wr := (wX2 (a_t_trials 0) a_t_trials_day cI v_t_trials_day)) (w1 := (wX6 o_t a_t cI v_t ++ (wX5 (a_t 4) a_t_trials r_t_trials cI cII u_69.2 w_t_trials ++ (wX1 (a_t 1) a_t_now cI v_t_now ++ (wX4 (a_t_now 3) a_t_now_seen cI v_t_now_seen ++ (wX2 (a_t 3) a_t_today cI v_t_today)))))) hP hD [0, 10, 11, 12, 13, 14, 15, 16, 17, 18, 19, 20, 21, 22, 23, 1, 2, 3, 4, 29, 30, 31, 5, 6, 7, 8, 9] [24, 25, 26, 27, 28] rfl rfl (by decide) (by decide) hk1 hFc hP1 hD1
  generalize H1 = H at hP hS ⊢
  have hP : va_P (dC, dI) vwCl (wX6 o_t a_t cI v_t ++ (wX1 (a_t 1) a_t_now cI v_t_now ++ (wX2 (a_t 3) a_t_today cI v_t_today ++ (wX5 (a_t 4) a_t_trials r_t_trials cI cII u_69.2 w_t_trials ++ (wX2 (a_t_trials 0) a_t_trials_day cI v_t_trials_day ++ (wX4 (a_t_now 3) a_t_now_seen cI v_t_now_seen)))))) H := hP.sub [5, 20, 21, 22, 23, 27, 28, 29, 30, 31, 6, 7, 8, 9, 10, 11, 12, 13, 14, 15, 16, 17, 18, 19, 0, 1, 2, 3, 4, 24, 25, 26] rfl
  have hD : va_D A (wX6 o_t a_t cI v_t ++ (wX1 (a_t 1) a_t_now cI v_t_now ++ (wX2 (a_t 3) a_t_today cI v_t_today ++ (wX5 (a_t 4) a_t_trials r_t_trials cI cII u_69.2 w_t_trials ++ (wX2 (a_t_trials 0) a_t_trials_day cI v_t_trials_day ++ (wX4 (a_t_now 3) a_t_now_seen cI v_t_now_seen)))))) := hD.sub [5, 20, 21, 22, 23, 27, 28, 29, 30, 31, 6, 7, 8, 9, 10, 11, 12, 13, 14, 15, 16, 17, 18, 19, 0, 1, 2, 3, 4, 24, 25, 26] (by decide) rfl
  obtain rfl := Option.some.inj hf
  exact W.iret (v := u_69.1) hx hb hr (fun t ht hW => ⟨⟨_, (), rfl, rfl, by rw [ht]; exact hP, hD⟩, hS.F ht⟩) hS.2.2 dX6_pilgrim_72 hlocks
set_option maxHeartbeats 4000000 in
set_option maxRecDepth 100000 in
theorem w_X6_pilgrim_b48 {p : Program} {l : Launch} {e : Env} {s : State} {m : MethodId} {args : Array Value} {below : List Frame} {meth : Method} {c : Code} {dC : Nat → ClassId} {dI : Nat → Nat → Nat} {cI cII : ClassId} {o_t : Nat} {a_t : Nat → Nat} {a_t_now : Nat → Nat} {a_t_today : Nat → Nat} {a_t_trials : Nat → Nat} {r_t_trials : Nat → Nat} {a_t_trials_day : Nat → Nat} {a_t_now_seen : Nat → Nat} {A : Nat → Prop} (C0 : hC p s m args meth c dC dI cI cII RX6 cX6_pilgrim 3 (wd yX6_pilgrim cX6_pilgrim 3 (some .int)) (some .int)) (hA : ∀ q, s.heap.size ≤ q → A q) {v_t : obV} {v_t_now : obV} {v_t_today : obV} {v_t_trials : obV} {w_t_trials : Nat → Nat → Int32} {v_t_trials_day : obV} {v_t_now_seen : obV} {x1 : Int32} {x2 : Int32}    {H : Heap} {locs : List Loc} (hP : va_P (dC, dI) vwCl (wX6 o_t a_t cI v_t ++ (wX1 (a_t 1) a_t_now cI v_t_now ++ (wX2 (a_t 3) a_t_today cI v_t_today ++ (wX5 (a_t 4) a_t_trials r_t_trials cI cII v_t_trials w_t_trials ++ (wX2 (a_t_trials 0) a_t_trials_day cI v_t_trials_day ++ (wX4 (a_t_now 3) a_t_now_seen cI v_t_now_seen)))))) H) (hD : va_D A (wX6 o_t a_t cI v_t ++ (wX1 (a_t 1) a_t_now cI v_t_now ++ (wX2 (a_t 3) a_t_today cI v_t_today ++ (wX5 (a_t 4) a_t_trials r_t_trials cI cII v_t_trials w_t_trials ++ (wX2 (a_t_trials 0) a_t_trials_day cI v_t_trials_day ++ (wX4 (a_t_now 3) a_t_now_seen cI v_t_now_seen))))))) (hS : va_S A s.heap H locs) {r : Int32 × obV × obV × (Nat → Nat → Int32) × obV} (hf : f_X6_pilgrim_b48  v_t_now v_t_today v_t_trials w_t_trials v_t_trials_day v_t_now_seen x1 x2  = some r) {ls : Array Slot} (hl : lv_has ls 3 [(0, .ref o_t), (1, .int x1), (2, .int x2)]) :
    W p l e ({ frames := 5, cells := 0, slots := 0, locals := 119 } : Room) s m args below meth c H locs 0 0 (MQ below (va_Qi (fun (z : Int32) (_ : Unit) => r.1 = z) (fun _ t => va_P (dC, dI) vwCl (wX6 o_t a_t cI v_t ++ (wX1 (a_t 1) a_t_now cI v_t_now ++ (wX2 (a_t 3) a_t_today cI r.2.1 ++ (wX5 (a_t 4) a_t_trials r_t_trials cI cII r.2.2.1 r.2.2.2.1 ++ (wX2 (a_t_trials 0) a_t_trials_day cI r.2.2.2.2 ++ (wX4 (a_t_now 3) a_t_now_seen cI v_t_now_seen)))))) t.heap ∧ va_D A (wX6 o_t a_t cI v_t ++ (wX1 (a_t 1) a_t_now cI v_t_now ++ (wX2 (a_t 3) a_t_today cI r.2.1 ++ (wX5 (a_t 4) a_t_trials r_t_trials cI cII r.2.2.1 r.2.2.2.1 ++ (wX2 (a_t_trials 0) a_t_trials_day cI r.2.2.2.2 ++ (wX4 (a_t_now 3) a_t_now_seen cI v_t_now_seen))))))) A) args s 0 0 A) (F0 m 48 ls []) := by
  obtain ⟨hx, hb, hml, hown, hts, hr, hlocks, hK, hN⟩ := C0
  unfold f_X6_pilgrim_b48 at hf
  refine lv_iload_n hx hb dX6_pilgrim_48 rfl (lv_at hl 2 rfl) ?_
  refine lv_bipush (v := 8) hx hb dX6_pilgrim_49 (by decide) ?_
  refine lv_icmp_lt (tgt := 66) hx hb dX6_pilgrim_51 (by decide) (fun c_51 => ?_) (fun c_51 => ?_)
  · have hf := ho_t hf c_51
    exact w_X6_pilgrim_b66 ⟨hx, hb, hml, hown, hts, hr, hlocks, hK, hN⟩ hA  hP hD hS hf (lv_sub hl [0, 1, 2] rfl)
  · have hf := ho_f hf c_51
    refine lv_aload_n hx hb dX6_pilgrim_54 rfl (lv_at hl 0 rfl) ?_
    refine va_get (D := (dC, dI)) (ci := 6) (v := .ref (a_t 4)) (C := RX6) (T := TX6) (N := 8) hx hb hts hw_X6 hown hK hP 0 rfl rfl 4 (by decide) (hts _ (List.mem_cons_of_mem _ mw_237)) (fun _ h9 => h9) rfl dX6_pilgrim_55 ?_
    refine lv_aload_n hx hb dX6_pilgrim_58 rfl (lv_at hl 0 rfl) ?_
    refine va_get (D := (dC, dI)) (ci := 6) (v := .ref (a_t 1)) (C := RX6) (T := TX6) (N := 8) hx hb hts hw_X6 hown hK hP 0 rfl rfl 1 (by decide) (hts _ (List.mem_cons_of_mem _ mw_234)) (fun _ h9 => h9) rfl dX6_pilgrim_59 ?_
    refine lv_iload_n hx hb dX6_pilgrim_62 rfl (lv_at hl 1 rfl) ?_
    obtain ⟨u_63, e_63, hf⟩ := ho_b hf
    have hPc := hP.sub (ws' := (wX5 (a_t 4) a_t_trials r_t_trials cI cII v_t_trials w_t_trials ++ (wX1 (a_t 1) a_t_now cI v_t_now ++ (wX2 (a_t_trials 0) a_t_trials_day cI v_t_trials_day)))) [10, 11, 12, 13, 14, 15, 16, 17, 18, 19, 20, 21, 22, 23, 1, 2, 3, 4, 24, 25, 26, 27, 28] rfl
    have hDc := hD.sub (ws' := (wX5 (a_t 4) a_t_trials r_t_trials cI cII v_t_trials w_t_trials ++ (wX1 (a_t 1) a_t_now cI v_t_now ++ (wX2 (a_t_trials 0) a_t_trials_day cI v_t_trials_day)))) [10, 11, 12, 13, 14, 15, 16, 17, 18, 19, 20, 21, 22, 23, 1, 2, 3, 4, 24, 25, 26, 27, 28] (by decide) rfl
    have hFc := va_free (wc := (wX5 (a_t 4) a_t_trials r_t_trials cI cII v_t_trials w_t_trials ++ (wX1 (a_t 1) a_t_now cI v_t_now ++ (wX2 (a_t_trials 0) a_t_trials_day cI v_t_trials_day)))) hD hS hA [10, 11, 12, 13, 14, 15, 16, 17, 18, 19, 20, 21, 22, 23, 1, 2, 3, 4, 24, 25, 26, 27, 28] rfl
    refine va_callv (va_runV (As := [.ref (a_t 1), .int x1]) (rest := []) ⟨hx, hb, hml, hown, hts⟩ (c_X5_pass l dC dI cI cII (a_t 4) a_t_trials r_t_trials (a_t 1) a_t_now a_t_trials_day v_t_trials w_t_trials v_t_now v_t_trials_day (x1) _ u_63 e_63) (cwV 2 hts (hw_giV mw_380 mw_381 mw_382 mw_58 mw_383) rfl rfl rfl (by decide +kernel) ⟨Nat.le_of_ble_eq_true rfl, Nat.le_of_ble_eq_true rfl⟩) ⟨qB_blind, va_recv hK hPc (ci := 5) (q0 := 0) rfl rfl, fun U hU hW => ⟨rfl, qB_go hPc hDc hK hN hU hW⟩⟩ rfl rfl hl.1 rfl (lv_room (Nat.le_of_ble_eq_true rfl)) dX6_pilgrim_63 ⟨Nat.zero_le _, Nat.zero_le _⟩) hS (fun q _ h => hFc q h) hFc (fun u t H1 locs ht hvm hw hB hz1 hk1 hS => ?_)
    obtain ⟨hP1, hD1⟩ := hB
    rw [ht] at hP1
    obtain ⟨hP, hD⟩ := va_join (wr := (wX6 o_t a_t cI v_t ++ (wX2 (a_t 3) a_t_today cI v_t_today ++ (wX4 (a_t_now 3) a_t_now_seen cI v_t_now_seen)))) (w1 := (wX5 (a_t 4) a_t_trials r_t_trials cI cII u_63.1 u_63.2.1 ++ (wX1 (a_t 1) a_t_now cI v_t_now ++ (wX2 (a_t_trials 0) a_t_trials_day cI u_63.2.2)))) hP hD [10, 11, 12, 13, 14, 15, 16, 17, 18, 19, 20, 21, 22, 23, 1, 2, 3, 4, 24, 25, 26, 27, 28] [0, 5, 6, 7, 8, 9, 29, 30, 31] rfl rfl (by decide) (by decide) hk1 hFc hP1 hD1
    generalize H1 = H at hP hS ⊢
    have hP : va_P (dC, dI) vwCl (wX6 o_t a_t cI v_t ++ (wX1 (a_t 1) a_t_now cI v_t_now ++ (wX2 (a_t 3) a_t_today cI v_t_today ++ (wX5 (a_t 4) a_t_trials r_t_trials cI cII u_63.1 u_63.2.1 ++ (wX2 (a_t_trials 0) a_t_trials_day cI u_63.2.2 ++ (wX4 (a_t_now 3) a_t_now_seen cI v_t_now_seen)))))) H := hP.sub [0, 23, 24, 25, 26, 1, 2, 3, 4, 5, 9, 10, 11, 12, 13, 14, 15, 16, 17, 18, 19, 20, 21, 22, 27, 28, 29, 30, 31, 6, 7, 8] rfl
    have hD : va_D A (wX6 o_t a_t cI v_t ++ (wX1 (a_t 1) a_t_now cI v_t_now ++ (wX2 (a_t 3) a_t_today cI v_t_today ++ (wX5 (a_t 4) a_t_trials r_t_trials cI cII u_63.1 u_63.2.1 ++ (wX2 (a_t_trials 0) a_t_trials_day cI u_63.2.2 ++ (wX4 (a_t_now 3) a_t_now_seen cI v_t_now_seen)))))) := hD.sub [0, 23, 24, 25, 26, 1, 2, 3, 4, 5, 9, 10, 11, 12, 13, 14, 15, 16, 17, 18, 19, 20, 21, 22, 27, 28, 29, 30, 31, 6, 7, 8] (by decide) rfl
    exact w_X6_pilgrim_b66 ⟨hx, hb, hml, hown, hts, hr, hlocks, hK, hN⟩ hA  hP hD hS hf (lv_sub hl [0, 1, 2] rfl)
set_option maxHeartbeats 4000000 in
set_option maxRecDepth 100000 in
theorem c_X6_pilgrim (l : Launch) (dC : Nat → ClassId) (dI : Nat → Nat → Nat) (cI cII : ClassId) (o_t : Nat) (a_t : Nat → Nat) (a_t_now : Nat → Nat) (a_t_today : Nat → Nat) (a_t_trials : Nat → Nat) (r_t_trials : Nat → Nat) (a_t_trials_day : Nat → Nat) (a_t_now_seen : Nat → Nat) (v_t : obV) (v_t_now : obV) (v_t_today : obV) (v_t_trials : obV) (w_t_trials : Nat → Nat → Int32) (v_t_trials_day : obV) (v_t_now_seen : obV) (x1 : Int32) (x2 : Int32) (sz : Nat) (r : Int32 × obV × obV × (Nat → Nat → Int32) × obV) (hf : f_X6_pilgrim  v_t_now v_t_today v_t_trials w_t_trials v_t_trials_day v_t_now_seen x1 x2 = some r) :
    Met l yX6_pilgrim (wd yX6_pilgrim cX6_pilgrim 3 (some .int)) ({ frames := 5, cells := 0, slots := 0, locals := 119 } : Room) (va_Pc [.ref o_t, .int x1, .int x2] (qB (dC, dI) vwCl (wX6 o_t a_t cI v_t ++ (wX1 (a_t 1) a_t_now cI v_t_now ++ (wX2 (a_t 3) a_t_today cI v_t_today ++ (wX5 (a_t 4) a_t_trials r_t_trials cI cII v_t_trials w_t_trials ++ (wX2 (a_t_trials 0) a_t_trials_day cI v_t_trials_day ++ (wX4 (a_t_now 3) a_t_now_seen cI v_t_now_seen)))))) (hTY cI cII) sz)) (va_Qi (fun (z : Int32) (_ : Unit) => r.1 = z) (fun _ t => va_P (dC, dI) vwCl (wX6 o_t a_t cI v_t ++ (wX1 (a_t 1) a_t_now cI v_t_now ++ (wX2 (a_t 3) a_t_today cI r.2.1 ++ (wX5 (a_t 4) a_t_trials r_t_trials cI cII r.2.2.1 r.2.2.2.1 ++ (wX2 (a_t_trials 0) a_t_trials_day cI r.2.2.2.2 ++ (wX4 (a_t_now 3) a_t_now_seen cI v_t_now_seen)))))) t.heap ∧ va_D (va_A (wX6 o_t a_t cI v_t ++ (wX1 (a_t 1) a_t_now cI v_t_now ++ (wX2 (a_t 3) a_t_today cI v_t_today ++ (wX5 (a_t 4) a_t_trials r_t_trials cI cII v_t_trials w_t_trials ++ (wX2 (a_t_trials 0) a_t_trials_day cI v_t_trials_day ++ (wX4 (a_t_now 3) a_t_now_seen cI v_t_now_seen)))))) sz) (wX6 o_t a_t cI v_t ++ (wX1 (a_t 1) a_t_now cI v_t_now ++ (wX2 (a_t 3) a_t_today cI r.2.1 ++ (wX5 (a_t 4) a_t_trials r_t_trials cI cII r.2.2.1 r.2.2.2.1 ++ (wX2 (a_t_trials 0) a_t_trials_day cI r.2.2.2.2 ++ (wX4 (a_t_now 3) a_t_now_seen cI v_t_now_seen))))))) (va_A (wX6 o_t a_t cI v_t ++ (wX1 (a_t 1) a_t_now cI v_t_now ++ (wX2 (a_t 3) a_t_today cI v_t_today ++ (wX5 (a_t 4) a_t_trials r_t_trials cI cII v_t_trials w_t_trials ++ (wX2 (a_t_trials 0) a_t_trials_day cI v_t_trials_day ++ (wX4 (a_t_now 3) a_t_now_seen cI v_t_now_seen)))))) sz)) 0 0 (va_A (wX6 o_t a_t cI v_t ++ (wX1 (a_t 1) a_t_now cI v_t_now ++ (wX2 (a_t 3) a_t_today cI v_t_today ++ (wX5 (a_t 4) a_t_trials r_t_trials cI cII v_t_trials w_t_trials ++ (wX2 (a_t_trials 0) a_t_trials_day cI v_t_trials_day ++ (wX4 (a_t_now 3) a_t_now_seen cI v_t_now_seen)))))) sz) := by
  refine Met.ofW (cc := cX6_pilgrim) (maxL := 3) (ret := (some .int)) (by decide) rfl ?_
  intro p e s m args below meth c s₁ B hml hv
  obtain ⟨rfl, hsz, hD0, hP, hK, hN⟩ := hv
  have hx := B.exec
  have hb := B.bytes
  have hr := B.returns
  have hts := atoms_spec (ws := (wd yX6_pilgrim cX6_pilgrim 3 (some .int))) B.pre
  have hown : s.vm.findClass RX6 = some m.cls := findClass_of_methodNamed B.named
  have hlocks := B.notSynchronized
  subst hsz
  have hD := hD0.self (sz := s.heap.size)
  generalize hAe : va_A (wX6 o_t a_t cI v_t ++ (wX1 (a_t 1) a_t_now cI v_t_now ++ (wX2 (a_t 3) a_t_today cI v_t_today ++ (wX5 (a_t 4) a_t_trials r_t_trials cI cII v_t_trials w_t_trials ++ (wX2 (a_t_trials 0) a_t_trials_day cI v_t_trials_day ++ (wX4 (a_t_now 3) a_t_now_seen cI v_t_now_seen)))))) s.heap.size = A at hD ⊢
  have hA : ∀ q : Nat, s.heap.size ≤ q → A q := fun q h => by rw [← hAe]; exact Or.inr h
  have hS : va_S A s.heap s.heap [] := va_S.rf
  have hl := lv_entry ([.ref o_t, .int x1, .int x2]) (n := 3) (Nat.le_of_ble_eq_true rfl)
  rw [lg_entry_eq]
  generalize (lg_sl ([.ref o_t, .int x1, .int x2]) ++ List.replicate (3 - (lg_sl ([.ref o_t, .int x1, .int x2])).length) Slot.unset).toArray = ls at hl ⊢
  have hl : lv_has ls 3 [(0, .ref o_t), (1, .int x1), (2, .int x2)] := hl
  clear hAe hD0
  unfold f_X6_pilgrim at hf
  refine lv_aload_n hx hb dX6_pilgrim_0 rfl (lv_at hl 0 rfl) ?_
  refine va_get (D := (dC, dI)) (ci := 6) (v := .ref (a_t 1)) (C := RX6) (T := TX6) (N := 8) hx hb hts hw_X6 hown hK hP 0 rfl rfl 1 (by decide) (hts _ (List.mem_cons_of_mem _ mw_234)) (fun _ h9 => h9) rfl dX6_pilgrim_1 ?_
  refine lv_iload_n hx hb dX6_pilgrim_4 rfl (lv_at hl 1 rfl) ?_
  obtain ⟨u_5, e_5, hf⟩ := ho_b hf
  have hPc := hP.sub (ws' := (wX1 (a_t 1) a_t_now cI v_t_now)) [1, 2, 3, 4] rfl
  refine vp_callSi (va_runV (As := [.int x1]) (rest := []) ⟨hx, hb, hml, hown, hts⟩ (c_X1_has l dC dI cI cII (a_t 1) a_t_now v_t_now (x1) u_5 e_5) (cwV 1 hts (hw_giV mw_322 mw_323 mw_324 mw_55 mw_325) rfl rfl rfl (by decide +kernel) ⟨Nat.le_of_ble_eq_true rfl, Nat.le_of_ble_eq_true rfl⟩) ⟨pB_blind, va_recv hK hPc (ci := 1) (q0 := 0) rfl rfl, fun U hU hW => ⟨rfl, pB_go hPc hK hN hU hW⟩⟩ rfl rfl hl.1 rfl (lv_room (Nat.le_of_ble_eq_true rfl)) dX6_pilgrim_5 ⟨Nat.zero_le _, Nat.zero_le _⟩).run (fun z_5 ez_5 => ?_)
  subst ez_5
  refine lv_if_ne (tgt := 14) hx hb dX6_pilgrim_8 (by decide) (fun c_8 => ?_) (fun c_8 => ?_)
  · have hf := ho_f hf c_8
    refine lv_iload_n hx hb dX6_pilgrim_14 rfl (lv_at hl 2 rfl) ?_
    refine lv_iconst (v := 0) hx hb dX6_pilgrim_15 (by decide) ?_
    refine lv_bipush (v := 9) hx hb dX6_pilgrim_16 (by decide) ?_
    obtain ⟨u_18, e_18, hf⟩ := ho_b hf
    have hPc := hP.sub (ws' := ([] : va_W)) [] rfl
    refine vp_callSi (va_runS (As := [.int x2, .int 0, .int 9]) (rest := []) ⟨hx, hb, hml, hown, hts⟩ (c_X6_isWithin l dC dI cI cII (x2) (0) (9) u_18 e_18) (va_cwS 3 hts (hw_giS mw_262 mw_263 mw_53 mw_264) rfl rfl rfl (by decide +kernel) ⟨Nat.le_of_ble_eq_true rfl, Nat.le_of_ble_eq_true rfl⟩) ⟨pB_blind, fun U hU hW => ⟨rfl, pB_go hPc hK hN hU hW⟩⟩ rfl rfl hl.1 rfl (lv_room (Nat.le_of_ble_eq_true rfl)) dX6_pilgrim_18 ⟨Nat.zero_le _, Nat.zero_le _⟩).run (fun z_18 ez_18 => ?_)
    subst ez_18
    refine lv_if_ne (tgt := 27) hx hb dX6_pilgrim_21 (by decide) (fun c_21 => ?_) (fun c_21 => ?_)
    · have hf := ho_f hf c_21
      refine lv_iload_n hx hb dX6_pilgrim_27 rfl (lv_at hl 2 rfl) ?_
      refine lv_iconst (v := 5) hx hb dX6_pilgrim_28 (by decide) ?_
      refine lv_bipush (v := 7) hx hb dX6_pilgrim_29 (by decide) ?_
      obtain ⟨u_31, e_31, hf⟩ := ho_b hf
      have hPc := hP.sub (ws' := ([] : va_W)) [] rfl
      refine vp_callSi (va_runS (As := [.int x2, .int 5, .int 7]) (rest := []) ⟨hx, hb, hml, hown, hts⟩ (c_X6_isWithin l dC dI cI cII (x2) (5) (7) u_31 e_31) (va_cwS 3 hts (hw_giS mw_262 mw_263 mw_53 mw_264) rfl rfl rfl (by decide +kernel) ⟨Nat.le_of_ble_eq_true rfl, Nat.le_of_ble_eq_true rfl⟩) ⟨pB_blind, fun U hU hW => ⟨rfl, pB_go hPc hK hN hU hW⟩⟩ rfl rfl hl.1 rfl (lv_room (Nat.le_of_ble_eq_true rfl)) dX6_pilgrim_31 ⟨Nat.zero_le _, Nat.zero_le _⟩).run (fun z_31 ez_31 => ?_)
      subst ez_31
      refine lv_if_eq (tgt := 48) hx hb dX6_pilgrim_34 (by decide) (fun c_34 => ?_) (fun c_34 => ?_)
      · have hf := ho_t hf c_34
        exact w_X6_pilgrim_b48 ⟨hx, hb, hml, hown, hts, hr, hlocks, hK, hN⟩ hA  hP hD hS hf (lv_sub hl [0, 1, 2] rfl)
      · have hf := ho_f hf c_34
        refine lv_aload_n hx hb dX6_pilgrim_37 rfl (lv_at hl 0 rfl) ?_
        refine va_get (D := (dC, dI)) (ci := 6) (v := .ref (a_t 3)) (C := RX6) (T := TX6) (N := 8) hx hb hts hw_X6 hown hK hP 0 rfl rfl 3 (by decide) (hts _ (List.mem_cons_of_mem _ mw_236)) (fun _ h9 => h9) rfl dX6_pilgrim_38 ?_
        refine lv_aload_n hx hb dX6_pilgrim_41 rfl (lv_at hl 0 rfl) ?_
        refine va_get (D := (dC, dI)) (ci := 6) (v := .ref (a_t 1)) (C := RX6) (T := TX6) (N := 8) hx hb hts hw_X6 hown hK hP 0 rfl rfl 1 (by decide) (hts _ (List.mem_cons_of_mem _ mw_234)) (fun _ h9 => h9) rfl dX6_pilgrim_42 ?_
        obtain ⟨u_45, e_45, hf⟩ := ho_b hf
        have hPc := hP.sub (ws' := (wX2 (a_t 3) a_t_today cI v_t_today ++ (wX1 (a_t 1) a_t_now cI v_t_now))) [5, 6, 7, 8, 9, 1, 2, 3, 4] rfl
        have hDc := hD.sub (ws' := (wX2 (a_t 3) a_t_today cI v_t_today ++ (wX1 (a_t 1) a_t_now cI v_t_now))) [5, 6, 7, 8, 9, 1, 2, 3, 4] (by decide) rfl
        have hFc := va_free (wc := (wX2 (a_t 3) a_t_today cI v_t_today ++ (wX1 (a_t 1) a_t_now cI v_t_now))) hD hS hA [5, 6, 7, 8, 9, 1, 2, 3, 4] rfl
        refine va_callv (va_runV (As := [.ref (a_t 1)]) (rest := []) ⟨hx, hb, hml, hown, hts⟩ (c_X2_pass l dC dI cI cII (a_t 3) a_t_today (a_t 1) a_t_now v_t_today v_t_now _ u_45 e_45) (cwV 1 hts (hw_giV mw_326 mw_327 mw_328 mw_57 mw_329) rfl rfl rfl (by decide +kernel) ⟨Nat.le_of_ble_eq_true rfl, Nat.le_of_ble_eq_true rfl⟩) ⟨qB_blind, va_recv hK hPc (ci := 2) (q0 := 0) rfl rfl, fun U hU hW => ⟨rfl, qB_go hPc hDc hK hN hU hW⟩⟩ rfl rfl hl.1 rfl (lv_room (Nat.le_of_ble_eq_true rfl)) dX6_pilgrim_45 ⟨Nat.zero_le _, Nat.zero_le _⟩) hS (fun q _ h => hFc q h) hFc (fun u t H1 locs ht hvm hw hB hz1 hk1 hS => ?_)
        obtain ⟨hP1, hD1⟩ := hB
        rw [ht] at hP1
        obtain ⟨hP, hD⟩ := va_join (wr := (wX6 o_t a_t cI v_t ++ (wX5 (a_t 4) a_t_trials r_t_trials cI cII v_t_trials w_t_trials ++ (wX2 (a_t_trials 0) a_t_trials_day cI v_t_trials_day ++ (wX4 (a_t_now 3) a_t_now_seen cI v_t_now_seen))))) (w1 := (wX2 (a_t 3) a_t_today cI u_45 ++ (wX1 (a_t 1) a_t_now cI v_t_now))) hP hD [5, 6, 7, 8, 9, 1, 2, 3, 4] [0, 10, 11, 12, 13, 14, 15, 16, 17, 18, 19, 20, 21, 22, 23, 24, 25, 26, 27, 28, 29, 30, 31] rfl rfl (by decide) (by decide) hk1 hFc hP1 hD1
        generalize H1 = H at hP hS ⊢
        have hP : va_P (dC, dI) vwCl (wX6 o_t a_t cI v_t ++ (wX1 (a_t 1) a_t_now cI v_t_now ++ (wX2 (a_t 3) a_t_today cI u_45 ++ (wX5 (a_t 4) a_t_trials r_t_trials cI cII v_t_trials w_t_trials ++ (wX2 (a_t_trials 0) a_t_trials_day cI v_t_trials_day ++ (wX4 (a_t_now 3) a_t_now_seen cI v_t_now_seen)))))) H := hP.sub [0, 28, 29, 30, 31, 23, 24, 25, 26, 27, 1, 2, 3, 4, 5, 6, 7, 8, 9, 10, 11, 12, 13, 14, 15, 16, 17, 18, 19, 20, 21, 22] rfl
        have hD : va_D A (wX6 o_t a_t cI v_t ++ (wX1 (a_t 1) a_t_now cI v_t_now ++ (wX2 (a_t 3) a_t_today cI u_45 ++ (wX5 (a_t 4) a_t_trials r_t_trials cI cII v_t_trials w_t_trials ++ (wX2 (a_t_trials 0) a_t_trials_day cI v_t_trials_day ++ (wX4 (a_t_now 3) a_t_now_seen cI v_t_now_seen)))))) := hD.sub [0, 28, 29, 30, 31, 23, 24, 25, 26, 27, 1, 2, 3, 4, 5, 6, 7, 8, 9, 10, 11, 12, 13, 14, 15, 16, 17, 18, 19, 20, 21, 22] (by decide) rfl
        exact w_X6_pilgrim_b48 ⟨hx, hb, hml, hown, hts, hr, hlocks, hK, hN⟩ hA  hP hD hS hf (lv_sub hl [0, 1, 2] rfl)
    · have hf := ho_t hf c_21
      refine lv_bipush (v := (-102)) hx hb dX6_pilgrim_24 (by decide) ?_
      obtain rfl := Option.some.inj hf
      exact W.iret (v := (-102)) hx hb hr (fun t ht hW => ⟨⟨_, (), rfl, rfl, by rw [ht]; exact hP, hD⟩, hS.F ht⟩) hS.2.2 dX6_pilgrim_26 hlocks
  · have hf := ho_t hf c_8
    refine lv_bipush (v := (-101)) hx hb dX6_pilgrim_11 (by decide) ?_
    obtain rfl := Option.some.inj hf
    exact W.iret (v := (-101)) hx hb hr (fun t ht hW => ⟨⟨_, (), rfl, rfl, by rw [ht]; exact hP, hD⟩, hS.F ht⟩) hS.2.2 dX6_pilgrim_13 hlocks
set_option maxHeartbeats 4000000 in
set_option maxRecDepth 100000 in
theorem c_X6_as (l : Launch) (dC : Nat → ClassId) (dI : Nat → Nat → Nat) (cI cII : ClassId) (o_t : Nat) (a_t : Nat → Nat) (a_t_now : Nat → Nat) (v_t : obV) (v_t_now : obV) (x1 : Int32) (x2 : Int32) (r : Int32) (hf : f_X6_as  v_t_now x1 x2 = some r) :
    Met l yX6_as (wd yX6_as cX6_as 3 (some .int)) ({ frames := 1, cells := 0, slots := 0, locals := 23 } : Room) (va_Pc [.ref o_t, .int x1, .int x2] (pB (dC, dI) vwCl (wX6 o_t a_t cI v_t ++ (wX1 (a_t 1) a_t_now cI v_t_now)) (hTY cI cII))) (vp_Si (fun z => r = z)) 0 0 (fun _ => False) := by
  refine Met.ofW (cc := cX6_as) (maxL := 3) (ret := (some .int)) (by decide) rfl ?_
  intro p e s m args below meth c s₁ B hml hv
  obtain ⟨rfl, hP, hK, hN⟩ := hv
  have hx := B.exec
  have hb := B.bytes
  have hr := B.returns
  have hts := atoms_spec (ws := (wd yX6_as cX6_as 3 (some .int))) B.pre
  have hown : s.vm.findClass RX6 = some m.cls := findClass_of_methodNamed B.named
  have hlocks := B.notSynchronized
  have hl := lv_entry ([.ref o_t, .int x1, .int x2]) (n := 3) (Nat.le_of_ble_eq_true rfl)
  rw [lg_entry_eq]
  generalize (lg_sl ([.ref o_t, .int x1, .int x2]) ++ List.replicate (3 - (lg_sl ([.ref o_t, .int x1, .int x2])).length) Slot.unset).toArray = ls at hl ⊢
  have hl : lv_has ls 3 [(0, .ref o_t), (1, .int x1), (2, .int x2)] := hl
  unfold f_X6_as at hf
  refine lv_aload_n hx hb dX6_as_0 rfl (lv_at hl 0 rfl) ?_
  refine va_get (D := (dC, dI)) (ci := 6) (v := .ref (a_t 1)) (C := RX6) (T := TX6) (N := 8) hx hb hts hw_X6 hown hK hP 0 rfl rfl 1 (by decide) (hts _ (List.mem_cons_of_mem _ mw_234)) (fun _ h9 => h9) rfl dX6_as_1 ?_
  refine lv_iload_n hx hb dX6_as_4 rfl (lv_at hl 1 rfl) ?_
  obtain ⟨u_5, e_5, hf⟩ := ho_b hf
  have hPc := hP.sub (ws' := (wX1 (a_t 1) a_t_now cI v_t_now)) [1, 2, 3, 4] rfl
  refine vp_callSi (va_runV (As := [.int x1]) (rest := []) ⟨hx, hb, hml, hown, hts⟩ (c_X1_has l dC dI cI cII (a_t 1) a_t_now v_t_now (x1) u_5 e_5) (cwV 1 hts (hw_giV mw_322 mw_323 mw_324 mw_55 mw_325) rfl rfl rfl (by decide +kernel) ⟨Nat.le_of_ble_eq_true rfl, Nat.le_of_ble_eq_true rfl⟩) ⟨pB_blind, va_recv hK hPc (ci := 1) (q0 := 0) rfl rfl, fun U hU hW => ⟨rfl, pB_go hPc hK hN hU hW⟩⟩ rfl rfl hl.1 rfl (lv_room (Nat.le_of_ble_eq_true rfl)) dX6_as_5 ⟨Nat.zero_le _, Nat.zero_le _⟩).run (fun z_5 ez_5 => ?_)
  subst ez_5
  refine lv_if_ne (tgt := 14) hx hb dX6_as_8 (by decide) (fun c_8 => ?_) (fun c_8 => ?_)
  · have hf := ho_f hf c_8
    refine lv_iload_n hx hb dX6_as_14 rfl (lv_at hl 2 rfl) ?_
    refine lv_iconst (v := 0) hx hb dX6_as_15 (by decide) ?_
    refine lv_iconst (v := 4) hx hb dX6_as_16 (by decide) ?_
    obtain ⟨u_17, e_17, hf⟩ := ho_b hf
    have hPc := hP.sub (ws' := ([] : va_W)) [] rfl
    refine vp_callSi (va_runS (As := [.int x2, .int 0, .int 4]) (rest := []) ⟨hx, hb, hml, hown, hts⟩ (c_X6_isWithin l dC dI cI cII (x2) (0) (4) u_17 e_17) (va_cwS 3 hts (hw_giS mw_262 mw_263 mw_53 mw_264) rfl rfl rfl (by decide +kernel) ⟨Nat.le_of_ble_eq_true rfl, Nat.le_of_ble_eq_true rfl⟩) ⟨pB_blind, fun U hU hW => ⟨rfl, pB_go hPc hK hN hU hW⟩⟩ rfl rfl hl.1 rfl (lv_room (Nat.le_of_ble_eq_true rfl)) dX6_as_17 ⟨Nat.zero_le _, Nat.zero_le _⟩).run (fun z_17 ez_17 => ?_)
    subst ez_17
    refine lv_if_ne (tgt := 26) hx hb dX6_as_20 (by decide) (fun c_20 => ?_) (fun c_20 => ?_)
    · have hf := ho_f hf c_20
      refine lv_aload_n hx hb dX6_as_26 rfl (lv_at hl 0 rfl) ?_
      refine va_get (D := (dC, dI)) (ci := 6) (v := .ref (a_t 1)) (C := RX6) (T := TX6) (N := 8) hx hb hts hw_X6 hown hK hP 0 rfl rfl 1 (by decide) (hts _ (List.mem_cons_of_mem _ mw_234)) (fun _ h9 => h9) rfl dX6_as_27 ?_
      refine lv_iload_n hx hb dX6_as_30 rfl (lv_at hl 1 rfl) ?_
      refine lv_iload_n hx hb dX6_as_31 rfl (lv_at hl 2 rfl) ?_
      obtain ⟨u_32, e_32, hf⟩ := ho_b hf
      have hPc := hP.sub (ws' := (wX1 (a_t 1) a_t_now cI v_t_now)) [1, 2, 3, 4] rfl
      refine vp_callSi (va_runV (As := [.int x1, .int x2]) (rest := []) ⟨hx, hb, hml, hown, hts⟩ (c_X1_isKind l dC dI cI cII (a_t 1) a_t_now v_t_now (x1) (x2) u_32 e_32) (cwV 2 hts (hw_giV mw_422 mw_354 mw_355 mw_55 mw_356) rfl rfl rfl (by decide +kernel) ⟨Nat.le_of_ble_eq_true rfl, Nat.le_of_ble_eq_true rfl⟩) ⟨pB_blind, va_recv hK hPc (ci := 1) (q0 := 0) rfl rfl, fun U hU hW => ⟨rfl, pB_go hPc hK hN hU hW⟩⟩ rfl rfl hl.1 rfl (lv_room (Nat.le_of_ble_eq_true rfl)) dX6_as_32 ⟨Nat.zero_le _, Nat.zero_le _⟩).run (fun z_32 ez_32 => ?_)
      subst ez_32
      refine lv_if_eq (tgt := 42) hx hb dX6_as_35 (by decide) (fun c_35 => ?_) (fun c_35 => ?_)
      · have hf := ho_t hf c_35
        refine lv_iconst (v := (-1)) hx hb dX6_as_42 (by decide) ?_
        obtain rfl := Option.some.inj hf
        exact W.iret (v := (-1)) hx hb hr (fun t ht hW => ⟨_, rfl, rfl, ht⟩) (fun q hq => by cases hq) dX6_as_43 hlocks
      · have hf := ho_f hf c_35
        refine lv_iload_n hx hb dX6_as_38 rfl (lv_at hl 1 rfl) ?_
        refine lv_goto (tgt := 43) hx hb dX6_as_39 (by decide) ?_
        obtain rfl := Option.some.inj hf
        exact W.iret (v := x1) hx hb hr (fun t ht hW => ⟨_, rfl, rfl, ht⟩) (fun q hq => by cases hq) dX6_as_43 hlocks
    · have hf := ho_t hf c_20
      refine lv_bipush (v := (-102)) hx hb dX6_as_23 (by decide) ?_
      obtain rfl := Option.some.inj hf
      exact W.iret (v := (-102)) hx hb hr (fun t ht hW => ⟨_, rfl, rfl, ht⟩) (fun q hq => by cases hq) dX6_as_25 hlocks
  · have hf := ho_t hf c_8
    refine lv_bipush (v := (-101)) hx hb dX6_as_11 (by decide) ?_
    obtain rfl := Option.some.inj hf
    exact W.iret (v := (-101)) hx hb hr (fun t ht hW => ⟨_, rfl, rfl, ht⟩) (fun q hq => by cases hq) dX6_as_13 hlocks
set_option maxHeartbeats 4000000 in
set_option maxRecDepth 100000 in
theorem c_X6_come (l : Launch) (dC : Nat → ClassId) (dI : Nat → Nat → Nat) (cI cII : ClassId) (o_t : Nat) (a_t : Nat → Nat) (a_t_now : Nat → Nat) (v_t : obV) (v_t_now : obV) (x1 : Int32) (x2 : Int32) (sz : Nat) (r : Int32 × obV) (hf : f_X6_come  v_t_now x1 x2 = some r) :
    Met l yX6_come (wd yX6_come cX6_come 4 (some .int)) ({ frames := 1, cells := 0, slots := 0, locals := 22 } : Room) (va_Pc [.ref o_t, .int x1, .int x2] (qB (dC, dI) vwCl (wX6 o_t a_t cI v_t ++ (wX1 (a_t 1) a_t_now cI v_t_now)) (hTY cI cII) sz)) (va_Qi (fun (z : Int32) (_ : Unit) => r.1 = z) (fun _ t => va_P (dC, dI) vwCl (wX6 o_t a_t cI v_t ++ (wX1 (a_t 1) a_t_now cI r.2)) t.heap ∧ va_D (va_A (wX6 o_t a_t cI v_t ++ (wX1 (a_t 1) a_t_now cI v_t_now)) sz) (wX6 o_t a_t cI v_t ++ (wX1 (a_t 1) a_t_now cI r.2))) (va_A (wX6 o_t a_t cI v_t ++ (wX1 (a_t 1) a_t_now cI v_t_now)) sz)) 0 0 (va_A (wX6 o_t a_t cI v_t ++ (wX1 (a_t 1) a_t_now cI v_t_now)) sz) := by
  refine Met.ofW (cc := cX6_come) (maxL := 4) (ret := (some .int)) (by decide) rfl ?_
  intro p e s m args below meth c s₁ B hml hv
  obtain ⟨rfl, hsz, hD0, hP, hK, hN⟩ := hv
  have hx := B.exec
  have hb := B.bytes
  have hr := B.returns
  have hts := atoms_spec (ws := (wd yX6_come cX6_come 4 (some .int))) B.pre
  have hown : s.vm.findClass RX6 = some m.cls := findClass_of_methodNamed B.named
  have hlocks := B.notSynchronized
  subst hsz
  have hD := hD0.self (sz := s.heap.size)
  generalize hAe : va_A (wX6 o_t a_t cI v_t ++ (wX1 (a_t 1) a_t_now cI v_t_now)) s.heap.size = A at hD ⊢
  have hA : ∀ q : Nat, s.heap.size ≤ q → A q := fun q h => by rw [← hAe]; exact Or.inr h
  have hS : va_S A s.heap s.heap [] := va_S.rf
  have hl := lv_entry ([.ref o_t, .int x1, .int x2]) (n := 4) (Nat.le_of_ble_eq_true rfl)
  rw [lg_entry_eq]
  generalize (lg_sl ([.ref o_t, .int x1, .int x2]) ++ List.replicate (4 - (lg_sl ([.ref o_t, .int x1, .int x2])).length) Slot.unset).toArray = ls at hl ⊢
  have hl : lv_has ls 4 [(0, .ref o_t), (1, .int x1), (2, .int x2)] := hl
  clear hAe hD0
  unfold f_X6_come at hf
  refine lv_aload_n hx hb dX6_come_0 rfl (lv_at hl 0 rfl) ?_
  refine va_get (D := (dC, dI)) (ci := 6) (v := .ref (a_t 1)) (C := RX6) (T := TX6) (N := 8) hx hb hts hw_X6 hown hK hP 0 rfl rfl 1 (by decide) (hts _ (List.mem_cons_of_mem _ mw_234)) (fun _ h9 => h9) rfl dX6_come_1 ?_
  refine lv_iload_n hx hb dX6_come_4 rfl (lv_at hl 1 rfl) ?_
  obtain ⟨u_5, e_5, hf⟩ := ho_b hf
  have hPc := hP.sub (ws' := (wX1 (a_t 1) a_t_now cI v_t_now)) [1, 2, 3, 4] rfl
  refine vp_callSi (va_runV (As := [.int x1]) (rest := []) ⟨hx, hb, hml, hown, hts⟩ (c_X1_has l dC dI cI cII (a_t 1) a_t_now v_t_now (x1) u_5 e_5) (cwV 1 hts (hw_giV mw_322 mw_323 mw_324 mw_55 mw_325) rfl rfl rfl (by decide +kernel) ⟨Nat.le_of_ble_eq_true rfl, Nat.le_of_ble_eq_true rfl⟩) ⟨pB_blind, va_recv hK hPc (ci := 1) (q0 := 0) rfl rfl, fun U hU hW => ⟨rfl, pB_go hPc hK hN hU hW⟩⟩ rfl rfl hl.1 rfl (lv_room (Nat.le_of_ble_eq_true rfl)) dX6_come_5 ⟨Nat.zero_le _, Nat.zero_le _⟩).run (fun z_5 ez_5 => ?_)
  subst ez_5
  refine lv_if_ne (tgt := 14) hx hb dX6_come_8 (by decide) (fun c_8 => ?_) (fun c_8 => ?_)
  · have hf := ho_f hf c_8
    refine lv_iload_n hx hb dX6_come_14 rfl (lv_at hl 2 rfl) ?_
    refine lv_iconst (v := 0) hx hb dX6_come_15 (by decide) ?_
    refine lv_bipush (v := 9) hx hb dX6_come_16 (by decide) ?_
    obtain ⟨u_18, e_18, hf⟩ := ho_b hf
    have hPc := hP.sub (ws' := ([] : va_W)) [] rfl
    refine vp_callSi (va_runS (As := [.int x2, .int 0, .int 9]) (rest := []) ⟨hx, hb, hml, hown, hts⟩ (c_X6_isWithin l dC dI cI cII (x2) (0) (9) u_18 e_18) (va_cwS 3 hts (hw_giS mw_262 mw_263 mw_53 mw_264) rfl rfl rfl (by decide +kernel) ⟨Nat.le_of_ble_eq_true rfl, Nat.le_of_ble_eq_true rfl⟩) ⟨pB_blind, fun U hU hW => ⟨rfl, pB_go hPc hK hN hU hW⟩⟩ rfl rfl hl.1 rfl (lv_room (Nat.le_of_ble_eq_true rfl)) dX6_come_18 ⟨Nat.zero_le _, Nat.zero_le _⟩).run (fun z_18 ez_18 => ?_)
    subst ez_18
    refine lv_if_ne (tgt := 27) hx hb dX6_come_21 (by decide) (fun c_21 => ?_) (fun c_21 => ?_)
    · have hf := ho_f hf c_21
      refine lv_aload_n hx hb dX6_come_27 rfl (lv_at hl 0 rfl) ?_
      refine va_get (D := (dC, dI)) (ci := 6) (v := .ref (a_t 1)) (C := RX6) (T := TX6) (N := 8) hx hb hts hw_X6 hown hK hP 0 rfl rfl 1 (by decide) (hts _ (List.mem_cons_of_mem _ mw_234)) (fun _ h9 => h9) rfl dX6_come_28 ?_
      refine va_get (D := (dC, dI)) (ci := 1) (v := .ref (a_t_now 2)) (C := RX1) (T := TX1) (N := 7) hx hb hts hw_X1 hown hK hP 1 rfl rfl 2 (by decide) (hts _ (List.mem_cons_of_mem _ mw_121)) (fun _ h9 => h9) rfl dX6_come_31 ?_
      refine lv_iload_n hx hb dX6_come_34 rfl (lv_at hl 1 rfl) ?_
      obtain ⟨h_35, hf⟩ := ho_g hf
      refine va_iald (n := 5) (f := (v_t_now.2 2)) hx hb hK hP 4 0 rfl rfl h_35 dX6_come_35 ?_
      refine lv_istore_n (lv' := [(3, .int ((v_t_now.2 2) (Int32.toNatClampNeg x1))), (0, .ref o_t), (1, .int x1), (2, .int x2)]) hx hb dX6_come_36 rfl hl (by decide) rfl (fun ls hl => ?_)
      refine lv_aload_n hx hb dX6_come_37 rfl (lv_at hl 1 rfl) ?_
      refine va_get (D := (dC, dI)) (ci := 6) (v := .ref (a_t 1)) (C := RX6) (T := TX6) (N := 8) hx hb hts hw_X6 hown hK hP 0 rfl rfl 1 (by decide) (hts _ (List.mem_cons_of_mem _ mw_234)) (fun _ h9 => h9) rfl dX6_come_38 ?_
      refine va_get (D := (dC, dI)) (ci := 1) (v := .ref (a_t_now 2)) (C := RX1) (T := TX1) (N := 7) hx hb hts hw_X1 hown hK hP 1 rfl rfl 2 (by decide) (hts _ (List.mem_cons_of_mem _ mw_121)) (fun _ h9 => h9) rfl dX6_come_41 ?_
      refine lv_iload_n hx hb dX6_come_44 rfl (lv_at hl 2 rfl) ?_
      refine lv_iload_n hx hb dX6_come_45 rfl (lv_at hl 3 rfl) ?_
      obtain ⟨h_46, hf⟩ := ho_g hf
      refine va_iast (n := 5) (f := (v_t_now.2 2)) hx hb hK hP hD hS 4 0 rfl rfl h_46 dX6_come_46 (fun H locs hP hD hS => ?_)
      have hP : va_P (dC, dI) vwCl (wX6 o_t a_t cI v_t ++ (wX1 (a_t 1) a_t_now cI (oA v_t_now 2 (Int32.toNatClampNeg x1) x2))) H := hP
      have hD : va_D A (wX6 o_t a_t cI v_t ++ (wX1 (a_t 1) a_t_now cI (oA v_t_now 2 (Int32.toNatClampNeg x1) x2))) := hD
      obtain ⟨v_t_now_46, e_v_t_now_46⟩ : ∃ z : obV, z = (oA v_t_now 2 (Int32.toNatClampNeg x1) x2) := ⟨_, rfl⟩
      rw [← e_v_t_now_46] at hP hD
      have hf := ho_l hf v_t_now_46 e_v_t_now_46
      refine lv_aload_n hx hb dX6_come_47 rfl (lv_at hl 1 rfl) ?_
      refine va_get (D := (dC, dI)) (ci := 6) (v := .ref (a_t 1)) (C := RX6) (T := TX6) (N := 8) hx hb hts hw_X6 hown hK hP 0 rfl rfl 1 (by decide) (hts _ (List.mem_cons_of_mem _ mw_234)) (fun _ h9 => h9) rfl dX6_come_48 ?_
      refine lv_dup hx hb dX6_come_51 rfl ?_
      refine va_get (D := (dC, dI)) (ci := 1) (v := .int (v_t_now_46.1 6)) (C := RX1) (T := TX1) (N := 7) hx hb hts hw_X1 hown hK hP 1 rfl rfl 6 (by decide) (hts _ (List.mem_cons_of_mem _ mw_133)) (fun _ h9 => h9) rfl dX6_come_52 ?_
      refine lv_iconst (v := 1) hx hb dX6_come_55 (by decide) ?_
      refine lv_iadd hx hb dX6_come_56 ?_
      refine va_put (D := (dC, dI)) (ci := 1) (v := .int ((v_t_now_46.1 6) + 1)) (ty := .int) (C := RX1) (T := TX1) (N := 7) hx hb hts hw_X1 tyX1 tyX1_ok nmX1 hown hK hP hD hS 1 rfl rfl 6 (by decide) (hts _ (List.mem_cons_of_mem _ mw_133)) (fun _ h9 => h9) rfl (by decide +kernel) rfl rfl (Nat.le_of_ble_eq_true rfl) dX6_come_57 (fun H locs hP hD hS => ?_)
      have hP : va_P (dC, dI) vwCl (wX6 o_t a_t cI v_t ++ (wX1 (a_t 1) a_t_now cI (oF v_t_now_46 6 ((v_t_now_46.1 6) + 1)))) H := hP
      have hD : va_D A (wX6 o_t a_t cI v_t ++ (wX1 (a_t 1) a_t_now cI (oF v_t_now_46 6 ((v_t_now_46.1 6) + 1)))) := hD
      obtain ⟨v_t_now_57, e_v_t_now_57⟩ : ∃ z : obV, z = (oF v_t_now_46 6 ((v_t_now_46.1 6) + 1)) := ⟨_, rfl⟩
      rw [← e_v_t_now_57] at hP hD
      have hf := ho_l hf v_t_now_57 e_v_t_now_57
      refine lv_iload_n hx hb dX6_come_60 rfl (lv_at hl 0 rfl) ?_
      obtain rfl := Option.some.inj hf
      exact W.iret (v := ((v_t_now.2 2) (Int32.toNatClampNeg x1))) hx hb hr (fun t ht hW => ⟨⟨_, (), rfl, rfl, by rw [ht]; exact hP, hD⟩, hS.F ht⟩) hS.2.2 dX6_come_61 hlocks
    · have hf := ho_t hf c_21
      refine lv_bipush (v := (-102)) hx hb dX6_come_24 (by decide) ?_
      obtain rfl := Option.some.inj hf
      exact W.iret (v := (-102)) hx hb hr (fun t ht hW => ⟨⟨_, (), rfl, rfl, by rw [ht]; exact hP, hD⟩, hS.F ht⟩) hS.2.2 dX6_come_26 hlocks
  · have hf := ho_t hf c_8
    refine lv_bipush (v := (-101)) hx hb dX6_come_11 (by decide) ?_
    obtain rfl := Option.some.inj hf
    exact W.iret (v := (-101)) hx hb hr (fun t ht hW => ⟨⟨_, (), rfl, rfl, by rw [ht]; exact hP, hD⟩, hS.F ht⟩) hS.2.2 dX6_come_13 hlocks
set_option maxHeartbeats 4000000 in
set_option maxRecDepth 100000 in
theorem c_X6_trouble (l : Launch) (dC : Nat → ClassId) (dI : Nat → Nat → Nat) (cI cII : ClassId) (o_t : Nat) (a_t : Nat → Nat) (a_t_now : Nat → Nat) (v_t : obV) (v_t_now : obV) (x1 : Int32) (x2 : Int32) (sz : Nat) (r : Int32 × obV) (hf : f_X6_trouble  v_t_now x1 x2 = some r) :
    Met l yX6_trouble (wd yX6_trouble cX6_trouble 4 (some .int)) ({ frames := 1, cells := 0, slots := 0, locals := 22 } : Room) (va_Pc [.ref o_t, .int x1, .int x2] (qB (dC, dI) vwCl (wX6 o_t a_t cI v_t ++ (wX1 (a_t 1) a_t_now cI v_t_now)) (hTY cI cII) sz)) (va_Qi (fun (z : Int32) (_ : Unit) => r.1 = z) (fun _ t => va_P (dC, dI) vwCl (wX6 o_t a_t cI v_t ++ (wX1 (a_t 1) a_t_now cI r.2)) t.heap ∧ va_D (va_A (wX6 o_t a_t cI v_t ++ (wX1 (a_t 1) a_t_now cI v_t_now)) sz) (wX6 o_t a_t cI v_t ++ (wX1 (a_t 1) a_t_now cI r.2))) (va_A (wX6 o_t a_t cI v_t ++ (wX1 (a_t 1) a_t_now cI v_t_now)) sz)) 0 0 (va_A (wX6 o_t a_t cI v_t ++ (wX1 (a_t 1) a_t_now cI v_t_now)) sz) := by
  refine Met.ofW (cc := cX6_trouble) (maxL := 4) (ret := (some .int)) (by decide) rfl ?_
  intro p e s m args below meth c s₁ B hml hv
  obtain ⟨rfl, hsz, hD0, hP, hK, hN⟩ := hv
  have hx := B.exec
  have hb := B.bytes
  have hr := B.returns
  have hts := atoms_spec (ws := (wd yX6_trouble cX6_trouble 4 (some .int))) B.pre
  have hown : s.vm.findClass RX6 = some m.cls := findClass_of_methodNamed B.named
  have hlocks := B.notSynchronized
  subst hsz
  have hD := hD0.self (sz := s.heap.size)
  generalize hAe : va_A (wX6 o_t a_t cI v_t ++ (wX1 (a_t 1) a_t_now cI v_t_now)) s.heap.size = A at hD ⊢
  have hA : ∀ q : Nat, s.heap.size ≤ q → A q := fun q h => by rw [← hAe]; exact Or.inr h
  have hS : va_S A s.heap s.heap [] := va_S.rf
  have hl := lv_entry ([.ref o_t, .int x1, .int x2]) (n := 4) (Nat.le_of_ble_eq_true rfl)
  rw [lg_entry_eq]
  generalize (lg_sl ([.ref o_t, .int x1, .int x2]) ++ List.replicate (4 - (lg_sl ([.ref o_t, .int x1, .int x2])).length) Slot.unset).toArray = ls at hl ⊢
  have hl : lv_has ls 4 [(0, .ref o_t), (1, .int x1), (2, .int x2)] := hl
  clear hAe hD0
  unfold f_X6_trouble at hf
  refine lv_aload_n hx hb dX6_trouble_0 rfl (lv_at hl 0 rfl) ?_
  refine va_get (D := (dC, dI)) (ci := 6) (v := .ref (a_t 1)) (C := RX6) (T := TX6) (N := 8) hx hb hts hw_X6 hown hK hP 0 rfl rfl 1 (by decide) (hts _ (List.mem_cons_of_mem _ mw_234)) (fun _ h9 => h9) rfl dX6_trouble_1 ?_
  refine lv_iload_n hx hb dX6_trouble_4 rfl (lv_at hl 1 rfl) ?_
  obtain ⟨u_5, e_5, hf⟩ := ho_b hf
  have hPc := hP.sub (ws' := (wX1 (a_t 1) a_t_now cI v_t_now)) [1, 2, 3, 4] rfl
  refine vp_callSi (va_runV (As := [.int x1]) (rest := []) ⟨hx, hb, hml, hown, hts⟩ (c_X1_has l dC dI cI cII (a_t 1) a_t_now v_t_now (x1) u_5 e_5) (cwV 1 hts (hw_giV mw_322 mw_323 mw_324 mw_55 mw_325) rfl rfl rfl (by decide +kernel) ⟨Nat.le_of_ble_eq_true rfl, Nat.le_of_ble_eq_true rfl⟩) ⟨pB_blind, va_recv hK hPc (ci := 1) (q0 := 0) rfl rfl, fun U hU hW => ⟨rfl, pB_go hPc hK hN hU hW⟩⟩ rfl rfl hl.1 rfl (lv_room (Nat.le_of_ble_eq_true rfl)) dX6_trouble_5 ⟨Nat.zero_le _, Nat.zero_le _⟩).run (fun z_5 ez_5 => ?_)
  subst ez_5
  refine lv_if_ne (tgt := 14) hx hb dX6_trouble_8 (by decide) (fun c_8 => ?_) (fun c_8 => ?_)
  · have hf := ho_f hf c_8
    refine lv_iload_n hx hb dX6_trouble_14 rfl (lv_at hl 2 rfl) ?_
    refine lv_iconst (v := 0) hx hb dX6_trouble_15 (by decide) ?_
    refine lv_iconst (v := 5) hx hb dX6_trouble_16 (by decide) ?_
    obtain ⟨u_17, e_17, hf⟩ := ho_b hf
    have hPc := hP.sub (ws' := ([] : va_W)) [] rfl
    refine vp_callSi (va_runS (As := [.int x2, .int 0, .int 5]) (rest := []) ⟨hx, hb, hml, hown, hts⟩ (c_X6_isWithin l dC dI cI cII (x2) (0) (5) u_17 e_17) (va_cwS 3 hts (hw_giS mw_262 mw_263 mw_53 mw_264) rfl rfl rfl (by decide +kernel) ⟨Nat.le_of_ble_eq_true rfl, Nat.le_of_ble_eq_true rfl⟩) ⟨pB_blind, fun U hU hW => ⟨rfl, pB_go hPc hK hN hU hW⟩⟩ rfl rfl hl.1 rfl (lv_room (Nat.le_of_ble_eq_true rfl)) dX6_trouble_17 ⟨Nat.zero_le _, Nat.zero_le _⟩).run (fun z_17 ez_17 => ?_)
    subst ez_17
    refine lv_if_ne (tgt := 26) hx hb dX6_trouble_20 (by decide) (fun c_20 => ?_) (fun c_20 => ?_)
    · have hf := ho_f hf c_20
      refine lv_aload_n hx hb dX6_trouble_26 rfl (lv_at hl 0 rfl) ?_
      refine va_get (D := (dC, dI)) (ci := 6) (v := .ref (a_t 1)) (C := RX6) (T := TX6) (N := 8) hx hb hts hw_X6 hown hK hP 0 rfl rfl 1 (by decide) (hts _ (List.mem_cons_of_mem _ mw_234)) (fun _ h9 => h9) rfl dX6_trouble_27 ?_
      refine va_get (D := (dC, dI)) (ci := 1) (v := .ref (a_t_now 1)) (C := RX1) (T := TX1) (N := 7) hx hb hts hw_X1 hown hK hP 1 rfl rfl 1 (by decide) (hts _ (List.mem_cons_of_mem _ mw_117)) (fun _ h9 => h9) rfl dX6_trouble_30 ?_
      refine lv_iload_n hx hb dX6_trouble_33 rfl (lv_at hl 1 rfl) ?_
      obtain ⟨h_34, hf⟩ := ho_g hf
      refine va_iald (n := 5) (f := (v_t_now.2 1)) hx hb hK hP 3 0 rfl rfl h_34 dX6_trouble_34 ?_
      refine lv_istore_n (lv' := [(3, .int ((v_t_now.2 1) (Int32.toNatClampNeg x1))), (0, .ref o_t), (1, .int x1), (2, .int x2)]) hx hb dX6_trouble_35 rfl hl (by decide) rfl (fun ls hl => ?_)
      refine lv_aload_n hx hb dX6_trouble_36 rfl (lv_at hl 1 rfl) ?_
      refine va_get (D := (dC, dI)) (ci := 6) (v := .ref (a_t 1)) (C := RX6) (T := TX6) (N := 8) hx hb hts hw_X6 hown hK hP 0 rfl rfl 1 (by decide) (hts _ (List.mem_cons_of_mem _ mw_234)) (fun _ h9 => h9) rfl dX6_trouble_37 ?_
      refine va_get (D := (dC, dI)) (ci := 1) (v := .ref (a_t_now 1)) (C := RX1) (T := TX1) (N := 7) hx hb hts hw_X1 hown hK hP 1 rfl rfl 1 (by decide) (hts _ (List.mem_cons_of_mem _ mw_117)) (fun _ h9 => h9) rfl dX6_trouble_40 ?_
      refine lv_iload_n hx hb dX6_trouble_43 rfl (lv_at hl 2 rfl) ?_
      refine lv_iload_n hx hb dX6_trouble_44 rfl (lv_at hl 3 rfl) ?_
      obtain ⟨h_45, hf⟩ := ho_g hf
      refine va_iast (n := 5) (f := (v_t_now.2 1)) hx hb hK hP hD hS 3 0 rfl rfl h_45 dX6_trouble_45 (fun H locs hP hD hS => ?_)
      have hP : va_P (dC, dI) vwCl (wX6 o_t a_t cI v_t ++ (wX1 (a_t 1) a_t_now cI (oA v_t_now 1 (Int32.toNatClampNeg x1) x2))) H := hP
      have hD : va_D A (wX6 o_t a_t cI v_t ++ (wX1 (a_t 1) a_t_now cI (oA v_t_now 1 (Int32.toNatClampNeg x1) x2))) := hD
      obtain ⟨v_t_now_45, e_v_t_now_45⟩ : ∃ z : obV, z = (oA v_t_now 1 (Int32.toNatClampNeg x1) x2) := ⟨_, rfl⟩
      rw [← e_v_t_now_45] at hP hD
      have hf := ho_l hf v_t_now_45 e_v_t_now_45
      refine lv_aload_n hx hb dX6_trouble_46 rfl (lv_at hl 1 rfl) ?_
      refine va_get (D := (dC, dI)) (ci := 6) (v := .ref (a_t 1)) (C := RX6) (T := TX6) (N := 8) hx hb hts hw_X6 hown hK hP 0 rfl rfl 1 (by decide) (hts _ (List.mem_cons_of_mem _ mw_234)) (fun _ h9 => h9) rfl dX6_trouble_47 ?_
      refine lv_dup hx hb dX6_trouble_50 rfl ?_
      refine va_get (D := (dC, dI)) (ci := 1) (v := .int (v_t_now_45.1 6)) (C := RX1) (T := TX1) (N := 7) hx hb hts hw_X1 hown hK hP 1 rfl rfl 6 (by decide) (hts _ (List.mem_cons_of_mem _ mw_133)) (fun _ h9 => h9) rfl dX6_trouble_51 ?_
      refine lv_iconst (v := 1) hx hb dX6_trouble_54 (by decide) ?_
      refine lv_iadd hx hb dX6_trouble_55 ?_
      refine va_put (D := (dC, dI)) (ci := 1) (v := .int ((v_t_now_45.1 6) + 1)) (ty := .int) (C := RX1) (T := TX1) (N := 7) hx hb hts hw_X1 tyX1 tyX1_ok nmX1 hown hK hP hD hS 1 rfl rfl 6 (by decide) (hts _ (List.mem_cons_of_mem _ mw_133)) (fun _ h9 => h9) rfl (by decide +kernel) rfl rfl (Nat.le_of_ble_eq_true rfl) dX6_trouble_56 (fun H locs hP hD hS => ?_)
      have hP : va_P (dC, dI) vwCl (wX6 o_t a_t cI v_t ++ (wX1 (a_t 1) a_t_now cI (oF v_t_now_45 6 ((v_t_now_45.1 6) + 1)))) H := hP
      have hD : va_D A (wX6 o_t a_t cI v_t ++ (wX1 (a_t 1) a_t_now cI (oF v_t_now_45 6 ((v_t_now_45.1 6) + 1)))) := hD
      obtain ⟨v_t_now_56, e_v_t_now_56⟩ : ∃ z : obV, z = (oF v_t_now_45 6 ((v_t_now_45.1 6) + 1)) := ⟨_, rfl⟩
      rw [← e_v_t_now_56] at hP hD
      have hf := ho_l hf v_t_now_56 e_v_t_now_56
      refine lv_iload_n hx hb dX6_trouble_59 rfl (lv_at hl 0 rfl) ?_
      obtain rfl := Option.some.inj hf
      exact W.iret (v := ((v_t_now.2 1) (Int32.toNatClampNeg x1))) hx hb hr (fun t ht hW => ⟨⟨_, (), rfl, rfl, by rw [ht]; exact hP, hD⟩, hS.F ht⟩) hS.2.2 dX6_trouble_60 hlocks
    · have hf := ho_t hf c_20
      refine lv_bipush (v := (-102)) hx hb dX6_trouble_23 (by decide) ?_
      obtain rfl := Option.some.inj hf
      exact W.iret (v := (-102)) hx hb hr (fun t ht hW => ⟨⟨_, (), rfl, rfl, by rw [ht]; exact hP, hD⟩, hS.F ht⟩) hS.2.2 dX6_trouble_25 hlocks
  · have hf := ho_t hf c_8
    refine lv_bipush (v := (-101)) hx hb dX6_trouble_11 (by decide) ?_
    obtain rfl := Option.some.inj hf
    exact W.iret (v := (-101)) hx hb hr (fun t ht hW => ⟨⟨_, (), rfl, rfl, by rw [ht]; exact hP, hD⟩, hS.F ht⟩) hS.2.2 dX6_trouble_13 hlocks
set_option maxHeartbeats 4000000 in
set_option maxRecDepth 100000 in
theorem c_X6_patience (l : Launch) (dC : Nat → ClassId) (dI : Nat → Nat → Nat) (cI cII : ClassId) (o_t : Nat) (a_t : Nat → Nat) (a_t_now : Nat → Nat) (v_t : obV) (v_t_now : obV) (x1 : Int32) (sz : Nat) (r : Int32 × obV) (hf : f_X6_patience  v_t_now x1 = some r) :
    Met l yX6_patience (wd yX6_patience cX6_patience 3 (some .int)) ({ frames := 1, cells := 0, slots := 0, locals := 22 } : Room) (va_Pc [.ref o_t, .int x1] (qB (dC, dI) vwCl (wX6 o_t a_t cI v_t ++ (wX1 (a_t 1) a_t_now cI v_t_now)) (hTY cI cII) sz)) (va_Qi (fun (z : Int32) (_ : Unit) => r.1 = z) (fun _ t => va_P (dC, dI) vwCl (wX6 o_t a_t cI v_t ++ (wX1 (a_t 1) a_t_now cI r.2)) t.heap ∧ va_D (va_A (wX6 o_t a_t cI v_t ++ (wX1 (a_t 1) a_t_now cI v_t_now)) sz) (wX6 o_t a_t cI v_t ++ (wX1 (a_t 1) a_t_now cI r.2))) (va_A (wX6 o_t a_t cI v_t ++ (wX1 (a_t 1) a_t_now cI v_t_now)) sz)) 0 0 (va_A (wX6 o_t a_t cI v_t ++ (wX1 (a_t 1) a_t_now cI v_t_now)) sz) := by
  refine Met.ofW (cc := cX6_patience) (maxL := 3) (ret := (some .int)) (by decide) rfl ?_
  intro p e s m args below meth c s₁ B hml hv
  obtain ⟨rfl, hsz, hD0, hP, hK, hN⟩ := hv
  have hx := B.exec
  have hb := B.bytes
  have hr := B.returns
  have hts := atoms_spec (ws := (wd yX6_patience cX6_patience 3 (some .int))) B.pre
  have hown : s.vm.findClass RX6 = some m.cls := findClass_of_methodNamed B.named
  have hlocks := B.notSynchronized
  subst hsz
  have hD := hD0.self (sz := s.heap.size)
  generalize hAe : va_A (wX6 o_t a_t cI v_t ++ (wX1 (a_t 1) a_t_now cI v_t_now)) s.heap.size = A at hD ⊢
  have hA : ∀ q : Nat, s.heap.size ≤ q → A q := fun q h => by rw [← hAe]; exact Or.inr h
  have hS : va_S A s.heap s.heap [] := va_S.rf
  have hl := lv_entry ([.ref o_t, .int x1]) (n := 3) (Nat.le_of_ble_eq_true rfl)
  rw [lg_entry_eq]
  generalize (lg_sl ([.ref o_t, .int x1]) ++ List.replicate (3 - (lg_sl ([.ref o_t, .int x1])).length) Slot.unset).toArray = ls at hl ⊢
  have hl : lv_has ls 3 [(0, .ref o_t), (1, .int x1)] := hl
  clear hAe hD0
  unfold f_X6_patience at hf
  refine lv_iload_n hx hb dX6_patience_0 rfl (lv_at hl 1 rfl) ?_
  refine lv_iconst (v := 0) hx hb dX6_patience_1 (by decide) ?_
  refine lv_bipush (v := 20) hx hb dX6_patience_2 (by decide) ?_
  obtain ⟨u_4, e_4, hf⟩ := ho_b hf
  have hPc := hP.sub (ws' := ([] : va_W)) [] rfl
  refine vp_callSi (va_runS (As := [.int x1, .int 0, .int 20]) (rest := []) ⟨hx, hb, hml, hown, hts⟩ (c_X6_isWithin l dC dI cI cII (x1) (0) (20) u_4 e_4) (va_cwS 3 hts (hw_giS mw_262 mw_263 mw_53 mw_264) rfl rfl rfl (by decide +kernel) ⟨Nat.le_of_ble_eq_true rfl, Nat.le_of_ble_eq_true rfl⟩) ⟨pB_blind, fun U hU hW => ⟨rfl, pB_go hPc hK hN hU hW⟩⟩ rfl rfl hl.1 rfl (lv_room (Nat.le_of_ble_eq_true rfl)) dX6_patience_4 ⟨Nat.zero_le _, Nat.zero_le _⟩).run (fun z_4 ez_4 => ?_)
  subst ez_4
  refine lv_if_ne (tgt := 13) hx hb dX6_patience_7 (by decide) (fun c_7 => ?_) (fun c_7 => ?_)
  · have hf := ho_f hf c_7
    refine lv_aload_n hx hb dX6_patience_13 rfl (lv_at hl 0 rfl) ?_
    refine va_get (D := (dC, dI)) (ci := 6) (v := .ref (a_t 1)) (C := RX6) (T := TX6) (N := 8) hx hb hts hw_X6 hown hK hP 0 rfl rfl 1 (by decide) (hts _ (List.mem_cons_of_mem _ mw_234)) (fun _ h9 => h9) rfl dX6_patience_14 ?_
    obtain ⟨u_17, e_17, hf⟩ := ho_b hf
    have hPc := hP.sub (ws' := (wX1 (a_t 1) a_t_now cI v_t_now)) [1, 2, 3, 4] rfl
    refine vp_callSi (va_runV (As := []) (rest := []) ⟨hx, hb, hml, hown, hts⟩ (c_X1_isNone l dC dI cI cII (a_t 1) a_t_now v_t_now u_17 e_17) (cwV 0 hts (hw_giV mw_435 mw_436 mw_437 mw_55 mw_438) rfl rfl rfl (by decide +kernel) ⟨Nat.le_of_ble_eq_true rfl, Nat.le_of_ble_eq_true rfl⟩) ⟨pB_blind, va_recv hK hPc (ci := 1) (q0 := 0) rfl rfl, fun U hU hW => ⟨rfl, pB_go hPc hK hN hU hW⟩⟩ rfl rfl hl.1 rfl (lv_room (Nat.le_of_ble_eq_true rfl)) dX6_patience_17 ⟨Nat.zero_le _, Nat.zero_le _⟩).run (fun z_17 ez_17 => ?_)
    subst ez_17
    refine lv_if_eq (tgt := 26) hx hb dX6_patience_20 (by decide) (fun c_20 => ?_) (fun c_20 => ?_)
    · have hf := ho_t hf c_20
      refine lv_aload_n hx hb dX6_patience_26 rfl (lv_at hl 0 rfl) ?_
      refine va_get (D := (dC, dI)) (ci := 6) (v := .ref (a_t 1)) (C := RX6) (T := TX6) (N := 8) hx hb hts hw_X6 hown hK hP 0 rfl rfl 1 (by decide) (hts _ (List.mem_cons_of_mem _ mw_234)) (fun _ h9 => h9) rfl dX6_patience_27 ?_
      refine va_get (D := (dC, dI)) (ci := 1) (v := .int (v_t_now.1 5)) (C := RX1) (T := TX1) (N := 7) hx hb hts hw_X1 hown hK hP 1 rfl rfl 5 (by decide) (hts _ (List.mem_cons_of_mem _ mw_131)) (fun _ h9 => h9) rfl dX6_patience_30 ?_
      refine lv_istore_n (lv' := [(2, .int (v_t_now.1 5)), (0, .ref o_t), (1, .int x1)]) hx hb dX6_patience_33 rfl hl (by decide) rfl (fun ls hl => ?_)
      refine lv_aload_n hx hb dX6_patience_34 rfl (lv_at hl 1 rfl) ?_
      refine va_get (D := (dC, dI)) (ci := 6) (v := .ref (a_t 1)) (C := RX6) (T := TX6) (N := 8) hx hb hts hw_X6 hown hK hP 0 rfl rfl 1 (by decide) (hts _ (List.mem_cons_of_mem _ mw_234)) (fun _ h9 => h9) rfl dX6_patience_35 ?_
      refine lv_iload_n hx hb dX6_patience_38 rfl (lv_at hl 2 rfl) ?_
      refine va_put (D := (dC, dI)) (ci := 1) (v := .int x1) (ty := .int) (C := RX1) (T := TX1) (N := 7) hx hb hts hw_X1 tyX1 tyX1_ok nmX1 hown hK hP hD hS 1 rfl rfl 5 (by decide) (hts _ (List.mem_cons_of_mem _ mw_131)) (fun _ h9 => h9) rfl (by decide +kernel) rfl rfl (Nat.le_of_ble_eq_true rfl) dX6_patience_39 (fun H locs hP hD hS => ?_)
      have hP : va_P (dC, dI) vwCl (wX6 o_t a_t cI v_t ++ (wX1 (a_t 1) a_t_now cI (oF v_t_now 5 x1))) H := hP
      have hD : va_D A (wX6 o_t a_t cI v_t ++ (wX1 (a_t 1) a_t_now cI (oF v_t_now 5 x1))) := hD
      obtain ⟨v_t_now_39, e_v_t_now_39⟩ : ∃ z : obV, z = (oF v_t_now 5 x1) := ⟨_, rfl⟩
      rw [← e_v_t_now_39] at hP hD
      have hf := ho_l hf v_t_now_39 e_v_t_now_39
      refine lv_aload_n hx hb dX6_patience_42 rfl (lv_at hl 1 rfl) ?_
      refine va_get (D := (dC, dI)) (ci := 6) (v := .ref (a_t 1)) (C := RX6) (T := TX6) (N := 8) hx hb hts hw_X6 hown hK hP 0 rfl rfl 1 (by decide) (hts _ (List.mem_cons_of_mem _ mw_234)) (fun _ h9 => h9) rfl dX6_patience_43 ?_
      refine lv_dup hx hb dX6_patience_46 rfl ?_
      refine va_get (D := (dC, dI)) (ci := 1) (v := .int (v_t_now_39.1 6)) (C := RX1) (T := TX1) (N := 7) hx hb hts hw_X1 hown hK hP 1 rfl rfl 6 (by decide) (hts _ (List.mem_cons_of_mem _ mw_133)) (fun _ h9 => h9) rfl dX6_patience_47 ?_
      refine lv_iconst (v := 1) hx hb dX6_patience_50 (by decide) ?_
      refine lv_iadd hx hb dX6_patience_51 ?_
      refine va_put (D := (dC, dI)) (ci := 1) (v := .int ((v_t_now_39.1 6) + 1)) (ty := .int) (C := RX1) (T := TX1) (N := 7) hx hb hts hw_X1 tyX1 tyX1_ok nmX1 hown hK hP hD hS 1 rfl rfl 6 (by decide) (hts _ (List.mem_cons_of_mem _ mw_133)) (fun _ h9 => h9) rfl (by decide +kernel) rfl rfl (Nat.le_of_ble_eq_true rfl) dX6_patience_52 (fun H locs hP hD hS => ?_)
      have hP : va_P (dC, dI) vwCl (wX6 o_t a_t cI v_t ++ (wX1 (a_t 1) a_t_now cI (oF v_t_now_39 6 ((v_t_now_39.1 6) + 1)))) H := hP
      have hD : va_D A (wX6 o_t a_t cI v_t ++ (wX1 (a_t 1) a_t_now cI (oF v_t_now_39 6 ((v_t_now_39.1 6) + 1)))) := hD
      obtain ⟨v_t_now_52, e_v_t_now_52⟩ : ∃ z : obV, z = (oF v_t_now_39 6 ((v_t_now_39.1 6) + 1)) := ⟨_, rfl⟩
      rw [← e_v_t_now_52] at hP hD
      have hf := ho_l hf v_t_now_52 e_v_t_now_52
      refine lv_iload_n hx hb dX6_patience_55 rfl (lv_at hl 0 rfl) ?_
      obtain rfl := Option.some.inj hf
      exact W.iret (v := (v_t_now.1 5)) hx hb hr (fun t ht hW => ⟨⟨_, (), rfl, rfl, by rw [ht]; exact hP, hD⟩, hS.F ht⟩) hS.2.2 dX6_patience_56 hlocks
    · have hf := ho_f hf c_20
      refine lv_bipush (v := (-103)) hx hb dX6_patience_23 (by decide) ?_
      obtain rfl := Option.some.inj hf
      exact W.iret (v := (-103)) hx hb hr (fun t ht hW => ⟨⟨_, (), rfl, rfl, by rw [ht]; exact hP, hD⟩, hS.F ht⟩) hS.2.2 dX6_patience_25 hlocks
  · have hf := ho_t hf c_7
    refine lv_bipush (v := (-102)) hx hb dX6_patience_10 (by decide) ?_
    obtain rfl := Option.some.inj hf
    exact W.iret (v := (-102)) hx hb hr (fun t ht hW => ⟨⟨_, (), rfl, rfl, by rw [ht]; exact hP, hD⟩, hS.F ht⟩) hS.2.2 dX6_patience_12 hlocks
set_option maxHeartbeats 4000000 in
set_option maxRecDepth 100000 in
theorem c_X6_tellDay (l : Launch) (dC : Nat → ClassId) (dI : Nat → Nat → Nat) (cI cII : ClassId) (o_t : Nat) (a_t : Nat → Nat) (a_t_today : Nat → Nat) (v_t : obV) (v_t_today : obV) (x1 : Int32) (r : Int32) (hf : f_X6_tellDay  v_t_today x1 = some r) :
    Met l yX6_tellDay (wd yX6_tellDay cX6_tellDay 2 (some .int)) ({ frames := 2, cells := 0, slots := 0, locals := 43 } : Room) (va_Pc [.ref o_t, .int x1] (pB (dC, dI) vwCl (wX6 o_t a_t cI v_t ++ (wX2 (a_t 3) a_t_today cI v_t_today)) (hTY cI cII))) (vp_Si (fun z => r = z)) 0 0 (fun _ => False) := by
  refine Met.ofW (cc := cX6_tellDay) (maxL := 2) (ret := (some .int)) (by decide) rfl ?_
  intro p e s m args below meth c s₁ B hml hv
  obtain ⟨rfl, hP, hK, hN⟩ := hv
  have hx := B.exec
  have hb := B.bytes
  have hr := B.returns
  have hts := atoms_spec (ws := (wd yX6_tellDay cX6_tellDay 2 (some .int))) B.pre
  have hown : s.vm.findClass RX6 = some m.cls := findClass_of_methodNamed B.named
  have hlocks := B.notSynchronized
  have hl := lv_entry ([.ref o_t, .int x1]) (n := 2) (Nat.le_of_ble_eq_true rfl)
  rw [lg_entry_eq]
  generalize (lg_sl ([.ref o_t, .int x1]) ++ List.replicate (2 - (lg_sl ([.ref o_t, .int x1])).length) Slot.unset).toArray = ls at hl ⊢
  have hl : lv_has ls 2 [(0, .ref o_t), (1, .int x1)] := hl
  unfold f_X6_tellDay at hf
  refine lv_iload_n hx hb dX6_tellDay_0 rfl (lv_at hl 1 rfl) ?_
  by_cases c_1_0 : x1 = 0
  · have hf := ho_t hf c_1_0
    refine lv_tableIn (tgt := 32) hx hb dX6_tellDay_1 (by rw [c_1_0] <;> decide) (by rw [c_1_0] <;> decide) (by rw [c_1_0] <;> rfl) (by decide) ?_
    refine lv_aload_n hx hb dX6_tellDay_32 rfl (lv_at hl 0 rfl) ?_
    refine va_get (D := (dC, dI)) (ci := 6) (v := .ref (a_t 3)) (C := RX6) (T := TX6) (N := 8) hx hb hts hw_X6 hown hK hP 0 rfl rfl 3 (by decide) (hts _ (List.mem_cons_of_mem _ mw_236)) (fun _ h9 => h9) rfl dX6_tellDay_33 ?_
    obtain ⟨u_36, e_36, hf⟩ := ho_b hf
    have hPc := hP.sub (ws' := (wX2 (a_t 3) a_t_today cI v_t_today)) [1, 2, 3, 4, 5] rfl
    refine vp_callSi (va_runV (As := []) (rest := []) ⟨hx, hb, hml, hown, hts⟩ (c_X2_received l dC dI cI cII (a_t 3) a_t_today v_t_today u_36 e_36) (cwV 0 hts (hw_giV mw_447 mw_448 mw_449 mw_57 mw_450) rfl rfl rfl (by decide +kernel) ⟨Nat.le_of_ble_eq_true rfl, Nat.le_of_ble_eq_true rfl⟩) ⟨pB_blind, va_recv hK hPc (ci := 2) (q0 := 0) rfl rfl, fun U hU hW => ⟨rfl, pB_go hPc hK hN hU hW⟩⟩ rfl rfl hl.1 rfl (lv_room (Nat.le_of_ble_eq_true rfl)) dX6_tellDay_36 ⟨Nat.zero_le _, Nat.zero_le _⟩).run (fun z_36 ez_36 => ?_)
    subst ez_36
    obtain rfl := Option.some.inj hf
    exact W.iret (v := u_36) hx hb hr (fun t ht hW => ⟨_, rfl, rfl, ht⟩) (fun q hq => by cases hq) dX6_tellDay_39 hlocks
  have hf := ho_f hf c_1_0
  by_cases c_1_1 : x1 = 1
  · have hf := ho_t hf c_1_1
    refine lv_tableIn (tgt := 40) hx hb dX6_tellDay_1 (by rw [c_1_1] <;> decide) (by rw [c_1_1] <;> decide) (by rw [c_1_1] <;> rfl) (by decide) ?_
    refine lv_aload_n hx hb dX6_tellDay_40 rfl (lv_at hl 0 rfl) ?_
    refine va_get (D := (dC, dI)) (ci := 6) (v := .ref (a_t 3)) (C := RX6) (T := TX6) (N := 8) hx hb hts hw_X6 hown hK hP 0 rfl rfl 3 (by decide) (hts _ (List.mem_cons_of_mem _ mw_236)) (fun _ h9 => h9) rfl dX6_tellDay_41 ?_
    obtain ⟨u_44, e_44, hf⟩ := ho_b hf
    have hPc := hP.sub (ws' := (wX2 (a_t 3) a_t_today cI v_t_today)) [1, 2, 3, 4, 5] rfl
    refine vp_callSi (va_runV (As := []) (rest := []) ⟨hx, hb, hml, hown, hts⟩ (c_X2_helped l dC dI cI cII (a_t 3) a_t_today v_t_today u_44 e_44) (cwV 0 hts (hw_giV mw_451 mw_452 mw_453 mw_57 mw_454) rfl rfl rfl (by decide +kernel) ⟨Nat.le_of_ble_eq_true rfl, Nat.le_of_ble_eq_true rfl⟩) ⟨pB_blind, va_recv hK hPc (ci := 2) (q0 := 0) rfl rfl, fun U hU hW => ⟨rfl, pB_go hPc hK hN hU hW⟩⟩ rfl rfl hl.1 rfl (lv_room (Nat.le_of_ble_eq_true rfl)) dX6_tellDay_44 ⟨Nat.zero_le _, Nat.zero_le _⟩).run (fun z_44 ez_44 => ?_)
    subst ez_44
    obtain rfl := Option.some.inj hf
    exact W.iret (v := u_44) hx hb hr (fun t ht hW => ⟨_, rfl, rfl, ht⟩) (fun q hq => by cases hq) dX6_tellDay_47 hlocks
  have hf := ho_f hf c_1_1
  by_cases c_1_2 : x1 = 2
  · have hf := ho_t hf c_1_2
    refine lv_tableIn (tgt := 48) hx hb dX6_tellDay_1 (by rw [c_1_2] <;> decide) (by rw [c_1_2] <;> decide) (by rw [c_1_2] <;> rfl) (by decide) ?_
    refine lv_aload_n hx hb dX6_tellDay_48 rfl (lv_at hl 0 rfl) ?_
    refine va_get (D := (dC, dI)) (ci := 6) (v := .ref (a_t 3)) (C := RX6) (T := TX6) (N := 8) hx hb hts hw_X6 hown hK hP 0 rfl rfl 3 (by decide) (hts _ (List.mem_cons_of_mem _ mw_236)) (fun _ h9 => h9) rfl dX6_tellDay_49 ?_
    obtain ⟨u_52, e_52, hf⟩ := ho_b hf
    have hPc := hP.sub (ws' := (wX2 (a_t 3) a_t_today cI v_t_today)) [1, 2, 3, 4, 5] rfl
    refine vp_callSi (va_runV (As := []) (rest := []) ⟨hx, hb, hml, hown, hts⟩ (c_X2_meetings l dC dI cI cII (a_t 3) a_t_today v_t_today u_52 e_52) (cwV 0 hts (hw_giV mw_461 mw_388 mw_389 mw_57 mw_390) rfl rfl rfl (by decide +kernel) ⟨Nat.le_of_ble_eq_true rfl, Nat.le_of_ble_eq_true rfl⟩) ⟨pB_blind, va_recv hK hPc (ci := 2) (q0 := 0) rfl rfl, fun U hU hW => ⟨rfl, pB_go hPc hK hN hU hW⟩⟩ rfl rfl hl.1 rfl (lv_room (Nat.le_of_ble_eq_true rfl)) dX6_tellDay_52 ⟨Nat.zero_le _, Nat.zero_le _⟩).run (fun z_52 ez_52 => ?_)
    subst ez_52
    obtain rfl := Option.some.inj hf
    exact W.iret (v := u_52) hx hb hr (fun t ht hW => ⟨_, rfl, rfl, ht⟩) (fun q hq => by cases hq) dX6_tellDay_55 hlocks
  have hf := ho_f hf c_1_2
  by_cases c_1_3 : x1 = 3
  · have hf := ho_t hf c_1_3
    refine lv_tableIn (tgt := 56) hx hb dX6_tellDay_1 (by rw [c_1_3] <;> decide) (by rw [c_1_3] <;> decide) (by rw [c_1_3] <;> rfl) (by decide) ?_
    refine lv_aload_n hx hb dX6_tellDay_56 rfl (lv_at hl 0 rfl) ?_
    refine va_get (D := (dC, dI)) (ci := 6) (v := .ref (a_t 3)) (C := RX6) (T := TX6) (N := 8) hx hb hts hw_X6 hown hK hP 0 rfl rfl 3 (by decide) (hts _ (List.mem_cons_of_mem _ mw_236)) (fun _ h9 => h9) rfl dX6_tellDay_57 ?_
    refine va_get (D := (dC, dI)) (ci := 2) (v := .int (v_t_today.1 5)) (C := RX2) (T := TX2) (N := 8) hx hb hts hw_X2 hown hK hP 1 rfl rfl 5 (by decide) (hts _ (List.mem_cons_of_mem _ mw_167)) (fun _ h9 => h9) rfl dX6_tellDay_60 ?_
    obtain rfl := Option.some.inj hf
    exact W.iret (v := (v_t_today.1 5)) hx hb hr (fun t ht hW => ⟨_, rfl, rfl, ht⟩) (fun q hq => by cases hq) dX6_tellDay_63 hlocks
  have hf := ho_f hf c_1_3
  refine lv_tableOut (tgt := 64) hx hb dX6_tellDay_1 (by have e0 := lv_neT c_1_0 (a := 0) (by decide); have e1 := lv_neT c_1_1 (a := 1) (by decide); have e2 := lv_neT c_1_2 (a := 2) (by decide); have e3 := lv_neT c_1_3 (a := 3) (by decide); omega) (by decide) ?_
  refine lv_aload_n hx hb dX6_tellDay_64 rfl (lv_at hl 0 rfl) ?_
  refine va_get (D := (dC, dI)) (ci := 6) (v := .ref (a_t 3)) (C := RX6) (T := TX6) (N := 8) hx hb hts hw_X6 hown hK hP 0 rfl rfl 3 (by decide) (hts _ (List.mem_cons_of_mem _ mw_236)) (fun _ h9 => h9) rfl dX6_tellDay_65 ?_
  refine va_get (D := (dC, dI)) (ci := 2) (v := .int (v_t_today.1 7)) (C := RX2) (T := TX2) (N := 8) hx hb hts hw_X2 hown hK hP 1 rfl rfl 7 (by decide) (hts _ (List.mem_cons_of_mem _ mw_170)) (fun _ h9 => h9) rfl dX6_tellDay_68 ?_
  obtain rfl := Option.some.inj hf
  exact W.iret (v := (v_t_today.1 7)) hx hb hr (fun t ht hW => ⟨_, rfl, rfl, ht⟩) (fun q hq => by cases hq) dX6_tellDay_71 hlocks
set_option maxHeartbeats 4000000 in
set_option maxRecDepth 100000 in
theorem c_X6_day (l : Launch) (dC : Nat → ClassId) (dI : Nat → Nat → Nat) (cI cII : ClassId) (o_t : Nat) (a_t : Nat → Nat) (a_t_now : Nat → Nat) (a_t_today : Nat → Nat) (v_t : obV) (v_t_now : obV) (v_t_today : obV) (x1 : Int32) (sz : Nat) (r : Int32 × obV) (hf : f_X6_day  v_t_now v_t_today x1 = some r) :
    Met l yX6_day (wd yX6_day cX6_day 2 (some .int)) ({ frames := 5, cells := 0, slots := 0, locals := 117 } : Room) (va_Pc [.ref o_t, .int x1] (qB (dC, dI) vwCl (wX6 o_t a_t cI v_t ++ (wX1 (a_t 1) a_t_now cI v_t_now ++ (wX2 (a_t 3) a_t_today cI v_t_today))) (hTY cI cII) sz)) (va_Qi (fun (z : Int32) (_ : Unit) => r.1 = z) (fun _ t => va_P (dC, dI) vwCl (wX6 o_t a_t cI v_t ++ (wX1 (a_t 1) a_t_now cI v_t_now ++ (wX2 (a_t 3) a_t_today cI r.2))) t.heap ∧ va_D (va_A (wX6 o_t a_t cI v_t ++ (wX1 (a_t 1) a_t_now cI v_t_now ++ (wX2 (a_t 3) a_t_today cI v_t_today))) sz) (wX6 o_t a_t cI v_t ++ (wX1 (a_t 1) a_t_now cI v_t_now ++ (wX2 (a_t 3) a_t_today cI r.2)))) (va_A (wX6 o_t a_t cI v_t ++ (wX1 (a_t 1) a_t_now cI v_t_now ++ (wX2 (a_t 3) a_t_today cI v_t_today))) sz)) 0 0 (va_A (wX6 o_t a_t cI v_t ++ (wX1 (a_t 1) a_t_now cI v_t_now ++ (wX2 (a_t 3) a_t_today cI v_t_today))) sz) := by
  refine Met.ofW (cc := cX6_day) (maxL := 2) (ret := (some .int)) (by decide) rfl ?_
  intro p e s m args below meth c s₁ B hml hv
  obtain ⟨rfl, hsz, hD0, hP, hK, hN⟩ := hv
  have hx := B.exec
  have hb := B.bytes
  have hr := B.returns
  have hts := atoms_spec (ws := (wd yX6_day cX6_day 2 (some .int))) B.pre
  have hown : s.vm.findClass RX6 = some m.cls := findClass_of_methodNamed B.named
  have hlocks := B.notSynchronized
  subst hsz
  have hD := hD0.self (sz := s.heap.size)
  generalize hAe : va_A (wX6 o_t a_t cI v_t ++ (wX1 (a_t 1) a_t_now cI v_t_now ++ (wX2 (a_t 3) a_t_today cI v_t_today))) s.heap.size = A at hD ⊢
  have hA : ∀ q : Nat, s.heap.size ≤ q → A q := fun q h => by rw [← hAe]; exact Or.inr h
  have hS : va_S A s.heap s.heap [] := va_S.rf
  have hl := lv_entry ([.ref o_t, .int x1]) (n := 2) (Nat.le_of_ble_eq_true rfl)
  rw [lg_entry_eq]
  generalize (lg_sl ([.ref o_t, .int x1]) ++ List.replicate (2 - (lg_sl ([.ref o_t, .int x1])).length) Slot.unset).toArray = ls at hl ⊢
  have hl : lv_has ls 2 [(0, .ref o_t), (1, .int x1)] := hl
  clear hAe hD0
  unfold f_X6_day at hf
  refine lv_iload_n hx hb dX6_day_0 rfl (lv_at hl 1 rfl) ?_
  refine lv_iconst (v := 0) hx hb dX6_day_1 (by decide) ?_
  refine lv_iconst (v := 4) hx hb dX6_day_2 (by decide) ?_
  obtain ⟨u_3, e_3, hf⟩ := ho_b hf
  have hPc := hP.sub (ws' := ([] : va_W)) [] rfl
  refine vp_callSi (va_runS (As := [.int x1, .int 0, .int 4]) (rest := []) ⟨hx, hb, hml, hown, hts⟩ (c_X6_isWithin l dC dI cI cII (x1) (0) (4) u_3 e_3) (va_cwS 3 hts (hw_giS mw_262 mw_263 mw_53 mw_264) rfl rfl rfl (by decide +kernel) ⟨Nat.le_of_ble_eq_true rfl, Nat.le_of_ble_eq_true rfl⟩) ⟨pB_blind, fun U hU hW => ⟨rfl, pB_go hPc hK hN hU hW⟩⟩ rfl rfl hl.1 rfl (lv_room (Nat.le_of_ble_eq_true rfl)) dX6_day_3 ⟨Nat.zero_le _, Nat.zero_le _⟩).run (fun z_3 ez_3 => ?_)
  subst ez_3
  refine lv_if_ne (tgt := 12) hx hb dX6_day_6 (by decide) (fun c_6 => ?_) (fun c_6 => ?_)
  · have hf := ho_f hf c_6
    refine lv_aload_n hx hb dX6_day_12 rfl (lv_at hl 0 rfl) ?_
    refine va_get (D := (dC, dI)) (ci := 6) (v := .ref (a_t 1)) (C := RX6) (T := TX6) (N := 8) hx hb hts hw_X6 hown hK hP 0 rfl rfl 1 (by decide) (hts _ (List.mem_cons_of_mem _ mw_234)) (fun _ h9 => h9) rfl dX6_day_13 ?_
    obtain ⟨u_16, e_16, hf⟩ := ho_b hf
    have hPc := hP.sub (ws' := (wX1 (a_t 1) a_t_now cI v_t_now)) [1, 2, 3, 4] rfl
    refine vp_callSi (va_runV (As := []) (rest := []) ⟨hx, hb, hml, hown, hts⟩ (c_X1_isNone l dC dI cI cII (a_t 1) a_t_now v_t_now u_16 e_16) (cwV 0 hts (hw_giV mw_435 mw_436 mw_437 mw_55 mw_438) rfl rfl rfl (by decide +kernel) ⟨Nat.le_of_ble_eq_true rfl, Nat.le_of_ble_eq_true rfl⟩) ⟨pB_blind, va_recv hK hPc (ci := 1) (q0 := 0) rfl rfl, fun U hU hW => ⟨rfl, pB_go hPc hK hN hU hW⟩⟩ rfl rfl hl.1 rfl (lv_room (Nat.le_of_ble_eq_true rfl)) dX6_day_16 ⟨Nat.zero_le _, Nat.zero_le _⟩).run (fun z_16 ez_16 => ?_)
    subst ez_16
    refine lv_if_eq (tgt := 25) hx hb dX6_day_19 (by decide) (fun c_19 => ?_) (fun c_19 => ?_)
    · have hf := ho_t hf c_19
      refine lv_aload_n hx hb dX6_day_25 rfl (lv_at hl 0 rfl) ?_
      refine va_get (D := (dC, dI)) (ci := 6) (v := .ref (a_t 3)) (C := RX6) (T := TX6) (N := 8) hx hb hts hw_X6 hown hK hP 0 rfl rfl 3 (by decide) (hts _ (List.mem_cons_of_mem _ mw_236)) (fun _ h9 => h9) rfl dX6_day_26 ?_
      refine lv_aload_n hx hb dX6_day_29 rfl (lv_at hl 0 rfl) ?_
      refine va_get (D := (dC, dI)) (ci := 6) (v := .ref (a_t 1)) (C := RX6) (T := TX6) (N := 8) hx hb hts hw_X6 hown hK hP 0 rfl rfl 1 (by decide) (hts _ (List.mem_cons_of_mem _ mw_234)) (fun _ h9 => h9) rfl dX6_day_30 ?_
      obtain ⟨u_33, e_33, hf⟩ := ho_b hf
      have hPc := hP.sub (ws' := (wX2 (a_t 3) a_t_today cI v_t_today ++ (wX1 (a_t 1) a_t_now cI v_t_now))) [5, 6, 7, 8, 9, 1, 2, 3, 4] rfl
      have hDc := hD.sub (ws' := (wX2 (a_t 3) a_t_today cI v_t_today ++ (wX1 (a_t 1) a_t_now cI v_t_now))) [5, 6, 7, 8, 9, 1, 2, 3, 4] (by decide) rfl
      have hFc := va_free (wc := (wX2 (a_t 3) a_t_today cI v_t_today ++ (wX1 (a_t 1) a_t_now cI v_t_now))) hD hS hA [5, 6, 7, 8, 9, 1, 2, 3, 4] rfl
      refine va_callv (va_runV (As := [.ref (a_t 1)]) (rest := []) ⟨hx, hb, hml, hown, hts⟩ (c_X2_pass l dC dI cI cII (a_t 3) a_t_today (a_t 1) a_t_now v_t_today v_t_now _ u_33 e_33) (cwV 1 hts (hw_giV mw_326 mw_327 mw_328 mw_57 mw_329) rfl rfl rfl (by decide +kernel) ⟨Nat.le_of_ble_eq_true rfl, Nat.le_of_ble_eq_true rfl⟩) ⟨qB_blind, va_recv hK hPc (ci := 2) (q0 := 0) rfl rfl, fun U hU hW => ⟨rfl, qB_go hPc hDc hK hN hU hW⟩⟩ rfl rfl hl.1 rfl (lv_room (Nat.le_of_ble_eq_true rfl)) dX6_day_33 ⟨Nat.zero_le _, Nat.zero_le _⟩) hS (fun q _ h => hFc q h) hFc (fun u t H1 locs ht hvm hw hB hz1 hk1 hS => ?_)
      obtain ⟨hP1, hD1⟩ := hB
      rw [ht] at hP1
      obtain ⟨hP, hD⟩ := va_join (wr := (wX6 o_t a_t cI v_t)) (w1 := (wX2 (a_t 3) a_t_today cI u_33 ++ (wX1 (a_t 1) a_t_now cI v_t_now))) hP hD [5, 6, 7, 8, 9, 1, 2, 3, 4] [0] rfl rfl (by decide) (by decide) hk1 hFc hP1 hD1
      generalize H1 = H at hP hS ⊢
      have hP : va_P (dC, dI) vwCl (wX6 o_t a_t cI v_t ++ (wX1 (a_t 1) a_t_now cI v_t_now ++ (wX2 (a_t 3) a_t_today cI u_33))) H := hP.sub [0, 6, 7, 8, 9, 1, 2, 3, 4, 5] rfl
      have hD : va_D A (wX6 o_t a_t cI v_t ++ (wX1 (a_t 1) a_t_now cI v_t_now ++ (wX2 (a_t 3) a_t_today cI u_33))) := hD.sub [0, 6, 7, 8, 9, 1, 2, 3, 4, 5] (by decide) rfl
      refine lv_aload_n hx hb dX6_day_36 rfl (lv_at hl 0 rfl) ?_
      refine lv_iload_n hx hb dX6_day_37 rfl (lv_at hl 1 rfl) ?_
      obtain ⟨u_38, e_38, hf⟩ := ho_b hf
      have hPc := hP.sub (ws' := (wX6 o_t a_t cI v_t ++ (wX2 (a_t 3) a_t_today cI u_33))) [0, 5, 6, 7, 8, 9] rfl
      refine vp_callSi (va_runV (As := [.int x1]) (rest := []) ⟨hx, hb, hml, hown, hts⟩ (c_X6_tellDay l dC dI cI cII o_t a_t a_t_today v_t u_33 (x1) u_38 e_38) (cwV 1 hts (hw_giV mw_443 mw_445 mw_8 mw_53 mw_446) rfl rfl rfl (by decide +kernel) ⟨Nat.le_of_ble_eq_true rfl, Nat.le_of_ble_eq_true rfl⟩) ⟨pB_blind, va_recv hK hPc (ci := 6) (q0 := 0) rfl rfl, fun U hU hW => ⟨rfl, pB_go hPc hK hN hU hW⟩⟩ rfl rfl hl.1 rfl (lv_room (Nat.le_of_ble_eq_true rfl)) dX6_day_38 ⟨Nat.zero_le _, Nat.zero_le _⟩).run (fun z_38 ez_38 => ?_)
      subst ez_38
      obtain rfl := Option.some.inj hf
      exact W.iret (v := u_38) hx hb hr (fun t ht hW => ⟨⟨_, (), rfl, rfl, by rw [ht]; exact hP, hD⟩, hS.F ht⟩) hS.2.2 dX6_day_41 hlocks
    · have hf := ho_f hf c_19
      refine lv_bipush (v := (-103)) hx hb dX6_day_22 (by decide) ?_
      obtain rfl := Option.some.inj hf
      exact W.iret (v := (-103)) hx hb hr (fun t ht hW => ⟨⟨_, (), rfl, rfl, by rw [ht]; exact hP, hD⟩, hS.F ht⟩) hS.2.2 dX6_day_24 hlocks
  · have hf := ho_t hf c_6
    refine lv_bipush (v := (-102)) hx hb dX6_day_9 (by decide) ?_
    obtain rfl := Option.some.inj hf
    exact W.iret (v := (-102)) hx hb hr (fun t ht hW => ⟨⟨_, (), rfl, rfl, by rw [ht]; exact hP, hD⟩, hS.F ht⟩) hS.2.2 dX6_day_11 hlocks
set_option maxHeartbeats 4000000 in
set_option maxRecDepth 100000 in
theorem c_X6_waiting (l : Launch) (dC : Nat → ClassId) (dI : Nat → Nat → Nat) (cI cII : ClassId) (o_t : Nat) (a_t : Nat → Nat) (a_t_now : Nat → Nat) (a_t_today : Nat → Nat) (v_t : obV) (v_t_now : obV) (v_t_today : obV) (x1 : Int32) (sz : Nat) (r : Int32 × obV) (hf : f_X6_waiting  v_t_now v_t_today x1 = some r) :
    Met l yX6_waiting (wd yX6_waiting cX6_waiting 2 (some .int)) ({ frames := 5, cells := 0, slots := 0, locals := 117 } : Room) (va_Pc [.ref o_t, .int x1] (qB (dC, dI) vwCl (wX6 o_t a_t cI v_t ++ (wX1 (a_t 1) a_t_now cI v_t_now ++ (wX2 (a_t 3) a_t_today cI v_t_today))) (hTY cI cII) sz)) (va_Qi (fun (z : Int32) (_ : Unit) => r.1 = z) (fun _ t => va_P (dC, dI) vwCl (wX6 o_t a_t cI v_t ++ (wX1 (a_t 1) a_t_now cI v_t_now ++ (wX2 (a_t 3) a_t_today cI r.2))) t.heap ∧ va_D (va_A (wX6 o_t a_t cI v_t ++ (wX1 (a_t 1) a_t_now cI v_t_now ++ (wX2 (a_t 3) a_t_today cI v_t_today))) sz) (wX6 o_t a_t cI v_t ++ (wX1 (a_t 1) a_t_now cI v_t_now ++ (wX2 (a_t 3) a_t_today cI r.2)))) (va_A (wX6 o_t a_t cI v_t ++ (wX1 (a_t 1) a_t_now cI v_t_now ++ (wX2 (a_t 3) a_t_today cI v_t_today))) sz)) 0 0 (va_A (wX6 o_t a_t cI v_t ++ (wX1 (a_t 1) a_t_now cI v_t_now ++ (wX2 (a_t 3) a_t_today cI v_t_today))) sz) := by
  refine Met.ofW (cc := cX6_waiting) (maxL := 2) (ret := (some .int)) (by decide) rfl ?_
  intro p e s m args below meth c s₁ B hml hv
  obtain ⟨rfl, hsz, hD0, hP, hK, hN⟩ := hv
  have hx := B.exec
  have hb := B.bytes
  have hr := B.returns
  have hts := atoms_spec (ws := (wd yX6_waiting cX6_waiting 2 (some .int))) B.pre
  have hown : s.vm.findClass RX6 = some m.cls := findClass_of_methodNamed B.named
  have hlocks := B.notSynchronized
  subst hsz
  have hD := hD0.self (sz := s.heap.size)
  generalize hAe : va_A (wX6 o_t a_t cI v_t ++ (wX1 (a_t 1) a_t_now cI v_t_now ++ (wX2 (a_t 3) a_t_today cI v_t_today))) s.heap.size = A at hD ⊢
  have hA : ∀ q : Nat, s.heap.size ≤ q → A q := fun q h => by rw [← hAe]; exact Or.inr h
  have hS : va_S A s.heap s.heap [] := va_S.rf
  have hl := lv_entry ([.ref o_t, .int x1]) (n := 2) (Nat.le_of_ble_eq_true rfl)
  rw [lg_entry_eq]
  generalize (lg_sl ([.ref o_t, .int x1]) ++ List.replicate (2 - (lg_sl ([.ref o_t, .int x1])).length) Slot.unset).toArray = ls at hl ⊢
  have hl : lv_has ls 2 [(0, .ref o_t), (1, .int x1)] := hl
  clear hAe hD0
  unfold f_X6_waiting at hf
  refine lv_iload_n hx hb dX6_waiting_0 rfl (lv_at hl 1 rfl) ?_
  refine lv_iconst (v := 0) hx hb dX6_waiting_1 (by decide) ?_
  refine lv_bipush (v := 19) hx hb dX6_waiting_2 (by decide) ?_
  obtain ⟨u_4, e_4, hf⟩ := ho_b hf
  have hPc := hP.sub (ws' := ([] : va_W)) [] rfl
  refine vp_callSi (va_runS (As := [.int x1, .int 0, .int 19]) (rest := []) ⟨hx, hb, hml, hown, hts⟩ (c_X6_isWithin l dC dI cI cII (x1) (0) (19) u_4 e_4) (va_cwS 3 hts (hw_giS mw_262 mw_263 mw_53 mw_264) rfl rfl rfl (by decide +kernel) ⟨Nat.le_of_ble_eq_true rfl, Nat.le_of_ble_eq_true rfl⟩) ⟨pB_blind, fun U hU hW => ⟨rfl, pB_go hPc hK hN hU hW⟩⟩ rfl rfl hl.1 rfl (lv_room (Nat.le_of_ble_eq_true rfl)) dX6_waiting_4 ⟨Nat.zero_le _, Nat.zero_le _⟩).run (fun z_4 ez_4 => ?_)
  subst ez_4
  refine lv_if_ne (tgt := 13) hx hb dX6_waiting_7 (by decide) (fun c_7 => ?_) (fun c_7 => ?_)
  · have hf := ho_f hf c_7
    refine lv_aload_n hx hb dX6_waiting_13 rfl (lv_at hl 0 rfl) ?_
    refine va_get (D := (dC, dI)) (ci := 6) (v := .ref (a_t 1)) (C := RX6) (T := TX6) (N := 8) hx hb hts hw_X6 hown hK hP 0 rfl rfl 1 (by decide) (hts _ (List.mem_cons_of_mem _ mw_234)) (fun _ h9 => h9) rfl dX6_waiting_14 ?_
    obtain ⟨u_17, e_17, hf⟩ := ho_b hf
    have hPc := hP.sub (ws' := (wX1 (a_t 1) a_t_now cI v_t_now)) [1, 2, 3, 4] rfl
    refine vp_callSi (va_runV (As := []) (rest := []) ⟨hx, hb, hml, hown, hts⟩ (c_X1_isNone l dC dI cI cII (a_t 1) a_t_now v_t_now u_17 e_17) (cwV 0 hts (hw_giV mw_435 mw_436 mw_437 mw_55 mw_438) rfl rfl rfl (by decide +kernel) ⟨Nat.le_of_ble_eq_true rfl, Nat.le_of_ble_eq_true rfl⟩) ⟨pB_blind, va_recv hK hPc (ci := 1) (q0 := 0) rfl rfl, fun U hU hW => ⟨rfl, pB_go hPc hK hN hU hW⟩⟩ rfl rfl hl.1 rfl (lv_room (Nat.le_of_ble_eq_true rfl)) dX6_waiting_17 ⟨Nat.zero_le _, Nat.zero_le _⟩).run (fun z_17 ez_17 => ?_)
    subst ez_17
    refine lv_if_eq (tgt := 26) hx hb dX6_waiting_20 (by decide) (fun c_20 => ?_) (fun c_20 => ?_)
    · have hf := ho_t hf c_20
      refine lv_aload_n hx hb dX6_waiting_26 rfl (lv_at hl 0 rfl) ?_
      refine va_get (D := (dC, dI)) (ci := 6) (v := .ref (a_t 3)) (C := RX6) (T := TX6) (N := 8) hx hb hts hw_X6 hown hK hP 0 rfl rfl 3 (by decide) (hts _ (List.mem_cons_of_mem _ mw_236)) (fun _ h9 => h9) rfl dX6_waiting_27 ?_
      refine lv_aload_n hx hb dX6_waiting_30 rfl (lv_at hl 0 rfl) ?_
      refine va_get (D := (dC, dI)) (ci := 6) (v := .ref (a_t 1)) (C := RX6) (T := TX6) (N := 8) hx hb hts hw_X6 hown hK hP 0 rfl rfl 1 (by decide) (hts _ (List.mem_cons_of_mem _ mw_234)) (fun _ h9 => h9) rfl dX6_waiting_31 ?_
      obtain ⟨u_34, e_34, hf⟩ := ho_b hf
      have hPc := hP.sub (ws' := (wX2 (a_t 3) a_t_today cI v_t_today ++ (wX1 (a_t 1) a_t_now cI v_t_now))) [5, 6, 7, 8, 9, 1, 2, 3, 4] rfl
      have hDc := hD.sub (ws' := (wX2 (a_t 3) a_t_today cI v_t_today ++ (wX1 (a_t 1) a_t_now cI v_t_now))) [5, 6, 7, 8, 9, 1, 2, 3, 4] (by decide) rfl
      have hFc := va_free (wc := (wX2 (a_t 3) a_t_today cI v_t_today ++ (wX1 (a_t 1) a_t_now cI v_t_now))) hD hS hA [5, 6, 7, 8, 9, 1, 2, 3, 4] rfl
      refine va_callv (va_runV (As := [.ref (a_t 1)]) (rest := []) ⟨hx, hb, hml, hown, hts⟩ (c_X2_pass l dC dI cI cII (a_t 3) a_t_today (a_t 1) a_t_now v_t_today v_t_now _ u_34 e_34) (cwV 1 hts (hw_giV mw_326 mw_327 mw_328 mw_57 mw_329) rfl rfl rfl (by decide +kernel) ⟨Nat.le_of_ble_eq_true rfl, Nat.le_of_ble_eq_true rfl⟩) ⟨qB_blind, va_recv hK hPc (ci := 2) (q0 := 0) rfl rfl, fun U hU hW => ⟨rfl, qB_go hPc hDc hK hN hU hW⟩⟩ rfl rfl hl.1 rfl (lv_room (Nat.le_of_ble_eq_true rfl)) dX6_waiting_34 ⟨Nat.zero_le _, Nat.zero_le _⟩) hS (fun q _ h => hFc q h) hFc (fun u t H1 locs ht hvm hw hB hz1 hk1 hS => ?_)
      obtain ⟨hP1, hD1⟩ := hB
      rw [ht] at hP1
      obtain ⟨hP, hD⟩ := va_join (wr := (wX6 o_t a_t cI v_t)) (w1 := (wX2 (a_t 3) a_t_today cI u_34 ++ (wX1 (a_t 1) a_t_now cI v_t_now))) hP hD [5, 6, 7, 8, 9, 1, 2, 3, 4] [0] rfl rfl (by decide) (by decide) hk1 hFc hP1 hD1
      generalize H1 = H at hP hS ⊢
      have hP : va_P (dC, dI) vwCl (wX6 o_t a_t cI v_t ++ (wX1 (a_t 1) a_t_now cI v_t_now ++ (wX2 (a_t 3) a_t_today cI u_34))) H := hP.sub [0, 6, 7, 8, 9, 1, 2, 3, 4, 5] rfl
      have hD : va_D A (wX6 o_t a_t cI v_t ++ (wX1 (a_t 1) a_t_now cI v_t_now ++ (wX2 (a_t 3) a_t_today cI u_34))) := hD.sub [0, 6, 7, 8, 9, 1, 2, 3, 4, 5] (by decide) rfl
      refine lv_aload_n hx hb dX6_waiting_37 rfl (lv_at hl 0 rfl) ?_
      refine va_get (D := (dC, dI)) (ci := 6) (v := .ref (a_t 3)) (C := RX6) (T := TX6) (N := 8) hx hb hts hw_X6 hown hK hP 0 rfl rfl 3 (by decide) (hts _ (List.mem_cons_of_mem _ mw_236)) (fun _ h9 => h9) rfl dX6_waiting_38 ?_
      refine va_get (D := (dC, dI)) (ci := 2) (v := .ref (a_t_today 3)) (C := RX2) (T := TX2) (N := 8) hx hb hts hw_X2 hown hK hP 5 rfl rfl 3 (by decide) (hts _ (List.mem_cons_of_mem _ mw_164)) (fun _ h9 => h9) rfl dX6_waiting_41 ?_
      refine lv_iload_n hx hb dX6_waiting_44 rfl (lv_at hl 1 rfl) ?_
      obtain ⟨h_45, hf⟩ := ho_g hf
      refine va_iald (n := 20) (f := (u_34.2 3)) hx hb hK hP 9 0 rfl rfl h_45 dX6_waiting_45 ?_
      obtain rfl := Option.some.inj hf
      exact W.iret (v := ((u_34.2 3) (Int32.toNatClampNeg x1))) hx hb hr (fun t ht hW => ⟨⟨_, (), rfl, rfl, by rw [ht]; exact hP, hD⟩, hS.F ht⟩) hS.2.2 dX6_waiting_46 hlocks
    · have hf := ho_f hf c_20
      refine lv_bipush (v := (-103)) hx hb dX6_waiting_23 (by decide) ?_
      obtain rfl := Option.some.inj hf
      exact W.iret (v := (-103)) hx hb hr (fun t ht hW => ⟨⟨_, (), rfl, rfl, by rw [ht]; exact hP, hD⟩, hS.F ht⟩) hS.2.2 dX6_waiting_25 hlocks
  · have hf := ho_t hf c_7
    refine lv_bipush (v := (-102)) hx hb dX6_waiting_10 (by decide) ?_
    obtain rfl := Option.some.inj hf
    exact W.iret (v := (-102)) hx hb hr (fun t ht hW => ⟨⟨_, (), rfl, rfl, by rw [ht]; exact hP, hD⟩, hS.F ht⟩) hS.2.2 dX6_waiting_12 hlocks
set_option maxHeartbeats 4000000 in
set_option maxRecDepth 100000 in
theorem c_X6_tellOrder (l : Launch) (dC : Nat → ClassId) (dI : Nat → Nat → Nat) (cI cII : ClassId) (o_t : Nat) (a_t : Nat → Nat) (a_t_best : Nat → Nat) (v_t : obV) (v_t_best : obV) (x1 : Int32) (r : Int32) (hf : f_X6_tellOrder  v_t_best x1 = some r) :
    Met l yX6_tellOrder (wd yX6_tellOrder cX6_tellOrder 2 (some .int)) ({ frames := 1, cells := 0, slots := 0, locals := 21 } : Room) (va_Pc [.ref o_t, .int x1] (pB (dC, dI) vwCl (wX6 o_t a_t cI v_t ++ (wX0 (a_t 5) a_t_best cI v_t_best)) (hTY cI cII))) (vp_Si (fun z => r = z)) 0 0 (fun _ => False) := by
  refine Met.ofW (cc := cX6_tellOrder) (maxL := 2) (ret := (some .int)) (by decide) rfl ?_
  intro p e s m args below meth c s₁ B hml hv
  obtain ⟨rfl, hP, hK, hN⟩ := hv
  have hx := B.exec
  have hb := B.bytes
  have hr := B.returns
  have hts := atoms_spec (ws := (wd yX6_tellOrder cX6_tellOrder 2 (some .int))) B.pre
  have hown : s.vm.findClass RX6 = some m.cls := findClass_of_methodNamed B.named
  have hlocks := B.notSynchronized
  have hl := lv_entry ([.ref o_t, .int x1]) (n := 2) (Nat.le_of_ble_eq_true rfl)
  rw [lg_entry_eq]
  generalize (lg_sl ([.ref o_t, .int x1]) ++ List.replicate (2 - (lg_sl ([.ref o_t, .int x1])).length) Slot.unset).toArray = ls at hl ⊢
  have hl : lv_has ls 2 [(0, .ref o_t), (1, .int x1)] := hl
  unfold f_X6_tellOrder at hf
  refine lv_iload_n hx hb dX6_tellOrder_0 rfl (lv_at hl 1 rfl) ?_
  refine lv_if_ne (tgt := 14) hx hb dX6_tellOrder_1 (by decide) (fun c_1 => ?_) (fun c_1 => ?_)
  · have hf := ho_f hf c_1
    refine lv_aload_n hx hb dX6_tellOrder_14 rfl (lv_at hl 0 rfl) ?_
    refine va_get (D := (dC, dI)) (ci := 6) (v := .ref (a_t 5)) (C := RX6) (T := TX6) (N := 8) hx hb hts hw_X6 hown hK hP 0 rfl rfl 5 (by decide) (hts _ (List.mem_cons_of_mem _ mw_238)) (fun _ h9 => h9) rfl dX6_tellOrder_15 ?_
    refine lv_iload_n hx hb dX6_tellOrder_18 rfl (lv_at hl 1 rfl) ?_
    refine lv_bipush (v := 10) hx hb dX6_tellOrder_19 (by decide) ?_
    refine lv_isub hx hb dX6_tellOrder_21 ?_
    obtain ⟨u_22, e_22, hf⟩ := ho_b hf
    have hPc := hP.sub (ws' := (wX0 (a_t 5) a_t_best cI v_t_best)) [1, 2, 3] rfl
    refine vp_callSi (va_runV (As := [.int (x1 - 10)]) (rest := []) ⟨hx, hb, hml, hown, hts⟩ (c_X0_at l dC dI cI cII (a_t 5) a_t_best v_t_best ((x1 - 10)) u_22 e_22) (cwV 1 hts (hw_giV mw_498 mw_499 mw_500 mw_59 mw_501) rfl rfl rfl (by decide +kernel) ⟨Nat.le_of_ble_eq_true rfl, Nat.le_of_ble_eq_true rfl⟩) ⟨pB_blind, va_recv hK hPc (ci := 0) (q0 := 0) rfl rfl, fun U hU hW => ⟨rfl, pB_go hPc hK hN hU hW⟩⟩ rfl rfl hl.1 rfl (lv_room (Nat.le_of_ble_eq_true rfl)) dX6_tellOrder_22 ⟨Nat.zero_le _, Nat.zero_le _⟩).run (fun z_22 ez_22 => ?_)
    subst ez_22
    obtain rfl := Option.some.inj hf
    exact W.iret (v := u_22) hx hb hr (fun t ht hW => ⟨_, rfl, rfl, ht⟩) (fun q hq => by cases hq) dX6_tellOrder_25 hlocks
  · have hf := ho_t hf c_1
    refine lv_aload_n hx hb dX6_tellOrder_4 rfl (lv_at hl 0 rfl) ?_
    refine va_get (D := (dC, dI)) (ci := 6) (v := .ref (a_t 5)) (C := RX6) (T := TX6) (N := 8) hx hb hts hw_X6 hown hK hP 0 rfl rfl 5 (by decide) (hts _ (List.mem_cons_of_mem _ mw_238)) (fun _ h9 => h9) rfl dX6_tellOrder_5 ?_
    refine va_get (D := (dC, dI)) (ci := 0) (v := .int (v_t_best.1 3)) (C := RX0) (T := TX0) (N := 4) hx hb hts hw_X0 hown hK hP 1 rfl rfl 3 (by decide) (hts _ (List.mem_cons_of_mem _ mw_223)) (fun _ h9 => h9) rfl dX6_tellOrder_8 ?_
    refine lv_goto (tgt := 25) hx hb dX6_tellOrder_11 (by decide) ?_
    obtain rfl := Option.some.inj hf
    exact W.iret (v := (v_t_best.1 3)) hx hb hr (fun t ht hW => ⟨_, rfl, rfl, ht⟩) (fun q hq => by cases hq) dX6_tellOrder_25 hlocks
set_option maxHeartbeats 4000000 in
set_option maxRecDepth 100000 in
theorem w_X6_order_b18 {p : Program} {l : Launch} {e : Env} {s : State} {m : MethodId} {args : Array Value} {below : List Frame} {meth : Method} {c : Code} {dC : Nat → ClassId} {dI : Nat → Nat → Nat} {cI cII : ClassId} {o_t : Nat} {a_t : Nat → Nat} {a_t_now : Nat → Nat} {a_t_best : Nat → Nat} {A : Nat → Prop} (C0 : hC p s m args meth c dC dI cI cII RX6 cX6_order 2 (wd yX6_order cX6_order 2 (some .int)) (some .int)) (hA : ∀ q, s.heap.size ≤ q → A q) {v_t : obV} {v_t_now : obV} {v_t_best : obV} {x1 : Int32}    {H : Heap} {locs : List Loc} (hP : va_P (dC, dI) vwCl (wX6 o_t a_t cI v_t ++ (wX1 (a_t 1) a_t_now cI v_t_now ++ (wX0 (a_t 5) a_t_best cI v_t_best))) H) (hD : va_D A (wX6 o_t a_t cI v_t ++ (wX1 (a_t 1) a_t_now cI v_t_now ++ (wX0 (a_t 5) a_t_best cI v_t_best)))) (hS : va_S A s.heap H locs) {r : Int32 × obV} (hf : f_X6_order_b18  v_t_now v_t_best x1  = some r) {ls : Array Slot} (hl : lv_has ls 2 [(0, .ref o_t), (1, .int x1)]) :
    W p l e ({ frames := 4, cells := 0, slots := 0, locals := 95 } : Room) s m args below meth c H locs 0 0 (MQ below (va_Qi (fun (z : Int32) (_ : Unit) => r.1 = z) (fun _ t => va_P (dC, dI) vwCl (wX6 o_t a_t cI v_t ++ (wX1 (a_t 1) a_t_now cI v_t_now ++ (wX0 (a_t 5) a_t_best cI r.2))) t.heap ∧ va_D A (wX6 o_t a_t cI v_t ++ (wX1 (a_t 1) a_t_now cI v_t_now ++ (wX0 (a_t 5) a_t_best cI r.2)))) A) args s 0 0 A) (F0 m 18 ls []) := by
  obtain ⟨hx, hb, hml, hown, hts, hr, hlocks, hK, hN⟩ := C0
  unfold f_X6_order_b18 at hf
  refine lv_aload_n hx hb dX6_order_18 rfl (lv_at hl 0 rfl) ?_
  refine va_get (D := (dC, dI)) (ci := 6) (v := .ref (a_t 1)) (C := RX6) (T := TX6) (N := 8) hx hb hts hw_X6 hown hK hP 0 rfl rfl 1 (by decide) (hts _ (List.mem_cons_of_mem _ mw_234)) (fun _ h9 => h9) rfl dX6_order_19 ?_
  obtain ⟨u_22, e_22, hf⟩ := ho_b hf
  have hPc := hP.sub (ws' := (wX1 (a_t 1) a_t_now cI v_t_now)) [1, 2, 3, 4] rfl
  refine vp_callSi (va_runV (As := []) (rest := []) ⟨hx, hb, hml, hown, hts⟩ (c_X1_isNone l dC dI cI cII (a_t 1) a_t_now v_t_now u_22 e_22) (cwV 0 hts (hw_giV mw_435 mw_436 mw_437 mw_55 mw_438) rfl rfl rfl (by decide +kernel) ⟨Nat.le_of_ble_eq_true rfl, Nat.le_of_ble_eq_true rfl⟩) ⟨pB_blind, va_recv hK hPc (ci := 1) (q0 := 0) rfl rfl, fun U hU hW => ⟨rfl, pB_go hPc hK hN hU hW⟩⟩ rfl rfl hl.1 rfl (lv_room (Nat.le_of_ble_eq_true rfl)) dX6_order_22 ⟨Nat.zero_le _, Nat.zero_le _⟩).run (fun z_22 ez_22 => ?_)
  subst ez_22
  refine lv_if_eq (tgt := 31) hx hb dX6_order_25 (by decide) (fun c_25 => ?_) (fun c_25 => ?_)
  · have hf := ho_t hf c_25
    refine lv_aload_n hx hb dX6_order_31 rfl (lv_at hl 0 rfl) ?_
    refine va_get (D := (dC, dI)) (ci := 6) (v := .ref (a_t 5)) (C := RX6) (T := TX6) (N := 8) hx hb hts hw_X6 hown hK hP 0 rfl rfl 5 (by decide) (hts _ (List.mem_cons_of_mem _ mw_238)) (fun _ h9 => h9) rfl dX6_order_32 ?_
    refine lv_aload_n hx hb dX6_order_35 rfl (lv_at hl 0 rfl) ?_
    refine va_get (D := (dC, dI)) (ci := 6) (v := .ref (a_t 1)) (C := RX6) (T := TX6) (N := 8) hx hb hts hw_X6 hown hK hP 0 rfl rfl 1 (by decide) (hts _ (List.mem_cons_of_mem _ mw_234)) (fun _ h9 => h9) rfl dX6_order_36 ?_
    obtain ⟨u_39, e_39, hf⟩ := ho_b hf
    have hPc := hP.sub (ws' := (wX0 (a_t 5) a_t_best cI v_t_best ++ (wX1 (a_t 1) a_t_now cI v_t_now))) [5, 6, 7, 1, 2, 3, 4] rfl
    have hDc := hD.sub (ws' := (wX0 (a_t 5) a_t_best cI v_t_best ++ (wX1 (a_t 1) a_t_now cI v_t_now))) [5, 6, 7, 1, 2, 3, 4] (by decide) rfl
    have hFc := va_free (wc := (wX0 (a_t 5) a_t_best cI v_t_best ++ (wX1 (a_t 1) a_t_now cI v_t_now))) hD hS hA [5, 6, 7, 1, 2, 3, 4] rfl
    refine va_callv (va_runV (As := [.ref (a_t 1)]) (rest := []) ⟨hx, hb, hml, hown, hts⟩ (c_X0_find l dC dI cI cII (a_t 5) a_t_best (a_t 1) a_t_now v_t_best v_t_now _ u_39 e_39) (cwV 1 hts (hw_giV mw_470 mw_471 mw_472 mw_59 mw_473) rfl rfl rfl (by decide +kernel) ⟨Nat.le_of_ble_eq_true rfl, Nat.le_of_ble_eq_true rfl⟩) ⟨qB_blind, va_recv hK hPc (ci := 0) (q0 := 0) rfl rfl, fun U hU hW => ⟨rfl, qB_go hPc hDc hK hN hU hW⟩⟩ rfl rfl hl.1 rfl (lv_room (Nat.le_of_ble_eq_true rfl)) dX6_order_39 ⟨Nat.zero_le _, Nat.zero_le _⟩) hS (fun q _ h => hFc q h) hFc (fun u t H1 locs ht hvm hw hB hz1 hk1 hS => ?_)
    obtain ⟨hP1, hD1⟩ := hB
    rw [ht] at hP1
    obtain ⟨hP, hD⟩ := va_join (wr := (wX6 o_t a_t cI v_t)) (w1 := (wX0 (a_t 5) a_t_best cI u_39 ++ (wX1 (a_t 1) a_t_now cI v_t_now))) hP hD [5, 6, 7, 1, 2, 3, 4] [0] rfl rfl (by decide) (by decide) hk1 hFc hP1 hD1
    generalize H1 = H at hP hS ⊢
    have hP : va_P (dC, dI) vwCl (wX6 o_t a_t cI v_t ++ (wX1 (a_t 1) a_t_now cI v_t_now ++ (wX0 (a_t 5) a_t_best cI u_39))) H := hP.sub [0, 4, 5, 6, 7, 1, 2, 3] rfl
    have hD : va_D A (wX6 o_t a_t cI v_t ++ (wX1 (a_t 1) a_t_now cI v_t_now ++ (wX0 (a_t 5) a_t_best cI u_39))) := hD.sub [0, 4, 5, 6, 7, 1, 2, 3] (by decide) rfl
    refine lv_aload_n hx hb dX6_order_42 rfl (lv_at hl 0 rfl) ?_
    refine lv_iload_n hx hb dX6_order_43 rfl (lv_at hl 1 rfl) ?_
    obtain ⟨u_44, e_44, hf⟩ := ho_b hf
    have hPc := hP.sub (ws' := (wX6 o_t a_t cI v_t ++ (wX0 (a_t 5) a_t_best cI u_39))) [0, 5, 6, 7] rfl
    refine vp_callSi (va_runV (As := [.int x1]) (rest := []) ⟨hx, hb, hml, hown, hts⟩ (c_X6_tellOrder l dC dI cI cII o_t a_t a_t_best v_t u_39 (x1) u_44 e_44) (cwV 1 hts (hw_giV mw_494 mw_496 mw_13 mw_53 mw_497) rfl rfl rfl (by decide +kernel) ⟨Nat.le_of_ble_eq_true rfl, Nat.le_of_ble_eq_true rfl⟩) ⟨pB_blind, va_recv hK hPc (ci := 6) (q0 := 0) rfl rfl, fun U hU hW => ⟨rfl, pB_go hPc hK hN hU hW⟩⟩ rfl rfl hl.1 rfl (lv_room (Nat.le_of_ble_eq_true rfl)) dX6_order_44 ⟨Nat.zero_le _, Nat.zero_le _⟩).run (fun z_44 ez_44 => ?_)
    subst ez_44
    obtain rfl := Option.some.inj hf
    exact W.iret (v := u_44) hx hb hr (fun t ht hW => ⟨⟨_, (), rfl, rfl, by rw [ht]; exact hP, hD⟩, hS.F ht⟩) hS.2.2 dX6_order_47 hlocks
  · have hf := ho_f hf c_25
    refine lv_bipush (v := (-103)) hx hb dX6_order_28 (by decide) ?_
    obtain rfl := Option.some.inj hf
    exact W.iret (v := (-103)) hx hb hr (fun t ht hW => ⟨⟨_, (), rfl, rfl, by rw [ht]; exact hP, hD⟩, hS.F ht⟩) hS.2.2 dX6_order_30 hlocks
set_option maxHeartbeats 4000000 in
set_option maxRecDepth 100000 in
theorem c_X6_order (l : Launch) (dC : Nat → ClassId) (dI : Nat → Nat → Nat) (cI cII : ClassId) (o_t : Nat) (a_t : Nat → Nat) (a_t_now : Nat → Nat) (a_t_best : Nat → Nat) (v_t : obV) (v_t_now : obV) (v_t_best : obV) (x1 : Int32) (sz : Nat) (r : Int32 × obV) (hf : f_X6_order  v_t_now v_t_best x1 = some r) :
    Met l yX6_order (wd yX6_order cX6_order 2 (some .int)) ({ frames := 4, cells := 0, slots := 0, locals := 95 } : Room) (va_Pc [.ref o_t, .int x1] (qB (dC, dI) vwCl (wX6 o_t a_t cI v_t ++ (wX1 (a_t 1) a_t_now cI v_t_now ++ (wX0 (a_t 5) a_t_best cI v_t_best))) (hTY cI cII) sz)) (va_Qi (fun (z : Int32) (_ : Unit) => r.1 = z) (fun _ t => va_P (dC, dI) vwCl (wX6 o_t a_t cI v_t ++ (wX1 (a_t 1) a_t_now cI v_t_now ++ (wX0 (a_t 5) a_t_best cI r.2))) t.heap ∧ va_D (va_A (wX6 o_t a_t cI v_t ++ (wX1 (a_t 1) a_t_now cI v_t_now ++ (wX0 (a_t 5) a_t_best cI v_t_best))) sz) (wX6 o_t a_t cI v_t ++ (wX1 (a_t 1) a_t_now cI v_t_now ++ (wX0 (a_t 5) a_t_best cI r.2)))) (va_A (wX6 o_t a_t cI v_t ++ (wX1 (a_t 1) a_t_now cI v_t_now ++ (wX0 (a_t 5) a_t_best cI v_t_best))) sz)) 0 0 (va_A (wX6 o_t a_t cI v_t ++ (wX1 (a_t 1) a_t_now cI v_t_now ++ (wX0 (a_t 5) a_t_best cI v_t_best))) sz) := by
  refine Met.ofW (cc := cX6_order) (maxL := 2) (ret := (some .int)) (by decide) rfl ?_
  intro p e s m args below meth c s₁ B hml hv
  obtain ⟨rfl, hsz, hD0, hP, hK, hN⟩ := hv
  have hx := B.exec
  have hb := B.bytes
  have hr := B.returns
  have hts := atoms_spec (ws := (wd yX6_order cX6_order 2 (some .int))) B.pre
  have hown : s.vm.findClass RX6 = some m.cls := findClass_of_methodNamed B.named
  have hlocks := B.notSynchronized
  subst hsz
  have hD := hD0.self (sz := s.heap.size)
  generalize hAe : va_A (wX6 o_t a_t cI v_t ++ (wX1 (a_t 1) a_t_now cI v_t_now ++ (wX0 (a_t 5) a_t_best cI v_t_best))) s.heap.size = A at hD ⊢
  have hA : ∀ q : Nat, s.heap.size ≤ q → A q := fun q h => by rw [← hAe]; exact Or.inr h
  have hS : va_S A s.heap s.heap [] := va_S.rf
  have hl := lv_entry ([.ref o_t, .int x1]) (n := 2) (Nat.le_of_ble_eq_true rfl)
  rw [lg_entry_eq]
  generalize (lg_sl ([.ref o_t, .int x1]) ++ List.replicate (2 - (lg_sl ([.ref o_t, .int x1])).length) Slot.unset).toArray = ls at hl ⊢
  have hl : lv_has ls 2 [(0, .ref o_t), (1, .int x1)] := hl
  clear hAe hD0
  unfold f_X6_order at hf
  refine lv_iload_n hx hb dX6_order_0 rfl (lv_at hl 1 rfl) ?_
  refine lv_if_eq (tgt := 18) hx hb dX6_order_1 (by decide) (fun c_1 => ?_) (fun c_1 => ?_)
  · have hf := ho_t hf c_1
    exact w_X6_order_b18 ⟨hx, hb, hml, hown, hts, hr, hlocks, hK, hN⟩ hA  hP hD hS hf (lv_sub hl [0, 1] rfl)
  · have hf := ho_f hf c_1
    refine lv_iload_n hx hb dX6_order_4 rfl (lv_at hl 1 rfl) ?_
    refine lv_bipush (v := 10) hx hb dX6_order_5 (by decide) ?_
    refine lv_bipush (v := 14) hx hb dX6_order_7 (by decide) ?_
    obtain ⟨u_9, e_9, hf⟩ := ho_b hf
    have hPc := hP.sub (ws' := ([] : va_W)) [] rfl
    refine vp_callSi (va_runS (As := [.int x1, .int 10, .int 14]) (rest := []) ⟨hx, hb, hml, hown, hts⟩ (c_X6_isWithin l dC dI cI cII (x1) (10) (14) u_9 e_9) (va_cwS 3 hts (hw_giS mw_262 mw_263 mw_53 mw_264) rfl rfl rfl (by decide +kernel) ⟨Nat.le_of_ble_eq_true rfl, Nat.le_of_ble_eq_true rfl⟩) ⟨pB_blind, fun U hU hW => ⟨rfl, pB_go hPc hK hN hU hW⟩⟩ rfl rfl hl.1 rfl (lv_room (Nat.le_of_ble_eq_true rfl)) dX6_order_9 ⟨Nat.zero_le _, Nat.zero_le _⟩).run (fun z_9 ez_9 => ?_)
    subst ez_9
    refine lv_if_ne (tgt := 18) hx hb dX6_order_12 (by decide) (fun c_12 => ?_) (fun c_12 => ?_)
    · have hf := ho_f hf c_12
      exact w_X6_order_b18 ⟨hx, hb, hml, hown, hts, hr, hlocks, hK, hN⟩ hA  hP hD hS hf (lv_sub hl [0, 1] rfl)
    · have hf := ho_t hf c_12
      refine lv_bipush (v := (-102)) hx hb dX6_order_15 (by decide) ?_
      obtain rfl := Option.some.inj hf
      exact W.iret (v := (-102)) hx hb hr (fun t ht hW => ⟨⟨_, (), rfl, rfl, by rw [ht]; exact hP, hD⟩, hS.F ht⟩) hS.2.2 dX6_order_17 hlocks
set_option maxHeartbeats 4000000 in
set_option maxRecDepth 100000 in
theorem c_X6_tellFit (l : Launch) (dC : Nat → ClassId) (dI : Nat → Nat → Nat) (cI cII : ClassId) (o_t : Nat) (a_t : Nat → Nat) (a_t_trials : Nat → Nat) (r_t_trials : Nat → Nat) (v_t : obV) (v_t_trials : obV) (w_t_trials : Nat → Nat → Int32) (x1 : Int32) (r : Int32) (hf : f_X6_tellFit  v_t_trials x1 = some r) :
    Met l yX6_tellFit (wd yX6_tellFit cX6_tellFit 3 (some .int)) ({ frames := 1, cells := 0, slots := 0, locals := 22 } : Room) (va_Pc [.ref o_t, .int x1] (pB (dC, dI) vwCl (wX6 o_t a_t cI v_t ++ (wX5 (a_t 4) a_t_trials r_t_trials cI cII v_t_trials w_t_trials)) (hTY cI cII))) (vp_Si (fun z => r = z)) 0 0 (fun _ => False) := by
  refine Met.ofW (cc := cX6_tellFit) (maxL := 3) (ret := (some .int)) (by decide) rfl ?_
  intro p e s m args below meth c s₁ B hml hv
  obtain ⟨rfl, hP, hK, hN⟩ := hv
  have hx := B.exec
  have hb := B.bytes
  have hr := B.returns
  have hts := atoms_spec (ws := (wd yX6_tellFit cX6_tellFit 3 (some .int))) B.pre
  have hown : s.vm.findClass RX6 = some m.cls := findClass_of_methodNamed B.named
  have hlocks := B.notSynchronized
  have hl := lv_entry ([.ref o_t, .int x1]) (n := 3) (Nat.le_of_ble_eq_true rfl)
  rw [lg_entry_eq]
  generalize (lg_sl ([.ref o_t, .int x1]) ++ List.replicate (3 - (lg_sl ([.ref o_t, .int x1])).length) Slot.unset).toArray = ls at hl ⊢
  have hl : lv_has ls 3 [(0, .ref o_t), (1, .int x1)] := hl
  unfold f_X6_tellFit at hf
  refine lv_aload_n hx hb dX6_tellFit_0 rfl (lv_at hl 0 rfl) ?_
  refine va_get (D := (dC, dI)) (ci := 6) (v := .ref (a_t 4)) (C := RX6) (T := TX6) (N := 8) hx hb hts hw_X6 hown hK hP 0 rfl rfl 4 (by decide) (hts _ (List.mem_cons_of_mem _ mw_237)) (fun _ h9 => h9) rfl dX6_tellFit_1 ?_
  obtain ⟨u_4, e_4, hf⟩ := ho_b hf
  have hPc := hP.sub (ws' := (wX5 (a_t 4) a_t_trials r_t_trials cI cII v_t_trials w_t_trials)) [1, 2, 3, 4, 5, 6, 7, 8, 9, 10, 11, 12, 13, 14] rfl
  refine vp_callSi (va_runV (As := []) (rest := []) ⟨hx, hb, hml, hown, hts⟩ (c_X5_leastMeetings l dC dI cI cII (a_t 4) a_t_trials r_t_trials v_t_trials w_t_trials u_4 e_4) (cwV 0 hts (hw_giV mw_510 mw_511 mw_512 mw_58 mw_513) rfl rfl rfl (by decide +kernel) ⟨Nat.le_of_ble_eq_true rfl, Nat.le_of_ble_eq_true rfl⟩) ⟨pB_blind, va_recv hK hPc (ci := 5) (q0 := 0) rfl rfl, fun U hU hW => ⟨rfl, pB_go hPc hK hN hU hW⟩⟩ rfl rfl hl.1 rfl (lv_room (Nat.le_of_ble_eq_true rfl)) dX6_tellFit_4 ⟨Nat.zero_le _, Nat.zero_le _⟩).run (fun z_4 ez_4 => ?_)
  subst ez_4
  refine lv_istore_n (lv' := [(2, .int u_4), (0, .ref o_t), (1, .int x1)]) hx hb dX6_tellFit_7 rfl hl (by decide) rfl (fun ls hl => ?_)
  refine lv_iload_n hx hb dX6_tellFit_8 rfl (lv_at hl 2 rfl) ?_
  refine lv_if_ne (tgt := 16) hx hb dX6_tellFit_9 (by decide) (fun c_9 => ?_) (fun c_9 => ?_)
  · have hf := ho_f hf c_9
    refine lv_aload_n hx hb dX6_tellFit_16 rfl (lv_at hl 1 rfl) ?_
    refine va_get (D := (dC, dI)) (ci := 6) (v := .ref (a_t 4)) (C := RX6) (T := TX6) (N := 8) hx hb hts hw_X6 hown hK hP 0 rfl rfl 4 (by decide) (hts _ (List.mem_cons_of_mem _ mw_237)) (fun _ h9 => h9) rfl dX6_tellFit_17 ?_
    refine va_get (D := (dC, dI)) (ci := 5) (v := .ref (a_t_trials 2)) (C := RX5) (T := TX5) (N := 4) hx hb hts hw_X5 hown hK hP 1 rfl rfl 2 (by decide) (hts _ (List.mem_cons_of_mem _ mw_202)) (fun _ h9 => h9) rfl dX6_tellFit_20 ?_
    refine lv_iload_n hx hb dX6_tellFit_23 rfl (lv_at hl 0 rfl) ?_
    obtain ⟨h_24, hf⟩ := ho_g hf
    refine va_iald (n := 10) (f := (v_t_trials.2 2)) hx hb hK hP 3 0 rfl rfl h_24 dX6_tellFit_24 ?_
    obtain rfl := Option.some.inj hf
    exact W.iret (v := ((v_t_trials.2 2) (Int32.toNatClampNeg u_4))) hx hb hr (fun t ht hW => ⟨_, rfl, rfl, ht⟩) (fun q hq => by cases hq) dX6_tellFit_25 hlocks
  · have hf := ho_t hf c_9
    refine lv_iload_n hx hb dX6_tellFit_12 rfl (lv_at hl 0 rfl) ?_
    refine lv_goto (tgt := 25) hx hb dX6_tellFit_13 (by decide) ?_
    obtain rfl := Option.some.inj hf
    exact W.iret (v := u_4) hx hb hr (fun t ht hW => ⟨_, rfl, rfl, ht⟩) (fun q hq => by cases hq) dX6_tellFit_25 hlocks
set_option maxHeartbeats 4000000 in
set_option maxRecDepth 100000 in
theorem c_X6_fit (l : Launch) (dC : Nat → ClassId) (dI : Nat → Nat → Nat) (cI cII : ClassId) (o_t : Nat) (a_t : Nat → Nat) (a_t_now : Nat → Nat) (a_t_trials : Nat → Nat) (r_t_trials : Nat → Nat) (a_t_trials_day : Nat → Nat) (v_t : obV) (v_t_now : obV) (v_t_trials : obV) (w_t_trials : Nat → Nat → Int32) (v_t_trials_day : obV) (x1 : Int32) (x2 : Int32) (sz : Nat) (r : Int32 × obV × (Nat → Nat → Int32) × obV) (hf : f_X6_fit  v_t_now v_t_trials w_t_trials v_t_trials_day x1 x2 = some r) :
    Met l yX6_fit (wd yX6_fit cX6_fit 3 (some .int)) ({ frames := 5, cells := 0, slots := 0, locals := 119 } : Room) (va_Pc [.ref o_t, .int x1, .int x2] (qB (dC, dI) vwCl (wX6 o_t a_t cI v_t ++ (wX1 (a_t 1) a_t_now cI v_t_now ++ (wX5 (a_t 4) a_t_trials r_t_trials cI cII v_t_trials w_t_trials ++ (wX2 (a_t_trials 0) a_t_trials_day cI v_t_trials_day)))) (hTY cI cII) sz)) (va_Qi (fun (z : Int32) (_ : Unit) => r.1 = z) (fun _ t => va_P (dC, dI) vwCl (wX6 o_t a_t cI v_t ++ (wX1 (a_t 1) a_t_now cI v_t_now ++ (wX5 (a_t 4) a_t_trials r_t_trials cI cII r.2.1 r.2.2.1 ++ (wX2 (a_t_trials 0) a_t_trials_day cI r.2.2.2)))) t.heap ∧ va_D (va_A (wX6 o_t a_t cI v_t ++ (wX1 (a_t 1) a_t_now cI v_t_now ++ (wX5 (a_t 4) a_t_trials r_t_trials cI cII v_t_trials w_t_trials ++ (wX2 (a_t_trials 0) a_t_trials_day cI v_t_trials_day)))) sz) (wX6 o_t a_t cI v_t ++ (wX1 (a_t 1) a_t_now cI v_t_now ++ (wX5 (a_t 4) a_t_trials r_t_trials cI cII r.2.1 r.2.2.1 ++ (wX2 (a_t_trials 0) a_t_trials_day cI r.2.2.2))))) (va_A (wX6 o_t a_t cI v_t ++ (wX1 (a_t 1) a_t_now cI v_t_now ++ (wX5 (a_t 4) a_t_trials r_t_trials cI cII v_t_trials w_t_trials ++ (wX2 (a_t_trials 0) a_t_trials_day cI v_t_trials_day)))) sz)) 0 0 (va_A (wX6 o_t a_t cI v_t ++ (wX1 (a_t 1) a_t_now cI v_t_now ++ (wX5 (a_t 4) a_t_trials r_t_trials cI cII v_t_trials w_t_trials ++ (wX2 (a_t_trials 0) a_t_trials_day cI v_t_trials_day)))) sz) := by
  refine Met.ofW (cc := cX6_fit) (maxL := 3) (ret := (some .int)) (by decide) rfl ?_
  intro p e s m args below meth c s₁ B hml hv
  obtain ⟨rfl, hsz, hD0, hP, hK, hN⟩ := hv
  have hx := B.exec
  have hb := B.bytes
  have hr := B.returns
  have hts := atoms_spec (ws := (wd yX6_fit cX6_fit 3 (some .int))) B.pre
  have hown : s.vm.findClass RX6 = some m.cls := findClass_of_methodNamed B.named
  have hlocks := B.notSynchronized
  subst hsz
  have hD := hD0.self (sz := s.heap.size)
  generalize hAe : va_A (wX6 o_t a_t cI v_t ++ (wX1 (a_t 1) a_t_now cI v_t_now ++ (wX5 (a_t 4) a_t_trials r_t_trials cI cII v_t_trials w_t_trials ++ (wX2 (a_t_trials 0) a_t_trials_day cI v_t_trials_day)))) s.heap.size = A at hD ⊢
  have hA : ∀ q : Nat, s.heap.size ≤ q → A q := fun q h => by rw [← hAe]; exact Or.inr h
  have hS : va_S A s.heap s.heap [] := va_S.rf
  have hl := lv_entry ([.ref o_t, .int x1, .int x2]) (n := 3) (Nat.le_of_ble_eq_true rfl)
  rw [lg_entry_eq]
  generalize (lg_sl ([.ref o_t, .int x1, .int x2]) ++ List.replicate (3 - (lg_sl ([.ref o_t, .int x1, .int x2])).length) Slot.unset).toArray = ls at hl ⊢
  have hl : lv_has ls 3 [(0, .ref o_t), (1, .int x1), (2, .int x2)] := hl
  clear hAe hD0
  unfold f_X6_fit at hf
  refine lv_aload_n hx hb dX6_fit_0 rfl (lv_at hl 0 rfl) ?_
  refine va_get (D := (dC, dI)) (ci := 6) (v := .ref (a_t 1)) (C := RX6) (T := TX6) (N := 8) hx hb hts hw_X6 hown hK hP 0 rfl rfl 1 (by decide) (hts _ (List.mem_cons_of_mem _ mw_234)) (fun _ h9 => h9) rfl dX6_fit_1 ?_
  refine lv_iload_n hx hb dX6_fit_4 rfl (lv_at hl 1 rfl) ?_
  obtain ⟨u_5, e_5, hf⟩ := ho_b hf
  have hPc := hP.sub (ws' := (wX1 (a_t 1) a_t_now cI v_t_now)) [1, 2, 3, 4] rfl
  refine vp_callSi (va_runV (As := [.int x1]) (rest := []) ⟨hx, hb, hml, hown, hts⟩ (c_X1_has l dC dI cI cII (a_t 1) a_t_now v_t_now (x1) u_5 e_5) (cwV 1 hts (hw_giV mw_322 mw_323 mw_324 mw_55 mw_325) rfl rfl rfl (by decide +kernel) ⟨Nat.le_of_ble_eq_true rfl, Nat.le_of_ble_eq_true rfl⟩) ⟨pB_blind, va_recv hK hPc (ci := 1) (q0 := 0) rfl rfl, fun U hU hW => ⟨rfl, pB_go hPc hK hN hU hW⟩⟩ rfl rfl hl.1 rfl (lv_room (Nat.le_of_ble_eq_true rfl)) dX6_fit_5 ⟨Nat.zero_le _, Nat.zero_le _⟩).run (fun z_5 ez_5 => ?_)
  subst ez_5
  refine lv_if_ne (tgt := 14) hx hb dX6_fit_8 (by decide) (fun c_8 => ?_) (fun c_8 => ?_)
  · have hf := ho_f hf c_8
    refine lv_iload_n hx hb dX6_fit_14 rfl (lv_at hl 2 rfl) ?_
    refine lv_iconst (v := 0) hx hb dX6_fit_15 (by decide) ?_
    refine lv_iconst (v := 1) hx hb dX6_fit_16 (by decide) ?_
    obtain ⟨u_17, e_17, hf⟩ := ho_b hf
    have hPc := hP.sub (ws' := ([] : va_W)) [] rfl
    refine vp_callSi (va_runS (As := [.int x2, .int 0, .int 1]) (rest := []) ⟨hx, hb, hml, hown, hts⟩ (c_X6_isWithin l dC dI cI cII (x2) (0) (1) u_17 e_17) (va_cwS 3 hts (hw_giS mw_262 mw_263 mw_53 mw_264) rfl rfl rfl (by decide +kernel) ⟨Nat.le_of_ble_eq_true rfl, Nat.le_of_ble_eq_true rfl⟩) ⟨pB_blind, fun U hU hW => ⟨rfl, pB_go hPc hK hN hU hW⟩⟩ rfl rfl hl.1 rfl (lv_room (Nat.le_of_ble_eq_true rfl)) dX6_fit_17 ⟨Nat.zero_le _, Nat.zero_le _⟩).run (fun z_17 ez_17 => ?_)
    subst ez_17
    refine lv_if_ne (tgt := 26) hx hb dX6_fit_20 (by decide) (fun c_20 => ?_) (fun c_20 => ?_)
    · have hf := ho_f hf c_20
      refine lv_aload_n hx hb dX6_fit_26 rfl (lv_at hl 0 rfl) ?_
      refine va_get (D := (dC, dI)) (ci := 6) (v := .ref (a_t 4)) (C := RX6) (T := TX6) (N := 8) hx hb hts hw_X6 hown hK hP 0 rfl rfl 4 (by decide) (hts _ (List.mem_cons_of_mem _ mw_237)) (fun _ h9 => h9) rfl dX6_fit_27 ?_
      refine lv_aload_n hx hb dX6_fit_30 rfl (lv_at hl 0 rfl) ?_
      refine va_get (D := (dC, dI)) (ci := 6) (v := .ref (a_t 1)) (C := RX6) (T := TX6) (N := 8) hx hb hts hw_X6 hown hK hP 0 rfl rfl 1 (by decide) (hts _ (List.mem_cons_of_mem _ mw_234)) (fun _ h9 => h9) rfl dX6_fit_31 ?_
      refine lv_iload_n hx hb dX6_fit_34 rfl (lv_at hl 1 rfl) ?_
      obtain ⟨u_35, e_35, hf⟩ := ho_b hf
      have hPc := hP.sub (ws' := (wX5 (a_t 4) a_t_trials r_t_trials cI cII v_t_trials w_t_trials ++ (wX1 (a_t 1) a_t_now cI v_t_now ++ (wX2 (a_t_trials 0) a_t_trials_day cI v_t_trials_day)))) [5, 6, 7, 8, 9, 10, 11, 12, 13, 14, 15, 16, 17, 18, 1, 2, 3, 4, 19, 20, 21, 22, 23] rfl
      have hDc := hD.sub (ws' := (wX5 (a_t 4) a_t_trials r_t_trials cI cII v_t_trials w_t_trials ++ (wX1 (a_t 1) a_t_now cI v_t_now ++ (wX2 (a_t_trials 0) a_t_trials_day cI v_t_trials_day)))) [5, 6, 7, 8, 9, 10, 11, 12, 13, 14, 15, 16, 17, 18, 1, 2, 3, 4, 19, 20, 21, 22, 23] (by decide) rfl
      have hFc := va_free (wc := (wX5 (a_t 4) a_t_trials r_t_trials cI cII v_t_trials w_t_trials ++ (wX1 (a_t 1) a_t_now cI v_t_now ++ (wX2 (a_t_trials 0) a_t_trials_day cI v_t_trials_day)))) hD hS hA [5, 6, 7, 8, 9, 10, 11, 12, 13, 14, 15, 16, 17, 18, 1, 2, 3, 4, 19, 20, 21, 22, 23] rfl
      refine va_callv (va_runV (As := [.ref (a_t 1), .int x1]) (rest := []) ⟨hx, hb, hml, hown, hts⟩ (c_X5_pass l dC dI cI cII (a_t 4) a_t_trials r_t_trials (a_t 1) a_t_now a_t_trials_day v_t_trials w_t_trials v_t_now v_t_trials_day (x1) _ u_35 e_35) (cwV 2 hts (hw_giV mw_380 mw_381 mw_382 mw_58 mw_383) rfl rfl rfl (by decide +kernel) ⟨Nat.le_of_ble_eq_true rfl, Nat.le_of_ble_eq_true rfl⟩) ⟨qB_blind, va_recv hK hPc (ci := 5) (q0 := 0) rfl rfl, fun U hU hW => ⟨rfl, qB_go hPc hDc hK hN hU hW⟩⟩ rfl rfl hl.1 rfl (lv_room (Nat.le_of_ble_eq_true rfl)) dX6_fit_35 ⟨Nat.zero_le _, Nat.zero_le _⟩) hS (fun q _ h => hFc q h) hFc (fun u t H1 locs ht hvm hw hB hz1 hk1 hS => ?_)
      obtain ⟨hP1, hD1⟩ := hB
      rw [ht] at hP1
      obtain ⟨hP, hD⟩ := va_join (wr := (wX6 o_t a_t cI v_t)) (w1 := (wX5 (a_t 4) a_t_trials r_t_trials cI cII u_35.1 u_35.2.1 ++ (wX1 (a_t 1) a_t_now cI v_t_now ++ (wX2 (a_t_trials 0) a_t_trials_day cI u_35.2.2)))) hP hD [5, 6, 7, 8, 9, 10, 11, 12, 13, 14, 15, 16, 17, 18, 1, 2, 3, 4, 19, 20, 21, 22, 23] [0] rfl rfl (by decide) (by decide) hk1 hFc hP1 hD1
      generalize H1 = H at hP hS ⊢
      have hP : va_P (dC, dI) vwCl (wX6 o_t a_t cI v_t ++ (wX1 (a_t 1) a_t_now cI v_t_now ++ (wX5 (a_t 4) a_t_trials r_t_trials cI cII u_35.1 u_35.2.1 ++ (wX2 (a_t_trials 0) a_t_trials_day cI u_35.2.2)))) H := hP.sub [0, 15, 16, 17, 18, 1, 2, 3, 4, 5, 6, 7, 8, 9, 10, 11, 12, 13, 14, 19, 20, 21, 22, 23] rfl
      have hD : va_D A (wX6 o_t a_t cI v_t ++ (wX1 (a_t 1) a_t_now cI v_t_now ++ (wX5 (a_t 4) a_t_trials r_t_trials cI cII u_35.1 u_35.2.1 ++ (wX2 (a_t_trials 0) a_t_trials_day cI u_35.2.2)))) := hD.sub [0, 15, 16, 17, 18, 1, 2, 3, 4, 5, 6, 7, 8, 9, 10, 11, 12, 13, 14, 19, 20, 21, 22, 23] (by decide) rfl
      refine lv_aload_n hx hb dX6_fit_38 rfl (lv_at hl 0 rfl) ?_
      refine lv_iload_n hx hb dX6_fit_39 rfl (lv_at hl 2 rfl) ?_
      obtain ⟨u_40, e_40, hf⟩ := ho_b hf
      have hPc := hP.sub (ws' := (wX6 o_t a_t cI v_t ++ (wX5 (a_t 4) a_t_trials r_t_trials cI cII u_35.1 u_35.2.1))) [0, 5, 6, 7, 8, 9, 10, 11, 12, 13, 14, 15, 16, 17, 18] rfl
      refine vp_callSi (va_runV (As := [.int x2]) (rest := []) ⟨hx, hb, hml, hown, hts⟩ (c_X6_tellFit l dC dI cI cII o_t a_t a_t_trials r_t_trials v_t u_35.1 u_35.2.1 (x2) u_40 e_40) (cwV 1 hts (hw_giV mw_506 mw_508 mw_14 mw_53 mw_509) rfl rfl rfl (by decide +kernel) ⟨Nat.le_of_ble_eq_true rfl, Nat.le_of_ble_eq_true rfl⟩) ⟨pB_blind, va_recv hK hPc (ci := 6) (q0 := 0) rfl rfl, fun U hU hW => ⟨rfl, pB_go hPc hK hN hU hW⟩⟩ rfl rfl hl.1 rfl (lv_room (Nat.le_of_ble_eq_true rfl)) dX6_fit_40 ⟨Nat.zero_le _, Nat.zero_le _⟩).run (fun z_40 ez_40 => ?_)
      subst ez_40
      obtain rfl := Option.some.inj hf
      exact W.iret (v := u_40) hx hb hr (fun t ht hW => ⟨⟨_, (), rfl, rfl, by rw [ht]; exact hP, hD⟩, hS.F ht⟩) hS.2.2 dX6_fit_43 hlocks
    · have hf := ho_t hf c_20
      refine lv_bipush (v := (-102)) hx hb dX6_fit_23 (by decide) ?_
      obtain rfl := Option.some.inj hf
      exact W.iret (v := (-102)) hx hb hr (fun t ht hW => ⟨⟨_, (), rfl, rfl, by rw [ht]; exact hP, hD⟩, hS.F ht⟩) hS.2.2 dX6_fit_25 hlocks
  · have hf := ho_t hf c_8
    refine lv_bipush (v := (-101)) hx hb dX6_fit_11 (by decide) ?_
    obtain rfl := Option.some.inj hf
    exact W.iret (v := (-101)) hx hb hr (fun t ht hW => ⟨⟨_, (), rfl, rfl, by rw [ht]; exact hP, hD⟩, hS.F ht⟩) hS.2.2 dX6_fit_13 hlocks
set_option maxHeartbeats 4000000 in
set_option maxRecDepth 100000 in
theorem c_X6_see (l : Launch) (dC : Nat → ClassId) (dI : Nat → Nat → Nat) (cI cII : ClassId) (o_t : Nat) (a_t : Nat → Nat) (a_t_now : Nat → Nat) (a_t_now_seen : Nat → Nat) (v_t : obV) (v_t_now : obV) (v_t_now_seen : obV) (x1 : Int32) (x2 : Int32) (sz : Nat) (r : Int32 × obV) (hf : f_X6_see  v_t_now_seen x1 x2 = some r) :
    Met l yX6_see (wd yX6_see cX6_see 3 (some .int)) ({ frames := 1, cells := 0, slots := 0, locals := 22 } : Room) (va_Pc [.ref o_t, .int x1, .int x2] (qB (dC, dI) vwCl (wX6 o_t a_t cI v_t ++ (wX1 (a_t 1) a_t_now cI v_t_now ++ (wX4 (a_t_now 3) a_t_now_seen cI v_t_now_seen))) (hTY cI cII) sz)) (va_Qi (fun (z : Int32) (_ : Unit) => r.1 = z) (fun _ t => va_P (dC, dI) vwCl (wX6 o_t a_t cI v_t ++ (wX1 (a_t 1) a_t_now cI v_t_now ++ (wX4 (a_t_now 3) a_t_now_seen cI r.2))) t.heap ∧ va_D (va_A (wX6 o_t a_t cI v_t ++ (wX1 (a_t 1) a_t_now cI v_t_now ++ (wX4 (a_t_now 3) a_t_now_seen cI v_t_now_seen))) sz) (wX6 o_t a_t cI v_t ++ (wX1 (a_t 1) a_t_now cI v_t_now ++ (wX4 (a_t_now 3) a_t_now_seen cI r.2)))) (va_A (wX6 o_t a_t cI v_t ++ (wX1 (a_t 1) a_t_now cI v_t_now ++ (wX4 (a_t_now 3) a_t_now_seen cI v_t_now_seen))) sz)) 0 0 (va_A (wX6 o_t a_t cI v_t ++ (wX1 (a_t 1) a_t_now cI v_t_now ++ (wX4 (a_t_now 3) a_t_now_seen cI v_t_now_seen))) sz) := by
  refine Met.ofW (cc := cX6_see) (maxL := 3) (ret := (some .int)) (by decide) rfl ?_
  intro p e s m args below meth c s₁ B hml hv
  obtain ⟨rfl, hsz, hD0, hP, hK, hN⟩ := hv
  have hx := B.exec
  have hb := B.bytes
  have hr := B.returns
  have hts := atoms_spec (ws := (wd yX6_see cX6_see 3 (some .int))) B.pre
  have hown : s.vm.findClass RX6 = some m.cls := findClass_of_methodNamed B.named
  have hlocks := B.notSynchronized
  subst hsz
  have hD := hD0.self (sz := s.heap.size)
  generalize hAe : va_A (wX6 o_t a_t cI v_t ++ (wX1 (a_t 1) a_t_now cI v_t_now ++ (wX4 (a_t_now 3) a_t_now_seen cI v_t_now_seen))) s.heap.size = A at hD ⊢
  have hA : ∀ q : Nat, s.heap.size ≤ q → A q := fun q h => by rw [← hAe]; exact Or.inr h
  have hS : va_S A s.heap s.heap [] := va_S.rf
  have hl := lv_entry ([.ref o_t, .int x1, .int x2]) (n := 3) (Nat.le_of_ble_eq_true rfl)
  rw [lg_entry_eq]
  generalize (lg_sl ([.ref o_t, .int x1, .int x2]) ++ List.replicate (3 - (lg_sl ([.ref o_t, .int x1, .int x2])).length) Slot.unset).toArray = ls at hl ⊢
  have hl : lv_has ls 3 [(0, .ref o_t), (1, .int x1), (2, .int x2)] := hl
  clear hAe hD0
  unfold f_X6_see at hf
  refine lv_iload_n hx hb dX6_see_0 rfl (lv_at hl 1 rfl) ?_
  refine lv_iconst (v := 0) hx hb dX6_see_1 (by decide) ?_
  refine lv_bipush (v := 19) hx hb dX6_see_2 (by decide) ?_
  obtain ⟨u_4, e_4, hf⟩ := ho_b hf
  have hPc := hP.sub (ws' := ([] : va_W)) [] rfl
  refine vp_callSi (va_runS (As := [.int x1, .int 0, .int 19]) (rest := []) ⟨hx, hb, hml, hown, hts⟩ (c_X6_isWithin l dC dI cI cII (x1) (0) (19) u_4 e_4) (va_cwS 3 hts (hw_giS mw_262 mw_263 mw_53 mw_264) rfl rfl rfl (by decide +kernel) ⟨Nat.le_of_ble_eq_true rfl, Nat.le_of_ble_eq_true rfl⟩) ⟨pB_blind, fun U hU hW => ⟨rfl, pB_go hPc hK hN hU hW⟩⟩ rfl rfl hl.1 rfl (lv_room (Nat.le_of_ble_eq_true rfl)) dX6_see_4 ⟨Nat.zero_le _, Nat.zero_le _⟩).run (fun z_4 ez_4 => ?_)
  subst ez_4
  refine lv_if_eq (tgt := 19) hx hb dX6_see_7 (by decide) (fun c_7 => ?_) (fun c_7 => ?_)
  · have hf := ho_t hf c_7
    refine lv_bipush (v := (-102)) hx hb dX6_see_19 (by decide) ?_
    obtain rfl := Option.some.inj hf
    exact W.iret (v := (-102)) hx hb hr (fun t ht hW => ⟨⟨_, (), rfl, rfl, by rw [ht]; exact hP, hD⟩, hS.F ht⟩) hS.2.2 dX6_see_21 hlocks
  · have hf := ho_f hf c_7
    refine lv_iload_n hx hb dX6_see_10 rfl (lv_at hl 2 rfl) ?_
    refine lv_iconst (v := 0) hx hb dX6_see_11 (by decide) ?_
    refine lv_iconst (v := 5) hx hb dX6_see_12 (by decide) ?_
    obtain ⟨u_13, e_13, hf⟩ := ho_b hf
    have hPc := hP.sub (ws' := ([] : va_W)) [] rfl
    refine vp_callSi (va_runS (As := [.int x2, .int 0, .int 5]) (rest := []) ⟨hx, hb, hml, hown, hts⟩ (c_X6_isWithin l dC dI cI cII (x2) (0) (5) u_13 e_13) (va_cwS 3 hts (hw_giS mw_262 mw_263 mw_53 mw_264) rfl rfl rfl (by decide +kernel) ⟨Nat.le_of_ble_eq_true rfl, Nat.le_of_ble_eq_true rfl⟩) ⟨pB_blind, fun U hU hW => ⟨rfl, pB_go hPc hK hN hU hW⟩⟩ rfl rfl hl.1 rfl (lv_room (Nat.le_of_ble_eq_true rfl)) dX6_see_13 ⟨Nat.zero_le _, Nat.zero_le _⟩).run (fun z_13 ez_13 => ?_)
    subst ez_13
    refine lv_if_ne (tgt := 22) hx hb dX6_see_16 (by decide) (fun c_16 => ?_) (fun c_16 => ?_)
    · have hf := ho_f hf c_16
      refine lv_aload_n hx hb dX6_see_22 rfl (lv_at hl 0 rfl) ?_
      refine va_get (D := (dC, dI)) (ci := 6) (v := .ref (a_t 1)) (C := RX6) (T := TX6) (N := 8) hx hb hts hw_X6 hown hK hP 0 rfl rfl 1 (by decide) (hts _ (List.mem_cons_of_mem _ mw_234)) (fun _ h9 => h9) rfl dX6_see_23 ?_
      refine va_get (D := (dC, dI)) (ci := 1) (v := .ref (a_t_now 3)) (C := RX1) (T := TX1) (N := 7) hx hb hts hw_X1 hown hK hP 1 rfl rfl 3 (by decide) (hts _ (List.mem_cons_of_mem _ mw_123)) (fun _ h9 => h9) rfl dX6_see_26 ?_
      refine va_get (D := (dC, dI)) (ci := 4) (v := .int (v_t_now_seen.1 2)) (C := RX4) (T := TX4) (N := 3) hx hb hts hw_X4 hown hK hP 5 rfl rfl 2 (by decide) (hts _ (List.mem_cons_of_mem _ mw_105)) (fun _ h9 => h9) rfl dX6_see_29 ?_
      refine lv_bipush (v := 8) hx hb dX6_see_32 (by decide) ?_
      refine lv_icmp_lt (tgt := 40) hx hb dX6_see_34 (by decide) (fun c_34 => ?_) (fun c_34 => ?_)
      · have hf := ho_t hf c_34
        refine lv_aload_n hx hb dX6_see_40 rfl (lv_at hl 0 rfl) ?_
        refine va_get (D := (dC, dI)) (ci := 6) (v := .ref (a_t 1)) (C := RX6) (T := TX6) (N := 8) hx hb hts hw_X6 hown hK hP 0 rfl rfl 1 (by decide) (hts _ (List.mem_cons_of_mem _ mw_234)) (fun _ h9 => h9) rfl dX6_see_41 ?_
        refine va_get (D := (dC, dI)) (ci := 1) (v := .ref (a_t_now 3)) (C := RX1) (T := TX1) (N := 7) hx hb hts hw_X1 hown hK hP 1 rfl rfl 3 (by decide) (hts _ (List.mem_cons_of_mem _ mw_123)) (fun _ h9 => h9) rfl dX6_see_44 ?_
        refine lv_iload_n hx hb dX6_see_47 rfl (lv_at hl 1 rfl) ?_
        refine lv_iload_n hx hb dX6_see_48 rfl (lv_at hl 2 rfl) ?_
        obtain ⟨u_49, e_49, hf⟩ := ho_b hf
        have hPc := hP.sub (ws' := (wX4 (a_t_now 3) a_t_now_seen cI v_t_now_seen)) [5, 6, 7] rfl
        have hDc := hD.sub (ws' := (wX4 (a_t_now 3) a_t_now_seen cI v_t_now_seen)) [5, 6, 7] (by decide) rfl
        have hFc := va_free (wc := (wX4 (a_t_now 3) a_t_now_seen cI v_t_now_seen)) hD hS hA [5, 6, 7] rfl
        refine va_callv (va_runV (As := [.int x1, .int x2]) (rest := []) ⟨hx, hb, hml, hown, hts⟩ (c_X4_add l dC dI cI cII (a_t_now 3) a_t_now_seen v_t_now_seen (x1) (x2) _ u_49 e_49) (cwV 2 hts (hw_giV mw_518 mw_519 mw_520 mw_56 mw_521) rfl rfl rfl (by decide +kernel) ⟨Nat.le_of_ble_eq_true rfl, Nat.le_of_ble_eq_true rfl⟩) ⟨qB_blind, va_recv hK hPc (ci := 4) (q0 := 0) rfl rfl, fun U hU hW => ⟨rfl, qB_go hPc hDc hK hN hU hW⟩⟩ rfl rfl hl.1 rfl (lv_room (Nat.le_of_ble_eq_true rfl)) dX6_see_49 ⟨Nat.zero_le _, Nat.zero_le _⟩) hS (fun q _ h => hFc q h) hFc (fun u t H1 locs ht hvm hw hB hz1 hk1 hS => ?_)
        obtain ⟨hP1, hD1⟩ := hB
        rw [ht] at hP1
        obtain ⟨hP, hD⟩ := va_join (wr := (wX6 o_t a_t cI v_t ++ (wX1 (a_t 1) a_t_now cI v_t_now))) (w1 := (wX4 (a_t_now 3) a_t_now_seen cI u_49)) hP hD [5, 6, 7] [0, 1, 2, 3, 4] rfl rfl (by decide) (by decide) hk1 hFc hP1 hD1
        generalize H1 = H at hP hS ⊢
        have hP : va_P (dC, dI) vwCl (wX6 o_t a_t cI v_t ++ (wX1 (a_t 1) a_t_now cI v_t_now ++ (wX4 (a_t_now 3) a_t_now_seen cI u_49))) H := hP.sub [0, 1, 2, 3, 4, 5, 6, 7] rfl
        have hD : va_D A (wX6 o_t a_t cI v_t ++ (wX1 (a_t 1) a_t_now cI v_t_now ++ (wX4 (a_t_now 3) a_t_now_seen cI u_49))) := hD.sub [0, 1, 2, 3, 4, 5, 6, 7] (by decide) rfl
        refine lv_aload_n hx hb dX6_see_52 rfl (lv_at hl 0 rfl) ?_
        refine va_get (D := (dC, dI)) (ci := 6) (v := .ref (a_t 1)) (C := RX6) (T := TX6) (N := 8) hx hb hts hw_X6 hown hK hP 0 rfl rfl 1 (by decide) (hts _ (List.mem_cons_of_mem _ mw_234)) (fun _ h9 => h9) rfl dX6_see_53 ?_
        refine va_get (D := (dC, dI)) (ci := 1) (v := .ref (a_t_now 3)) (C := RX1) (T := TX1) (N := 7) hx hb hts hw_X1 hown hK hP 1 rfl rfl 3 (by decide) (hts _ (List.mem_cons_of_mem _ mw_123)) (fun _ h9 => h9) rfl dX6_see_56 ?_
        refine va_get (D := (dC, dI)) (ci := 4) (v := .int (u_49.1 2)) (C := RX4) (T := TX4) (N := 3) hx hb hts hw_X4 hown hK hP 5 rfl rfl 2 (by decide) (hts _ (List.mem_cons_of_mem _ mw_105)) (fun _ h9 => h9) rfl dX6_see_59 ?_
        obtain rfl := Option.some.inj hf
        exact W.iret (v := (u_49.1 2)) hx hb hr (fun t ht hW => ⟨⟨_, (), rfl, rfl, by rw [ht]; exact hP, hD⟩, hS.F ht⟩) hS.2.2 dX6_see_62 hlocks
      · have hf := ho_f hf c_34
        refine lv_bipush (v := (-104)) hx hb dX6_see_37 (by decide) ?_
        obtain rfl := Option.some.inj hf
        exact W.iret (v := (-104)) hx hb hr (fun t ht hW => ⟨⟨_, (), rfl, rfl, by rw [ht]; exact hP, hD⟩, hS.F ht⟩) hS.2.2 dX6_see_39 hlocks
    · have hf := ho_t hf c_16
      refine lv_bipush (v := (-102)) hx hb dX6_see_19 (by decide) ?_
      obtain rfl := Option.some.inj hf
      exact W.iret (v := (-102)) hx hb hr (fun t ht hW => ⟨⟨_, (), rfl, rfl, by rw [ht]; exact hP, hD⟩, hS.F ht⟩) hS.2.2 dX6_see_21 hlocks
