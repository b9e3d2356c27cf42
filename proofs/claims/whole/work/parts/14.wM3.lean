set_option maxHeartbeats 4000000 in
set_option maxRecDepth 100000 in
theorem c_X7_image (l : Launch) (dC : Nat → ClassId) (dI : Nat → Nat → Nat) (cI cII : ClassId) (o_t : Nat) (a_t : Nat → Nat) (v_t : obV) (h_t : Int64)  (sz : Nat) (r : Int32 × obV) (hf : f_X7_image  v_t  = some r) :
    Met l yX7_image (wd yX7_image cX7_image 1 (some .int)) ({ frames := 1, cells := 0, slots := 0, locals := 22 } : Room) (va_Pc [.ref o_t] (qB (dC, dI) vwCl (wX7 o_t a_t cI v_t h_t) (hTY cI cII) sz)) (va_Qi (fun (z : Int32) (_ : Unit) => r.1 = z) (fun _ t => va_P (dC, dI) vwCl (wX7 o_t a_t cI r.2 h_t) t.heap ∧ va_D (va_A (wX7 o_t a_t cI v_t h_t) sz) (wX7 o_t a_t cI r.2 h_t)) (va_A (wX7 o_t a_t cI v_t h_t) sz)) 0 0 (va_A (wX7 o_t a_t cI v_t h_t) sz) := by
  refine Met.ofW (cc := cX7_image) (maxL := 1) (ret := (some .int)) (by decide) rfl ?_
  intro p e s m args below meth c s₁ B hml hv
  obtain ⟨rfl, hsz, hD0, hP, hK, hN⟩ := hv
  have hx := B.exec
  have hb := B.bytes
  have hr := B.returns
  have hts := atoms_spec (ws := (wd yX7_image cX7_image 1 (some .int))) B.pre
  have hown : s.vm.findClass RX7 = some m.cls := findClass_of_methodNamed B.named
  have hlocks := B.notSynchronized
  subst hsz
  have hD := hD0.self (sz := s.heap.size)
  generalize hAe : va_A (wX7 o_t a_t cI v_t h_t) s.heap.size = A at hD ⊢
  have hA : ∀ q : Nat, s.heap.size ≤ q → A q := fun q h => by rw [← hAe]; exact Or.inr h
  have hS : va_S A s.heap s.heap [] := va_S.rf
  have hl := lv_entry ([.ref o_t]) (n := 1) (Nat.le_of_ble_eq_true rfl)
  rw [lg_entry_eq]
  generalize (lg_sl ([.ref o_t]) ++ List.replicate (1 - (lg_sl ([.ref o_t])).length) Slot.unset).toArray = ls at hl ⊢
  have hl : lv_has ls 1 [(0, .ref o_t)] := hl
  clear hAe hD0
  unfold f_X7_image at hf
  refine lv_aload_n hx hb dX7_image_0 rfl (lv_at hl 0 rfl) ?_
  obtain ⟨u_1, e_1, hf⟩ := ho_b hf
  refine vp_callSi (va_runV (As := []) (rest := []) ⟨hx, hb, hml, hown, hts⟩ (c_X7_lacks l dC dI cI cII o_t a_t v_t h_t u_1 e_1) (cwV 0 hts (hw_giV mw_807 mw_809 mw_35 mw_60 mw_810) rfl rfl rfl (by decide +kernel) ⟨Nat.le_of_ble_eq_true rfl, Nat.le_of_ble_eq_true rfl⟩) ⟨pB_blind, va_recv hK hP (ci := 7) (q0 := 0) rfl rfl, fun U hU hW => ⟨rfl, pB_go hP hK hN hU hW⟩⟩ rfl rfl hl.1 rfl (lv_room (Nat.le_of_ble_eq_true rfl)) dX7_image_1 ⟨Nat.zero_le _, Nat.zero_le _⟩).run (fun z_1 ez_1 => ?_)
  subst ez_1
  refine lv_if_eq (tgt := 10) hx hb dX7_image_4 (by decide) (fun c_4 => ?_) (fun c_4 => ?_)
  · have hf := ho_t hf c_4
    refine lv_aload_n hx hb dX7_image_10 rfl (lv_at hl 0 rfl) ?_
    refine va_get (D := (dC, dI)) (ci := 7) (v := .ref (a_t 10)) (C := RX7) (T := TX7) (N := 30) hx hb hts hw_X7 hown hK hP 0 rfl rfl 10 (by decide) (hts _ (List.mem_cons_of_mem _ mw_608)) (fun _ h9 => h9) rfl dX7_image_11 ?_
    refine lv_aload_n hx hb dX7_image_14 rfl (lv_at hl 0 rfl) ?_
    refine va_get (D := (dC, dI)) (ci := 7) (v := .ref (a_t 27)) (C := RX7) (T := TX7) (N := 30) hx hb hts hw_X7 hown hK hP 0 rfl rfl 27 (by decide) (hts _ (List.mem_cons_of_mem _ mw_625)) (fun _ h9 => h9) rfl dX7_image_15 ?_
    obtain ⟨u_18, e_18, hf⟩ := ho_b hf
    have hPc := hP.sub (ws' := ([((a_t 10), .inl (cI, 15, .inl (v_t.2 10)))] ++ ([((a_t 27), .inl (cI, 15, .inl (v_t.2 27)))]))) [3, 11] rfl
    have hDc := hD.sub (ws' := ([((a_t 10), .inl (cI, 15, .inl (v_t.2 10)))] ++ ([((a_t 27), .inl (cI, 15, .inl (v_t.2 27)))]))) [3, 11] (by decide) rfl
    have hFc := va_free (wc := ([((a_t 10), .inl (cI, 15, .inl (v_t.2 10)))] ++ ([((a_t 27), .inl (cI, 15, .inl (v_t.2 27)))]))) hD hS hA [3, 11] rfl
    refine va_callv (va_runS (As := [.ref (a_t 10), .ref (a_t 27)]) (rest := []) ⟨hx, hb, hml, hown, hts⟩ (c_X7_copy l dC dI cI cII (a_t 10) 15 (a_t 27) 15 (v_t.2 10) (v_t.2 27) _ u_18 e_18) (va_cwS 2 hts (hw_giS mw_722 mw_723 mw_60 mw_724) rfl rfl rfl (by decide +kernel) ⟨Nat.le_of_ble_eq_true rfl, Nat.le_of_ble_eq_true rfl⟩) ⟨qB_blind, fun U hU hW => ⟨rfl, qB_go hPc hDc hK hN hU hW⟩⟩ rfl rfl hl.1 rfl (lv_room (Nat.le_of_ble_eq_true rfl)) dX7_image_18 ⟨Nat.zero_le _, Nat.zero_le _⟩) hS (fun q _ h => hFc q h) hFc (fun u t H1 locs ht hvm hw hB hz1 hk1 hS => ?_)
    obtain ⟨hP1, hD1⟩ := hB
    rw [ht] at hP1
    obtain ⟨hP, hD⟩ := va_join (wr := ([(o_t, .inr (7, [.ref (a_t 0), .int (v_t.1 1), .ref (a_t 2), .int (v_t.1 3), .int (v_t.1 4), .int (v_t.1 5), .int (v_t.1 6), .int (v_t.1 7), .int (v_t.1 8), .int (v_t.1 9), .ref (a_t 10), .ref (a_t 11), .ref (a_t 12), .int (v_t.1 13), .int (v_t.1 14), .int (v_t.1 15), .ref (a_t 16), .ref (a_t 17), .int (v_t.1 18), .ref (a_t 19), .ref (a_t 20), .int (v_t.1 21), .ref (a_t 22), .int (v_t.1 23), .int (v_t.1 24), .int (v_t.1 25), .int (v_t.1 26), .ref (a_t 27), .ref (a_t 28), .long h_t])), (a_t 0, .inl (cI, 24, .inl (v_t.2 0))), (a_t 2, .inl (cI, 15, .inl (v_t.2 2))), (a_t 11, .inl (cI, 5, .inl (v_t.2 11))), (a_t 12, .inl (cI, 5, .inl (v_t.2 12))), (a_t 16, .inl (cI, 5, .inl (v_t.2 16))), (a_t 17, .inl (cI, 5, .inl (v_t.2 17))), (a_t 19, .inl (cI, 16, .inl (v_t.2 19))), (a_t 20, .inl (cI, 120, .inl (v_t.2 20))), (a_t 22, .inl (cI, 15, .inl (v_t.2 22))), (a_t 28, .inl (cI, 16, .inl (v_t.2 28)))])) (w1 := ([((a_t 10), .inl (cI, 15, .inl (v_t.2 10)))] ++ ([((a_t 27), .inl (cI, 15, .inl ((oC v_t 27 u_18).2 27)))]))) hP hD [3, 11] [0, 1, 2, 4, 5, 6, 7, 8, 9, 10, 12] rfl rfl (by decide) (by decide) hk1 hFc hP1 hD1
    generalize H1 = H at hP hS ⊢
    have hP : va_P (dC, dI) vwCl (wX7 o_t a_t cI (oC v_t 27 u_18) h_t) H := hP.sub [0, 1, 2, 11, 3, 4, 5, 6, 7, 8, 9, 12, 10] rfl
    have hD : va_D A (wX7 o_t a_t cI (oC v_t 27 u_18) h_t) := hD.sub [0, 1, 2, 11, 3, 4, 5, 6, 7, 8, 9, 12, 10] (by decide) rfl
    refine lv_aload_n hx hb dX7_image_21 rfl (lv_at hl 0 rfl) ?_
    refine va_get (D := (dC, dI)) (ci := 7) (v := .ref (a_t 19)) (C := RX7) (T := TX7) (N := 30) hx hb hts hw_X7 hown hK hP 0 rfl rfl 19 (by decide) (hts _ (List.mem_cons_of_mem _ mw_617)) (fun _ h9 => h9) rfl dX7_image_22 ?_
    refine lv_aload_n hx hb dX7_image_25 rfl (lv_at hl 0 rfl) ?_
    refine va_get (D := (dC, dI)) (ci := 7) (v := .ref (a_t 28)) (C := RX7) (T := TX7) (N := 30) hx hb hts hw_X7 hown hK hP 0 rfl rfl 28 (by decide) (hts _ (List.mem_cons_of_mem _ mw_626)) (fun _ h9 => h9) rfl dX7_image_26 ?_
    obtain ⟨u_29, e_29, hf⟩ := ho_b hf
    have hPc := hP.sub (ws' := ([((a_t 19), .inl (cI, 16, .inl (v_t.2 19)))] ++ ([((a_t 28), .inl (cI, 16, .inl (v_t.2 28)))]))) [8, 12] rfl
    have hDc := hD.sub (ws' := ([((a_t 19), .inl (cI, 16, .inl (v_t.2 19)))] ++ ([((a_t 28), .inl (cI, 16, .inl (v_t.2 28)))]))) [8, 12] (by decide) rfl
    have hFc := va_free (wc := ([((a_t 19), .inl (cI, 16, .inl (v_t.2 19)))] ++ ([((a_t 28), .inl (cI, 16, .inl (v_t.2 28)))]))) hD hS hA [8, 12] rfl
    refine va_callv (va_runS (As := [.ref (a_t 19), .ref (a_t 28)]) (rest := []) ⟨hx, hb, hml, hown, hts⟩ (c_X7_copy l dC dI cI cII (a_t 19) 16 (a_t 28) 16 (v_t.2 19) (v_t.2 28) _ u_29 e_29) (va_cwS 2 hts (hw_giS mw_722 mw_723 mw_60 mw_724) rfl rfl rfl (by decide +kernel) ⟨Nat.le_of_ble_eq_true rfl, Nat.le_of_ble_eq_true rfl⟩) ⟨qB_blind, fun U hU hW => ⟨rfl, qB_go hPc hDc hK hN hU hW⟩⟩ rfl rfl hl.1 rfl (lv_room (Nat.le_of_ble_eq_true rfl)) dX7_image_29 ⟨Nat.zero_le _, Nat.zero_le _⟩) hS (fun q _ h => hFc q h) hFc (fun u t H1 locs ht hvm hw hB hz1 hk1 hS => ?_)
    obtain ⟨hP1, hD1⟩ := hB
    rw [ht] at hP1
    obtain ⟨hP, hD⟩ := va_join (wr := ([(o_t, .inr (7, [.ref (a_t 0), .int ((oC v_t 27 u_18).1 1), .ref (a_t 2), .int ((oC v_t 27 u_18).1 3), .int ((oC v_t 27 u_18).1 4), .int ((oC v_t 27 u_18).1 5), .int ((oC v_t 27 u_18).1 6), .int ((oC v_t 27 u_18).1 7), .int ((oC v_t 27 u_18).1 8), .int ((oC v_t 27 u_18).1 9), .ref (a_t 10), .ref (a_t 11), .ref (a_t 12), .int ((oC v_t 27 u_18).1 13), .int ((oC v_t 27 u_18).1 14), .int ((oC v_t 27 u_18).1 15), .ref (a_t 16), .ref (a_t 17), .int ((oC v_t 27 u_18).1 18), .ref (a_t 19), .ref (a_t 20), .int ((oC v_t 27 u_18).1 21), .ref (a_t 22), .int ((oC v_t 27 u_18).1 23), .int ((oC v_t 27 u_18).1 24), .int ((oC v_t 27 u_18).1 25), .int ((oC v_t 27 u_18).1 26), .ref (a_t 27), .ref (a_t 28), .long h_t])), (a_t 0, .inl (cI, 24, .inl ((oC v_t 27 u_18).2 0))), (a_t 2, .inl (cI, 15, .inl ((oC v_t 27 u_18).2 2))), (a_t 10, .inl (cI, 15, .inl ((oC v_t 27 u_18).2 10))), (a_t 11, .inl (cI, 5, .inl ((oC v_t 27 u_18).2 11))), (a_t 12, .inl (cI, 5, .inl ((oC v_t 27 u_18).2 12))), (a_t 16, .inl (cI, 5, .inl ((oC v_t 27 u_18).2 16))), (a_t 17, .inl (cI, 5, .inl ((oC v_t 27 u_18).2 17))), (a_t 20, .inl (cI, 120, .inl ((oC v_t 27 u_18).2 20))), (a_t 22, .inl (cI, 15, .inl ((oC v_t 27 u_18).2 22))), (a_t 27, .inl (cI, 15, .inl ((oC v_t 27 u_18).2 27)))])) (w1 := ([((a_t 19), .inl (cI, 16, .inl (v_t.2 19)))] ++ ([((a_t 28), .inl (cI, 16, .inl ((oC (oC v_t 27 u_18) 28 u_29).2 28)))]))) hP hD [8, 12] [0, 1, 2, 3, 4, 5, 6, 7, 9, 10, 11] rfl rfl (by decide) (by decide) hk1 hFc hP1 hD1
    generalize H1 = H at hP hS ⊢
    have hP : va_P (dC, dI) vwCl (wX7 o_t a_t cI (oC (oC v_t 27 u_18) 28 u_29) h_t) H := hP.sub [0, 1, 2, 3, 4, 5, 6, 7, 11, 8, 9, 10, 12] rfl
    have hD : va_D A (wX7 o_t a_t cI (oC (oC v_t 27 u_18) 28 u_29) h_t) := hD.sub [0, 1, 2, 3, 4, 5, 6, 7, 11, 8, 9, 10, 12] (by decide) rfl
    refine lv_aload_n hx hb dX7_image_32 rfl (lv_at hl 0 rfl) ?_
    refine lv_aload_n hx hb dX7_image_33 rfl (lv_at hl 0 rfl) ?_
    refine va_get (D := (dC, dI)) (ci := 7) (v := .int (v_t.1 7)) (C := RX7) (T := TX7) (N := 30) hx hb hts hw_X7 hown hK hP 0 rfl rfl 7 (by decide) (hts _ (List.mem_cons_of_mem _ mw_605)) (fun _ h9 => h9) rfl dX7_image_34 ?_
    refine va_put (D := (dC, dI)) (ci := 7) (v := .int (v_t.1 7)) (ty := .int) (C := RX7) (T := TX7) (N := 30) hx hb hts hw_X7 tyX7 tyX7_ok nmX7 hown hK hP hD hS 0 rfl rfl 24 (by decide) (hts _ (List.mem_cons_of_mem _ mw_622)) (fun _ h9 => h9) rfl (by decide +kernel) rfl rfl (Nat.le_of_ble_eq_true rfl) dX7_image_37 (fun H locs hP hD hS => ?_)
    have hP : va_P (dC, dI) vwCl (wX7 o_t a_t cI (oF (oC (oC v_t 27 u_18) 28 u_29) 24 (v_t.1 7)) h_t) H := hP
    have hD : va_D A (wX7 o_t a_t cI (oF (oC (oC v_t 27 u_18) 28 u_29) 24 (v_t.1 7)) h_t) := hD
    obtain ⟨v_t_37, e_v_t_37⟩ : ∃ z : obV, z = (oF (oC (oC v_t 27 u_18) 28 u_29) 24 (v_t.1 7)) := ⟨_, rfl⟩
    rw [← e_v_t_37] at hP hD
    have hf := ho_l hf v_t_37 e_v_t_37
    refine lv_aload_n hx hb dX7_image_40 rfl (lv_at hl 0 rfl) ?_
    refine lv_aload_n hx hb dX7_image_41 rfl (lv_at hl 0 rfl) ?_
    refine va_get (D := (dC, dI)) (ci := 7) (v := .int (v_t_37.1 8)) (C := RX7) (T := TX7) (N := 30) hx hb hts hw_X7 hown hK hP 0 rfl rfl 8 (by decide) (hts _ (List.mem_cons_of_mem _ mw_606)) (fun _ h9 => h9) rfl dX7_image_42 ?_
    refine va_put (D := (dC, dI)) (ci := 7) (v := .int (v_t_37.1 8)) (ty := .int) (C := RX7) (T := TX7) (N := 30) hx hb hts hw_X7 tyX7 tyX7_ok nmX7 hown hK hP hD hS 0 rfl rfl 25 (by decide) (hts _ (List.mem_cons_of_mem _ mw_623)) (fun _ h9 => h9) rfl (by decide +kernel) rfl rfl (Nat.le_of_ble_eq_true rfl) dX7_image_45 (fun H locs hP hD hS => ?_)
    have hP : va_P (dC, dI) vwCl (wX7 o_t a_t cI (oF v_t_37 25 (v_t_37.1 8)) h_t) H := hP
    have hD : va_D A (wX7 o_t a_t cI (oF v_t_37 25 (v_t_37.1 8)) h_t) := hD
    obtain ⟨v_t_45, e_v_t_45⟩ : ∃ z : obV, z = (oF v_t_37 25 (v_t_37.1 8)) := ⟨_, rfl⟩
    rw [← e_v_t_45] at hP hD
    have hf := ho_l hf v_t_45 e_v_t_45
    refine lv_aload_n hx hb dX7_image_48 rfl (lv_at hl 0 rfl) ?_
    refine lv_aload_n hx hb dX7_image_49 rfl (lv_at hl 0 rfl) ?_
    refine va_get (D := (dC, dI)) (ci := 7) (v := .int (v_t_45.1 18)) (C := RX7) (T := TX7) (N := 30) hx hb hts hw_X7 hown hK hP 0 rfl rfl 18 (by decide) (hts _ (List.mem_cons_of_mem _ mw_616)) (fun _ h9 => h9) rfl dX7_image_50 ?_
    refine va_put (D := (dC, dI)) (ci := 7) (v := .int (v_t_45.1 18)) (ty := .int) (C := RX7) (T := TX7) (N := 30) hx hb hts hw_X7 tyX7 tyX7_ok nmX7 hown hK hP hD hS 0 rfl rfl 26 (by decide) (hts _ (List.mem_cons_of_mem _ mw_624)) (fun _ h9 => h9) rfl (by decide +kernel) rfl rfl (Nat.le_of_ble_eq_true rfl) dX7_image_53 (fun H locs hP hD hS => ?_)
    have hP : va_P (dC, dI) vwCl (wX7 o_t a_t cI (oF v_t_45 26 (v_t_45.1 18)) h_t) H := hP
    have hD : va_D A (wX7 o_t a_t cI (oF v_t_45 26 (v_t_45.1 18)) h_t) := hD
    obtain ⟨v_t_53, e_v_t_53⟩ : ∃ z : obV, z = (oF v_t_45 26 (v_t_45.1 18)) := ⟨_, rfl⟩
    rw [← e_v_t_53] at hP hD
    have hf := ho_l hf v_t_53 e_v_t_53
    refine lv_aload_n hx hb dX7_image_56 rfl (lv_at hl 0 rfl) ?_
    refine lv_aload_n hx hb dX7_image_57 rfl (lv_at hl 0 rfl) ?_
    refine va_get (D := (dC, dI)) (ci := 7) (v := .int (v_t_53.1 9)) (C := RX7) (T := TX7) (N := 30) hx hb hts hw_X7 hown hK hP 0 rfl rfl 9 (by decide) (hts _ (List.mem_cons_of_mem _ mw_607)) (fun _ h9 => h9) rfl dX7_image_58 ?_
    refine va_put (D := (dC, dI)) (ci := 7) (v := .int (v_t_53.1 9)) (ty := .int) (C := RX7) (T := TX7) (N := 30) hx hb hts hw_X7 tyX7 tyX7_ok nmX7 hown hK hP hD hS 0 rfl rfl 23 (by decide) (hts _ (List.mem_cons_of_mem _ mw_621)) (fun _ h9 => h9) rfl (by decide +kernel) rfl rfl (Nat.le_of_ble_eq_true rfl) dX7_image_61 (fun H locs hP hD hS => ?_)
    have hP : va_P (dC, dI) vwCl (wX7 o_t a_t cI (oF v_t_53 23 (v_t_53.1 9)) h_t) H := hP
    have hD : va_D A (wX7 o_t a_t cI (oF v_t_53 23 (v_t_53.1 9)) h_t) := hD
    obtain ⟨v_t_61, e_v_t_61⟩ : ∃ z : obV, z = (oF v_t_53 23 (v_t_53.1 9)) := ⟨_, rfl⟩
    rw [← e_v_t_61] at hP hD
    have hf := ho_l hf v_t_61 e_v_t_61
    refine lv_aload_n hx hb dX7_image_64 rfl (lv_at hl 0 rfl) ?_
    refine va_get (D := (dC, dI)) (ci := 7) (v := .int (v_t_61.1 8)) (C := RX7) (T := TX7) (N := 30) hx hb hts hw_X7 hown hK hP 0 rfl rfl 8 (by decide) (hts _ (List.mem_cons_of_mem _ mw_606)) (fun _ h9 => h9) rfl dX7_image_65 ?_
    obtain rfl := Option.some.inj hf
    exact W.iret (v := (v_t_61.1 8)) hx hb hr (fun t ht hW => ⟨⟨_, (), rfl, rfl, by rw [ht]; exact hP, hD⟩, hS.F ht⟩) hS.2.2 dX7_image_68 hlocks
  · have hf := ho_f hf c_4
    refine lv_bipush (v := (-103)) hx hb dX7_image_7 (by decide) ?_
    obtain rfl := Option.some.inj hf
    exact W.iret (v := (-103)) hx hb hr (fun t ht hW => ⟨⟨_, (), rfl, rfl, by rw [ht]; exact hP, hD⟩, hS.F ht⟩) hS.2.2 dX7_image_9 hlocks
set_option maxHeartbeats 4000000 in
set_option maxRecDepth 100000 in
theorem c_X7_restore (l : Launch) (dC : Nat → ClassId) (dI : Nat → Nat → Nat) (cI cII : ClassId) (o_t : Nat) (a_t : Nat → Nat) (v_t : obV) (h_t : Int64)  (sz : Nat) (r : Int32 × obV) (hf : f_X7_restore  v_t  = some r) :
    Met l yX7_restore (wd yX7_restore cX7_restore 1 (some .int)) ({ frames := 1, cells := 0, slots := 0, locals := 22 } : Room) (va_Pc [.ref o_t] (qB (dC, dI) vwCl (wX7 o_t a_t cI v_t h_t) (hTY cI cII) sz)) (va_Qi (fun (z : Int32) (_ : Unit) => r.1 = z) (fun _ t => va_P (dC, dI) vwCl (wX7 o_t a_t cI r.2 h_t) t.heap ∧ va_D (va_A (wX7 o_t a_t cI v_t h_t) sz) (wX7 o_t a_t cI r.2 h_t)) (va_A (wX7 o_t a_t cI v_t h_t) sz)) 0 0 (va_A (wX7 o_t a_t cI v_t h_t) sz) := by
  refine Met.ofW (cc := cX7_restore) (maxL := 1) (ret := (some .int)) (by decide) rfl ?_
  intro p e s m args below meth c s₁ B hml hv
  obtain ⟨rfl, hsz, hD0, hP, hK, hN⟩ := hv
  have hx := B.exec
  have hb := B.bytes
  have hr := B.returns
  have hts := atoms_spec (ws := (wd yX7_restore cX7_restore 1 (some .int))) B.pre
  have hown : s.vm.findClass RX7 = some m.cls := findClass_of_methodNamed B.named
  have hlocks := B.notSynchronized
  subst hsz
  have hD := hD0.self (sz := s.heap.size)
  generalize hAe : va_A (wX7 o_t a_t cI v_t h_t) s.heap.size = A at hD ⊢
  have hA : ∀ q : Nat, s.heap.size ≤ q → A q := fun q h => by rw [← hAe]; exact Or.inr h
  have hS : va_S A s.heap s.heap [] := va_S.rf
  have hl := lv_entry ([.ref o_t]) (n := 1) (Nat.le_of_ble_eq_true rfl)
  rw [lg_entry_eq]
  generalize (lg_sl ([.ref o_t]) ++ List.replicate (1 - (lg_sl ([.ref o_t])).length) Slot.unset).toArray = ls at hl ⊢
  have hl : lv_has ls 1 [(0, .ref o_t)] := hl
  clear hAe hD0
  unfold f_X7_restore at hf
  refine lv_aload_n hx hb dX7_restore_0 rfl (lv_at hl 0 rfl) ?_
  refine va_get (D := (dC, dI)) (ci := 7) (v := .int (v_t.1 23)) (C := RX7) (T := TX7) (N := 30) hx hb hts hw_X7 hown hK hP 0 rfl rfl 23 (by decide) (hts _ (List.mem_cons_of_mem _ mw_621)) (fun _ h9 => h9) rfl dX7_restore_1 ?_
  refine lv_aload_n hx hb dX7_restore_4 rfl (lv_at hl 0 rfl) ?_
  refine va_get (D := (dC, dI)) (ci := 7) (v := .int (v_t.1 9)) (C := RX7) (T := TX7) (N := 30) hx hb hts hw_X7 hown hK hP 0 rfl rfl 9 (by decide) (hts _ (List.mem_cons_of_mem _ mw_607)) (fun _ h9 => h9) rfl dX7_restore_5 ?_
  refine lv_icmp_eq (tgt := 14) hx hb dX7_restore_8 (by decide) (fun c_8 => ?_) (fun c_8 => ?_)
  · have hf := ho_t hf c_8
    refine lv_aload_n hx hb dX7_restore_14 rfl (lv_at hl 0 rfl) ?_
    refine va_get (D := (dC, dI)) (ci := 7) (v := .ref (a_t 27)) (C := RX7) (T := TX7) (N := 30) hx hb hts hw_X7 hown hK hP 0 rfl rfl 27 (by decide) (hts _ (List.mem_cons_of_mem _ mw_625)) (fun _ h9 => h9) rfl dX7_restore_15 ?_
    refine lv_aload_n hx hb dX7_restore_18 rfl (lv_at hl 0 rfl) ?_
    refine va_get (D := (dC, dI)) (ci := 7) (v := .ref (a_t 10)) (C := RX7) (T := TX7) (N := 30) hx hb hts hw_X7 hown hK hP 0 rfl rfl 10 (by decide) (hts _ (List.mem_cons_of_mem _ mw_608)) (fun _ h9 => h9) rfl dX7_restore_19 ?_
    obtain ⟨u_22, e_22, hf⟩ := ho_b hf
    have hPc := hP.sub (ws' := ([((a_t 27), .inl (cI, 15, .inl (v_t.2 27)))] ++ ([((a_t 10), .inl (cI, 15, .inl (v_t.2 10)))]))) [11, 3] rfl
    have hDc := hD.sub (ws' := ([((a_t 27), .inl (cI, 15, .inl (v_t.2 27)))] ++ ([((a_t 10), .inl (cI, 15, .inl (v_t.2 10)))]))) [11, 3] (by decide) rfl
    have hFc := va_free (wc := ([((a_t 27), .inl (cI, 15, .inl (v_t.2 27)))] ++ ([((a_t 10), .inl (cI, 15, .inl (v_t.2 10)))]))) hD hS hA [11, 3] rfl
    refine va_callv (va_runS (As := [.ref (a_t 27), .ref (a_t 10)]) (rest := []) ⟨hx, hb, hml, hown, hts⟩ (c_X7_copy l dC dI cI cII (a_t 27) 15 (a_t 10) 15 (v_t.2 27) (v_t.2 10) _ u_22 e_22) (va_cwS 2 hts (hw_giS mw_722 mw_723 mw_60 mw_724) rfl rfl rfl (by decide +kernel) ⟨Nat.le_of_ble_eq_true rfl, Nat.le_of_ble_eq_true rfl⟩) ⟨qB_blind, fun U hU hW => ⟨rfl, qB_go hPc hDc hK hN hU hW⟩⟩ rfl rfl hl.1 rfl (lv_room (Nat.le_of_ble_eq_true rfl)) dX7_restore_22 ⟨Nat.zero_le _, Nat.zero_le _⟩) hS (fun q _ h => hFc q h) hFc (fun u t H1 locs ht hvm hw hB hz1 hk1 hS => ?_)
    obtain ⟨hP1, hD1⟩ := hB
    rw [ht] at hP1
    obtain ⟨hP, hD⟩ := va_join (wr := ([(o_t, .inr (7, [.ref (a_t 0), .int (v_t.1 1), .ref (a_t 2), .int (v_t.1 3), .int (v_t.1 4), .int (v_t.1 5), .int (v_t.1 6), .int (v_t.1 7), .int (v_t.1 8), .int (v_t.1 9), .ref (a_t 10), .ref (a_t 11), .ref (a_t 12), .int (v_t.1 13), .int (v_t.1 14), .int (v_t.1 15), .ref (a_t 16), .ref (a_t 17), .int (v_t.1 18), .ref (a_t 19), .ref (a_t 20), .int (v_t.1 21), .ref (a_t 22), .int (v_t.1 23), .int (v_t.1 24), .int (v_t.1 25), .int (v_t.1 26), .ref (a_t 27), .ref (a_t 28), .long h_t])), (a_t 0, .inl (cI, 24, .inl (v_t.2 0))), (a_t 2, .inl (cI, 15, .inl (v_t.2 2))), (a_t 11, .inl (cI, 5, .inl (v_t.2 11))), (a_t 12, .inl (cI, 5, .inl (v_t.2 12))), (a_t 16, .inl (cI, 5, .inl (v_t.2 16))), (a_t 17, .inl (cI, 5, .inl (v_t.2 17))), (a_t 19, .inl (cI, 16, .inl (v_t.2 19))), (a_t 20, .inl (cI, 120, .inl (v_t.2 20))), (a_t 22, .inl (cI, 15, .inl (v_t.2 22))), (a_t 28, .inl (cI, 16, .inl (v_t.2 28)))])) (w1 := ([((a_t 27), .inl (cI, 15, .inl (v_t.2 27)))] ++ ([((a_t 10), .inl (cI, 15, .inl ((oC v_t 10 u_22).2 10)))]))) hP hD [11, 3] [0, 1, 2, 4, 5, 6, 7, 8, 9, 10, 12] rfl rfl (by decide) (by decide) hk1 hFc hP1 hD1
    generalize H1 = H at hP hS ⊢
    have hP : va_P (dC, dI) vwCl (wX7 o_t a_t cI (oC v_t 10 u_22) h_t) H := hP.sub [0, 1, 2, 12, 3, 4, 5, 6, 7, 8, 9, 11, 10] rfl
    have hD : va_D A (wX7 o_t a_t cI (oC v_t 10 u_22) h_t) := hD.sub [0, 1, 2, 12, 3, 4, 5, 6, 7, 8, 9, 11, 10] (by decide) rfl
    refine lv_aload_n hx hb dX7_restore_25 rfl (lv_at hl 0 rfl) ?_
    refine va_get (D := (dC, dI)) (ci := 7) (v := .ref (a_t 28)) (C := RX7) (T := TX7) (N := 30) hx hb hts hw_X7 hown hK hP 0 rfl rfl 28 (by decide) (hts _ (List.mem_cons_of_mem _ mw_626)) (fun _ h9 => h9) rfl dX7_restore_26 ?_
    refine lv_aload_n hx hb dX7_restore_29 rfl (lv_at hl 0 rfl) ?_
    refine va_get (D := (dC, dI)) (ci := 7) (v := .ref (a_t 19)) (C := RX7) (T := TX7) (N := 30) hx hb hts hw_X7 hown hK hP 0 rfl rfl 19 (by decide) (hts _ (List.mem_cons_of_mem _ mw_617)) (fun _ h9 => h9) rfl dX7_restore_30 ?_
    obtain ⟨u_33, e_33, hf⟩ := ho_b hf
    have hPc := hP.sub (ws' := ([((a_t 28), .inl (cI, 16, .inl (v_t.2 28)))] ++ ([((a_t 19), .inl (cI, 16, .inl (v_t.2 19)))]))) [12, 8] rfl
    have hDc := hD.sub (ws' := ([((a_t 28), .inl (cI, 16, .inl (v_t.2 28)))] ++ ([((a_t 19), .inl (cI, 16, .inl (v_t.2 19)))]))) [12, 8] (by decide) rfl
    have hFc := va_free (wc := ([((a_t 28), .inl (cI, 16, .inl (v_t.2 28)))] ++ ([((a_t 19), .inl (cI, 16, .inl (v_t.2 19)))]))) hD hS hA [12, 8] rfl
    refine va_callv (va_runS (As := [.ref (a_t 28), .ref (a_t 19)]) (rest := []) ⟨hx, hb, hml, hown, hts⟩ (c_X7_copy l dC dI cI cII (a_t 28) 16 (a_t 19) 16 (v_t.2 28) (v_t.2 19) _ u_33 e_33) (va_cwS 2 hts (hw_giS mw_722 mw_723 mw_60 mw_724) rfl rfl rfl (by decide +kernel) ⟨Nat.le_of_ble_eq_true rfl, Nat.le_of_ble_eq_true rfl⟩) ⟨qB_blind, fun U hU hW => ⟨rfl, qB_go hPc hDc hK hN hU hW⟩⟩ rfl rfl hl.1 rfl (lv_room (Nat.le_of_ble_eq_true rfl)) dX7_restore_33 ⟨Nat.zero_le _, Nat.zero_le _⟩) hS (fun q _ h => hFc q h) hFc (fun u t H1 locs ht hvm hw hB hz1 hk1 hS => ?_)
    obtain ⟨hP1, hD1⟩ := hB
    rw [ht] at hP1
    obtain ⟨hP, hD⟩ := va_join (wr := ([(o_t, .inr (7, [.ref (a_t 0), .int ((oC v_t 10 u_22).1 1), .ref (a_t 2), .int ((oC v_t 10 u_22).1 3), .int ((oC v_t 10 u_22).1 4), .int ((oC v_t 10 u_22).1 5), .int ((oC v_t 10 u_22).1 6), .int ((oC v_t 10 u_22).1 7), .int ((oC v_t 10 u_22).1 8), .int ((oC v_t 10 u_22).1 9), .ref (a_t 10), .ref (a_t 11), .ref (a_t 12), .int ((oC v_t 10 u_22).1 13), .int ((oC v_t 10 u_22).1 14), .int ((oC v_t 10 u_22).1 15), .ref (a_t 16), .ref (a_t 17), .int ((oC v_t 10 u_22).1 18), .ref (a_t 19), .ref (a_t 20), .int ((oC v_t 10 u_22).1 21), .ref (a_t 22), .int ((oC v_t 10 u_22).1 23), .int ((oC v_t 10 u_22).1 24), .int ((oC v_t 10 u_22).1 25), .int ((oC v_t 10 u_22).1 26), .ref (a_t 27), .ref (a_t 28), .long h_t])), (a_t 0, .inl (cI, 24, .inl ((oC v_t 10 u_22).2 0))), (a_t 2, .inl (cI, 15, .inl ((oC v_t 10 u_22).2 2))), (a_t 10, .inl (cI, 15, .inl ((oC v_t 10 u_22).2 10))), (a_t 11, .inl (cI, 5, .inl ((oC v_t 10 u_22).2 11))), (a_t 12, .inl (cI, 5, .inl ((oC v_t 10 u_22).2 12))), (a_t 16, .inl (cI, 5, .inl ((oC v_t 10 u_22).2 16))), (a_t 17, .inl (cI, 5, .inl ((oC v_t 10 u_22).2 17))), (a_t 20, .inl (cI, 120, .inl ((oC v_t 10 u_22).2 20))), (a_t 22, .inl (cI, 15, .inl ((oC v_t 10 u_22).2 22))), (a_t 27, .inl (cI, 15, .inl ((oC v_t 10 u_22).2 27)))])) (w1 := ([((a_t 28), .inl (cI, 16, .inl (v_t.2 28)))] ++ ([((a_t 19), .inl (cI, 16, .inl ((oC (oC v_t 10 u_22) 19 u_33).2 19)))]))) hP hD [12, 8] [0, 1, 2, 3, 4, 5, 6, 7, 9, 10, 11] rfl rfl (by decide) (by decide) hk1 hFc hP1 hD1
    generalize H1 = H at hP hS ⊢
    have hP : va_P (dC, dI) vwCl (wX7 o_t a_t cI (oC (oC v_t 10 u_22) 19 u_33) h_t) H := hP.sub [0, 1, 2, 3, 4, 5, 6, 7, 12, 8, 9, 10, 11] rfl
    have hD : va_D A (wX7 o_t a_t cI (oC (oC v_t 10 u_22) 19 u_33) h_t) := hD.sub [0, 1, 2, 3, 4, 5, 6, 7, 12, 8, 9, 10, 11] (by decide) rfl
    refine lv_aload_n hx hb dX7_restore_36 rfl (lv_at hl 0 rfl) ?_
    refine lv_aload_n hx hb dX7_restore_37 rfl (lv_at hl 0 rfl) ?_
    refine va_get (D := (dC, dI)) (ci := 7) (v := .int (v_t.1 24)) (C := RX7) (T := TX7) (N := 30) hx hb hts hw_X7 hown hK hP 0 rfl rfl 24 (by decide) (hts _ (List.mem_cons_of_mem _ mw_622)) (fun _ h9 => h9) rfl dX7_restore_38 ?_
    refine va_put (D := (dC, dI)) (ci := 7) (v := .int (v_t.1 24)) (ty := .int) (C := RX7) (T := TX7) (N := 30) hx hb hts hw_X7 tyX7 tyX7_ok nmX7 hown hK hP hD hS 0 rfl rfl 7 (by decide) (hts _ (List.mem_cons_of_mem _ mw_605)) (fun _ h9 => h9) rfl (by decide +kernel) rfl rfl (Nat.le_of_ble_eq_true rfl) dX7_restore_41 (fun H locs hP hD hS => ?_)
    have hP : va_P (dC, dI) vwCl (wX7 o_t a_t cI (oF (oC (oC v_t 10 u_22) 19 u_33) 7 (v_t.1 24)) h_t) H := hP
    have hD : va_D A (wX7 o_t a_t cI (oF (oC (oC v_t 10 u_22) 19 u_33) 7 (v_t.1 24)) h_t) := hD
    obtain ⟨v_t_41, e_v_t_41⟩ : ∃ z : obV, z = (oF (oC (oC v_t 10 u_22) 19 u_33) 7 (v_t.1 24)) := ⟨_, rfl⟩
    rw [← e_v_t_41] at hP hD
    have hf := ho_l hf v_t_41 e_v_t_41
    refine lv_aload_n hx hb dX7_restore_44 rfl (lv_at hl 0 rfl) ?_
    refine lv_aload_n hx hb dX7_restore_45 rfl (lv_at hl 0 rfl) ?_
    refine va_get (D := (dC, dI)) (ci := 7) (v := .int (v_t_41.1 25)) (C := RX7) (T := TX7) (N := 30) hx hb hts hw_X7 hown hK hP 0 rfl rfl 25 (by decide) (hts _ (List.mem_cons_of_mem _ mw_623)) (fun _ h9 => h9) rfl dX7_restore_46 ?_
    refine va_put (D := (dC, dI)) (ci := 7) (v := .int (v_t_41.1 25)) (ty := .int) (C := RX7) (T := TX7) (N := 30) hx hb hts hw_X7 tyX7 tyX7_ok nmX7 hown hK hP hD hS 0 rfl rfl 8 (by decide) (hts _ (List.mem_cons_of_mem _ mw_606)) (fun _ h9 => h9) rfl (by decide +kernel) rfl rfl (Nat.le_of_ble_eq_true rfl) dX7_restore_49 (fun H locs hP hD hS => ?_)
    have hP : va_P (dC, dI) vwCl (wX7 o_t a_t cI (oF v_t_41 8 (v_t_41.1 25)) h_t) H := hP
    have hD : va_D A (wX7 o_t a_t cI (oF v_t_41 8 (v_t_41.1 25)) h_t) := hD
    obtain ⟨v_t_49, e_v_t_49⟩ : ∃ z : obV, z = (oF v_t_41 8 (v_t_41.1 25)) := ⟨_, rfl⟩
    rw [← e_v_t_49] at hP hD
    have hf := ho_l hf v_t_49 e_v_t_49
    refine lv_aload_n hx hb dX7_restore_52 rfl (lv_at hl 0 rfl) ?_
    refine lv_aload_n hx hb dX7_restore_53 rfl (lv_at hl 0 rfl) ?_
    refine va_get (D := (dC, dI)) (ci := 7) (v := .int (v_t_49.1 26)) (C := RX7) (T := TX7) (N := 30) hx hb hts hw_X7 hown hK hP 0 rfl rfl 26 (by decide) (hts _ (List.mem_cons_of_mem _ mw_624)) (fun _ h9 => h9) rfl dX7_restore_54 ?_
    refine va_put (D := (dC, dI)) (ci := 7) (v := .int (v_t_49.1 26)) (ty := .int) (C := RX7) (T := TX7) (N := 30) hx hb hts hw_X7 tyX7 tyX7_ok nmX7 hown hK hP hD hS 0 rfl rfl 18 (by decide) (hts _ (List.mem_cons_of_mem _ mw_616)) (fun _ h9 => h9) rfl (by decide +kernel) rfl rfl (Nat.le_of_ble_eq_true rfl) dX7_restore_57 (fun H locs hP hD hS => ?_)
    have hP : va_P (dC, dI) vwCl (wX7 o_t a_t cI (oF v_t_49 18 (v_t_49.1 26)) h_t) H := hP
    have hD : va_D A (wX7 o_t a_t cI (oF v_t_49 18 (v_t_49.1 26)) h_t) := hD
    obtain ⟨v_t_57, e_v_t_57⟩ : ∃ z : obV, z = (oF v_t_49 18 (v_t_49.1 26)) := ⟨_, rfl⟩
    rw [← e_v_t_57] at hP hD
    have hf := ho_l hf v_t_57 e_v_t_57
    refine lv_aload_n hx hb dX7_restore_60 rfl (lv_at hl 0 rfl) ?_
    refine va_get (D := (dC, dI)) (ci := 7) (v := .int (v_t_57.1 8)) (C := RX7) (T := TX7) (N := 30) hx hb hts hw_X7 hown hK hP 0 rfl rfl 8 (by decide) (hts _ (List.mem_cons_of_mem _ mw_606)) (fun _ h9 => h9) rfl dX7_restore_61 ?_
    obtain rfl := Option.some.inj hf
    exact W.iret (v := (v_t_57.1 8)) hx hb hr (fun t ht hW => ⟨⟨_, (), rfl, rfl, by rw [ht]; exact hP, hD⟩, hS.F ht⟩) hS.2.2 dX7_restore_64 hlocks
  · have hf := ho_f hf c_8
    refine lv_bipush (v := (-103)) hx hb dX7_restore_11 (by decide) ?_
    obtain rfl := Option.some.inj hf
    exact W.iret (v := (-103)) hx hb hr (fun t ht hW => ⟨⟨_, (), rfl, rfl, by rw [ht]; exact hP, hD⟩, hS.F ht⟩) hS.2.2 dX7_restore_13 hlocks
set_option maxHeartbeats 4000000 in
set_option maxRecDepth 100000 in
theorem w_X7_staysAll_l4 {p : Program} {l : Launch} {e : Env} {s : State} {m : MethodId} {args : Array Value} {below : List Frame} {meth : Method} {c : Code} {dC : Nat → ClassId} {dI : Nat → Nat → Nat} {cI cII : ClassId} {o_t : Nat} {a_t : Nat → Nat} (C0 : hC p s m args meth c dC dI cI cII RX7 cX7_staysAll 3 (wd yX7_staysAll cX7_staysAll 3 (some .int)) (some .int)) {h_t : Int64} {v_t : obV}   (hP : va_P (dC, dI) vwCl (wX7 o_t a_t cI v_t h_t) s.heap) :
    ∀ (n : Nat) (y : Int32 × Int32) (r : Int32), f_X7_staysAll_l4  v_t  n y = some r → ∀ (ls : Array Slot), lv_has ls 3 [(0, .ref o_t), (1, .int y.1), (2, .int y.2)] → W p l e ({ frames := 1, cells := 0, slots := 0, locals := 21 } : Room) s m args below meth c s.heap [] 0 0 (MQ below (vp_Si (fun z => r = z)) args s 0 0 (fun _ => False)) (F0 m 4 ls []) := by
  obtain ⟨hx, hb, hml, hown, hts, hr, hlocks, hK, hN⟩ := C0
  refine lp_W ?_
  intro k4 ih4 y r hf ls hl
  obtain ⟨x1, x2⟩ := y
  have hf : f_X7_staysAll_b4  v_t x1 x2  k4 = some r := hf
  have hl : lv_has ls 3 [(0, .ref o_t), (1, .int x1), (2, .int x2)] := hl
  unfold f_X7_staysAll_b4 at hf
  refine lv_iload_n hx hb dX7_staysAll_4 rfl (lv_at hl 2 rfl) ?_
  refine lv_aload_n hx hb dX7_staysAll_5 rfl (lv_at hl 0 rfl) ?_
  refine va_get (D := (dC, dI)) (ci := 7) (v := .int (v_t.1 6)) (C := RX7) (T := TX7) (N := 30) hx hb hts hw_X7 hown hK hP 0 rfl rfl 6 (by decide) (hts _ (List.mem_cons_of_mem _ mw_604)) (fun _ h9 => h9) rfl dX7_staysAll_6 ?_
  refine lv_icmp_ge (tgt := 26) hx hb dX7_staysAll_9 (by decide) (fun c_9 => ?_) (fun c_9 => ?_)
  · have hf := ho_t hf c_9
    refine lv_iload_n hx hb dX7_staysAll_26 rfl (lv_at hl 1 rfl) ?_
    obtain rfl := Option.some.inj hf
    exact W.iret (v := x1) hx hb hr (fun t ht hW => ⟨_, rfl, rfl, ht⟩) (fun q hq => by cases hq) dX7_staysAll_27 hlocks
  · have hf := ho_f hf c_9
    refine lv_iload_n hx hb dX7_staysAll_12 rfl (lv_at hl 1 rfl) ?_
    refine lv_aload_n hx hb dX7_staysAll_13 rfl (lv_at hl 0 rfl) ?_
    refine lv_iload_n hx hb dX7_staysAll_14 rfl (lv_at hl 2 rfl) ?_
    obtain ⟨u_15, e_15, hf⟩ := ho_b hf
    refine vp_callSi (va_runV (As := [.int x2]) (rest := [.int x1]) ⟨hx, hb, hml, hown, hts⟩ (c_X7_staysOf l dC dI cI cII o_t a_t v_t h_t (x2) u_15 e_15) (cwV 1 hts (hw_giV mw_757 mw_759 mw_27 mw_60 mw_760) rfl rfl rfl (by decide +kernel) ⟨Nat.le_of_ble_eq_true rfl, Nat.le_of_ble_eq_true rfl⟩) ⟨pB_blind, va_recv hK hP (ci := 7) (q0 := 0) rfl rfl, fun U hU hW => ⟨rfl, pB_go hP hK hN hU hW⟩⟩ rfl rfl hl.1 rfl (lv_room (Nat.le_of_ble_eq_true rfl)) dX7_staysAll_15 ⟨Nat.zero_le _, Nat.zero_le _⟩).run (fun z_15 ez_15 => ?_)
    subst ez_15
    refine lv_iadd hx hb dX7_staysAll_18 ?_
    refine lv_istore_n (lv' := [(1, .int (x1 + u_15)), (0, .ref o_t), (2, .int x2)]) hx hb dX7_staysAll_19 rfl hl (by decide) rfl (fun ls hl => ?_)
    refine lv_iinc (v := (x2 + 1)) (lv' := [(2, .int (x2 + 1)), (1, .int (x1 + u_15)), (0, .ref o_t)]) hx hb dX7_staysAll_20 hl (k := 2) rfl (hp_inc (by decide)) (by decide) rfl (fun ls hl => ?_)
    refine lv_goto (tgt := 4) hx hb dX7_staysAll_23 (by decide) ?_
    exact ih4 ((x1 + u_15), (x2 + 1)) _ hf _ (lv_sub hl [2, 1, 0] rfl)
set_option maxHeartbeats 4000000 in
set_option maxRecDepth 100000 in
theorem c_X7_staysAll (l : Launch) (dC : Nat → ClassId) (dI : Nat → Nat → Nat) (cI cII : ClassId) (o_t : Nat) (a_t : Nat → Nat) (v_t : obV) (h_t : Int64)  (r : Int32) (hf : f_X7_staysAll  v_t  = some r) :
    Met l yX7_staysAll (wd yX7_staysAll cX7_staysAll 3 (some .int)) ({ frames := 1, cells := 0, slots := 0, locals := 21 } : Room) (va_Pc [.ref o_t] (pB (dC, dI) vwCl (wX7 o_t a_t cI v_t h_t) (hTY cI cII))) (vp_Si (fun z => r = z)) 0 0 (fun _ => False) := by
  refine Met.ofW (cc := cX7_staysAll) (maxL := 3) (ret := (some .int)) (by decide) rfl ?_
  intro p e s m args below meth c s₁ B hml hv
  obtain ⟨rfl, hP, hK, hN⟩ := hv
  have hx := B.exec
  have hb := B.bytes
  have hr := B.returns
  have hts := atoms_spec (ws := (wd yX7_staysAll cX7_staysAll 3 (some .int))) B.pre
  have hown : s.vm.findClass RX7 = some m.cls := findClass_of_methodNamed B.named
  have hlocks := B.notSynchronized
  have hl := lv_entry ([.ref o_t]) (n := 3) (Nat.le_of_ble_eq_true rfl)
  rw [lg_entry_eq]
  generalize (lg_sl ([.ref o_t]) ++ List.replicate (3 - (lg_sl ([.ref o_t])).length) Slot.unset).toArray = ls at hl ⊢
  have hl : lv_has ls 3 [(0, .ref o_t)] := hl
  unfold f_X7_staysAll at hf
  refine lv_iconst (v := 0) hx hb dX7_staysAll_0 (by decide) ?_
  refine lv_istore_n (lv' := [(1, .int 0), (0, .ref o_t)]) hx hb dX7_staysAll_1 rfl hl (by decide) rfl (fun ls hl => ?_)
  refine lv_iconst (v := 0) hx hb dX7_staysAll_2 (by decide) ?_
  refine lv_istore_n (lv' := [(2, .int 0), (1, .int 0), (0, .ref o_t)]) hx hb dX7_staysAll_3 rfl hl (by decide) rfl (fun ls hl => ?_)
  exact w_X7_staysAll_l4 ⟨hx, hb, hml, hown, hts, hr, hlocks, hK, hN⟩  hP _ _ _ hf _ (lv_sub hl [2, 1, 0] rfl)
set_option maxHeartbeats 4000000 in
set_option maxRecDepth 100000 in
theorem w_X7_unlike_l6 {p : Program} {l : Launch} {e : Env} {s : State} {m : MethodId} {args : Array Value} {below : List Frame} {meth : Method} {c : Code} {dC : Nat → ClassId} {dI : Nat → Nat → Nat} {cI cII : ClassId} {o_t : Nat} {a_t : Nat → Nat} (C0 : hC p s m args meth c dC dI cI cII RX7 cX7_unlike 4 (wd yX7_unlike cX7_unlike 4 (some .int)) (some .int)) {h_t : Int64} {v_t : obV}   (hP : va_P (dC, dI) vwCl (wX7 o_t a_t cI v_t h_t) s.heap) :
    ∀ (n : Nat) (y : Int32 × Int32 × Int32) (r : Int32), f_X7_unlike_l6  v_t  n y = some r → ∀ (ls : Array Slot), lv_has ls 4 [(0, .ref o_t), (1, .int y.1), (2, .int y.2.1), (3, .int y.2.2)] → W p l e ({ frames := 0, cells := 0, slots := 0, locals := 0 } : Room) s m args below meth c s.heap [] 0 0 (MQ below (vp_Si (fun z => r = z)) args s 0 0 (fun _ => False)) (F0 m 6 ls []) := by
  obtain ⟨hx, hb, hml, hown, hts, hr, hlocks, hK, hN⟩ := C0
  refine lp_W ?_
  intro k6 ih6 y r hf ls hl
  obtain ⟨x1, x2, x3⟩ := y
  have hf : f_X7_unlike_b6  v_t x1 x2 x3  k6 = some r := hf
  have hl : lv_has ls 4 [(0, .ref o_t), (1, .int x1), (2, .int x2), (3, .int x3)] := hl
  unfold f_X7_unlike_b6 at hf
  refine lv_iload_n hx hb dX7_unlike_6 rfl (lv_at hl 3 rfl) ?_
  refine lv_aload_n hx hb dX7_unlike_7 rfl (lv_at hl 0 rfl) ?_
  refine va_get (D := (dC, dI)) (ci := 7) (v := .int (v_t.1 6)) (C := RX7) (T := TX7) (N := 30) hx hb hts hw_X7 hown hK hP 0 rfl rfl 6 (by decide) (hts _ (List.mem_cons_of_mem _ mw_604)) (fun _ h9 => h9) rfl dX7_unlike_8 ?_
  refine lv_icmp_ge (tgt := 54) hx hb dX7_unlike_11 (by decide) (fun c_11 => ?_) (fun c_11 => ?_)
  · have hf := ho_t hf c_11
    refine lv_iload_n hx hb dX7_unlike_54 rfl (lv_at hl 2 rfl) ?_
    obtain rfl := Option.some.inj hf
    exact W.iret (v := x2) hx hb hr (fun t ht hW => ⟨_, rfl, rfl, ht⟩) (fun q hq => by cases hq) dX7_unlike_55 hlocks
  · have hf := ho_f hf c_11
    refine lv_iload_n hx hb dX7_unlike_14 rfl (lv_at hl 2 rfl) ?_
    refine lv_iconst (v := 1) hx hb dX7_unlike_15 (by decide) ?_
    refine lv_iload_n hx hb dX7_unlike_16 rfl (lv_at hl 1 rfl) ?_
    refine lv_aload_n hx hb dX7_unlike_17 rfl (lv_at hl 0 rfl) ?_
    refine va_get (D := (dC, dI)) (ci := 7) (v := .ref (a_t 10)) (C := RX7) (T := TX7) (N := 30) hx hb hts hw_X7 hown hK hP 0 rfl rfl 10 (by decide) (hts _ (List.mem_cons_of_mem _ mw_608)) (fun _ h9 => h9) rfl dX7_unlike_18 ?_
    refine lv_iconst (v := 3) hx hb dX7_unlike_21 (by decide) ?_
    refine lv_iload_n hx hb dX7_unlike_22 rfl (lv_at hl 3 rfl) ?_
    refine lv_imul hx hb dX7_unlike_23 ?_
    refine lv_iconst (v := 1) hx hb dX7_unlike_24 (by decide) ?_
    refine lv_iadd hx hb dX7_unlike_25 ?_
    obtain ⟨h_26, hf⟩ := ho_g hf
    refine va_iald (n := 15) (f := (v_t.2 10)) hx hb hK hP 3 0 rfl rfl h_26 dX7_unlike_26 ?_
    refine lv_ishr hx hb dX7_unlike_27 ?_
    refine lv_iconst (v := 1) hx hb dX7_unlike_28 (by decide) ?_
    refine lv_iand hx hb dX7_unlike_29 ?_
    refine lv_isub hx hb dX7_unlike_30 ?_
    refine lv_iadd hx hb dX7_unlike_31 ?_
    refine lv_topi (fun z_32 e_32 => ?_)
    have hf := ho_l hf z_32 e_32
    refine lv_istore_n (lv' := [(2, .int z_32), (0, .ref o_t), (1, .int x1), (3, .int x3)]) hx hb dX7_unlike_32 rfl hl (by decide) rfl (fun ls hl => ?_)
    refine lv_iload_n hx hb dX7_unlike_33 rfl (lv_at hl 2 rfl) ?_
    refine lv_iconst (v := 1) hx hb dX7_unlike_34 (by decide) ?_
    refine lv_aload_n hx hb dX7_unlike_35 rfl (lv_at hl 1 rfl) ?_
    refine va_get (D := (dC, dI)) (ci := 7) (v := .ref (a_t 10)) (C := RX7) (T := TX7) (N := 30) hx hb hts hw_X7 hown hK hP 0 rfl rfl 10 (by decide) (hts _ (List.mem_cons_of_mem _ mw_608)) (fun _ h9 => h9) rfl dX7_unlike_36 ?_
    refine lv_iconst (v := 3) hx hb dX7_unlike_39 (by decide) ?_
    refine lv_iload_n hx hb dX7_unlike_40 rfl (lv_at hl 3 rfl) ?_
    refine lv_imul hx hb dX7_unlike_41 ?_
    refine lv_iconst (v := 1) hx hb dX7_unlike_42 (by decide) ?_
    refine lv_iadd hx hb dX7_unlike_43 ?_
    obtain ⟨h_44, hf⟩ := ho_g hf
    refine va_iald (n := 15) (f := (v_t.2 10)) hx hb hK hP 3 0 rfl rfl h_44 dX7_unlike_44 ?_
    refine lv_ishl hx hb dX7_unlike_45 ?_
    refine lv_ior hx hb dX7_unlike_46 ?_
    refine lv_topi (fun z_47 e_47 => ?_)
    have hf := ho_l hf z_47 e_47
    refine lv_istore_n (lv' := [(1, .int z_47), (2, .int z_32), (0, .ref o_t), (3, .int x3)]) hx hb dX7_unlike_47 rfl hl (by decide) rfl (fun ls hl => ?_)
    refine lv_iinc (v := (x3 + 1)) (lv' := [(3, .int (x3 + 1)), (1, .int z_47), (2, .int z_32), (0, .ref o_t)]) hx hb dX7_unlike_48 hl (k := 3) rfl (hp_inc (by decide)) (by decide) rfl (fun ls hl => ?_)
    refine lv_goto (tgt := 6) hx hb dX7_unlike_51 (by decide) ?_
    exact ih6 (z_47, z_32, (x3 + 1)) _ hf _ (lv_sub hl [3, 1, 2, 0] rfl)
set_option maxHeartbeats 4000000 in
set_option maxRecDepth 100000 in
theorem c_X7_unlike (l : Launch) (dC : Nat → ClassId) (dI : Nat → Nat → Nat) (cI cII : ClassId) (o_t : Nat) (a_t : Nat → Nat) (v_t : obV) (h_t : Int64)  (r : Int32) (hf : f_X7_unlike  v_t  = some r) :
    Met l yX7_unlike (wd yX7_unlike cX7_unlike 4 (some .int)) ({ frames := 0, cells := 0, slots := 0, locals := 0 } : Room) (va_Pc [.ref o_t] (pB (dC, dI) vwCl (wX7 o_t a_t cI v_t h_t) (hTY cI cII))) (vp_Si (fun z => r = z)) 0 0 (fun _ => False) := by
  refine Met.ofW (cc := cX7_unlike) (maxL := 4) (ret := (some .int)) (by decide) rfl ?_
  intro p e s m args below meth c s₁ B hml hv
  obtain ⟨rfl, hP, hK, hN⟩ := hv
  have hx := B.exec
  have hb := B.bytes
  have hr := B.returns
  have hts := atoms_spec (ws := (wd yX7_unlike cX7_unlike 4 (some .int))) B.pre
  have hown : s.vm.findClass RX7 = some m.cls := findClass_of_methodNamed B.named
  have hlocks := B.notSynchronized
  have hl := lv_entry ([.ref o_t]) (n := 4) (Nat.le_of_ble_eq_true rfl)
  rw [lg_entry_eq]
  generalize (lg_sl ([.ref o_t]) ++ List.replicate (4 - (lg_sl ([.ref o_t])).length) Slot.unset).toArray = ls at hl ⊢
  have hl : lv_has ls 4 [(0, .ref o_t)] := hl
  unfold f_X7_unlike at hf
  refine lv_iconst (v := 0) hx hb dX7_unlike_0 (by decide) ?_
  refine lv_istore_n (lv' := [(1, .int 0), (0, .ref o_t)]) hx hb dX7_unlike_1 rfl hl (by decide) rfl (fun ls hl => ?_)
  refine lv_iconst (v := 0) hx hb dX7_unlike_2 (by decide) ?_
  refine lv_istore_n (lv' := [(2, .int 0), (1, .int 0), (0, .ref o_t)]) hx hb dX7_unlike_3 rfl hl (by decide) rfl (fun ls hl => ?_)
  refine lv_iconst (v := 0) hx hb dX7_unlike_4 (by decide) ?_
  refine lv_istore_n (lv' := [(3, .int 0), (2, .int 0), (1, .int 0), (0, .ref o_t)]) hx hb dX7_unlike_5 rfl hl (by decide) rfl (fun ls hl => ?_)
  exact w_X7_unlike_l6 ⟨hx, hb, hml, hown, hts, hr, hlocks, hK, hN⟩  hP _ _ _ hf _ (lv_sub hl [3, 2, 1, 0] rfl)
set_option maxHeartbeats 4000000 in
set_option maxRecDepth 100000 in
theorem c_X7_countOf (l : Launch) (dC : Nat → ClassId) (dI : Nat → Nat → Nat) (cI cII : ClassId) (o_t : Nat) (a_t : Nat → Nat) (v_t : obV) (h_t : Int64) (x1 : Int32) (r : Int32) (hf : f_X7_countOf  v_t x1 = some r) :
    Met l yX7_countOf (wd yX7_countOf cX7_countOf 2 (some .int)) ({ frames := 2, cells := 0, slots := 0, locals := 43 } : Room) (va_Pc [.ref o_t, .int x1] (pB (dC, dI) vwCl (wX7 o_t a_t cI v_t h_t) (hTY cI cII))) (vp_Si (fun z => r = z)) 0 0 (fun _ => False) := by
  refine Met.ofW (cc := cX7_countOf) (maxL := 2) (ret := (some .int)) (by decide) rfl ?_
  intro p e s m args below meth c s₁ B hml hv
  obtain ⟨rfl, hP, hK, hN⟩ := hv
  have hx := B.exec
  have hb := B.bytes
  have hr := B.returns
  have hts := atoms_spec (ws := (wd yX7_countOf cX7_countOf 2 (some .int))) B.pre
  have hown : s.vm.findClass RX7 = some m.cls := findClass_of_methodNamed B.named
  have hlocks := B.notSynchronized
  have hl := lv_entry ([.ref o_t, .int x1]) (n := 2) (Nat.le_of_ble_eq_true rfl)
  rw [lg_entry_eq]
  generalize (lg_sl ([.ref o_t, .int x1]) ++ List.replicate (2 - (lg_sl ([.ref o_t, .int x1])).length) Slot.unset).toArray = ls at hl ⊢
  have hl : lv_has ls 2 [(0, .ref o_t), (1, .int x1)] := hl
  unfold f_X7_countOf at hf
  refine lv_iload_n hx hb dX7_countOf_0 rfl (lv_at hl 1 rfl) ?_
  by_cases c_1_0 : x1 = 0
  · have hf := ho_t hf c_1_0
    refine lv_tableIn (tgt := 48) hx hb dX7_countOf_1 (by rw [c_1_0] <;> decide) (by rw [c_1_0] <;> decide) (by rw [c_1_0] <;> rfl) (by decide) ?_
    refine lv_aload_n hx hb dX7_countOf_48 rfl (lv_at hl 0 rfl) ?_
    refine va_get (D := (dC, dI)) (ci := 7) (v := .int (v_t.1 6)) (C := RX7) (T := TX7) (N := 30) hx hb hts hw_X7 hown hK hP 0 rfl rfl 6 (by decide) (hts _ (List.mem_cons_of_mem _ mw_604)) (fun _ h9 => h9) rfl dX7_countOf_49 ?_
    obtain rfl := Option.some.inj hf
    exact W.iret (v := (v_t.1 6)) hx hb hr (fun t ht hW => ⟨_, rfl, rfl, ht⟩) (fun q hq => by cases hq) dX7_countOf_52 hlocks
  have hf := ho_f hf c_1_0
  by_cases c_1_1 : x1 = 1
  · have hf := ho_t hf c_1_1
    refine lv_tableIn (tgt := 53) hx hb dX7_countOf_1 (by rw [c_1_1] <;> decide) (by rw [c_1_1] <;> decide) (by rw [c_1_1] <;> rfl) (by decide) ?_
    refine lv_aload_n hx hb dX7_countOf_53 rfl (lv_at hl 0 rfl) ?_
    refine va_get (D := (dC, dI)) (ci := 7) (v := .int (v_t.1 7)) (C := RX7) (T := TX7) (N := 30) hx hb hts hw_X7 hown hK hP 0 rfl rfl 7 (by decide) (hts _ (List.mem_cons_of_mem _ mw_605)) (fun _ h9 => h9) rfl dX7_countOf_54 ?_
    obtain rfl := Option.some.inj hf
    exact W.iret (v := (v_t.1 7)) hx hb hr (fun t ht hW => ⟨_, rfl, rfl, ht⟩) (fun q hq => by cases hq) dX7_countOf_57 hlocks
  have hf := ho_f hf c_1_1
  by_cases c_1_2 : x1 = 2
  · have hf := ho_t hf c_1_2
    refine lv_tableIn (tgt := 58) hx hb dX7_countOf_1 (by rw [c_1_2] <;> decide) (by rw [c_1_2] <;> decide) (by rw [c_1_2] <;> rfl) (by decide) ?_
    refine lv_aload_n hx hb dX7_countOf_58 rfl (lv_at hl 0 rfl) ?_
    obtain ⟨u_59, e_59, hf⟩ := ho_b hf
    refine vp_callSi (va_runV (As := []) (rest := []) ⟨hx, hb, hml, hown, hts⟩ (c_X7_staysAll l dC dI cI cII o_t a_t v_t h_t u_59 e_59) (cwV 0 hts (hw_giV mw_904 mw_906 mw_47 mw_60 mw_907) rfl rfl rfl (by decide +kernel) ⟨Nat.le_of_ble_eq_true rfl, Nat.le_of_ble_eq_true rfl⟩) ⟨pB_blind, va_recv hK hP (ci := 7) (q0 := 0) rfl rfl, fun U hU hW => ⟨rfl, pB_go hP hK hN hU hW⟩⟩ rfl rfl hl.1 rfl (lv_room (Nat.le_of_ble_eq_true rfl)) dX7_countOf_59 ⟨Nat.zero_le _, Nat.zero_le _⟩).run (fun z_59 ez_59 => ?_)
    subst ez_59
    obtain rfl := Option.some.inj hf
    exact W.iret (v := u_59) hx hb hr (fun t ht hW => ⟨_, rfl, rfl, ht⟩) (fun q hq => by cases hq) dX7_countOf_62 hlocks
  have hf := ho_f hf c_1_2
  by_cases c_1_3 : x1 = 3
  · have hf := ho_t hf c_1_3
    refine lv_tableIn (tgt := 63) hx hb dX7_countOf_1 (by rw [c_1_3] <;> decide) (by rw [c_1_3] <;> decide) (by rw [c_1_3] <;> rfl) (by decide) ?_
    refine lv_aload_n hx hb dX7_countOf_63 rfl (lv_at hl 0 rfl) ?_
    obtain ⟨u_64, e_64, hf⟩ := ho_b hf
    refine vp_callSi (va_runV (As := []) (rest := []) ⟨hx, hb, hml, hown, hts⟩ (c_X7_unlike l dC dI cI cII o_t a_t v_t h_t u_64 e_64) (cwV 0 hts (hw_giV mw_908 mw_910 mw_48 mw_60 mw_911) rfl rfl rfl (by decide +kernel) ⟨Nat.le_of_ble_eq_true rfl, Nat.le_of_ble_eq_true rfl⟩) ⟨pB_blind, va_recv hK hP (ci := 7) (q0 := 0) rfl rfl, fun U hU hW => ⟨rfl, pB_go hP hK hN hU hW⟩⟩ rfl rfl hl.1 rfl (lv_room (Nat.le_of_ble_eq_true rfl)) dX7_countOf_64 ⟨Nat.zero_le _, Nat.zero_le _⟩).run (fun z_64 ez_64 => ?_)
    subst ez_64
    obtain rfl := Option.some.inj hf
    exact W.iret (v := u_64) hx hb hr (fun t ht hW => ⟨_, rfl, rfl, ht⟩) (fun q hq => by cases hq) dX7_countOf_67 hlocks
  have hf := ho_f hf c_1_3
  by_cases c_1_4 : x1 = 4
  · have hf := ho_t hf c_1_4
    refine lv_tableIn (tgt := 68) hx hb dX7_countOf_1 (by rw [c_1_4] <;> decide) (by rw [c_1_4] <;> decide) (by rw [c_1_4] <;> rfl) (by decide) ?_
    refine lv_aload_n hx hb dX7_countOf_68 rfl (lv_at hl 0 rfl) ?_
    refine va_get (D := (dC, dI)) (ci := 7) (v := .int (v_t.1 8)) (C := RX7) (T := TX7) (N := 30) hx hb hts hw_X7 hown hK hP 0 rfl rfl 8 (by decide) (hts _ (List.mem_cons_of_mem _ mw_606)) (fun _ h9 => h9) rfl dX7_countOf_69 ?_
    obtain rfl := Option.some.inj hf
    exact W.iret (v := (v_t.1 8)) hx hb hr (fun t ht hW => ⟨_, rfl, rfl, ht⟩) (fun q hq => by cases hq) dX7_countOf_72 hlocks
  have hf := ho_f hf c_1_4
  by_cases c_1_5 : x1 = 5
  · have hf := ho_t hf c_1_5
    refine lv_tableIn (tgt := 73) hx hb dX7_countOf_1 (by rw [c_1_5] <;> decide) (by rw [c_1_5] <;> decide) (by rw [c_1_5] <;> rfl) (by decide) ?_
    refine lv_aload_n hx hb dX7_countOf_73 rfl (lv_at hl 0 rfl) ?_
    refine va_get (D := (dC, dI)) (ci := 7) (v := .int (v_t.1 18)) (C := RX7) (T := TX7) (N := 30) hx hb hts hw_X7 hown hK hP 0 rfl rfl 18 (by decide) (hts _ (List.mem_cons_of_mem _ mw_616)) (fun _ h9 => h9) rfl dX7_countOf_74 ?_
    obtain rfl := Option.some.inj hf
    exact W.iret (v := (v_t.1 18)) hx hb hr (fun t ht hW => ⟨_, rfl, rfl, ht⟩) (fun q hq => by cases hq) dX7_countOf_77 hlocks
  have hf := ho_f hf c_1_5
  by_cases c_1_6 : x1 = 6
  · have hf := ho_t hf c_1_6
    refine lv_tableIn (tgt := 78) hx hb dX7_countOf_1 (by rw [c_1_6] <;> decide) (by rw [c_1_6] <;> decide) (by rw [c_1_6] <;> rfl) (by decide) ?_
    refine lv_aload_n hx hb dX7_countOf_78 rfl (lv_at hl 0 rfl) ?_
    refine va_get (D := (dC, dI)) (ci := 7) (v := .int (v_t.1 1)) (C := RX7) (T := TX7) (N := 30) hx hb hts hw_X7 hown hK hP 0 rfl rfl 1 (by decide) (hts _ (List.mem_cons_of_mem _ mw_599)) (fun _ h9 => h9) rfl dX7_countOf_79 ?_
    obtain rfl := Option.some.inj hf
    exact W.iret (v := (v_t.1 1)) hx hb hr (fun t ht hW => ⟨_, rfl, rfl, ht⟩) (fun q hq => by cases hq) dX7_countOf_82 hlocks
  have hf := ho_f hf c_1_6
  by_cases c_1_7 : x1 = 7
  · have hf := ho_t hf c_1_7
    refine lv_tableIn (tgt := 83) hx hb dX7_countOf_1 (by rw [c_1_7] <;> decide) (by rw [c_1_7] <;> decide) (by rw [c_1_7] <;> rfl) (by decide) ?_
    refine lv_aload_n hx hb dX7_countOf_83 rfl (lv_at hl 0 rfl) ?_
    refine va_get (D := (dC, dI)) (ci := 7) (v := .int (v_t.1 9)) (C := RX7) (T := TX7) (N := 30) hx hb hts hw_X7 hown hK hP 0 rfl rfl 9 (by decide) (hts _ (List.mem_cons_of_mem _ mw_607)) (fun _ h9 => h9) rfl dX7_countOf_84 ?_
    obtain rfl := Option.some.inj hf
    exact W.iret (v := (v_t.1 9)) hx hb hr (fun t ht hW => ⟨_, rfl, rfl, ht⟩) (fun q hq => by cases hq) dX7_countOf_87 hlocks
  have hf := ho_f hf c_1_7
  refine lv_tableOut (tgt := 88) hx hb dX7_countOf_1 (by have e0 := lv_neT c_1_0 (a := 0) (by decide); have e1 := lv_neT c_1_1 (a := 1) (by decide); have e2 := lv_neT c_1_2 (a := 2) (by decide); have e3 := lv_neT c_1_3 (a := 3) (by decide); have e4 := lv_neT c_1_4 (a := 4) (by decide); have e5 := lv_neT c_1_5 (a := 5) (by decide); have e6 := lv_neT c_1_6 (a := 6) (by decide); have e7 := lv_neT c_1_7 (a := 7) (by decide); omega) (by decide) ?_
  refine lv_bipush (v := (-102)) hx hb dX7_countOf_88 (by decide) ?_
  obtain rfl := Option.some.inj hf
  exact W.iret (v := (-102)) hx hb hr (fun t ht hW => ⟨_, rfl, rfl, ht⟩) (fun q hq => by cases hq) dX7_countOf_90 hlocks
set_option maxHeartbeats 4000000 in
set_option maxRecDepth 100000 in
theorem c_X7_count (l : Launch) (dC : Nat → ClassId) (dI : Nat → Nat → Nat) (cI cII : ClassId) (o_t : Nat) (a_t : Nat → Nat) (v_t : obV) (h_t : Int64) (x1 : Int32) (r : Int32) (hf : f_X7_count  v_t x1 = some r) :
    Met l yX7_count (wd yX7_count cX7_count 2 (some .int)) ({ frames := 3, cells := 0, slots := 0, locals := 64 } : Room) (va_Pc [.ref o_t, .int x1] (pB (dC, dI) vwCl (wX7 o_t a_t cI v_t h_t) (hTY cI cII))) (vp_Si (fun z => r = z)) 0 0 (fun _ => False) := by
  refine Met.ofW (cc := cX7_count) (maxL := 2) (ret := (some .int)) (by decide) rfl ?_
  intro p e s m args below meth c s₁ B hml hv
  obtain ⟨rfl, hP, hK, hN⟩ := hv
  have hx := B.exec
  have hb := B.bytes
  have hr := B.returns
  have hts := atoms_spec (ws := (wd yX7_count cX7_count 2 (some .int))) B.pre
  have hown : s.vm.findClass RX7 = some m.cls := findClass_of_methodNamed B.named
  have hlocks := B.notSynchronized
  have hl := lv_entry ([.ref o_t, .int x1]) (n := 2) (Nat.le_of_ble_eq_true rfl)
  rw [lg_entry_eq]
  generalize (lg_sl ([.ref o_t, .int x1]) ++ List.replicate (2 - (lg_sl ([.ref o_t, .int x1])).length) Slot.unset).toArray = ls at hl ⊢
  have hl : lv_has ls 2 [(0, .ref o_t), (1, .int x1)] := hl
  unfold f_X7_count at hf
  refine lv_aload_n hx hb dX7_count_0 rfl (lv_at hl 0 rfl) ?_
  refine lv_iload_n hx hb dX7_count_1 rfl (lv_at hl 1 rfl) ?_
  obtain ⟨u_2, e_2, hf⟩ := ho_b hf
  refine vp_callSi (va_runV (As := [.int x1]) (rest := []) ⟨hx, hb, hml, hown, hts⟩ (c_X7_countOf l dC dI cI cII o_t a_t v_t h_t (x1) u_2 e_2) (cwV 1 hts (hw_giV mw_900 mw_902 mw_46 mw_60 mw_903) rfl rfl rfl (by decide +kernel) ⟨Nat.le_of_ble_eq_true rfl, Nat.le_of_ble_eq_true rfl⟩) ⟨pB_blind, va_recv hK hP (ci := 7) (q0 := 0) rfl rfl, fun U hU hW => ⟨rfl, pB_go hP hK hN hU hW⟩⟩ rfl rfl hl.1 rfl (lv_room (Nat.le_of_ble_eq_true rfl)) dX7_count_2 ⟨Nat.zero_le _, Nat.zero_le _⟩).run (fun z_2 ez_2 => ?_)
  subst ez_2
  obtain rfl := Option.some.inj hf
  exact W.iret (v := u_2) hx hb hr (fun t ht hW => ⟨_, rfl, rfl, ht⟩) (fun q hq => by cases hq) dX7_count_5 hlocks
set_option maxHeartbeats 4000000 in
set_option maxRecDepth 100000 in
theorem c_X7_say (l : Launch) (dC : Nat → ClassId) (dI : Nat → Nat → Nat) (cI cII : ClassId) (o_t : Nat) (a_t : Nat → Nat) (v_t : obV) (h_t : Int64) (x1 : Int64) (sz : Nat) (r : Int64) (hf : f_X7_say  h_t x1 = some r) :
    Met l yX7_say (wd yX7_say cX7_say 3 none) ({ frames := 0, cells := 0, slots := 0, locals := 0 } : Room) (va_Pc [.ref o_t, .long x1] (qB (dC, dI) vwCl (wX7 o_t a_t cI v_t h_t) (hTY cI cII) sz)) (va_Qv (fun (_ : Unit) => True) (fun _ t => va_P (dC, dI) vwCl (wX7 o_t a_t cI v_t r) t.heap ∧ va_D (va_A (wX7 o_t a_t cI v_t h_t) sz) (wX7 o_t a_t cI v_t r)) (va_A (wX7 o_t a_t cI v_t h_t) sz)) 0 0 (va_A (wX7 o_t a_t cI v_t h_t) sz) := by
  refine Met.ofW (cc := cX7_say) (maxL := 3) (ret := none) (by decide) rfl ?_
  intro p e s m args below meth c s₁ B hml hv
  obtain ⟨rfl, hsz, hD0, hP, hK, hN⟩ := hv
  have hx := B.exec
  have hb := B.bytes
  have hr := B.returns
  have hts := atoms_spec (ws := (wd yX7_say cX7_say 3 none)) B.pre
  have hown : s.vm.findClass RX7 = some m.cls := findClass_of_methodNamed B.named
  have hlocks := B.notSynchronized
  subst hsz
  have hD := hD0.self (sz := s.heap.size)
  generalize hAe : va_A (wX7 o_t a_t cI v_t h_t) s.heap.size = A at hD ⊢
  have hA : ∀ q : Nat, s.heap.size ≤ q → A q := fun q h => by rw [← hAe]; exact Or.inr h
  have hS : va_S A s.heap s.heap [] := va_S.rf
  have hl := lv_entry ([.ref o_t, .long x1]) (n := 3) (Nat.le_of_ble_eq_true rfl)
  rw [lg_entry_eq]
  generalize (lg_sl ([.ref o_t, .long x1]) ++ List.replicate (3 - (lg_sl ([.ref o_t, .long x1])).length) Slot.unset).toArray = ls at hl ⊢
  have hl : lv_has ls 3 [(0, .ref o_t), (1, .long x1)] := hl
  clear hAe hD0
  unfold f_X7_say at hf
  refine lv_aload_n hx hb dX7_say_0 rfl (lv_at hl 0 rfl) ?_
  refine lv_ldc2 (v := 31) hx hb hown (hts _ (List.mem_cons_of_mem _ mw_925)) dX7_say_1 ?_
  refine lv_aload_n hx hb dX7_say_4 rfl (lv_at hl 0 rfl) ?_
  refine va_get (D := (dC, dI)) (ci := 7) (v := .long h_t) (C := RX7) (T := TX7) (N := 30) hx hb hts hw_X7 hown hK hP 0 rfl rfl 29 (by decide) (hts _ (List.mem_cons_of_mem _ mw_627)) (fun _ h9 => h9) rfl dX7_say_5 ?_
  refine lv_lmul hx hb dX7_say_8 ?_
  refine lv_lload_n hx hb dX7_say_9 rfl (lv_at hl 1 rfl) ?_
  refine lv_ladd hx hb dX7_say_10 ?_
  refine va_put (D := (dC, dI)) (ci := 7) (v := .long ((31 * h_t) + x1)) (ty := .long) (C := RX7) (T := TX7) (N := 30) hx hb hts hw_X7 tyX7 tyX7_ok nmX7 hown hK hP hD hS 0 rfl rfl 29 (by decide) (hts _ (List.mem_cons_of_mem _ mw_627)) (fun _ h9 => h9) rfl (by decide +kernel) rfl rfl (Nat.le_of_ble_eq_true rfl) dX7_say_11 (fun H locs hP hD hS => ?_)
  have hP : va_P (dC, dI) vwCl (wX7 o_t a_t cI v_t ((31 * h_t) + x1)) H := hP
  have hD : va_D A (wX7 o_t a_t cI v_t ((31 * h_t) + x1)) := hD
  obtain rfl := Option.some.inj hf
  exact W.vret hx hb hr (fun t ht hW => ⟨⟨(), rfl, trivial, by rw [ht]; exact hP, hD⟩, hS.F ht⟩) hS.2.2 dX7_say_14 hlocks
set_option maxHeartbeats 4000000 in
set_option maxRecDepth 100000 in
theorem w_X7_sayPilgrim_l2 {p : Program} {l : Launch} {e : Env} {s : State} {m : MethodId} {args : Array Value} {below : List Frame} {meth : Method} {c : Code} {dC : Nat → ClassId} {dI : Nat → Nat → Nat} {cI cII : ClassId} {o_t : Nat} {a_t : Nat → Nat} {A : Nat → Prop} (C0 : hC p s m args meth c dC dI cI cII RX7 cX7_sayPilgrim 3 (wd yX7_sayPilgrim cX7_sayPilgrim 3 none) none) (hA : ∀ q, s.heap.size ≤ q → A q)  {x1 : Int32}    :
    ∀ (n : Nat) (y : obV × Int64 × Int32) (r : obV × Int64), f_X7_sayPilgrim_l2  x1  n y = some r → ∀ (H : Heap) (locs : List Loc) (ls : Array Slot), va_P (dC, dI) vwCl (wX7 o_t a_t cI y.1 y.2.1) H → va_D A (wX7 o_t a_t cI y.1 y.2.1) → va_S A s.heap H locs → lv_has ls 3 [(0, .ref o_t), (1, .int x1), (2, .int y.2.2)] → W p l e ({ frames := 7, cells := 0, slots := 0, locals := 166 } : Room) s m args below meth c H locs 0 0 (MQ below (va_Qv (fun (_ : Unit) => True) (fun _ t => va_P (dC, dI) vwCl (wX7 o_t a_t cI r.1 r.2) t.heap ∧ va_D A (wX7 o_t a_t cI r.1 r.2)) A) args s 0 0 A) (F0 m 2 ls []) := by
  obtain ⟨hx, hb, hml, hown, hts, hr, hlocks, hK, hN⟩ := C0
  refine lp_W ?_
  intro k2 ih2 y r hf H locs ls hP hD hS hl
  obtain ⟨v_t, h_t, x2⟩ := y
  have hf : f_X7_sayPilgrim_b2  v_t h_t x1 x2  k2 = some r := hf
  have hP : va_P (dC, dI) vwCl (wX7 o_t a_t cI v_t h_t) H := hP
  have hD : va_D A (wX7 o_t a_t cI v_t h_t) := hD
  have hl : lv_has ls 3 [(0, .ref o_t), (1, .int x1), (2, .int x2)] := hl
  unfold f_X7_sayPilgrim_b2 at hf
  refine lv_iload_n hx hb dX7_sayPilgrim_2 rfl (lv_at hl 2 rfl) ?_
  refine lv_bipush (v := 10) hx hb dX7_sayPilgrim_3 (by decide) ?_
  refine lv_icmp_ge (tgt := 25) hx hb dX7_sayPilgrim_5 (by decide) (fun c_5 => ?_) (fun c_5 => ?_)
  · have hf := ho_t hf c_5
    refine lv_aload_n hx hb dX7_sayPilgrim_25 rfl (lv_at hl 0 rfl) ?_
    refine lv_aload_n hx hb dX7_sayPilgrim_26 rfl (lv_at hl 0 rfl) ?_
    refine lv_iload_n hx hb dX7_sayPilgrim_27 rfl (lv_at hl 1 rfl) ?_
    refine lv_iconst (v := 0) hx hb dX7_sayPilgrim_28 (by decide) ?_
    obtain ⟨u_29, e_29, hf⟩ := ho_b hf
    have hFc := va_free (wc := (wX7 o_t a_t cI v_t h_t)) hD hS hA [0, 1, 2, 3, 4, 5, 6, 7, 8, 9, 10, 11, 12] rfl
    refine va_calli (va_runV (As := [.int x1, .int 0]) (rest := [.ref o_t]) ⟨hx, hb, hml, hown, hts⟩ (c_X7_fitOf l dC dI cI cII o_t a_t v_t h_t (x1) (0) _ u_29 e_29) (cwV 2 hts (hw_giV mw_862 mw_864 mw_44 mw_60 mw_865) rfl rfl rfl (by decide +kernel) ⟨Nat.le_of_ble_eq_true rfl, Nat.le_of_ble_eq_true rfl⟩) ⟨qB_blind, va_recv hK hP (ci := 7) (q0 := 0) rfl rfl, fun U hU hW => ⟨rfl, qB_go hP hD hK hN hU hW⟩⟩ rfl rfl hl.1 rfl (lv_room (Nat.le_of_ble_eq_true rfl)) dX7_sayPilgrim_29 ⟨Nat.zero_le _, Nat.zero_le _⟩) hS (fun q _ h => hFc q h) hFc (fun z_29 u t H1 locs ht hvm ez_29 hB hz1 hk1 hS => ?_)
    subst ez_29
    obtain ⟨hP1, hD1⟩ := hB
    rw [ht] at hP1
    clear hP hD
    generalize H1 = H at hP1 hS ⊢
    have hP : va_P (dC, dI) vwCl (wX7 o_t a_t cI u_29.2 h_t) H := hP1
    have hD : va_D A (wX7 o_t a_t cI u_29.2 h_t) := hD1.weaken (fun _ q _ h => hFc q.1 h)
    refine lv_i2l (v := (Int32.toInt64 u_29.1)) hx hb dX7_sayPilgrim_32 rfl ?_
    obtain ⟨u_33, e_33, hf⟩ := ho_b hf
    have hFc := va_free (wc := (wX7 o_t a_t cI u_29.2 h_t)) hD hS hA [0, 1, 2, 3, 4, 5, 6, 7, 8, 9, 10, 11, 12] rfl
    refine va_callv (va_runV (As := [.long (Int32.toInt64 u_29.1)]) (rest := []) ⟨hx, hb, hml, hown, hts⟩ (c_X7_say l dC dI cI cII o_t a_t u_29.2 h_t ((Int32.toInt64 u_29.1)) _ u_33 e_33) (cwV 1 hts (hw_giV mw_921 mw_923 mw_50 mw_60 mw_924) rfl rfl rfl (by decide +kernel) ⟨Nat.le_of_ble_eq_true rfl, Nat.le_of_ble_eq_true rfl⟩) ⟨qB_blind, va_recv hK hP (ci := 7) (q0 := 0) rfl rfl, fun U hU hW => ⟨rfl, qB_go hP hD hK hN hU hW⟩⟩ rfl rfl hl.1 rfl (lv_room (Nat.le_of_ble_eq_true rfl)) dX7_sayPilgrim_33 ⟨Nat.zero_le _, Nat.zero_le _⟩) hS (fun q _ h => hFc q h) hFc (fun u t H1 locs ht hvm hw hB hz1 hk1 hS => ?_)
    obtain ⟨hP1, hD1⟩ := hB
    rw [ht] at hP1
    clear hP hD
    generalize H1 = H at hP1 hS ⊢
    have hP : va_P (dC, dI) vwCl (wX7 o_t a_t cI u_29.2 u_33) H := hP1
    have hD : va_D A (wX7 o_t a_t cI u_29.2 u_33) := hD1.weaken (fun _ q _ h => hFc q.1 h)
    refine lv_aload_n hx hb dX7_sayPilgrim_36 rfl (lv_at hl 0 rfl) ?_
    refine lv_aload_n hx hb dX7_sayPilgrim_37 rfl (lv_at hl 0 rfl) ?_
    refine lv_iload_n hx hb dX7_sayPilgrim_38 rfl (lv_at hl 1 rfl) ?_
    refine lv_iconst (v := 1) hx hb dX7_sayPilgrim_39 (by decide) ?_
    obtain ⟨u_40, e_40, hf⟩ := ho_b hf
    have hFc := va_free (wc := (wX7 o_t a_t cI u_29.2 u_33)) hD hS hA [0, 1, 2, 3, 4, 5, 6, 7, 8, 9, 10, 11, 12] rfl
    refine va_calli (va_runV (As := [.int x1, .int 1]) (rest := [.ref o_t]) ⟨hx, hb, hml, hown, hts⟩ (c_X7_fitOf l dC dI cI cII o_t a_t u_29.2 u_33 (x1) (1) _ u_40 e_40) (cwV 2 hts (hw_giV mw_862 mw_864 mw_44 mw_60 mw_865) rfl rfl rfl (by decide +kernel) ⟨Nat.le_of_ble_eq_true rfl, Nat.le_of_ble_eq_true rfl⟩) ⟨qB_blind, va_recv hK hP (ci := 7) (q0 := 0) rfl rfl, fun U hU hW => ⟨rfl, qB_go hP hD hK hN hU hW⟩⟩ rfl rfl hl.1 rfl (lv_room (Nat.le_of_ble_eq_true rfl)) dX7_sayPilgrim_40 ⟨Nat.zero_le _, Nat.zero_le _⟩) hS (fun q _ h => hFc q h) hFc (fun z_40 u t H1 locs ht hvm ez_40 hB hz1 hk1 hS => ?_)
    subst ez_40
    obtain ⟨hP1, hD1⟩ := hB
    rw [ht] at hP1
    clear hP hD
    generalize H1 = H at hP1 hS ⊢
    have hP : va_P (dC, dI) vwCl (wX7 o_t a_t cI u_40.2 u_33) H := hP1
    have hD : va_D A (wX7 o_t a_t cI u_40.2 u_33) := hD1.weaken (fun _ q _ h => hFc q.1 h)
    refine lv_i2l (v := (Int32.toInt64 u_40.1)) hx hb dX7_sayPilgrim_43 rfl ?_
    obtain ⟨u_44, e_44, hf⟩ := ho_b hf
    have hFc := va_free (wc := (wX7 o_t a_t cI u_40.2 u_33)) hD hS hA [0, 1, 2, 3, 4, 5, 6, 7, 8, 9, 10, 11, 12] rfl
    refine va_callv (va_runV (As := [.long (Int32.toInt64 u_40.1)]) (rest := []) ⟨hx, hb, hml, hown, hts⟩ (c_X7_say l dC dI cI cII o_t a_t u_40.2 u_33 ((Int32.toInt64 u_40.1)) _ u_44 e_44) (cwV 1 hts (hw_giV mw_921 mw_923 mw_50 mw_60 mw_924) rfl rfl rfl (by decide +kernel) ⟨Nat.le_of_ble_eq_true rfl, Nat.le_of_ble_eq_true rfl⟩) ⟨qB_blind, va_recv hK hP (ci := 7) (q0 := 0) rfl rfl, fun U hU hW => ⟨rfl, qB_go hP hD hK hN hU hW⟩⟩ rfl rfl hl.1 rfl (lv_room (Nat.le_of_ble_eq_true rfl)) dX7_sayPilgrim_44 ⟨Nat.zero_le _, Nat.zero_le _⟩) hS (fun q _ h => hFc q h) hFc (fun u t H1 locs ht hvm hw hB hz1 hk1 hS => ?_)
    obtain ⟨hP1, hD1⟩ := hB
    rw [ht] at hP1
    clear hP hD
    generalize H1 = H at hP1 hS ⊢
    have hP : va_P (dC, dI) vwCl (wX7 o_t a_t cI u_40.2 u_44) H := hP1
    have hD : va_D A (wX7 o_t a_t cI u_40.2 u_44) := hD1.weaken (fun _ q _ h => hFc q.1 h)
    obtain rfl := Option.some.inj hf
    exact W.vret hx hb hr (fun t ht hW => ⟨⟨(), rfl, trivial, by rw [ht]; exact hP, hD⟩, hS.F ht⟩) hS.2.2 dX7_sayPilgrim_47 hlocks
  · have hf := ho_f hf c_5
    refine lv_aload_n hx hb dX7_sayPilgrim_8 rfl (lv_at hl 0 rfl) ?_
    refine lv_aload_n hx hb dX7_sayPilgrim_9 rfl (lv_at hl 0 rfl) ?_
    refine lv_iload_n hx hb dX7_sayPilgrim_10 rfl (lv_at hl 1 rfl) ?_
    refine lv_iload_n hx hb dX7_sayPilgrim_11 rfl (lv_at hl 2 rfl) ?_
    obtain ⟨u_12, e_12, hf⟩ := ho_b hf
    have hFc := va_free (wc := (wX7 o_t a_t cI v_t h_t)) hD hS hA [0, 1, 2, 3, 4, 5, 6, 7, 8, 9, 10, 11, 12] rfl
    refine va_calli (va_runV (As := [.int x1, .int x2]) (rest := [.ref o_t]) ⟨hx, hb, hml, hown, hts⟩ (c_X7_tell l dC dI cI cII o_t a_t v_t h_t (x1) (x2) _ u_12 e_12) (cwV 2 hts (hw_giV mw_733 mw_735 mw_21 mw_60 mw_736) rfl rfl rfl (by decide +kernel) ⟨Nat.le_of_ble_eq_true rfl, Nat.le_of_ble_eq_true rfl⟩) ⟨qB_blind, va_recv hK hP (ci := 7) (q0 := 0) rfl rfl, fun U hU hW => ⟨rfl, qB_go hP hD hK hN hU hW⟩⟩ rfl rfl hl.1 rfl (lv_room (Nat.le_of_ble_eq_true rfl)) dX7_sayPilgrim_12 ⟨Nat.zero_le _, Nat.zero_le _⟩) hS (fun q _ h => hFc q h) hFc (fun z_12 u t H1 locs ht hvm ez_12 hB hz1 hk1 hS => ?_)
    subst ez_12
    obtain ⟨hP1, hD1⟩ := hB
    rw [ht] at hP1
    clear hP hD
    generalize H1 = H at hP1 hS ⊢
    have hP : va_P (dC, dI) vwCl (wX7 o_t a_t cI u_12.2 h_t) H := hP1
    have hD : va_D A (wX7 o_t a_t cI u_12.2 h_t) := hD1.weaken (fun _ q _ h => hFc q.1 h)
    refine lv_i2l (v := (Int32.toInt64 u_12.1)) hx hb dX7_sayPilgrim_15 rfl ?_
    obtain ⟨u_16, e_16, hf⟩ := ho_b hf
    have hFc := va_free (wc := (wX7 o_t a_t cI u_12.2 h_t)) hD hS hA [0, 1, 2, 3, 4, 5, 6, 7, 8, 9, 10, 11, 12] rfl
    refine va_callv (va_runV (As := [.long (Int32.toInt64 u_12.1)]) (rest := []) ⟨hx, hb, hml, hown, hts⟩ (c_X7_say l dC dI cI cII o_t a_t u_12.2 h_t ((Int32.toInt64 u_12.1)) _ u_16 e_16) (cwV 1 hts (hw_giV mw_921 mw_923 mw_50 mw_60 mw_924) rfl rfl rfl (by decide +kernel) ⟨Nat.le_of_ble_eq_true rfl, Nat.le_of_ble_eq_true rfl⟩) ⟨qB_blind, va_recv hK hP (ci := 7) (q0 := 0) rfl rfl, fun U hU hW => ⟨rfl, qB_go hP hD hK hN hU hW⟩⟩ rfl rfl hl.1 rfl (lv_room (Nat.le_of_ble_eq_true rfl)) dX7_sayPilgrim_16 ⟨Nat.zero_le _, Nat.zero_le _⟩) hS (fun q _ h => hFc q h) hFc (fun u t H1 locs ht hvm hw hB hz1 hk1 hS => ?_)
    obtain ⟨hP1, hD1⟩ := hB
    rw [ht] at hP1
    clear hP hD
    generalize H1 = H at hP1 hS ⊢
    have hP : va_P (dC, dI) vwCl (wX7 o_t a_t cI u_12.2 u_16) H := hP1
    have hD : va_D A (wX7 o_t a_t cI u_12.2 u_16) := hD1.weaken (fun _ q _ h => hFc q.1 h)
    refine lv_iinc (v := (x2 + 1)) (lv' := [(2, .int (x2 + 1)), (0, .ref o_t), (1, .int x1)]) hx hb dX7_sayPilgrim_19 hl (k := 2) rfl (hp_inc (by decide)) (by decide) rfl (fun ls hl => ?_)
    refine lv_goto (tgt := 2) hx hb dX7_sayPilgrim_22 (by decide) ?_
    exact ih2 (u_12.2, u_16, (x2 + 1)) _ hf _ _ _ hP hD hS (lv_sub hl [1, 2, 0] rfl)
set_option maxHeartbeats 4000000 in
set_option maxRecDepth 100000 in
theorem c_X7_sayPilgrim (l : Launch) (dC : Nat → ClassId) (dI : Nat → Nat → Nat) (cI cII : ClassId) (o_t : Nat) (a_t : Nat → Nat) (v_t : obV) (h_t : Int64) (x1 : Int32) (sz : Nat) (r : obV × Int64) (hf : f_X7_sayPilgrim  v_t h_t x1 = some r) :
    Met l yX7_sayPilgrim (wd yX7_sayPilgrim cX7_sayPilgrim 3 none) ({ frames := 7, cells := 0, slots := 0, locals := 166 } : Room) (va_Pc [.ref o_t, .int x1] (qB (dC, dI) vwCl (wX7 o_t a_t cI v_t h_t) (hTY cI cII) sz)) (va_Qv (fun (_ : Unit) => True) (fun _ t => va_P (dC, dI) vwCl (wX7 o_t a_t cI r.1 r.2) t.heap ∧ va_D (va_A (wX7 o_t a_t cI v_t h_t) sz) (wX7 o_t a_t cI r.1 r.2)) (va_A (wX7 o_t a_t cI v_t h_t) sz)) 0 0 (va_A (wX7 o_t a_t cI v_t h_t) sz) := by
  refine Met.ofW (cc := cX7_sayPilgrim) (maxL := 3) (ret := none) (by decide) rfl ?_
  intro p e s m args below meth c s₁ B hml hv
  obtain ⟨rfl, hsz, hD0, hP, hK, hN⟩ := hv
  have hx := B.exec
  have hb := B.bytes
  have hr := B.returns
  have hts := atoms_spec (ws := (wd yX7_sayPilgrim cX7_sayPilgrim 3 none)) B.pre
  have hown : s.vm.findClass RX7 = some m.cls := findClass_of_methodNamed B.named
  have hlocks := B.notSynchronized
  subst hsz
  have hD := hD0.self (sz := s.heap.size)
  generalize hAe : va_A (wX7 o_t a_t cI v_t h_t) s.heap.size = A at hD ⊢
  have hA : ∀ q : Nat, s.heap.size ≤ q → A q := fun q h => by rw [← hAe]; exact Or.inr h
  have hS : va_S A s.heap s.heap [] := va_S.rf
  have hl := lv_entry ([.ref o_t, .int x1]) (n := 3) (Nat.le_of_ble_eq_true rfl)
  rw [lg_entry_eq]
  generalize (lg_sl ([.ref o_t, .int x1]) ++ List.replicate (3 - (lg_sl ([.ref o_t, .int x1])).length) Slot.unset).toArray = ls at hl ⊢
  have hl : lv_has ls 3 [(0, .ref o_t), (1, .int x1)] := hl
  clear hAe hD0
  unfold f_X7_sayPilgrim at hf
  refine lv_iconst (v := 0) hx hb dX7_sayPilgrim_0 (by decide) ?_
  refine lv_istore_n (lv' := [(2, .int 0), (0, .ref o_t), (1, .int x1)]) hx hb dX7_sayPilgrim_1 rfl hl (by decide) rfl (fun ls hl => ?_)
  exact w_X7_sayPilgrim_l2 ⟨hx, hb, hml, hown, hts, hr, hlocks, hK, hN⟩ hA  _ _ _ hf _ _ _ hP hD hS (lv_sub hl [1, 2, 0] rfl)
set_option maxHeartbeats 4000000 in
set_option maxRecDepth 100000 in
theorem w_X7_sayDay_l60 {p : Program} {l : Launch} {e : Env} {s : State} {m : MethodId} {args : Array Value} {below : List Frame} {meth : Method} {c : Code} {dC : Nat → ClassId} {dI : Nat → Nat → Nat} {cI cII : ClassId} {o_t : Nat} {a_t : Nat → Nat} {A : Nat → Prop} (C0 : hC p s m args meth c dC dI cI cII RX7 cX7_sayDay 2 (wd yX7_sayDay cX7_sayDay 2 none) none) (hA : ∀ q, s.heap.size ≤ q → A q)      :
    ∀ (n : Nat) (y : obV × Int64 × Int32) (r : obV × Int64), f_X7_sayDay_l60    n y = some r → ∀ (H : Heap) (locs : List Loc) (ls : Array Slot), va_P (dC, dI) vwCl (wX7 o_t a_t cI y.1 y.2.1) H → va_D A (wX7 o_t a_t cI y.1 y.2.1) → va_S A s.heap H locs → lv_has ls 2 [(0, .ref o_t), (1, .int y.2.2)] → W p l e ({ frames := 5, cells := 0, slots := 0, locals := 111 } : Room) s m args below meth c H locs 0 0 (MQ below (va_Qv (fun (_ : Unit) => True) (fun _ t => va_P (dC, dI) vwCl (wX7 o_t a_t cI r.1 r.2) t.heap ∧ va_D A (wX7 o_t a_t cI r.1 r.2)) A) args s 0 0 A) (F0 m 60 ls []) := by
  obtain ⟨hx, hb, hml, hown, hts, hr, hlocks, hK, hN⟩ := C0
  refine lp_W ?_
  intro k60 ih60 y r hf H locs ls hP hD hS hl
  obtain ⟨v_t, h_t, x1⟩ := y
  have hf : f_X7_sayDay_b60  v_t h_t x1  k60 = some r := hf
  have hP : va_P (dC, dI) vwCl (wX7 o_t a_t cI v_t h_t) H := hP
  have hD : va_D A (wX7 o_t a_t cI v_t h_t) := hD
  have hl : lv_has ls 2 [(0, .ref o_t), (1, .int x1)] := hl
  unfold f_X7_sayDay_b60 at hf
  refine lv_iload_n hx hb dX7_sayDay_60 rfl (lv_at hl 1 rfl) ?_
  refine lv_bipush (v := 15) hx hb dX7_sayDay_61 (by decide) ?_
  refine lv_icmp_ge (tgt := 82) hx hb dX7_sayDay_63 (by decide) (fun c_63 => ?_) (fun c_63 => ?_)
  · have hf := ho_t hf c_63
    obtain rfl := Option.some.inj hf
    exact W.vret hx hb hr (fun t ht hW => ⟨⟨(), rfl, trivial, by rw [ht]; exact hP, hD⟩, hS.F ht⟩) hS.2.2 dX7_sayDay_82 hlocks
  · have hf := ho_f hf c_63
    refine lv_aload_n hx hb dX7_sayDay_66 rfl (lv_at hl 0 rfl) ?_
    refine lv_aload_n hx hb dX7_sayDay_67 rfl (lv_at hl 0 rfl) ?_
    refine lv_iload_n hx hb dX7_sayDay_68 rfl (lv_at hl 1 rfl) ?_
    obtain ⟨u_69, e_69, hf⟩ := ho_b hf
    have hFc := va_free (wc := (wX7 o_t a_t cI v_t h_t)) hD hS hA [0, 1, 2, 3, 4, 5, 6, 7, 8, 9, 10, 11, 12] rfl
    refine va_calli (va_runV (As := [.int x1]) (rest := [.ref o_t]) ⟨hx, hb, hml, hown, hts⟩ (c_X7_orderOf l dC dI cI cII o_t a_t v_t h_t (x1) _ u_69 e_69) (cwV 1 hts (hw_giV mw_846 mw_848 mw_41 mw_60 mw_849) rfl rfl rfl (by decide +kernel) ⟨Nat.le_of_ble_eq_true rfl, Nat.le_of_ble_eq_true rfl⟩) ⟨qB_blind, va_recv hK hP (ci := 7) (q0 := 0) rfl rfl, fun U hU hW => ⟨rfl, qB_go hP hD hK hN hU hW⟩⟩ rfl rfl hl.1 rfl (lv_room (Nat.le_of_ble_eq_true rfl)) dX7_sayDay_69 ⟨Nat.zero_le _, Nat.zero_le _⟩) hS (fun q _ h => hFc q h) hFc (fun z_69 u t H1 locs ht hvm ez_69 hB hz1 hk1 hS => ?_)
    subst ez_69
    obtain ⟨hP1, hD1⟩ := hB
    rw [ht] at hP1
    clear hP hD
    generalize H1 = H at hP1 hS ⊢
    have hP : va_P (dC, dI) vwCl (wX7 o_t a_t cI u_69.2 h_t) H := hP1
    have hD : va_D A (wX7 o_t a_t cI u_69.2 h_t) := hD1.weaken (fun _ q _ h => hFc q.1 h)
    refine lv_i2l (v := (Int32.toInt64 u_69.1)) hx hb dX7_sayDay_72 rfl ?_
    obtain ⟨u_73, e_73, hf⟩ := ho_b hf
    have hFc := va_free (wc := (wX7 o_t a_t cI u_69.2 h_t)) hD hS hA [0, 1, 2, 3, 4, 5, 6, 7, 8, 9, 10, 11, 12] rfl
    refine va_callv (va_runV (As := [.long (Int32.toInt64 u_69.1)]) (rest := []) ⟨hx, hb, hml, hown, hts⟩ (c_X7_say l dC dI cI cII o_t a_t u_69.2 h_t ((Int32.toInt64 u_69.1)) _ u_73 e_73) (cwV 1 hts (hw_giV mw_921 mw_923 mw_50 mw_60 mw_924) rfl rfl rfl (by decide +kernel) ⟨Nat.le_of_ble_eq_true rfl, Nat.le_of_ble_eq_true rfl⟩) ⟨qB_blind, va_recv hK hP (ci := 7) (q0 := 0) rfl rfl, fun U hU hW => ⟨rfl, qB_go hP hD hK hN hU hW⟩⟩ rfl rfl hl.1 rfl (lv_room (Nat.le_of_ble_eq_true rfl)) dX7_sayDay_73 ⟨Nat.zero_le _, Nat.zero_le _⟩) hS (fun q _ h => hFc q h) hFc (fun u t H1 locs ht hvm hw hB hz1 hk1 hS => ?_)
    obtain ⟨hP1, hD1⟩ := hB
    rw [ht] at hP1
    clear hP hD
    generalize H1 = H at hP1 hS ⊢
    have hP : va_P (dC, dI) vwCl (wX7 o_t a_t cI u_69.2 u_73) H := hP1
    have hD : va_D A (wX7 o_t a_t cI u_69.2 u_73) := hD1.weaken (fun _ q _ h => hFc q.1 h)
    refine lv_iinc (v := (x1 + 1)) (lv' := [(1, .int (x1 + 1)), (0, .ref o_t)]) hx hb dX7_sayDay_76 hl (k := 1) rfl (hp_inc (by decide)) (by decide) rfl (fun ls hl => ?_)
    refine lv_goto (tgt := 60) hx hb dX7_sayDay_79 (by decide) ?_
    exact ih60 (u_69.2, u_73, (x1 + 1)) _ hf _ _ _ hP hD hS (lv_sub hl [1, 0] rfl)
set_option maxHeartbeats 4000000 in
set_option maxRecDepth 100000 in
theorem w_X7_sayDay_l25 {p : Program} {l : Launch} {e : Env} {s : State} {m : MethodId} {args : Array Value} {below : List Frame} {meth : Method} {c : Code} {dC : Nat → ClassId} {dI : Nat → Nat → Nat} {cI cII : ClassId} {o_t : Nat} {a_t : Nat → Nat} {A : Nat → Prop} (C0 : hC p s m args meth c dC dI cI cII RX7 cX7_sayDay 2 (wd yX7_sayDay cX7_sayDay 2 none) none) (hA : ∀ q, s.heap.size ≤ q → A q)      :
    ∀ (n : Nat) (y : obV × Int64 × Int32) (r : obV × Int64), f_X7_sayDay_l25    n y = some r → ∀ (H : Heap) (locs : List Loc) (ls : Array Slot), va_P (dC, dI) vwCl (wX7 o_t a_t cI y.1 y.2.1) H → va_D A (wX7 o_t a_t cI y.1 y.2.1) → va_S A s.heap H locs → lv_has ls 2 [(0, .ref o_t), (1, .int y.2.2)] → W p l e ({ frames := 5, cells := 0, slots := 0, locals := 111 } : Room) s m args below meth c H locs 0 0 (MQ below (va_Qv (fun (_ : Unit) => True) (fun _ t => va_P (dC, dI) vwCl (wX7 o_t a_t cI r.1 r.2) t.heap ∧ va_D A (wX7 o_t a_t cI r.1 r.2)) A) args s 0 0 A) (F0 m 25 ls []) := by
  obtain ⟨hx, hb, hml, hown, hts, hr, hlocks, hK, hN⟩ := C0
  refine lp_W ?_
  intro k25 ih25 y r hf H locs ls hP hD hS hl
  obtain ⟨v_t, h_t, x1⟩ := y
  have hf : f_X7_sayDay_b25  v_t h_t x1  k25 = some r := hf
  have hP : va_P (dC, dI) vwCl (wX7 o_t a_t cI v_t h_t) H := hP
  have hD : va_D A (wX7 o_t a_t cI v_t h_t) := hD
  have hl : lv_has ls 2 [(0, .ref o_t), (1, .int x1)] := hl
  unfold f_X7_sayDay_b25 at hf
  refine lv_iload_n hx hb dX7_sayDay_25 rfl (lv_at hl 1 rfl) ?_
  refine lv_bipush (v := 20) hx hb dX7_sayDay_26 (by decide) ?_
  refine lv_icmp_ge (tgt := 47) hx hb dX7_sayDay_28 (by decide) (fun c_28 => ?_) (fun c_28 => ?_)
  · have hf := ho_t hf c_28
    refine lv_aload_n hx hb dX7_sayDay_47 rfl (lv_at hl 0 rfl) ?_
    refine lv_aload_n hx hb dX7_sayDay_48 rfl (lv_at hl 0 rfl) ?_
    refine lv_iconst (v := 0) hx hb dX7_sayDay_49 (by decide) ?_
    obtain ⟨u_50, e_50, hf⟩ := ho_b hf
    have hFc := va_free (wc := (wX7 o_t a_t cI v_t h_t)) hD hS hA [0, 1, 2, 3, 4, 5, 6, 7, 8, 9, 10, 11, 12] rfl
    refine va_calli (va_runV (As := [.int 0]) (rest := [.ref o_t]) ⟨hx, hb, hml, hown, hts⟩ (c_X7_orderOf l dC dI cI cII o_t a_t v_t h_t (0) _ u_50 e_50) (cwV 1 hts (hw_giV mw_846 mw_848 mw_41 mw_60 mw_849) rfl rfl rfl (by decide +kernel) ⟨Nat.le_of_ble_eq_true rfl, Nat.le_of_ble_eq_true rfl⟩) ⟨qB_blind, va_recv hK hP (ci := 7) (q0 := 0) rfl rfl, fun U hU hW => ⟨rfl, qB_go hP hD hK hN hU hW⟩⟩ rfl rfl hl.1 rfl (lv_room (Nat.le_of_ble_eq_true rfl)) dX7_sayDay_50 ⟨Nat.zero_le _, Nat.zero_le _⟩) hS (fun q _ h => hFc q h) hFc (fun z_50 u t H1 locs ht hvm ez_50 hB hz1 hk1 hS => ?_)
    subst ez_50
    obtain ⟨hP1, hD1⟩ := hB
    rw [ht] at hP1
    clear hP hD
    generalize H1 = H at hP1 hS ⊢
    have hP : va_P (dC, dI) vwCl (wX7 o_t a_t cI u_50.2 h_t) H := hP1
    have hD : va_D A (wX7 o_t a_t cI u_50.2 h_t) := hD1.weaken (fun _ q _ h => hFc q.1 h)
    refine lv_i2l (v := (Int32.toInt64 u_50.1)) hx hb dX7_sayDay_53 rfl ?_
    obtain ⟨u_54, e_54, hf⟩ := ho_b hf
    have hFc := va_free (wc := (wX7 o_t a_t cI u_50.2 h_t)) hD hS hA [0, 1, 2, 3, 4, 5, 6, 7, 8, 9, 10, 11, 12] rfl
    refine va_callv (va_runV (As := [.long (Int32.toInt64 u_50.1)]) (rest := []) ⟨hx, hb, hml, hown, hts⟩ (c_X7_say l dC dI cI cII o_t a_t u_50.2 h_t ((Int32.toInt64 u_50.1)) _ u_54 e_54) (cwV 1 hts (hw_giV mw_921 mw_923 mw_50 mw_60 mw_924) rfl rfl rfl (by decide +kernel) ⟨Nat.le_of_ble_eq_true rfl, Nat.le_of_ble_eq_true rfl⟩) ⟨qB_blind, va_recv hK hP (ci := 7) (q0 := 0) rfl rfl, fun U hU hW => ⟨rfl, qB_go hP hD hK hN hU hW⟩⟩ rfl rfl hl.1 rfl (lv_room (Nat.le_of_ble_eq_true rfl)) dX7_sayDay_54 ⟨Nat.zero_le _, Nat.zero_le _⟩) hS (fun q _ h => hFc q h) hFc (fun u t H1 locs ht hvm hw hB hz1 hk1 hS => ?_)
    obtain ⟨hP1, hD1⟩ := hB
    rw [ht] at hP1
    clear hP hD
    generalize H1 = H at hP1 hS ⊢
    have hP : va_P (dC, dI) vwCl (wX7 o_t a_t cI u_50.2 u_54) H := hP1
    have hD : va_D A (wX7 o_t a_t cI u_50.2 u_54) := hD1.weaken (fun _ q _ h => hFc q.1 h)
    refine lv_bipush (v := 10) hx hb dX7_sayDay_57 (by decide) ?_
    refine lv_istore_n (lv' := [(1, .int 10), (0, .ref o_t)]) hx hb dX7_sayDay_59 rfl hl (by decide) rfl (fun ls hl => ?_)
    exact w_X7_sayDay_l60 ⟨hx, hb, hml, hown, hts, hr, hlocks, hK, hN⟩ hA  _ _ _ hf _ _ _ hP hD hS (lv_sub hl [1, 0] rfl)
  · have hf := ho_f hf c_28
    refine lv_aload_n hx hb dX7_sayDay_31 rfl (lv_at hl 0 rfl) ?_
    refine lv_aload_n hx hb dX7_sayDay_32 rfl (lv_at hl 0 rfl) ?_
    refine lv_iload_n hx hb dX7_sayDay_33 rfl (lv_at hl 1 rfl) ?_
    obtain ⟨u_34, e_34, hf⟩ := ho_b hf
    have hFc := va_free (wc := (wX7 o_t a_t cI v_t h_t)) hD hS hA [0, 1, 2, 3, 4, 5, 6, 7, 8, 9, 10, 11, 12] rfl
    refine va_calli (va_runV (As := [.int x1]) (rest := [.ref o_t]) ⟨hx, hb, hml, hown, hts⟩ (c_X7_waitingOf l dC dI cI cII o_t a_t v_t h_t (x1) _ u_34 e_34) (cwV 1 hts (hw_giV mw_836 mw_838 mw_40 mw_60 mw_839) rfl rfl rfl (by decide +kernel) ⟨Nat.le_of_ble_eq_true rfl, Nat.le_of_ble_eq_true rfl⟩) ⟨qB_blind, va_recv hK hP (ci := 7) (q0 := 0) rfl rfl, fun U hU hW => ⟨rfl, qB_go hP hD hK hN hU hW⟩⟩ rfl rfl hl.1 rfl (lv_room (Nat.le_of_ble_eq_true rfl)) dX7_sayDay_34 ⟨Nat.zero_le _, Nat.zero_le _⟩) hS (fun q _ h => hFc q h) hFc (fun z_34 u t H1 locs ht hvm ez_34 hB hz1 hk1 hS => ?_)
    subst ez_34
    obtain ⟨hP1, hD1⟩ := hB
    rw [ht] at hP1
    clear hP hD
    generalize H1 = H at hP1 hS ⊢
    have hP : va_P (dC, dI) vwCl (wX7 o_t a_t cI u_34.2 h_t) H := hP1
    have hD : va_D A (wX7 o_t a_t cI u_34.2 h_t) := hD1.weaken (fun _ q _ h => hFc q.1 h)
    refine lv_i2l (v := (Int32.toInt64 u_34.1)) hx hb dX7_sayDay_37 rfl ?_
    obtain ⟨u_38, e_38, hf⟩ := ho_b hf
    have hFc := va_free (wc := (wX7 o_t a_t cI u_34.2 h_t)) hD hS hA [0, 1, 2, 3, 4, 5, 6, 7, 8, 9, 10, 11, 12] rfl
    refine va_callv (va_runV (As := [.long (Int32.toInt64 u_34.1)]) (rest := []) ⟨hx, hb, hml, hown, hts⟩ (c_X7_say l dC dI cI cII o_t a_t u_34.2 h_t ((Int32.toInt64 u_34.1)) _ u_38 e_38) (cwV 1 hts (hw_giV mw_921 mw_923 mw_50 mw_60 mw_924) rfl rfl rfl (by decide +kernel) ⟨Nat.le_of_ble_eq_true rfl, Nat.le_of_ble_eq_true rfl⟩) ⟨qB_blind, va_recv hK hP (ci := 7) (q0 := 0) rfl rfl, fun U hU hW => ⟨rfl, qB_go hP hD hK hN hU hW⟩⟩ rfl rfl hl.1 rfl (lv_room (Nat.le_of_ble_eq_true rfl)) dX7_sayDay_38 ⟨Nat.zero_le _, Nat.zero_le _⟩) hS (fun q _ h => hFc q h) hFc (fun u t H1 locs ht hvm hw hB hz1 hk1 hS => ?_)
    obtain ⟨hP1, hD1⟩ := hB
    rw [ht] at hP1
    clear hP hD
    generalize H1 = H at hP1 hS ⊢
    have hP : va_P (dC, dI) vwCl (wX7 o_t a_t cI u_34.2 u_38) H := hP1
    have hD : va_D A (wX7 o_t a_t cI u_34.2 u_38) := hD1.weaken (fun _ q _ h => hFc q.1 h)
    refine lv_iinc (v := (x1 + 1)) (lv' := [(1, .int (x1 + 1)), (0, .ref o_t)]) hx hb dX7_sayDay_41 hl (k := 1) rfl (hp_inc (by decide)) (by decide) rfl (fun ls hl => ?_)
    refine lv_goto (tgt := 25) hx hb dX7_sayDay_44 (by decide) ?_
    exact ih25 (u_34.2, u_38, (x1 + 1)) _ hf _ _ _ hP hD hS (lv_sub hl [1, 0] rfl)
set_option maxHeartbeats 4000000 in
set_option maxRecDepth 100000 in
theorem w_X7_sayDay_l2 {p : Program} {l : Launch} {e : Env} {s : State} {m : MethodId} {args : Array Value} {below : List Frame} {meth : Method} {c : Code} {dC : Nat → ClassId} {dI : Nat → Nat → Nat} {cI cII : ClassId} {o_t : Nat} {a_t : Nat → Nat} {A : Nat → Prop} (C0 : hC p s m args meth c dC dI cI cII RX7 cX7_sayDay 2 (wd yX7_sayDay cX7_sayDay 2 none) none) (hA : ∀ q, s.heap.size ≤ q → A q)      :
    ∀ (n : Nat) (y : obV × Int64 × Int32) (r : obV × Int64), f_X7_sayDay_l2    n y = some r → ∀ (H : Heap) (locs : List Loc) (ls : Array Slot), va_P (dC, dI) vwCl (wX7 o_t a_t cI y.1 y.2.1) H → va_D A (wX7 o_t a_t cI y.1 y.2.1) → va_S A s.heap H locs → lv_has ls 2 [(0, .ref o_t), (1, .int y.2.2)] → W p l e ({ frames := 5, cells := 0, slots := 0, locals := 111 } : Room) s m args below meth c H locs 0 0 (MQ below (va_Qv (fun (_ : Unit) => True) (fun _ t => va_P (dC, dI) vwCl (wX7 o_t a_t cI r.1 r.2) t.heap ∧ va_D A (wX7 o_t a_t cI r.1 r.2)) A) args s 0 0 A) (F0 m 2 ls []) := by
  obtain ⟨hx, hb, hml, hown, hts, hr, hlocks, hK, hN⟩ := C0
  refine lp_W ?_
  intro k2 ih2 y r hf H locs ls hP hD hS hl
  obtain ⟨v_t, h_t, x1⟩ := y
  have hf : f_X7_sayDay_b2  v_t h_t x1  k2 = some r := hf
  have hP : va_P (dC, dI) vwCl (wX7 o_t a_t cI v_t h_t) H := hP
  have hD : va_D A (wX7 o_t a_t cI v_t h_t) := hD
  have hl : lv_has ls 2 [(0, .ref o_t), (1, .int x1)] := hl
  unfold f_X7_sayDay_b2 at hf
  refine lv_iload_n hx hb dX7_sayDay_2 rfl (lv_at hl 1 rfl) ?_
  refine lv_iconst (v := 5) hx hb dX7_sayDay_3 (by decide) ?_
  refine lv_icmp_ge (tgt := 23) hx hb dX7_sayDay_4 (by decide) (fun c_4 => ?_) (fun c_4 => ?_)
  · have hf := ho_t hf c_4
    refine lv_iconst (v := 0) hx hb dX7_sayDay_23 (by decide) ?_
    refine lv_istore_n (lv' := [(1, .int 0), (0, .ref o_t)]) hx hb dX7_sayDay_24 rfl hl (by decide) rfl (fun ls hl => ?_)
    exact w_X7_sayDay_l25 ⟨hx, hb, hml, hown, hts, hr, hlocks, hK, hN⟩ hA  _ _ _ hf _ _ _ hP hD hS (lv_sub hl [1, 0] rfl)
  · have hf := ho_f hf c_4
    refine lv_aload_n hx hb dX7_sayDay_7 rfl (lv_at hl 0 rfl) ?_
    refine lv_aload_n hx hb dX7_sayDay_8 rfl (lv_at hl 0 rfl) ?_
    refine lv_iload_n hx hb dX7_sayDay_9 rfl (lv_at hl 1 rfl) ?_
    obtain ⟨u_10, e_10, hf⟩ := ho_b hf
    have hFc := va_free (wc := (wX7 o_t a_t cI v_t h_t)) hD hS hA [0, 1, 2, 3, 4, 5, 6, 7, 8, 9, 10, 11, 12] rfl
    refine va_calli (va_runV (As := [.int x1]) (rest := [.ref o_t]) ⟨hx, hb, hml, hown, hts⟩ (c_X7_dayOf l dC dI cI cII o_t a_t v_t h_t (x1) _ u_10 e_10) (cwV 1 hts (hw_giV mw_815 mw_817 mw_36 mw_60 mw_818) rfl rfl rfl (by decide +kernel) ⟨Nat.le_of_ble_eq_true rfl, Nat.le_of_ble_eq_true rfl⟩) ⟨qB_blind, va_recv hK hP (ci := 7) (q0 := 0) rfl rfl, fun U hU hW => ⟨rfl, qB_go hP hD hK hN hU hW⟩⟩ rfl rfl hl.1 rfl (lv_room (Nat.le_of_ble_eq_true rfl)) dX7_sayDay_10 ⟨Nat.zero_le _, Nat.zero_le _⟩) hS (fun q _ h => hFc q h) hFc (fun z_10 u t H1 locs ht hvm ez_10 hB hz1 hk1 hS => ?_)
    subst ez_10
    obtain ⟨hP1, hD1⟩ := hB
    rw [ht] at hP1
    clear hP hD
    generalize H1 = H at hP1 hS ⊢
    have hP : va_P (dC, dI) vwCl (wX7 o_t a_t cI u_10.2 h_t) H := hP1
    have hD : va_D A (wX7 o_t a_t cI u_10.2 h_t) := hD1.weaken (fun _ q _ h => hFc q.1 h)
    refine lv_i2l (v := (Int32.toInt64 u_10.1)) hx hb dX7_sayDay_13 rfl ?_
    obtain ⟨u_14, e_14, hf⟩ := ho_b hf
    have hFc := va_free (wc := (wX7 o_t a_t cI u_10.2 h_t)) hD hS hA [0, 1, 2, 3, 4, 5, 6, 7, 8, 9, 10, 11, 12] rfl
    refine va_callv (va_runV (As := [.long (Int32.toInt64 u_10.1)]) (rest := []) ⟨hx, hb, hml, hown, hts⟩ (c_X7_say l dC dI cI cII o_t a_t u_10.2 h_t ((Int32.toInt64 u_10.1)) _ u_14 e_14) (cwV 1 hts (hw_giV mw_921 mw_923 mw_50 mw_60 mw_924) rfl rfl rfl (by decide +kernel) ⟨Nat.le_of_ble_eq_true rfl, Nat.le_of_ble_eq_true rfl⟩) ⟨qB_blind, va_recv hK hP (ci := 7) (q0 := 0) rfl rfl, fun U hU hW => ⟨rfl, qB_go hP hD hK hN hU hW⟩⟩ rfl rfl hl.1 rfl (lv_room (Nat.le_of_ble_eq_true rfl)) dX7_sayDay_14 ⟨Nat.zero_le _, Nat.zero_le _⟩) hS (fun q _ h => hFc q h) hFc (fun u t H1 locs ht hvm hw hB hz1 hk1 hS => ?_)
    obtain ⟨hP1, hD1⟩ := hB
    rw [ht] at hP1
    clear hP hD
    generalize H1 = H at hP1 hS ⊢
    have hP : va_P (dC, dI) vwCl (wX7 o_t a_t cI u_10.2 u_14) H := hP1
    have hD : va_D A (wX7 o_t a_t cI u_10.2 u_14) := hD1.weaken (fun _ q _ h => hFc q.1 h)
    refine lv_iinc (v := (x1 + 1)) (lv' := [(1, .int (x1 + 1)), (0, .ref o_t)]) hx hb dX7_sayDay_17 hl (k := 1) rfl (hp_inc (by decide)) (by decide) rfl (fun ls hl => ?_)
    refine lv_goto (tgt := 2) hx hb dX7_sayDay_20 (by decide) ?_
    exact ih2 (u_10.2, u_14, (x1 + 1)) _ hf _ _ _ hP hD hS (lv_sub hl [1, 0] rfl)
set_option maxHeartbeats 4000000 in
set_option maxRecDepth 100000 in
theorem c_X7_sayDay (l : Launch) (dC : Nat → ClassId) (dI : Nat → Nat → Nat) (cI cII : ClassId) (o_t : Nat) (a_t : Nat → Nat) (v_t : obV) (h_t : Int64)  (sz : Nat) (r : obV × Int64) (hf : f_X7_sayDay  v_t h_t  = some r) :
    Met l yX7_sayDay (wd yX7_sayDay cX7_sayDay 2 none) ({ frames := 5, cells := 0, slots := 0, locals := 111 } : Room) (va_Pc [.ref o_t] (qB (dC, dI) vwCl (wX7 o_t a_t cI v_t h_t) (hTY cI cII) sz)) (va_Qv (fun (_ : Unit) => True) (fun _ t => va_P (dC, dI) vwCl (wX7 o_t a_t cI r.1 r.2) t.heap ∧ va_D (va_A (wX7 o_t a_t cI v_t h_t) sz) (wX7 o_t a_t cI r.1 r.2)) (va_A (wX7 o_t a_t cI v_t h_t) sz)) 0 0 (va_A (wX7 o_t a_t cI v_t h_t) sz) := by
  refine Met.ofW (cc := cX7_sayDay) (maxL := 2) (ret := none) (by decide) rfl ?_
  intro p e s m args below meth c s₁ B hml hv
  obtain ⟨rfl, hsz, hD0, hP, hK, hN⟩ := hv
  have hx := B.exec
  have hb := B.bytes
  have hr := B.returns
  have hts := atoms_spec (ws := (wd yX7_sayDay cX7_sayDay 2 none)) B.pre
  have hown : s.vm.findClass RX7 = some m.cls := findClass_of_methodNamed B.named
  have hlocks := B.notSynchronized
  subst hsz
  have hD := hD0.self (sz := s.heap.size)
  generalize hAe : va_A (wX7 o_t a_t cI v_t h_t) s.heap.size = A at hD ⊢
  have hA : ∀ q : Nat, s.heap.size ≤ q → A q := fun q h => by rw [← hAe]; exact Or.inr h
  have hS : va_S A s.heap s.heap [] := va_S.rf
  have hl := lv_entry ([.ref o_t]) (n := 2) (Nat.le_of_ble_eq_true rfl)
  rw [lg_entry_eq]
  generalize (lg_sl ([.ref o_t]) ++ List.replicate (2 - (lg_sl ([.ref o_t])).length) Slot.unset).toArray = ls at hl ⊢
  have hl : lv_has ls 2 [(0, .ref o_t)] := hl
  clear hAe hD0
  unfold f_X7_sayDay at hf
  refine lv_iconst (v := 0) hx hb dX7_sayDay_0 (by decide) ?_
  refine lv_istore_n (lv' := [(1, .int 0), (0, .ref o_t)]) hx hb dX7_sayDay_1 rfl hl (by decide) rfl (fun ls hl => ?_)
  exact w_X7_sayDay_l2 ⟨hx, hb, hml, hown, hts, hr, hlocks, hK, hN⟩ hA  _ _ _ hf _ _ _ hP hD hS (lv_sub hl [1, 0] rfl)
set_option maxHeartbeats 4000000 in
set_option maxRecDepth 100000 in
theorem w_X7_digest_l68 {p : Program} {l : Launch} {e : Env} {s : State} {m : MethodId} {args : Array Value} {below : List Frame} {meth : Method} {c : Code} {dC : Nat → ClassId} {dI : Nat → Nat → Nat} {cI cII : ClassId} {o_t : Nat} {a_t : Nat → Nat} {A : Nat → Prop} (C0 : hC p s m args meth c dC dI cI cII RX7 cX7_digest 2 (wd yX7_digest cX7_digest 2 (some .long)) (some .long)) (hA : ∀ q, s.heap.size ≤ q → A q)  {v_t : obV}    :
    ∀ (n : Nat) (y : Int64 × Int32) (r : Int64 × obV × Int64), f_X7_digest_l68  v_t  n y = some r → ∀ (H : Heap) (locs : List Loc) (ls : Array Slot), va_P (dC, dI) vwCl (wX7 o_t a_t cI v_t y.1) H → va_D A (wX7 o_t a_t cI v_t y.1) → va_S A s.heap H locs → lv_has ls 2 [(0, .ref o_t), (1, .int y.2)] → W p l e ({ frames := 8, cells := 0, slots := 0, locals := 188 } : Room) s m args below meth c H locs 0 0 (MQ below (va_Ql (fun (z : Int64) (_ : Unit) => r.1 = z) (fun _ t => va_P (dC, dI) vwCl (wX7 o_t a_t cI r.2.1 r.2.2) t.heap ∧ va_D A (wX7 o_t a_t cI r.2.1 r.2.2)) A) args s 0 0 A) (F0 m 68 ls []) := by
  obtain ⟨hx, hb, hml, hown, hts, hr, hlocks, hK, hN⟩ := C0
  refine lp_W ?_
  intro k68 ih68 y r hf H locs ls hP hD hS hl
  obtain ⟨h_t, x1⟩ := y
  have hf : f_X7_digest_b68  v_t h_t x1  k68 = some r := hf
  have hP : va_P (dC, dI) vwCl (wX7 o_t a_t cI v_t h_t) H := hP
  have hD : va_D A (wX7 o_t a_t cI v_t h_t) := hD
  have hl : lv_has ls 2 [(0, .ref o_t), (1, .int x1)] := hl
  unfold f_X7_digest_b68 at hf
  refine lv_iload_n hx hb dX7_digest_68 rfl (lv_at hl 1 rfl) ?_
  refine lv_bipush (v := 8) hx hb dX7_digest_69 (by decide) ?_
  refine lv_icmp_ge (tgt := 90) hx hb dX7_digest_71 (by decide) (fun c_71 => ?_) (fun c_71 => ?_)
  · have hf := ho_t hf c_71
    refine lv_aload_n hx hb dX7_digest_90 rfl (lv_at hl 0 rfl) ?_
    refine va_get (D := (dC, dI)) (ci := 7) (v := .long h_t) (C := RX7) (T := TX7) (N := 30) hx hb hts hw_X7 hown hK hP 0 rfl rfl 29 (by decide) (hts _ (List.mem_cons_of_mem _ mw_627)) (fun _ h9 => h9) rfl dX7_digest_91 ?_
    obtain rfl := Option.some.inj hf
    exact W.lret (v := h_t) hx hb hr (fun t ht hW => ⟨⟨_, (), rfl, rfl, by rw [ht]; exact hP, hD⟩, hS.F ht⟩) hS.2.2 dX7_digest_94 hlocks
  · have hf := ho_f hf c_71
    refine lv_aload_n hx hb dX7_digest_74 rfl (lv_at hl 0 rfl) ?_
    refine lv_aload_n hx hb dX7_digest_75 rfl (lv_at hl 0 rfl) ?_
    refine lv_iload_n hx hb dX7_digest_76 rfl (lv_at hl 1 rfl) ?_
    obtain ⟨u_77, e_77, hf⟩ := ho_b hf
    refine vp_callSi (va_runV (As := [.int x1]) (rest := [.ref o_t]) ⟨hx, hb, hml, hown, hts⟩ (c_X7_countOf l dC dI cI cII o_t a_t v_t h_t (x1) u_77 e_77) (cwV 1 hts (hw_giV mw_900 mw_902 mw_46 mw_60 mw_903) rfl rfl rfl (by decide +kernel) ⟨Nat.le_of_ble_eq_true rfl, Nat.le_of_ble_eq_true rfl⟩) ⟨pB_blind, va_recv hK hP (ci := 7) (q0 := 0) rfl rfl, fun U hU hW => ⟨rfl, pB_go hP hK hN hU hW⟩⟩ rfl rfl hl.1 rfl (lv_room (Nat.le_of_ble_eq_true rfl)) dX7_digest_77 ⟨Nat.zero_le _, Nat.zero_le _⟩).run (fun z_77 ez_77 => ?_)
    subst ez_77
    refine lv_i2l (v := (Int32.toInt64 u_77)) hx hb dX7_digest_80 rfl ?_
    obtain ⟨u_81, e_81, hf⟩ := ho_b hf
    have hFc := va_free (wc := (wX7 o_t a_t cI v_t h_t)) hD hS hA [0, 1, 2, 3, 4, 5, 6, 7, 8, 9, 10, 11, 12] rfl
    refine va_callv (va_runV (As := [.long (Int32.toInt64 u_77)]) (rest := []) ⟨hx, hb, hml, hown, hts⟩ (c_X7_say l dC dI cI cII o_t a_t v_t h_t ((Int32.toInt64 u_77)) _ u_81 e_81) (cwV 1 hts (hw_giV mw_921 mw_923 mw_50 mw_60 mw_924) rfl rfl rfl (by decide +kernel) ⟨Nat.le_of_ble_eq_true rfl, Nat.le_of_ble_eq_true rfl⟩) ⟨qB_blind, va_recv hK hP (ci := 7) (q0 := 0) rfl rfl, fun U hU hW => ⟨rfl, qB_go hP hD hK hN hU hW⟩⟩ rfl rfl hl.1 rfl (lv_room (Nat.le_of_ble_eq_true rfl)) dX7_digest_81 ⟨Nat.zero_le _, Nat.zero_le _⟩) hS (fun q _ h => hFc q h) hFc (fun u t H1 locs ht hvm hw hB hz1 hk1 hS => ?_)
    obtain ⟨hP1, hD1⟩ := hB
    rw [ht] at hP1
    clear hP hD
    generalize H1 = H at hP1 hS ⊢
    have hP : va_P (dC, dI) vwCl (wX7 o_t a_t cI v_t u_81) H := hP1
    have hD : va_D A (wX7 o_t a_t cI v_t u_81) := hD1.weaken (fun _ q _ h => hFc q.1 h)
    refine lv_iinc (v := (x1 + 1)) (lv' := [(1, .int (x1 + 1)), (0, .ref o_t)]) hx hb dX7_digest_84 hl (k := 1) rfl (hp_inc (by decide)) (by decide) rfl (fun ls hl => ?_)
    refine lv_goto (tgt := 68) hx hb dX7_digest_87 (by decide) ?_
    exact ih68 (u_81, (x1 + 1)) _ hf _ _ _ hP hD hS (lv_sub hl [1, 0] rfl)
set_option maxHeartbeats 4000000 in
set_option maxRecDepth 100000 in
theorem w_X7_digest_l41 {p : Program} {l : Launch} {e : Env} {s : State} {m : MethodId} {args : Array Value} {below : List Frame} {meth : Method} {c : Code} {dC : Nat → ClassId} {dI : Nat → Nat → Nat} {cI cII : ClassId} {o_t : Nat} {a_t : Nat → Nat} {A : Nat → Prop} (C0 : hC p s m args meth c dC dI cI cII RX7 cX7_digest 2 (wd yX7_digest cX7_digest 2 (some .long)) (some .long)) (hA : ∀ q, s.heap.size ≤ q → A q)  {v_t : obV}    :
    ∀ (n : Nat) (y : Int64 × Int32) (r : Int64 × obV × Int64), f_X7_digest_l41  v_t  n y = some r → ∀ (H : Heap) (locs : List Loc) (ls : Array Slot), va_P (dC, dI) vwCl (wX7 o_t a_t cI v_t y.1) H → va_D A (wX7 o_t a_t cI v_t y.1) → va_S A s.heap H locs → lv_has ls 2 [(0, .ref o_t), (1, .int y.2)] → W p l e ({ frames := 8, cells := 0, slots := 0, locals := 188 } : Room) s m args below meth c H locs 0 0 (MQ below (va_Ql (fun (z : Int64) (_ : Unit) => r.1 = z) (fun _ t => va_P (dC, dI) vwCl (wX7 o_t a_t cI r.2.1 r.2.2) t.heap ∧ va_D A (wX7 o_t a_t cI r.2.1 r.2.2)) A) args s 0 0 A) (F0 m 41 ls []) := by
  obtain ⟨hx, hb, hml, hown, hts, hr, hlocks, hK, hN⟩ := C0
  refine lp_W ?_
  intro k41 ih41 y r hf H locs ls hP hD hS hl
  obtain ⟨h_t, x1⟩ := y
  have hf : f_X7_digest_b41  v_t h_t x1  k41 = some r := hf
  have hP : va_P (dC, dI) vwCl (wX7 o_t a_t cI v_t h_t) H := hP
  have hD : va_D A (wX7 o_t a_t cI v_t h_t) := hD
  have hl : lv_has ls 2 [(0, .ref o_t), (1, .int x1)] := hl
  unfold f_X7_digest_b41 at hf
  refine lv_iload_n hx hb dX7_digest_41 rfl (lv_at hl 1 rfl) ?_
  refine lv_aload_n hx hb dX7_digest_42 rfl (lv_at hl 0 rfl) ?_
  refine va_get (D := (dC, dI)) (ci := 7) (v := .int (v_t.1 1)) (C := RX7) (T := TX7) (N := 30) hx hb hts hw_X7 hown hK hP 0 rfl rfl 1 (by decide) (hts _ (List.mem_cons_of_mem _ mw_599)) (fun _ h9 => h9) rfl dX7_digest_43 ?_
  refine lv_icmp_ge (tgt := 66) hx hb dX7_digest_46 (by decide) (fun c_46 => ?_) (fun c_46 => ?_)
  · have hf := ho_t hf c_46
    refine lv_iconst (v := 0) hx hb dX7_digest_66 (by decide) ?_
    refine lv_istore_n (lv' := [(1, .int 0), (0, .ref o_t)]) hx hb dX7_digest_67 rfl hl (by decide) rfl (fun ls hl => ?_)
    exact w_X7_digest_l68 ⟨hx, hb, hml, hown, hts, hr, hlocks, hK, hN⟩ hA  _ _ _ hf _ _ _ hP hD hS (lv_sub hl [1, 0] rfl)
  · have hf := ho_f hf c_46
    refine lv_aload_n hx hb dX7_digest_49 rfl (lv_at hl 0 rfl) ?_
    refine lv_aload_n hx hb dX7_digest_50 rfl (lv_at hl 0 rfl) ?_
    refine va_get (D := (dC, dI)) (ci := 7) (v := .ref (a_t 0)) (C := RX7) (T := TX7) (N := 30) hx hb hts hw_X7 hown hK hP 0 rfl rfl 0 (by decide) (hts _ (List.mem_cons_of_mem _ mw_598)) (fun _ h9 => h9) rfl dX7_digest_51 ?_
    refine lv_iload_n hx hb dX7_digest_54 rfl (lv_at hl 1 rfl) ?_
    obtain ⟨h_55, hf⟩ := ho_g hf
    refine va_iald (n := 24) (f := (v_t.2 0)) hx hb hK hP 1 0 rfl rfl h_55 dX7_digest_55 ?_
    refine lv_i2l (v := (Int32.toInt64 ((v_t.2 0) (Int32.toNatClampNeg x1)))) hx hb dX7_digest_56 rfl ?_
    obtain ⟨u_57, e_57, hf⟩ := ho_b hf
    have hFc := va_free (wc := (wX7 o_t a_t cI v_t h_t)) hD hS hA [0, 1, 2, 3, 4, 5, 6, 7, 8, 9, 10, 11, 12] rfl
    refine va_callv (va_runV (As := [.long (Int32.toInt64 ((v_t.2 0) (Int32.toNatClampNeg x1)))]) (rest := []) ⟨hx, hb, hml, hown, hts⟩ (c_X7_say l dC dI cI cII o_t a_t v_t h_t ((Int32.toInt64 ((v_t.2 0) (Int32.toNatClampNeg x1)))) _ u_57 e_57) (cwV 1 hts (hw_giV mw_921 mw_923 mw_50 mw_60 mw_924) rfl rfl rfl (by decide +kernel) ⟨Nat.le_of_ble_eq_true rfl, Nat.le_of_ble_eq_true rfl⟩) ⟨qB_blind, va_recv hK hP (ci := 7) (q0 := 0) rfl rfl, fun U hU hW => ⟨rfl, qB_go hP hD hK hN hU hW⟩⟩ rfl rfl hl.1 rfl (lv_room (Nat.le_of_ble_eq_true rfl)) dX7_digest_57 ⟨Nat.zero_le _, Nat.zero_le _⟩) hS (fun q _ h => hFc q h) hFc (fun u t H1 locs ht hvm hw hB hz1 hk1 hS => ?_)
    obtain ⟨hP1, hD1⟩ := hB
    rw [ht] at hP1
    clear hP hD
    generalize H1 = H at hP1 hS ⊢
    have hP : va_P (dC, dI) vwCl (wX7 o_t a_t cI v_t u_57) H := hP1
    have hD : va_D A (wX7 o_t a_t cI v_t u_57) := hD1.weaken (fun _ q _ h => hFc q.1 h)
    refine lv_iinc (v := (x1 + 1)) (lv' := [(1, .int (x1 + 1)), (0, .ref o_t)]) hx hb dX7_digest_60 hl (k := 1) rfl (hp_inc (by decide)) (by decide) rfl (fun ls hl => ?_)
    refine lv_goto (tgt := 41) hx hb dX7_digest_63 (by decide) ?_
    exact ih41 (u_57, (x1 + 1)) _ hf _ _ _ hP hD hS (lv_sub hl [1, 0] rfl)
set_option maxHeartbeats 4000000 in
set_option maxRecDepth 100000 in
theorem w_X7_digest_l9 {p : Program} {l : Launch} {e : Env} {s : State} {m : MethodId} {args : Array Value} {below : List Frame} {meth : Method} {c : Code} {dC : Nat → ClassId} {dI : Nat → Nat → Nat} {cI cII : ClassId} {o_t : Nat} {a_t : Nat → Nat} {A : Nat → Prop} (C0 : hC p s m args meth c dC dI cI cII RX7 cX7_digest 2 (wd yX7_digest cX7_digest 2 (some .long)) (some .long)) (hA : ∀ q, s.heap.size ≤ q → A q)      :
    ∀ (n : Nat) (y : obV × Int64 × Int32) (r : Int64 × obV × Int64), f_X7_digest_l9    n y = some r → ∀ (H : Heap) (locs : List Loc) (ls : Array Slot), va_P (dC, dI) vwCl (wX7 o_t a_t cI y.1 y.2.1) H → va_D A (wX7 o_t a_t cI y.1 y.2.1) → va_S A s.heap H locs → lv_has ls 2 [(0, .ref o_t), (1, .int y.2.2)] → W p l e ({ frames := 8, cells := 0, slots := 0, locals := 188 } : Room) s m args below meth c H locs 0 0 (MQ below (va_Ql (fun (z : Int64) (_ : Unit) => r.1 = z) (fun _ t => va_P (dC, dI) vwCl (wX7 o_t a_t cI r.2.1 r.2.2) t.heap ∧ va_D A (wX7 o_t a_t cI r.2.1 r.2.2)) A) args s 0 0 A) (F0 m 9 ls []) := by
  obtain ⟨hx, hb, hml, hown, hts, hr, hlocks, hK, hN⟩ := C0
  refine lp_W ?_
  intro k9 ih9 y r hf H locs ls hP hD hS hl
  obtain ⟨v_t, h_t, x1⟩ := y
  have hf : f_X7_digest_b9  v_t h_t x1  k9 = some r := hf
  have hP : va_P (dC, dI) vwCl (wX7 o_t a_t cI v_t h_t) H := hP
  have hD : va_D A (wX7 o_t a_t cI v_t h_t) := hD
  have hl : lv_has ls 2 [(0, .ref o_t), (1, .int x1)] := hl
  unfold f_X7_digest_b9 at hf
  refine lv_iload_n hx hb dX7_digest_9 rfl (lv_at hl 1 rfl) ?_
  refine lv_aload_n hx hb dX7_digest_10 rfl (lv_at hl 0 rfl) ?_
  refine va_get (D := (dC, dI)) (ci := 7) (v := .int (v_t.1 6)) (C := RX7) (T := TX7) (N := 30) hx hb hts hw_X7 hown hK hP 0 rfl rfl 6 (by decide) (hts _ (List.mem_cons_of_mem _ mw_604)) (fun _ h9 => h9) rfl dX7_digest_11 ?_
  refine lv_icmp_ge (tgt := 28) hx hb dX7_digest_14 (by decide) (fun c_14 => ?_) (fun c_14 => ?_)
  · have hf := ho_t hf c_14
    refine lv_aload_n hx hb dX7_digest_28 rfl (lv_at hl 0 rfl) ?_
    obtain ⟨u_29, e_29, hf⟩ := ho_b hf
    refine vp_callSi (va_runV (As := []) (rest := []) ⟨hx, hb, hml, hown, hts⟩ (c_X7_lacks l dC dI cI cII o_t a_t v_t h_t u_29 e_29) (cwV 0 hts (hw_giV mw_807 mw_809 mw_35 mw_60 mw_810) rfl rfl rfl (by decide +kernel) ⟨Nat.le_of_ble_eq_true rfl, Nat.le_of_ble_eq_true rfl⟩) ⟨pB_blind, va_recv hK hP (ci := 7) (q0 := 0) rfl rfl, fun U hU hW => ⟨rfl, pB_go hP hK hN hU hW⟩⟩ rfl rfl hl.1 rfl (lv_room (Nat.le_of_ble_eq_true rfl)) dX7_digest_29 ⟨Nat.zero_le _, Nat.zero_le _⟩).run (fun z_29 ez_29 => ?_)
    subst ez_29
    refine lv_if_ne (tgt := 39) hx hb dX7_digest_32 (by decide) (fun c_32 => ?_) (fun c_32 => ?_)
    · have hf := ho_f hf c_32
      refine lv_iconst (v := 0) hx hb dX7_digest_39 (by decide) ?_
      refine lv_istore_n (lv' := [(1, .int 0), (0, .ref o_t)]) hx hb dX7_digest_40 rfl hl (by decide) rfl (fun ls hl => ?_)
      exact w_X7_digest_l41 ⟨hx, hb, hml, hown, hts, hr, hlocks, hK, hN⟩ hA  _ _ _ hf _ _ _ hP hD hS (lv_sub hl [1, 0] rfl)
    · have hf := ho_t hf c_32
      refine lv_aload_n hx hb dX7_digest_35 rfl (lv_at hl 0 rfl) ?_
      obtain ⟨u_36, e_36, hf⟩ := ho_b hf
      have hFc := va_free (wc := (wX7 o_t a_t cI v_t h_t)) hD hS hA [0, 1, 2, 3, 4, 5, 6, 7, 8, 9, 10, 11, 12] rfl
      refine va_callv (va_runV (As := []) (rest := []) ⟨hx, hb, hml, hown, hts⟩ (c_X7_sayDay l dC dI cI cII o_t a_t v_t h_t _ u_36 e_36) (cwV 0 hts (hw_giV mw_926 mw_928 mw_51 mw_60 mw_929) rfl rfl rfl (by decide +kernel) ⟨Nat.le_of_ble_eq_true rfl, Nat.le_of_ble_eq_true rfl⟩) ⟨qB_blind, va_recv hK hP (ci := 7) (q0 := 0) rfl rfl, fun U hU hW => ⟨rfl, qB_go hP hD hK hN hU hW⟩⟩ rfl rfl hl.1 rfl (lv_room (Nat.le_of_ble_eq_true rfl)) dX7_digest_36 ⟨Nat.zero_le _, Nat.zero_le _⟩) hS (fun q _ h => hFc q h) hFc (fun u t H1 locs ht hvm hw hB hz1 hk1 hS => ?_)
      obtain ⟨hP1, hD1⟩ := hB
      rw [ht] at hP1
      clear hP hD
      generalize H1 = H at hP1 hS ⊢
      have hP : va_P (dC, dI) vwCl (wX7 o_t a_t cI u_36.1 u_36.2) H := hP1
      have hD : va_D A (wX7 o_t a_t cI u_36.1 u_36.2) := hD1.weaken (fun _ q _ h => hFc q.1 h)
      refine lv_iconst (v := 0) hx hb dX7_digest_39 (by decide) ?_
      refine lv_istore_n (lv' := [(1, .int 0), (0, .ref o_t)]) hx hb dX7_digest_40 rfl hl (by decide) rfl (fun ls hl => ?_)
      exact w_X7_digest_l41 ⟨hx, hb, hml, hown, hts, hr, hlocks, hK, hN⟩ hA  _ _ _ hf _ _ _ hP hD hS (lv_sub hl [1, 0] rfl)
  · have hf := ho_f hf c_14
    refine lv_aload_n hx hb dX7_digest_17 rfl (lv_at hl 0 rfl) ?_
    refine lv_iload_n hx hb dX7_digest_18 rfl (lv_at hl 1 rfl) ?_
    obtain ⟨u_19, e_19, hf⟩ := ho_b hf
    have hFc := va_free (wc := (wX7 o_t a_t cI v_t h_t)) hD hS hA [0, 1, 2, 3, 4, 5, 6, 7, 8, 9, 10, 11, 12] rfl
    refine va_callv (va_runV (As := [.int x1]) (rest := []) ⟨hx, hb, hml, hown, hts⟩ (c_X7_sayPilgrim l dC dI cI cII o_t a_t v_t h_t (x1) _ u_19 e_19) (cwV 1 hts (hw_giV mw_917 mw_919 mw_49 mw_60 mw_920) rfl rfl rfl (by decide +kernel) ⟨Nat.le_of_ble_eq_true rfl, Nat.le_of_ble_eq_true rfl⟩) ⟨qB_blind, va_recv hK hP (ci := 7) (q0 := 0) rfl rfl, fun U hU hW => ⟨rfl, qB_go hP hD hK hN hU hW⟩⟩ rfl rfl hl.1 rfl (lv_room (Nat.le_of_ble_eq_true rfl)) dX7_digest_19 ⟨Nat.zero_le _, Nat.zero_le _⟩) hS (fun q _ h => hFc q h) hFc (fun u t H1 locs ht hvm hw hB hz1 hk1 hS => ?_)
    obtain ⟨hP1, hD1⟩ := hB
    rw [ht] at hP1
    clear hP hD
    generalize H1 = H at hP1 hS ⊢
    have hP : va_P (dC, dI) vwCl (wX7 o_t a_t cI u_19.1 u_19.2) H := hP1
    have hD : va_D A (wX7 o_t a_t cI u_19.1 u_19.2) := hD1.weaken (fun _ q _ h => hFc q.1 h)
    refine lv_iinc (v := (x1 + 1)) (lv' := [(1, .int (x1 + 1)), (0, .ref o_t)]) hx hb dX7_digest_22 hl (k := 1) rfl (hp_inc (by decide)) (by decide) rfl (fun ls hl => ?_)
    refine lv_goto (tgt := 9) hx hb dX7_digest_25 (by decide) ?_
    exact ih9 (u_19.1, u_19.2, (x1 + 1)) _ hf _ _ _ hP hD hS (lv_sub hl [1, 0] rfl)
set_option maxHeartbeats 4000000 in
set_option maxRecDepth 100000 in
theorem c_X7_digest (l : Launch) (dC : Nat → ClassId) (dI : Nat → Nat → Nat) (cI cII : ClassId) (o_t : Nat) (a_t : Nat → Nat) (v_t : obV) (h_t : Int64)  (sz : Nat) (r : Int64 × obV × Int64) (hf : f_X7_digest  v_t h_t  = some r) :
    Met l yX7_digest (wd yX7_digest cX7_digest 2 (some .long)) ({ frames := 8, cells := 0, slots := 0, locals := 188 } : Room) (va_Pc [.ref o_t] (qB (dC, dI) vwCl (wX7 o_t a_t cI v_t h_t) (hTY cI cII) sz)) (va_Ql (fun (z : Int64) (_ : Unit) => r.1 = z) (fun _ t => va_P (dC, dI) vwCl (wX7 o_t a_t cI r.2.1 r.2.2) t.heap ∧ va_D (va_A (wX7 o_t a_t cI v_t h_t) sz) (wX7 o_t a_t cI r.2.1 r.2.2)) (va_A (wX7 o_t a_t cI v_t h_t) sz)) 0 0 (va_A (wX7 o_t a_t cI v_t h_t) sz) := by
  refine Met.ofW (cc := cX7_digest) (maxL := 2) (ret := (some .long)) (by decide) rfl ?_
  intro p e s m args below meth c s₁ B hml hv
  obtain ⟨rfl, hsz, hD0, hP, hK, hN⟩ := hv
  have hx := B.exec
  have hb := B.bytes
  have hr := B.returns
  have hts := atoms_spec (ws := (wd yX7_digest cX7_digest 2 (some .long))) B.pre
  have hown : s.vm.findClass RX7 = some m.cls := findClass_of_methodNamed B.named
  have hlocks := B.notSynchronized
  subst hsz
  have hD := hD0.self (sz := s.heap.size)
  generalize hAe : va_A (wX7 o_t a_t cI v_t h_t) s.heap.size = A at hD ⊢
  have hA : ∀ q : Nat, s.heap.size ≤ q → A q := fun q h => by rw [← hAe]; exact Or.inr h
  have hS : va_S A s.heap s.heap [] := va_S.rf
  have hl := lv_entry ([.ref o_t]) (n := 2) (Nat.le_of_ble_eq_true rfl)
  rw [lg_entry_eq]
  generalize (lg_sl ([.ref o_t]) ++ List.replicate (2 - (lg_sl ([.ref o_t])).length) Slot.unset).toArray = ls at hl ⊢
  have hl : lv_has ls 2 [(0, .ref o_t)] := hl
  clear hAe hD0
  unfold f_X7_digest at hf
  refine lv_aload_n hx hb dX7_digest_0 rfl (lv_at hl 0 rfl) ?_
  refine lv_ldc2 (v := 991) hx hb hown (hts _ (List.mem_cons_of_mem _ mw_916)) dX7_digest_1 ?_
  refine va_put (D := (dC, dI)) (ci := 7) (v := .long 991) (ty := .long) (C := RX7) (T := TX7) (N := 30) hx hb hts hw_X7 tyX7 tyX7_ok nmX7 hown hK hP hD hS 0 rfl rfl 29 (by decide) (hts _ (List.mem_cons_of_mem _ mw_627)) (fun _ h9 => h9) rfl (by decide +kernel) rfl rfl (Nat.le_of_ble_eq_true rfl) dX7_digest_4 (fun H locs hP hD hS => ?_)
  have hP : va_P (dC, dI) vwCl (wX7 o_t a_t cI v_t 991) H := hP
  have hD : va_D A (wX7 o_t a_t cI v_t 991) := hD
  refine lv_iconst (v := 0) hx hb dX7_digest_7 (by decide) ?_
  refine lv_istore_n (lv' := [(1, .int 0), (0, .ref o_t)]) hx hb dX7_digest_8 rfl hl (by decide) rfl (fun ls hl => ?_)
  exact w_X7_digest_l9 ⟨hx, hb, hml, hown, hts, hr, hlocks, hK, hN⟩ hA  _ _ _ hf _ _ _ hP hD hS (lv_sub hl [1, 0] rfl)
