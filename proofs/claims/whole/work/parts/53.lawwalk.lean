set_option maxHeartbeats 4000000 in
set_option maxRecDepth 100000 in
theorem law_turn {p : Program} {l : Launch} {e : Env} {s : State} {m : MethodId} {below : List Frame} {meth : Method} {c : Code} {dC : Nat → ClassId} {dI : Nat → Nat → Nat} {cI cII : ClassId} {o_x : Nat} {a_x : Nat → Nat} {a_x_page : Nat → Nat} {a_x_now : Nat → Nat} {a_x_now_seen : Nat → Nat} {a_x_kept : Nat → Nat} {a_x_kept_seen : Nat → Nat} {a_x_today : Nat → Nat} {a_x_trials : Nat → Nat} {r_x_trials : Nat → Nat} {a_x_trials_day : Nat → Nat} {a_x_best : Nat → Nat} {o_m : Nat} {a_m : Nat → Nat} {A : Nat → Prop} {b L : Nat} {xs : Nat → Int32} (C0 : hC p s m #[Value.ref b] meth c dC dI cI cII RL cL_law 4 (Cond.initialized RL :: hw_all) ret) (hA : ∀ q, s.heap.size ≤ q → A q) (hX : va_X b L xs s s.heap) (hbl : b < s.heap.size) (hbA : ¬ A b) (hAn : ∀ q, A q → s.heap.size ≤ q) (hL : L ≤ 256) {t : Nat} (ht : t < 1000) {v_x : obV} {v_x_page : obV} {v_x_now : obV} {v_x_now_seen : obV} {v_x_kept : obV} {v_x_kept_seen : obV} {v_x_today : obV} {v_x_trials : obV} {w_x_trials : Nat → Nat → Int32} {v_x_trials_day : obV} {v_x_best : obV} {v_m : obV} {h_m : Int64} (hR : Rel t v_x v_x_page v_x_now v_x_now_seen v_x_kept v_x_kept_seen v_m) {x3 : Int32} (h3 : x3 = nI (4 * t)) {H : Heap} {locs : List Loc} {ls : Array Slot} (hP : va_P (dC, dI) vwCl (wX6 o_x a_x cI v_x ++ (wX3 (a_x 0) a_x_page cI v_x_page ++ (wX1 (a_x 1) a_x_now cI v_x_now ++ (wX4 (a_x_now 3) a_x_now_seen cI v_x_now_seen ++ (wX1 (a_x 2) a_x_kept cI v_x_kept ++ (wX4 (a_x_kept 3) a_x_kept_seen cI v_x_kept_seen ++ (wX2 (a_x 3) a_x_today cI v_x_today ++ (wX5 (a_x 4) a_x_trials r_x_trials cI cII v_x_trials w_x_trials ++ (wX2 (a_x_trials 0) a_x_trials_day cI v_x_trials_day ++ (wX0 (a_x 5) a_x_best cI v_x_best ++ (wX7 o_m a_m cI v_m h_m))))))))))) H) (hD : va_D A (wX6 o_x a_x cI v_x ++ (wX3 (a_x 0) a_x_page cI v_x_page ++ (wX1 (a_x 1) a_x_now cI v_x_now ++ (wX4 (a_x_now 3) a_x_now_seen cI v_x_now_seen ++ (wX1 (a_x 2) a_x_kept cI v_x_kept ++ (wX4 (a_x_kept 3) a_x_kept_seen cI v_x_kept_seen ++ (wX2 (a_x 3) a_x_today cI v_x_today ++ (wX5 (a_x 4) a_x_trials r_x_trials cI cII v_x_trials w_x_trials ++ (wX2 (a_x_trials 0) a_x_trials_day cI v_x_trials_day ++ (wX0 (a_x 5) a_x_best cI v_x_best ++ (wX7 o_m a_m cI v_m h_m)))))))))))) (hS : va_S A s.heap H locs) (hl : lv_has ls 4 [(0, .ref b), (1, .ref o_x), (2, .ref o_m), (3, .int x3)]) (kk : 4 * t + 4 ≤ L → ∀ (v_x : obV) (v_x_page : obV) (v_x_now : obV) (v_x_now_seen : obV) (v_x_kept : obV) (v_x_kept_seen : obV) (v_x_today : obV) (v_x_trials : obV) (w_x_trials : Nat → Nat → Int32) (v_x_trials_day : obV) (v_x_best : obV) (v_m : obV) (h_m : Int64) (H : Heap) (locs : List Loc) (ls : Array Slot) (x3 : Int32), x3 = nI (4 * (t + 1)) → Rel (t + 1) v_x v_x_page v_x_now v_x_now_seen v_x_kept v_x_kept_seen v_m → va_P (dC, dI) vwCl (wX6 o_x a_x cI v_x ++ (wX3 (a_x 0) a_x_page cI v_x_page ++ (wX1 (a_x 1) a_x_now cI v_x_now ++ (wX4 (a_x_now 3) a_x_now_seen cI v_x_now_seen ++ (wX1 (a_x 2) a_x_kept cI v_x_kept ++ (wX4 (a_x_kept 3) a_x_kept_seen cI v_x_kept_seen ++ (wX2 (a_x 3) a_x_today cI v_x_today ++ (wX5 (a_x 4) a_x_trials r_x_trials cI cII v_x_trials w_x_trials ++ (wX2 (a_x_trials 0) a_x_trials_day cI v_x_trials_day ++ (wX0 (a_x 5) a_x_best cI v_x_best ++ (wX7 o_m a_m cI v_m h_m))))))))))) H → va_D A (wX6 o_x a_x cI v_x ++ (wX3 (a_x 0) a_x_page cI v_x_page ++ (wX1 (a_x 1) a_x_now cI v_x_now ++ (wX4 (a_x_now 3) a_x_now_seen cI v_x_now_seen ++ (wX1 (a_x 2) a_x_kept cI v_x_kept ++ (wX4 (a_x_kept 3) a_x_kept_seen cI v_x_kept_seen ++ (wX2 (a_x 3) a_x_today cI v_x_today ++ (wX5 (a_x 4) a_x_trials r_x_trials cI cII v_x_trials w_x_trials ++ (wX2 (a_x_trials 0) a_x_trials_day cI v_x_trials_day ++ (wX0 (a_x 5) a_x_best cI v_x_best ++ (wX7 o_m a_m cI v_m h_m))))))))))) → va_S A s.heap H locs → lv_has ls 4 [(0, .ref b), (1, .ref o_x), (2, .ref o_m), (3, .int x3)] → W p l e room_1 s m #[Value.ref b] below meth c H locs 57 732 (lw_Z below #[Value.ref b] s) (F0 m 18 ls [])) : W p l e room_1 s m #[Value.ref b] below meth c H locs 57 732 (lw_Z below #[Value.ref b] s) (F0 m 18 ls []) := by
  obtain ⟨hx, hb, hml, hown, hts, hr, hlocks, hK, hN⟩ := id C0
  refine lv_iload_n hx hb dL_law_18 rfl (lv_at hl 3 rfl) ?_
  refine lv_aload_n hx hb dL_law_19 rfl (lv_at hl 0 rfl) ?_
  refine va_slen hx hb hX hbl hbA hS dL_law_20 ?_
  refine lv_iconst (v := 4) hx hb dL_law_21 (by decide) ?_
  refine lv_isub hx hb dL_law_22 ?_
  have hsub : (Int32.ofNat L - 4).toInt = (L : Int) - 4 := pk_sub_toInt (a := L) (b := 4) (by omega) (by decide)
  have h3i : x3.toInt = ((4 * t : Nat) : Int) := by rw [h3]; exact nI_toInt (by omega)
  refine lv_icmp_gt (tgt := 605) hx hb dL_law_23 (by decide) (fun c_23 => ?_) (fun c_23 => ?_)
  · refine lv_iconst (v := 1) hx hb dL_law_605 (by decide) ?_
    refine va_forget (fun q hq => hAn _ (hS.2.2 q hq)) ?_
    refine W.widen (k := 600000) (n := 7302250) (Nat.le_of_ble_eq_true rfl) (Nat.le_of_ble_eq_true rfl) ?_
    exact lw_ret hx hb hr hlocks dL_law_606
  · have h4 : 4 * t + 4 ≤ L := by
      rw [Int32.lt_iff_toInt_lt, hsub, h3i] at c_23
      omega
    have hj0 : vp_in x3 L := by rw [h3]; exact vp_in_nI (by omega) (by omega)
    have hj1 : vp_in (x3 + 1) L := by rw [h3, nI_1]; exact vp_in_nI (by omega) (by omega)
    have hj2 : vp_in (x3 + 2) L := by rw [h3, q_l2, nI_add]; exact vp_in_nI (by omega) (by omega)
    have hj3 : vp_in (x3 + 3) L := by rw [h3, q_l3, nI_add]; exact vp_in_nI (by omega) (by omega)
    have tail : ∀ (v_x : obV) (v_x_page : obV) (v_x_now : obV) (v_x_now_seen : obV) (v_x_kept : obV) (v_x_kept_seen : obV) (v_x_today : obV) (v_x_trials : obV) (w_x_trials : Nat → Nat → Int32) (v_x_trials_day : obV) (v_x_best : obV) (v_m : obV) (h_m : Int64) (H : Heap) (locs : List Loc) (ls : Array Slot), Rel (t + 1) v_x v_x_page v_x_now v_x_now_seen v_x_kept v_x_kept_seen v_m → va_P (dC, dI) vwCl (wX6 o_x a_x cI v_x ++ (wX3 (a_x 0) a_x_page cI v_x_page ++ (wX1 (a_x 1) a_x_now cI v_x_now ++ (wX4 (a_x_now 3) a_x_now_seen cI v_x_now_seen ++ (wX1 (a_x 2) a_x_kept cI v_x_kept ++ (wX4 (a_x_kept 3) a_x_kept_seen cI v_x_kept_seen ++ (wX2 (a_x 3) a_x_today cI v_x_today ++ (wX5 (a_x 4) a_x_trials r_x_trials cI cII v_x_trials w_x_trials ++ (wX2 (a_x_trials 0) a_x_trials_day cI v_x_trials_day ++ (wX0 (a_x 5) a_x_best cI v_x_best ++ (wX7 o_m a_m cI v_m h_m))))))))))) H → va_D A (wX6 o_x a_x cI v_x ++ (wX3 (a_x 0) a_x_page cI v_x_page ++ (wX1 (a_x 1) a_x_now cI v_x_now ++ (wX4 (a_x_now 3) a_x_now_seen cI v_x_now_seen ++ (wX1 (a_x 2) a_x_kept cI v_x_kept ++ (wX4 (a_x_kept 3) a_x_kept_seen cI v_x_kept_seen ++ (wX2 (a_x 3) a_x_today cI v_x_today ++ (wX5 (a_x 4) a_x_trials r_x_trials cI cII v_x_trials w_x_trials ++ (wX2 (a_x_trials 0) a_x_trials_day cI v_x_trials_day ++ (wX0 (a_x 5) a_x_best cI v_x_best ++ (wX7 o_m a_m cI v_m h_m))))))))))) → va_S A s.heap H locs → lv_has ls 4 [(0, .ref b), (1, .ref o_x), (2, .ref o_m), (3, .int x3)] → W p l e room_1 s m #[Value.ref b] below meth c H locs 57 732 (lw_Z below #[Value.ref b] s) (F0 m 599 ls []) := by
      intro v_x v_x_page v_x_now v_x_now_seen v_x_kept v_x_kept_seen v_x_today v_x_trials w_x_trials v_x_trials_day v_x_best v_m h_m H locs ls hR hP hD hS hl
      refine lv_iinc (v := x3 + 4) (lv' := [(3, .int (x3 + 4)), (0, .ref b), (1, .ref o_x), (2, .ref o_m)]) hx hb dL_law_599 hl (k := 3) rfl (hp_inc (by decide)) (by decide) rfl (fun ls hl => ?_)
      refine lv_goto (tgt := 18) hx hb dL_law_602 (by decide) ?_
      exact kk h4 v_x v_x_page v_x_now v_x_now_seen v_x_kept v_x_kept_seen v_x_today v_x_trials w_x_trials v_x_trials_day v_x_best v_m h_m H locs ls (x3 + 4) (by rw [h3, q_l4, nI_add]; rfl) hR hP hD hS (lv_sub hl [1, 2, 3, 0] rfl)
    refine lv_aload_n hx hb dL_law_26 rfl (lv_at hl 0 rfl) ?_
    refine lv_iload_n hx hb dL_law_27 rfl (lv_at hl 3 rfl) ?_
    refine va_sld hx hb hX hbl hbA hS hj0 dL_law_28 ?_
    refine lv_bipush (v := 31) hx hb dL_law_29 (by decide) ?_
    refine lv_iand hx hb dL_law_31 ?_
    refine lv_topi (fun z ez => ?_)
    by_cases c_0 : z = 0
    · refine lv_tableIn (tgt := 128) hx hb dL_law_32 (by rw [c_0] <;> decide) (by rw [c_0] <;> decide) (by rw [c_0] <;> rfl) (by decide) ?_
      exact lw_op_letter C0 hA hX hbl hbA ht hR hj1 hj2 hj3 hP hD hS hl tail
    by_cases c_1 : z = 1
    · refine lv_tableIn (tgt := 151) hx hb dL_law_32 (by rw [c_1] <;> decide) (by rw [c_1] <;> decide) (by rw [c_1] <;> rfl) (by decide) ?_
      exact lw_op_blank C0 hA hX hbl hbA ht hR hj1 hj2 hj3 hP hD hS hl tail
    by_cases c_2 : z = 2
    · refine lv_tableIn (tgt := 164) hx hb dL_law_32 (by rw [c_2] <;> decide) (by rw [c_2] <;> decide) (by rw [c_2] <;> rfl) (by decide) ?_
      exact lw_op_fault C0 hA hX hbl hbA ht hR hj1 hj2 hj3 hP hD hS hl tail
    by_cases c_3 : z = 3
    · refine lv_tableIn (tgt := 177) hx hb dL_law_32 (by rw [c_3] <;> decide) (by rw [c_3] <;> decide) (by rw [c_3] <;> rfl) (by decide) ?_
      exact lw_op_cave C0 hA hX hbl hbA ht hR hj1 hj2 hj3 hP hD hS hl tail
    by_cases c_4 : z = 4
    · refine lv_tableIn (tgt := 190) hx hb dL_law_32 (by rw [c_4] <;> decide) (by rw [c_4] <;> decide) (by rw [c_4] <;> rfl) (by decide) ?_
      exact lw_op_pilgrim C0 hA hX hbl hbA ht hR hj1 hj2 hj3 hP hD hS hl tail
    by_cases c_5 : z = 5
    · refine lv_tableIn (tgt := 223) hx hb dL_law_32 (by rw [c_5] <;> decide) (by rw [c_5] <;> decide) (by rw [c_5] <;> rfl) (by decide) ?_
      exact lw_op_as C0 hA hX hbl hbA ht hR hj1 hj2 hj3 hP hD hS hl tail
    by_cases c_6 : z = 6
    · refine lv_tableIn (tgt := 256) hx hb dL_law_32 (by rw [c_6] <;> decide) (by rw [c_6] <;> decide) (by rw [c_6] <;> rfl) (by decide) ?_
      exact lw_op_come C0 hA hX hbl hbA ht hR hj1 hj2 hj3 hP hD hS hl tail
    by_cases c_7 : z = 7
    · refine lv_tableIn (tgt := 289) hx hb dL_law_32 (by rw [c_7] <;> decide) (by rw [c_7] <;> decide) (by rw [c_7] <;> rfl) (by decide) ?_
      exact lw_op_trouble C0 hA hX hbl hbA ht hR hj1 hj2 hj3 hP hD hS hl tail
    by_cases c_8 : z = 8
    · refine lv_tableIn (tgt := 322) hx hb dL_law_32 (by rw [c_8] <;> decide) (by rw [c_8] <;> decide) (by rw [c_8] <;> rfl) (by decide) ?_
      exact lw_op_patience C0 hA hX hbl hbA ht hR hj1 hj2 hj3 hP hD hS hl tail
    by_cases c_9 : z = 9
    · refine lv_tableIn (tgt := 345) hx hb dL_law_32 (by rw [c_9] <;> decide) (by rw [c_9] <;> decide) (by rw [c_9] <;> rfl) (by decide) ?_
      exact lw_op_day C0 hA hX hbl hbA ht hR hj1 hj2 hj3 hP hD hS hl tail
    by_cases c_10 : z = 10
    · refine lv_tableIn (tgt := 368) hx hb dL_law_32 (by rw [c_10] <;> decide) (by rw [c_10] <;> decide) (by rw [c_10] <;> rfl) (by decide) ?_
      exact lw_op_waiting C0 hA hX hbl hbA ht hR hj1 hj2 hj3 hP hD hS hl tail
    by_cases c_11 : z = 11
    · refine lv_tableIn (tgt := 391) hx hb dL_law_32 (by rw [c_11] <;> decide) (by rw [c_11] <;> decide) (by rw [c_11] <;> rfl) (by decide) ?_
      exact lw_op_order C0 hA hX hbl hbA ht hR hj1 hj2 hj3 hP hD hS hl tail
    by_cases c_12 : z = 12
    · refine lv_tableIn (tgt := 414) hx hb dL_law_32 (by rw [c_12] <;> decide) (by rw [c_12] <;> decide) (by rw [c_12] <;> rfl) (by decide) ?_
      exact lw_op_fit C0 hA hX hbl hbA ht hR hj1 hj2 hj3 hP hD hS hl tail
    by_cases c_13 : z = 13
    · refine lv_tableIn (tgt := 447) hx hb dL_law_32 (by rw [c_13] <;> decide) (by rw [c_13] <;> decide) (by rw [c_13] <;> rfl) (by decide) ?_
      exact lw_op_see C0 hA hX hbl hbA ht hR hj1 hj2 hj3 hP hD hS hl tail
    by_cases c_14 : z = 14
    · refine lv_tableIn (tgt := 480) hx hb dL_law_32 (by rw [c_14] <;> decide) (by rw [c_14] <;> decide) (by rw [c_14] <;> rfl) (by decide) ?_
      exact lw_op_forget C0 hA hX hbl hbA ht hR hj1 hj2 hj3 hP hD hS hl tail
    by_cases c_15 : z = 15
    · refine lv_tableIn (tgt := 493) hx hb dL_law_32 (by rw [c_15] <;> decide) (by rw [c_15] <;> decide) (by rw [c_15] <;> rfl) (by decide) ?_
      exact lw_op_seasons C0 hA hX hbl hbA ht hR hj1 hj2 hj3 hP hD hS hl tail
    by_cases c_16 : z = 16
    · refine lv_tableIn (tgt := 536) hx hb dL_law_32 (by rw [c_16] <;> decide) (by rw [c_16] <;> decide) (by rw [c_16] <;> rfl) (by decide) ?_
      exact lw_op_image C0 hA hX hbl hbA ht hR hj1 hj2 hj3 hP hD hS hl tail
    by_cases c_17 : z = 17
    · refine lv_tableIn (tgt := 549) hx hb dL_law_32 (by rw [c_17] <;> decide) (by rw [c_17] <;> decide) (by rw [c_17] <;> rfl) (by decide) ?_
      exact lw_op_restore C0 hA hX hbl hbA ht hR hj1 hj2 hj3 hP hD hS hl tail
    by_cases c_18 : z = 18
    · refine lv_tableIn (tgt := 562) hx hb dL_law_32 (by rw [c_18] <;> decide) (by rw [c_18] <;> decide) (by rw [c_18] <;> rfl) (by decide) ?_
      exact lw_op_count C0 hA hX hbl hbA ht hR hj1 hj2 hj3 hP hD hS hl tail
    by_cases c_19 : z = 19
    · refine lv_tableIn (tgt := 585) hx hb dL_law_32 (by rw [c_19] <;> decide) (by rw [c_19] <;> decide) (by rw [c_19] <;> rfl) (by decide) ?_
      exact lw_op_digest C0 hA hX hbl hbA ht hR hj1 hj2 hj3 hP hD hS hl tail
    refine lv_tableOut (tgt := 599) hx hb dL_law_32 (by have e0 := lv_neT c_0 (a := 0) (by decide); have e1 := lv_neT c_1 (a := 1) (by decide); have e2 := lv_neT c_2 (a := 2) (by decide); have e3 := lv_neT c_3 (a := 3) (by decide); have e4 := lv_neT c_4 (a := 4) (by decide); have e5 := lv_neT c_5 (a := 5) (by decide); have e6 := lv_neT c_6 (a := 6) (by decide); have e7 := lv_neT c_7 (a := 7) (by decide); have e8 := lv_neT c_8 (a := 8) (by decide); have e9 := lv_neT c_9 (a := 9) (by decide); have e10 := lv_neT c_10 (a := 10) (by decide); have e11 := lv_neT c_11 (a := 11) (by decide); have e12 := lv_neT c_12 (a := 12) (by decide); have e13 := lv_neT c_13 (a := 13) (by decide); have e14 := lv_neT c_14 (a := 14) (by decide); have e15 := lv_neT c_15 (a := 15) (by decide); have e16 := lv_neT c_16 (a := 16) (by decide); have e17 := lv_neT c_17 (a := 17) (by decide); have e18 := lv_neT c_18 (a := 18) (by decide); have e19 := lv_neT c_19 (a := 19) (by decide); omega) (by decide) ?_
    exact tail v_x v_x_page v_x_now v_x_now_seen v_x_kept v_x_kept_seen v_x_today v_x_trials w_x_trials v_x_trials_day v_x_best v_m h_m H locs ls hR.up hP hD hS hl
set_option maxHeartbeats 4000000 in
set_option maxRecDepth 100000 in
theorem law_loop {p : Program} {l : Launch} {e : Env} {s : State} {m : MethodId} {below : List Frame} {meth : Method} {c : Code} {dC : Nat → ClassId} {dI : Nat → Nat → Nat} {cI cII : ClassId} {o_x : Nat} {a_x : Nat → Nat} {a_x_page : Nat → Nat} {a_x_now : Nat → Nat} {a_x_now_seen : Nat → Nat} {a_x_kept : Nat → Nat} {a_x_kept_seen : Nat → Nat} {a_x_today : Nat → Nat} {a_x_trials : Nat → Nat} {r_x_trials : Nat → Nat} {a_x_trials_day : Nat → Nat} {a_x_best : Nat → Nat} {o_m : Nat} {a_m : Nat → Nat} {A : Nat → Prop} {b L : Nat} {xs : Nat → Int32} (C0 : hC p s m #[Value.ref b] meth c dC dI cI cII RL cL_law 4 (Cond.initialized RL :: hw_all) ret) (hA : ∀ q, s.heap.size ≤ q → A q) (hX : va_X b L xs s s.heap) (hbl : b < s.heap.size) (hbA : ¬ A b) (hAn : ∀ q, A q → s.heap.size ≤ q) (hL : L ≤ 256) : ∀ (n t : Nat), 65 ≤ t + n → t + n < 1000 → ∀ (v_x : obV) (v_x_page : obV) (v_x_now : obV) (v_x_now_seen : obV) (v_x_kept : obV) (v_x_kept_seen : obV) (v_x_today : obV) (v_x_trials : obV) (w_x_trials : Nat → Nat → Int32) (v_x_trials_day : obV) (v_x_best : obV) (v_m : obV) (h_m : Int64) (H : Heap) (locs : List Loc) (ls : Array Slot) (x3 : Int32), x3 = nI (4 * t) → Rel t v_x v_x_page v_x_now v_x_now_seen v_x_kept v_x_kept_seen v_m → va_P (dC, dI) vwCl (wX6 o_x a_x cI v_x ++ (wX3 (a_x 0) a_x_page cI v_x_page ++ (wX1 (a_x 1) a_x_now cI v_x_now ++ (wX4 (a_x_now 3) a_x_now_seen cI v_x_now_seen ++ (wX1 (a_x 2) a_x_kept cI v_x_kept ++ (wX4 (a_x_kept 3) a_x_kept_seen cI v_x_kept_seen ++ (wX2 (a_x 3) a_x_today cI v_x_today ++ (wX5 (a_x 4) a_x_trials r_x_trials cI cII v_x_trials w_x_trials ++ (wX2 (a_x_trials 0) a_x_trials_day cI v_x_trials_day ++ (wX0 (a_x 5) a_x_best cI v_x_best ++ (wX7 o_m a_m cI v_m h_m))))))))))) H → va_D A (wX6 o_x a_x cI v_x ++ (wX3 (a_x 0) a_x_page cI v_x_page ++ (wX1 (a_x 1) a_x_now cI v_x_now ++ (wX4 (a_x_now 3) a_x_now_seen cI v_x_now_seen ++ (wX1 (a_x 2) a_x_kept cI v_x_kept ++ (wX4 (a_x_kept 3) a_x_kept_seen cI v_x_kept_seen ++ (wX2 (a_x 3) a_x_today cI v_x_today ++ (wX5 (a_x 4) a_x_trials r_x_trials cI cII v_x_trials w_x_trials ++ (wX2 (a_x_trials 0) a_x_trials_day cI v_x_trials_day ++ (wX0 (a_x 5) a_x_best cI v_x_best ++ (wX7 o_m a_m cI v_m h_m))))))))))) → va_S A s.heap H locs → lv_has ls 4 [(0, .ref b), (1, .ref o_x), (2, .ref o_m), (3, .int x3)] → W p l e room_1 s m #[Value.ref b] below meth c H locs 57 732 (lw_Z below #[Value.ref b] s) (F0 m 18 ls []) := by
  intro n
  induction n with
  | zero =>
    intro t h1 h2 v_x v_x_page v_x_now v_x_now_seen v_x_kept v_x_kept_seen v_x_today v_x_trials w_x_trials v_x_trials_day v_x_best v_m h_m H locs ls x3 h3 hR hP hD hS hl
    exact law_turn C0 hA hX hbl hbA hAn hL (by omega) hR h3 hP hD hS hl (fun h => by omega)
  | succ n ih =>
    intro t h1 h2 v_x v_x_page v_x_now v_x_now_seen v_x_kept v_x_kept_seen v_x_today v_x_trials w_x_trials v_x_trials_day v_x_best v_m h_m H locs ls x3 h3 hR hP hD hS hl
    exact law_turn C0 hA hX hbl hbA hAn hL (by omega) hR h3 hP hD hS hl (fun _ => ih (t + 1) (by omega) (by omega))
theorem rel_0 : Rel 0 v0 v0 v0 v0 v0 v0 (oF v0 23 (-1)) := ⟨⟨0, fun _ => 0, ⟨nI_0.symm, fun j hj => absurd hj (Nat.not_lt_zero _)⟩, ⟨nI_0.symm, fun j hj => absurd hj (Nat.not_lt_zero _)⟩, ⟨by decide, fun j hj => absurd hj (Nat.not_lt_zero _)⟩⟩, ⟨0, fun _ => 0, fun _ => 0, ⟨nI_0.symm, fun j hj => absurd hj (Nat.not_lt_zero _)⟩, ⟨nI_0.symm, fun j hj => absurd hj (Nat.not_lt_zero _)⟩, ⟨by decide, fun j hj => absurd hj (Nat.not_lt_zero _)⟩⟩, 0, 0, ⟨fun _ => 0, fun _ => 0, fun _ => 0, 0, 0, ⟨nI_0.symm, nI_0.symm, rfl, fun j hj => absurd hj (Nat.not_lt_zero _)⟩, ⟨nI_0.symm, nI_0.symm, rfl, fun j hj => absurd hj (Nat.not_lt_zero _)⟩, ⟨by decide, by decide, fun j hj => absurd hj (Nat.not_lt_zero _)⟩⟩, Nat.le_refl _, nI_0.symm, nI_0.symm, Or.inl ⟨rfl, Or.inl rfl⟩⟩
