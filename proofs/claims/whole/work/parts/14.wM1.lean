set_option maxHeartbeats 4000000 in
set_option maxRecDepth 100000 in
theorem c_X7_waitsAt (l : Launch) (dC : Nat → ClassId) (dI : Nat → Nat → Nat) (cI cII : ClassId) (o_t : Nat) (a_t : Nat → Nat) (v_t : obV) (h_t : Int64) (x1 : Int32) (x2 : Int32) (r : Int32) (hf : f_X7_waitsAt  v_t x1 x2 = some r) :
    Met l yX7_waitsAt (wd yX7_waitsAt cX7_waitsAt 3 (some .boolean)) ({ frames := 0, cells := 0, slots := 0, locals := 0 } : Room) (va_Pc [.ref o_t, .int x1, .int x2] (pB (dC, dI) vwCl (wX7 o_t a_t cI v_t h_t) (hTY cI cII))) (vp_Si (fun z => r = z)) 0 0 (fun _ => False) := by
  refine Met.ofW (cc := cX7_waitsAt) (maxL := 3) (ret := (some .boolean)) (by decide) rfl ?_
  intro p e s m args below meth c s₁ B hml hv
  obtain ⟨rfl, hP, hK, hN⟩ := hv
  have hx := B.exec
  have hb := B.bytes
  have hr := B.returns
  have hts := atoms_spec (ws := (wd yX7_waitsAt cX7_waitsAt 3 (some .boolean))) B.pre
  have hown : s.vm.findClass RX7 = some m.cls := findClass_of_methodNamed B.named
  have hlocks := B.notSynchronized
  have hl := lv_entry ([.ref o_t, .int x1, .int x2]) (n := 3) (Nat.le_of_ble_eq_true rfl)
  rw [lg_entry_eq]
  generalize (lg_sl ([.ref o_t, .int x1, .int x2]) ++ List.replicate (3 - (lg_sl ([.ref o_t, .int x1, .int x2])).length) Slot.unset).toArray = ls at hl ⊢
  have hl : lv_has ls 3 [(0, .ref o_t), (1, .int x1), (2, .int x2)] := hl
  unfold f_X7_waitsAt at hf
  refine lv_aload_n hx hb dX7_waitsAt_0 rfl (lv_at hl 0 rfl) ?_
  refine va_get (D := (dC, dI)) (ci := 7) (v := .ref (a_t 10)) (C := RX7) (T := TX7) (N := 30) hx hb hts hw_X7 hown hK hP 0 rfl rfl 10 (by decide) (hts _ (List.mem_cons_of_mem _ mw_608)) (fun _ h9 => h9) rfl dX7_waitsAt_1 ?_
  refine lv_iconst (v := 3) hx hb dX7_waitsAt_4 (by decide) ?_
  refine lv_iload_n hx hb dX7_waitsAt_5 rfl (lv_at hl 1 rfl) ?_
  refine lv_imul hx hb dX7_waitsAt_6 ?_
  refine lv_iconst (v := 2) hx hb dX7_waitsAt_7 (by decide) ?_
  refine lv_iadd hx hb dX7_waitsAt_8 ?_
  obtain ⟨h_9, hf⟩ := ho_g hf
  refine va_iald (n := 15) (f := (v_t.2 10)) hx hb hK hP 3 0 rfl rfl h_9 dX7_waitsAt_9 ?_
  refine lv_iload_n hx hb dX7_waitsAt_10 rfl (lv_at hl 2 rfl) ?_
  refine lv_icmp_gt (tgt := 38) hx hb dX7_waitsAt_11 (by decide) (fun c_11 => ?_) (fun c_11 => ?_)
  · have hf := ho_t hf c_11
    refine lv_iconst (v := 0) hx hb dX7_waitsAt_38 (by decide) ?_
    obtain rfl := Option.some.inj hf
    exact W.zret (v := 0) hx hb hr (by decide) (fun t ht hW => ⟨_, rfl, rfl, ht⟩) (fun q hq => by cases hq) dX7_waitsAt_39 hlocks
  · have hf := ho_f hf c_11
    refine lv_aload_n hx hb dX7_waitsAt_14 rfl (lv_at hl 0 rfl) ?_
    refine va_get (D := (dC, dI)) (ci := 7) (v := .ref (a_t 11)) (C := RX7) (T := TX7) (N := 30) hx hb hts hw_X7 hown hK hP 0 rfl rfl 11 (by decide) (hts _ (List.mem_cons_of_mem _ mw_609)) (fun _ h9 => h9) rfl dX7_waitsAt_15 ?_
    refine lv_iload_n hx hb dX7_waitsAt_18 rfl (lv_at hl 1 rfl) ?_
    obtain ⟨h_19, hf⟩ := ho_g hf
    refine va_iald (n := 5) (f := (v_t.2 11)) hx hb hK hP 4 0 rfl rfl h_19 dX7_waitsAt_19 ?_
    refine lv_iconst (v := (-1)) hx hb dX7_waitsAt_20 (by decide) ?_
    refine lv_icmp_eq (tgt := 34) hx hb dX7_waitsAt_21 (by decide) (fun c_21 => ?_) (fun c_21 => ?_)
    · have hf := ho_t hf c_21
      refine lv_iconst (v := 1) hx hb dX7_waitsAt_34 (by decide) ?_
      refine lv_goto (tgt := 39) hx hb dX7_waitsAt_35 (by decide) ?_
      obtain rfl := Option.some.inj hf
      exact W.zret (v := 1) hx hb hr (by decide) (fun t ht hW => ⟨_, rfl, rfl, ht⟩) (fun q hq => by cases hq) dX7_waitsAt_39 hlocks
    · have hf := ho_f hf c_21
      refine lv_aload_n hx hb dX7_waitsAt_24 rfl (lv_at hl 0 rfl) ?_
      refine va_get (D := (dC, dI)) (ci := 7) (v := .ref (a_t 11)) (C := RX7) (T := TX7) (N := 30) hx hb hts hw_X7 hown hK hP 0 rfl rfl 11 (by decide) (hts _ (List.mem_cons_of_mem _ mw_609)) (fun _ h9 => h9) rfl dX7_waitsAt_25 ?_
      refine lv_iload_n hx hb dX7_waitsAt_28 rfl (lv_at hl 1 rfl) ?_
      obtain ⟨h_29, hf⟩ := ho_g hf
      refine va_iald (n := 5) (f := (v_t.2 11)) hx hb hK hP 4 0 rfl rfl h_29 dX7_waitsAt_29 ?_
      refine lv_iload_n hx hb dX7_waitsAt_30 rfl (lv_at hl 2 rfl) ?_
      refine lv_icmp_le (tgt := 38) hx hb dX7_waitsAt_31 (by decide) (fun c_31 => ?_) (fun c_31 => ?_)
      · have hf := ho_t hf c_31
        refine lv_iconst (v := 0) hx hb dX7_waitsAt_38 (by decide) ?_
        obtain rfl := Option.some.inj hf
        exact W.zret (v := 0) hx hb hr (by decide) (fun t ht hW => ⟨_, rfl, rfl, ht⟩) (fun q hq => by cases hq) dX7_waitsAt_39 hlocks
      · have hf := ho_f hf c_31
        refine lv_iconst (v := 1) hx hb dX7_waitsAt_34 (by decide) ?_
        refine lv_goto (tgt := 39) hx hb dX7_waitsAt_35 (by decide) ?_
        obtain rfl := Option.some.inj hf
        exact W.zret (v := 1) hx hb hr (by decide) (fun t ht hW => ⟨_, rfl, rfl, ht⟩) (fun q hq => by cases hq) dX7_waitsAt_39 hlocks
set_option maxHeartbeats 4000000 in
set_option maxRecDepth 100000 in
theorem w_X7_waitingAt_b27 {p : Program} {l : Launch} {e : Env} {s : State} {m : MethodId} {args : Array Value} {below : List Frame} {meth : Method} {c : Code} {dC : Nat → ClassId} {dI : Nat → Nat → Nat} {cI cII : ClassId} {o_t : Nat} {a_t : Nat → Nat} (C0 : hC p s m args meth c dC dI cI cII RX7 cX7_waitingAt 4 (wd yX7_waitingAt cX7_waitingAt 4 (some .int)) (some .int)) {h_t : Int64} {v_t : obV} {x1 : Int32} {x3 : Int32} {s0 : Int32} {s1 : Int32} {k4 : Int32 × Int32 → Option (Int32)} (ih4 : ∀ (y : Int32 × Int32) (r : Int32), k4 y = some r → ∀ (ls : Array Slot), lv_has ls 4 [(0, .ref o_t), (1, .int x1), (2, .int y.1), (3, .int y.2)] → W p l e ({ frames := 1, cells := 0, slots := 0, locals := 22 } : Room) s m args below meth c s.heap [] 0 0 (MQ below (vp_Si (fun z => r = z)) args s 0 0 (fun _ => False)) (F0 m 4 ls [])) (hP : va_P (dC, dI) vwCl (wX7 o_t a_t cI v_t h_t) s.heap) {r : Int32} (hf : f_X7_waitingAt_b27  v_t x1 x3 s0 s1 k4 = some r) {ls : Array Slot} (hl : lv_has ls 4 [(0, .ref o_t), (1, .int x1), (3, .int x3)]) :
    W p l e ({ frames := 1, cells := 0, slots := 0, locals := 22 } : Room) s m args below meth c s.heap [] 0 0 (MQ below (vp_Si (fun z => r = z)) args s 0 0 (fun _ => False)) (F0 m 27 ls [.int s1, .int s0]) := by
  obtain ⟨hx, hb, hml, hown, hts, hr, hlocks, hK, hN⟩ := C0
  unfold f_X7_waitingAt_b27 at hf
  refine lv_iadd hx hb dX7_waitingAt_27 ?_
  refine lv_istore_n (lv' := [(2, .int (s0 + s1)), (0, .ref o_t), (1, .int x1), (3, .int x3)]) hx hb dX7_waitingAt_28 rfl hl (by decide) rfl (fun ls hl => ?_)
  refine lv_iinc (v := (x3 + 1)) (lv' := [(3, .int (x3 + 1)), (2, .int (s0 + s1)), (0, .ref o_t), (1, .int x1)]) hx hb dX7_waitingAt_29 hl (k := 3) rfl (hp_inc (by decide)) (by decide) rfl (fun ls hl => ?_)
  refine lv_goto (tgt := 4) hx hb dX7_waitingAt_32 (by decide) ?_
  exact ih4 ((s0 + s1), (x3 + 1)) _ hf _ (lv_sub hl [2, 3, 1, 0] rfl)
set_option maxHeartbeats 4000000 in
set_option maxRecDepth 100000 in
theorem w_X7_waitingAt_l4 {p : Program} {l : Launch} {e : Env} {s : State} {m : MethodId} {args : Array Value} {below : List Frame} {meth : Method} {c : Code} {dC : Nat → ClassId} {dI : Nat → Nat → Nat} {cI cII : ClassId} {o_t : Nat} {a_t : Nat → Nat} (C0 : hC p s m args meth c dC dI cI cII RX7 cX7_waitingAt 4 (wd yX7_waitingAt cX7_waitingAt 4 (some .int)) (some .int)) {h_t : Int64} {v_t : obV} {x1 : Int32}   (hP : va_P (dC, dI) vwCl (wX7 o_t a_t cI v_t h_t) s.heap) :
    ∀ (n : Nat) (y : Int32 × Int32) (r : Int32), f_X7_waitingAt_l4  v_t x1  n y = some r → ∀ (ls : Array Slot), lv_has ls 4 [(0, .ref o_t), (1, .int x1), (2, .int y.1), (3, .int y.2)] → W p l e ({ frames := 1, cells := 0, slots := 0, locals := 22 } : Room) s m args below meth c s.heap [] 0 0 (MQ below (vp_Si (fun z => r = z)) args s 0 0 (fun _ => False)) (F0 m 4 ls []) := by
  obtain ⟨hx, hb, hml, hown, hts, hr, hlocks, hK, hN⟩ := C0
  refine lp_W ?_
  intro k4 ih4 y r hf ls hl
  obtain ⟨x2, x3⟩ := y
  have hf : f_X7_waitingAt_b4  v_t x1 x2 x3  k4 = some r := hf
  have hl : lv_has ls 4 [(0, .ref o_t), (1, .int x1), (2, .int x2), (3, .int x3)] := hl
  unfold f_X7_waitingAt_b4 at hf
  refine lv_iload_n hx hb dX7_waitingAt_4 rfl (lv_at hl 3 rfl) ?_
  refine lv_aload_n hx hb dX7_waitingAt_5 rfl (lv_at hl 0 rfl) ?_
  refine va_get (D := (dC, dI)) (ci := 7) (v := .int (v_t.1 6)) (C := RX7) (T := TX7) (N := 30) hx hb hts hw_X7 hown hK hP 0 rfl rfl 6 (by decide) (hts _ (List.mem_cons_of_mem _ mw_604)) (fun _ h9 => h9) rfl dX7_waitingAt_6 ?_
  refine lv_icmp_ge (tgt := 35) hx hb dX7_waitingAt_9 (by decide) (fun c_9 => ?_) (fun c_9 => ?_)
  · have hf := ho_t hf c_9
    refine lv_iload_n hx hb dX7_waitingAt_35 rfl (lv_at hl 2 rfl) ?_
    obtain rfl := Option.some.inj hf
    exact W.iret (v := x2) hx hb hr (fun t ht hW => ⟨_, rfl, rfl, ht⟩) (fun q hq => by cases hq) dX7_waitingAt_36 hlocks
  · have hf := ho_f hf c_9
    refine lv_iload_n hx hb dX7_waitingAt_12 rfl (lv_at hl 2 rfl) ?_
    refine lv_aload_n hx hb dX7_waitingAt_13 rfl (lv_at hl 0 rfl) ?_
    refine lv_iload_n hx hb dX7_waitingAt_14 rfl (lv_at hl 3 rfl) ?_
    refine lv_iload_n hx hb dX7_waitingAt_15 rfl (lv_at hl 1 rfl) ?_
    obtain ⟨u_16, e_16, hf⟩ := ho_b hf
    refine vp_callSi (va_runV (As := [.int x3, .int x1]) (rest := [.int x2]) ⟨hx, hb, hml, hown, hts⟩ (c_X7_waitsAt l dC dI cI cII o_t a_t v_t h_t (x3) (x1) u_16 e_16) (cwV 2 hts (hw_giV mw_773 mw_775 mw_31 mw_60 mw_776) rfl rfl rfl (by decide +kernel) ⟨Nat.le_of_ble_eq_true rfl, Nat.le_of_ble_eq_true rfl⟩) ⟨pB_blind, va_recv hK hP (ci := 7) (q0 := 0) rfl rfl, fun U hU hW => ⟨rfl, pB_go hP hK hN hU hW⟩⟩ rfl rfl hl.1 rfl (lv_room (Nat.le_of_ble_eq_true rfl)) dX7_waitingAt_16 ⟨Nat.zero_le _, Nat.zero_le _⟩).run (fun z_16 ez_16 => ?_)
    subst ez_16
    refine lv_if_eq (tgt := 26) hx hb dX7_waitingAt_19 (by decide) (fun c_19 => ?_) (fun c_19 => ?_)
    · have hf := ho_t hf c_19
      refine lv_iconst (v := 0) hx hb dX7_waitingAt_26 (by decide) ?_
      exact w_X7_waitingAt_b27 ⟨hx, hb, hml, hown, hts, hr, hlocks, hK, hN⟩ ih4 hP hf (lv_sub hl [0, 1, 3] rfl)
    · have hf := ho_f hf c_19
      refine lv_iconst (v := 1) hx hb dX7_waitingAt_22 (by decide) ?_
      refine lv_goto (tgt := 27) hx hb dX7_waitingAt_23 (by decide) ?_
      exact w_X7_waitingAt_b27 ⟨hx, hb, hml, hown, hts, hr, hlocks, hK, hN⟩ ih4 hP hf (lv_sub hl [0, 1, 3] rfl)
set_option maxHeartbeats 4000000 in
set_option maxRecDepth 100000 in
theorem c_X7_waitingAt (l : Launch) (dC : Nat → ClassId) (dI : Nat → Nat → Nat) (cI cII : ClassId) (o_t : Nat) (a_t : Nat → Nat) (v_t : obV) (h_t : Int64) (x1 : Int32) (r : Int32) (hf : f_X7_waitingAt  v_t x1 = some r) :
    Met l yX7_waitingAt (wd yX7_waitingAt cX7_waitingAt 4 (some .int)) ({ frames := 1, cells := 0, slots := 0, locals := 22 } : Room) (va_Pc [.ref o_t, .int x1] (pB (dC, dI) vwCl (wX7 o_t a_t cI v_t h_t) (hTY cI cII))) (vp_Si (fun z => r = z)) 0 0 (fun _ => False) := by
  refine Met.ofW (cc := cX7_waitingAt) (maxL := 4) (ret := (some .int)) (by decide) rfl ?_
  intro p e s m args below meth c s₁ B hml hv
  obtain ⟨rfl, hP, hK, hN⟩ := hv
  have hx := B.exec
  have hb := B.bytes
  have hr := B.returns
  have hts := atoms_spec (ws := (wd yX7_waitingAt cX7_waitingAt 4 (some .int))) B.pre
  have hown : s.vm.findClass RX7 = some m.cls := findClass_of_methodNamed B.named
  have hlocks := B.notSynchronized
  have hl := lv_entry ([.ref o_t, .int x1]) (n := 4) (Nat.le_of_ble_eq_true rfl)
  rw [lg_entry_eq]
  generalize (lg_sl ([.ref o_t, .int x1]) ++ List.replicate (4 - (lg_sl ([.ref o_t, .int x1])).length) Slot.unset).toArray = ls at hl ⊢
  have hl : lv_has ls 4 [(0, .ref o_t), (1, .int x1)] := hl
  unfold f_X7_waitingAt at hf
  refine lv_iconst (v := 0) hx hb dX7_waitingAt_0 (by decide) ?_
  refine lv_istore_n (lv' := [(2, .int 0), (0, .ref o_t), (1, .int x1)]) hx hb dX7_waitingAt_1 rfl hl (by decide) rfl (fun ls hl => ?_)
  refine lv_iconst (v := 0) hx hb dX7_waitingAt_2 (by decide) ?_
  refine lv_istore_n (lv' := [(3, .int 0), (2, .int 0), (0, .ref o_t), (1, .int x1)]) hx hb dX7_waitingAt_3 rfl hl (by decide) rfl (fun ls hl => ?_)
  exact w_X7_waitingAt_l4 ⟨hx, hb, hml, hown, hts, hr, hlocks, hK, hN⟩  hP _ _ _ hf _ (lv_sub hl [2, 3, 1, 0] rfl)
set_option maxHeartbeats 4000000 in
set_option maxRecDepth 100000 in
theorem w_X7_waitsOf_b25 {p : Program} {l : Launch} {e : Env} {s : State} {m : MethodId} {args : Array Value} {below : List Frame} {meth : Method} {c : Code} {dC : Nat → ClassId} {dI : Nat → Nat → Nat} {cI cII : ClassId} {o_t : Nat} {a_t : Nat → Nat} (C0 : hC p s m args meth c dC dI cI cII RX7 cX7_waitsOf 4 (wd yX7_waitsOf cX7_waitsOf 4 (some .int)) (some .int)) {h_t : Int64} {v_t : obV} {x1 : Int32} {x3 : Int32} {s0 : Int32} {s1 : Int32} {k4 : Int32 × Int32 → Option (Int32)} (ih4 : ∀ (y : Int32 × Int32) (r : Int32), k4 y = some r → ∀ (ls : Array Slot), lv_has ls 4 [(0, .ref o_t), (1, .int x1), (2, .int y.1), (3, .int y.2)] → W p l e ({ frames := 1, cells := 0, slots := 0, locals := 22 } : Room) s m args below meth c s.heap [] 0 0 (MQ below (vp_Si (fun z => r = z)) args s 0 0 (fun _ => False)) (F0 m 4 ls [])) (hP : va_P (dC, dI) vwCl (wX7 o_t a_t cI v_t h_t) s.heap) {r : Int32} (hf : f_X7_waitsOf_b25  v_t x1 x3 s0 s1 k4 = some r) {ls : Array Slot} (hl : lv_has ls 4 [(0, .ref o_t), (1, .int x1), (3, .int x3)]) :
    W p l e ({ frames := 1, cells := 0, slots := 0, locals := 22 } : Room) s m args below meth c s.heap [] 0 0 (MQ below (vp_Si (fun z => r = z)) args s 0 0 (fun _ => False)) (F0 m 25 ls [.int s1, .int s0]) := by
  obtain ⟨hx, hb, hml, hown, hts, hr, hlocks, hK, hN⟩ := C0
  unfold f_X7_waitsOf_b25 at hf
  refine lv_iadd hx hb dX7_waitsOf_25 ?_
  refine lv_istore_n (lv' := [(2, .int (s0 + s1)), (0, .ref o_t), (1, .int x1), (3, .int x3)]) hx hb dX7_waitsOf_26 rfl hl (by decide) rfl (fun ls hl => ?_)
  refine lv_iinc (v := (x3 + 1)) (lv' := [(3, .int (x3 + 1)), (2, .int (s0 + s1)), (0, .ref o_t), (1, .int x1)]) hx hb dX7_waitsOf_27 hl (k := 3) rfl (hp_inc (by decide)) (by decide) rfl (fun ls hl => ?_)
  refine lv_goto (tgt := 4) hx hb dX7_waitsOf_30 (by decide) ?_
  exact ih4 ((s0 + s1), (x3 + 1)) _ hf _ (lv_sub hl [2, 3, 1, 0] rfl)
set_option maxHeartbeats 4000000 in
set_option maxRecDepth 100000 in
theorem w_X7_waitsOf_l4 {p : Program} {l : Launch} {e : Env} {s : State} {m : MethodId} {args : Array Value} {below : List Frame} {meth : Method} {c : Code} {dC : Nat → ClassId} {dI : Nat → Nat → Nat} {cI cII : ClassId} {o_t : Nat} {a_t : Nat → Nat} (C0 : hC p s m args meth c dC dI cI cII RX7 cX7_waitsOf 4 (wd yX7_waitsOf cX7_waitsOf 4 (some .int)) (some .int)) {h_t : Int64} {v_t : obV} {x1 : Int32}   (hP : va_P (dC, dI) vwCl (wX7 o_t a_t cI v_t h_t) s.heap) :
    ∀ (n : Nat) (y : Int32 × Int32) (r : Int32), f_X7_waitsOf_l4  v_t x1  n y = some r → ∀ (ls : Array Slot), lv_has ls 4 [(0, .ref o_t), (1, .int x1), (2, .int y.1), (3, .int y.2)] → W p l e ({ frames := 1, cells := 0, slots := 0, locals := 22 } : Room) s m args below meth c s.heap [] 0 0 (MQ below (vp_Si (fun z => r = z)) args s 0 0 (fun _ => False)) (F0 m 4 ls []) := by
  obtain ⟨hx, hb, hml, hown, hts, hr, hlocks, hK, hN⟩ := C0
  refine lp_W ?_
  intro k4 ih4 y r hf ls hl
  obtain ⟨x2, x3⟩ := y
  have hf : f_X7_waitsOf_b4  v_t x1 x2 x3  k4 = some r := hf
  have hl : lv_has ls 4 [(0, .ref o_t), (1, .int x1), (2, .int x2), (3, .int x3)] := hl
  unfold f_X7_waitsOf_b4 at hf
  refine lv_iload_n hx hb dX7_waitsOf_4 rfl (lv_at hl 3 rfl) ?_
  refine lv_bipush (v := 20) hx hb dX7_waitsOf_5 (by decide) ?_
  refine lv_icmp_ge (tgt := 33) hx hb dX7_waitsOf_7 (by decide) (fun c_7 => ?_) (fun c_7 => ?_)
  · have hf := ho_t hf c_7
    refine lv_iload_n hx hb dX7_waitsOf_33 rfl (lv_at hl 2 rfl) ?_
    obtain rfl := Option.some.inj hf
    exact W.iret (v := x2) hx hb hr (fun t ht hW => ⟨_, rfl, rfl, ht⟩) (fun q hq => by cases hq) dX7_waitsOf_34 hlocks
  · have hf := ho_f hf c_7
    refine lv_iload_n hx hb dX7_waitsOf_10 rfl (lv_at hl 2 rfl) ?_
    refine lv_aload_n hx hb dX7_waitsOf_11 rfl (lv_at hl 0 rfl) ?_
    refine lv_iload_n hx hb dX7_waitsOf_12 rfl (lv_at hl 1 rfl) ?_
    refine lv_iload_n hx hb dX7_waitsOf_13 rfl (lv_at hl 3 rfl) ?_
    obtain ⟨u_14, e_14, hf⟩ := ho_b hf
    refine vp_callSi (va_runV (As := [.int x1, .int x3]) (rest := [.int x2]) ⟨hx, hb, hml, hown, hts⟩ (c_X7_waitsAt l dC dI cI cII o_t a_t v_t h_t (x1) (x3) u_14 e_14) (cwV 2 hts (hw_giV mw_773 mw_775 mw_31 mw_60 mw_776) rfl rfl rfl (by decide +kernel) ⟨Nat.le_of_ble_eq_true rfl, Nat.le_of_ble_eq_true rfl⟩) ⟨pB_blind, va_recv hK hP (ci := 7) (q0 := 0) rfl rfl, fun U hU hW => ⟨rfl, pB_go hP hK hN hU hW⟩⟩ rfl rfl hl.1 rfl (lv_room (Nat.le_of_ble_eq_true rfl)) dX7_waitsOf_14 ⟨Nat.zero_le _, Nat.zero_le _⟩).run (fun z_14 ez_14 => ?_)
    subst ez_14
    refine lv_if_eq (tgt := 24) hx hb dX7_waitsOf_17 (by decide) (fun c_17 => ?_) (fun c_17 => ?_)
    · have hf := ho_t hf c_17
      refine lv_iconst (v := 0) hx hb dX7_waitsOf_24 (by decide) ?_
      exact w_X7_waitsOf_b25 ⟨hx, hb, hml, hown, hts, hr, hlocks, hK, hN⟩ ih4 hP hf (lv_sub hl [0, 1, 3] rfl)
    · have hf := ho_f hf c_17
      refine lv_iconst (v := 1) hx hb dX7_waitsOf_20 (by decide) ?_
      refine lv_goto (tgt := 25) hx hb dX7_waitsOf_21 (by decide) ?_
      exact w_X7_waitsOf_b25 ⟨hx, hb, hml, hown, hts, hr, hlocks, hK, hN⟩ ih4 hP hf (lv_sub hl [0, 1, 3] rfl)
set_option maxHeartbeats 4000000 in
set_option maxRecDepth 100000 in
theorem c_X7_waitsOf (l : Launch) (dC : Nat → ClassId) (dI : Nat → Nat → Nat) (cI cII : ClassId) (o_t : Nat) (a_t : Nat → Nat) (v_t : obV) (h_t : Int64) (x1 : Int32) (r : Int32) (hf : f_X7_waitsOf  v_t x1 = some r) :
    Met l yX7_waitsOf (wd yX7_waitsOf cX7_waitsOf 4 (some .int)) ({ frames := 1, cells := 0, slots := 0, locals := 22 } : Room) (va_Pc [.ref o_t, .int x1] (pB (dC, dI) vwCl (wX7 o_t a_t cI v_t h_t) (hTY cI cII))) (vp_Si (fun z => r = z)) 0 0 (fun _ => False) := by
  refine Met.ofW (cc := cX7_waitsOf) (maxL := 4) (ret := (some .int)) (by decide) rfl ?_
  intro p e s m args below meth c s₁ B hml hv
  obtain ⟨rfl, hP, hK, hN⟩ := hv
  have hx := B.exec
  have hb := B.bytes
  have hr := B.returns
  have hts := atoms_spec (ws := (wd yX7_waitsOf cX7_waitsOf 4 (some .int))) B.pre
  have hown : s.vm.findClass RX7 = some m.cls := findClass_of_methodNamed B.named
  have hlocks := B.notSynchronized
  have hl := lv_entry ([.ref o_t, .int x1]) (n := 4) (Nat.le_of_ble_eq_true rfl)
  rw [lg_entry_eq]
  generalize (lg_sl ([.ref o_t, .int x1]) ++ List.replicate (4 - (lg_sl ([.ref o_t, .int x1])).length) Slot.unset).toArray = ls at hl ⊢
  have hl : lv_has ls 4 [(0, .ref o_t), (1, .int x1)] := hl
  unfold f_X7_waitsOf at hf
  refine lv_iconst (v := 0) hx hb dX7_waitsOf_0 (by decide) ?_
  refine lv_istore_n (lv' := [(2, .int 0), (0, .ref o_t), (1, .int x1)]) hx hb dX7_waitsOf_1 rfl hl (by decide) rfl (fun ls hl => ?_)
  refine lv_iconst (v := 0) hx hb dX7_waitsOf_2 (by decide) ?_
  refine lv_istore_n (lv' := [(3, .int 0), (2, .int 0), (0, .ref o_t), (1, .int x1)]) hx hb dX7_waitsOf_3 rfl hl (by decide) rfl (fun ls hl => ?_)
  exact w_X7_waitsOf_l4 ⟨hx, hb, hml, hown, hts, hr, hlocks, hK, hN⟩  hP _ _ _ hf _ (lv_sub hl [2, 3, 1, 0] rfl)
set_option maxHeartbeats 4000000 in
set_option maxRecDepth 100000 in
theorem w_X7_meetings_l4 {p : Program} {l : Launch} {e : Env} {s : State} {m : MethodId} {args : Array Value} {below : List Frame} {meth : Method} {c : Code} {dC : Nat → ClassId} {dI : Nat → Nat → Nat} {cI cII : ClassId} {o_t : Nat} {a_t : Nat → Nat} (C0 : hC p s m args meth c dC dI cI cII RX7 cX7_meetings 3 (wd yX7_meetings cX7_meetings 3 (some .int)) (some .int)) {h_t : Int64} {v_t : obV}   (hP : va_P (dC, dI) vwCl (wX7 o_t a_t cI v_t h_t) s.heap) :
    ∀ (n : Nat) (y : Int32 × Int32) (r : Int32), f_X7_meetings_l4  v_t  n y = some r → ∀ (ls : Array Slot), lv_has ls 3 [(0, .ref o_t), (1, .int y.1), (2, .int y.2)] → W p l e ({ frames := 2, cells := 0, slots := 0, locals := 45 } : Room) s m args below meth c s.heap [] 0 0 (MQ below (vp_Si (fun z => r = z)) args s 0 0 (fun _ => False)) (F0 m 4 ls []) := by
  obtain ⟨hx, hb, hml, hown, hts, hr, hlocks, hK, hN⟩ := C0
  refine lp_W ?_
  intro k4 ih4 y r hf ls hl
  obtain ⟨x1, x2⟩ := y
  have hf : f_X7_meetings_b4  v_t x1 x2  k4 = some r := hf
  have hl : lv_has ls 3 [(0, .ref o_t), (1, .int x1), (2, .int x2)] := hl
  unfold f_X7_meetings_b4 at hf
  refine lv_iload_n hx hb dX7_meetings_4 rfl (lv_at hl 2 rfl) ?_
  refine lv_bipush (v := 20) hx hb dX7_meetings_5 (by decide) ?_
  refine lv_icmp_ge (tgt := 34) hx hb dX7_meetings_7 (by decide) (fun c_7 => ?_) (fun c_7 => ?_)
  · have hf := ho_t hf c_7
    refine lv_iload_n hx hb dX7_meetings_34 rfl (lv_at hl 1 rfl) ?_
    obtain rfl := Option.some.inj hf
    exact W.iret (v := x1) hx hb hr (fun t ht hW => ⟨_, rfl, rfl, ht⟩) (fun q hq => by cases hq) dX7_meetings_35 hlocks
  · have hf := ho_f hf c_7
    refine lv_iload_n hx hb dX7_meetings_10 rfl (lv_at hl 1 rfl) ?_
    refine lv_aload_n hx hb dX7_meetings_11 rfl (lv_at hl 0 rfl) ?_
    refine lv_iload_n hx hb dX7_meetings_12 rfl (lv_at hl 2 rfl) ?_
    obtain ⟨u_13, e_13, hf⟩ := ho_b hf
    refine vp_callSi (va_runV (As := [.int x2]) (rest := [.int x1]) ⟨hx, hb, hml, hown, hts⟩ (c_X7_waitingAt l dC dI cI cII o_t a_t v_t h_t (x2) u_13 e_13) (cwV 1 hts (hw_giV mw_781 mw_783 mw_33 mw_60 mw_784) rfl rfl rfl (by decide +kernel) ⟨Nat.le_of_ble_eq_true rfl, Nat.le_of_ble_eq_true rfl⟩) ⟨pB_blind, va_recv hK hP (ci := 7) (q0 := 0) rfl rfl, fun U hU hW => ⟨rfl, pB_go hP hK hN hU hW⟩⟩ rfl rfl hl.1 rfl (lv_room (Nat.le_of_ble_eq_true rfl)) dX7_meetings_13 ⟨Nat.zero_le _, Nat.zero_le _⟩).run (fun z_13 ez_13 => ?_)
    subst ez_13
    refine lv_aload_n hx hb dX7_meetings_16 rfl (lv_at hl 0 rfl) ?_
    refine lv_iload_n hx hb dX7_meetings_17 rfl (lv_at hl 2 rfl) ?_
    obtain ⟨u_18, e_18, hf⟩ := ho_b hf
    refine vp_callSi (va_runV (As := [.int x2]) (rest := [.int u_13, .int x1]) ⟨hx, hb, hml, hown, hts⟩ (c_X7_waitingAt l dC dI cI cII o_t a_t v_t h_t (x2) u_18 e_18) (cwV 1 hts (hw_giV mw_781 mw_783 mw_33 mw_60 mw_784) rfl rfl rfl (by decide +kernel) ⟨Nat.le_of_ble_eq_true rfl, Nat.le_of_ble_eq_true rfl⟩) ⟨pB_blind, va_recv hK hP (ci := 7) (q0 := 0) rfl rfl, fun U hU hW => ⟨rfl, pB_go hP hK hN hU hW⟩⟩ rfl rfl hl.1 rfl (lv_room (Nat.le_of_ble_eq_true rfl)) dX7_meetings_18 ⟨Nat.zero_le _, Nat.zero_le _⟩).run (fun z_18 ez_18 => ?_)
    subst ez_18
    refine lv_iconst (v := 1) hx hb dX7_meetings_21 (by decide) ?_
    refine lv_isub hx hb dX7_meetings_22 ?_
    refine lv_imul hx hb dX7_meetings_23 ?_
    refine lv_iconst (v := 2) hx hb dX7_meetings_24 (by decide) ?_
    refine lv_idiv hx hb dX7_meetings_25 (by decide) ?_
    refine lv_iadd hx hb dX7_meetings_26 ?_
    refine lv_istore_n (lv' := [(1, .int (x1 + ((u_13 * (u_18 - 1)) / 2))), (0, .ref o_t), (2, .int x2)]) hx hb dX7_meetings_27 rfl hl (by decide) rfl (fun ls hl => ?_)
    refine lv_iinc (v := (x2 + 1)) (lv' := [(2, .int (x2 + 1)), (1, .int (x1 + ((u_13 * (u_18 - 1)) / 2))), (0, .ref o_t)]) hx hb dX7_meetings_28 hl (k := 2) rfl (hp_inc (by decide)) (by decide) rfl (fun ls hl => ?_)
    refine lv_goto (tgt := 4) hx hb dX7_meetings_31 (by decide) ?_
    exact ih4 ((x1 + ((u_13 * (u_18 - 1)) / 2)), (x2 + 1)) _ hf _ (lv_sub hl [2, 1, 0] rfl)
set_option maxHeartbeats 4000000 in
set_option maxRecDepth 100000 in
theorem c_X7_meetings (l : Launch) (dC : Nat → ClassId) (dI : Nat → Nat → Nat) (cI cII : ClassId) (o_t : Nat) (a_t : Nat → Nat) (v_t : obV) (h_t : Int64)  (r : Int32) (hf : f_X7_meetings  v_t  = some r) :
    Met l yX7_meetings (wd yX7_meetings cX7_meetings 3 (some .int)) ({ frames := 2, cells := 0, slots := 0, locals := 45 } : Room) (va_Pc [.ref o_t] (pB (dC, dI) vwCl (wX7 o_t a_t cI v_t h_t) (hTY cI cII))) (vp_Si (fun z => r = z)) 0 0 (fun _ => False) := by
  refine Met.ofW (cc := cX7_meetings) (maxL := 3) (ret := (some .int)) (by decide) rfl ?_
  intro p e s m args below meth c s₁ B hml hv
  obtain ⟨rfl, hP, hK, hN⟩ := hv
  have hx := B.exec
  have hb := B.bytes
  have hr := B.returns
  have hts := atoms_spec (ws := (wd yX7_meetings cX7_meetings 3 (some .int))) B.pre
  have hown : s.vm.findClass RX7 = some m.cls := findClass_of_methodNamed B.named
  have hlocks := B.notSynchronized
  have hl := lv_entry ([.ref o_t]) (n := 3) (Nat.le_of_ble_eq_true rfl)
  rw [lg_entry_eq]
  generalize (lg_sl ([.ref o_t]) ++ List.replicate (3 - (lg_sl ([.ref o_t])).length) Slot.unset).toArray = ls at hl ⊢
  have hl : lv_has ls 3 [(0, .ref o_t)] := hl
  unfold f_X7_meetings at hf
  refine lv_iconst (v := 0) hx hb dX7_meetings_0 (by decide) ?_
  refine lv_istore_n (lv' := [(1, .int 0), (0, .ref o_t)]) hx hb dX7_meetings_1 rfl hl (by decide) rfl (fun ls hl => ?_)
  refine lv_iconst (v := 0) hx hb dX7_meetings_2 (by decide) ?_
  refine lv_istore_n (lv' := [(2, .int 0), (1, .int 0), (0, .ref o_t)]) hx hb dX7_meetings_3 rfl hl (by decide) rfl (fun ls hl => ?_)
  exact w_X7_meetings_l4 ⟨hx, hb, hml, hown, hts, hr, hlocks, hK, hN⟩  hP _ _ _ hf _ (lv_sub hl [2, 1, 0] rfl)
set_option maxHeartbeats 4000000 in
set_option maxRecDepth 100000 in
theorem w_X7_receivedMany_b28 {p : Program} {l : Launch} {e : Env} {s : State} {m : MethodId} {args : Array Value} {below : List Frame} {meth : Method} {c : Code} {dC : Nat → ClassId} {dI : Nat → Nat → Nat} {cI cII : ClassId} {o_t : Nat} {a_t : Nat → Nat} (C0 : hC p s m args meth c dC dI cI cII RX7 cX7_receivedMany 3 (wd yX7_receivedMany cX7_receivedMany 3 (some .int)) (some .int)) {h_t : Int64} {v_t : obV} {x2 : Int32} {s0 : Int32} {s1 : Int32} {k4 : Int32 × Int32 → Option (Int32)} (ih4 : ∀ (y : Int32 × Int32) (r : Int32), k4 y = some r → ∀ (ls : Array Slot), lv_has ls 3 [(0, .ref o_t), (1, .int y.1), (2, .int y.2)] → W p l e ({ frames := 0, cells := 0, slots := 0, locals := 0 } : Room) s m args below meth c s.heap [] 0 0 (MQ below (vp_Si (fun z => r = z)) args s 0 0 (fun _ => False)) (F0 m 4 ls [])) (hP : va_P (dC, dI) vwCl (wX7 o_t a_t cI v_t h_t) s.heap) {r : Int32} (hf : f_X7_receivedMany_b28  v_t x2 s0 s1 k4 = some r) {ls : Array Slot} (hl : lv_has ls 3 [(0, .ref o_t), (2, .int x2)]) :
    W p l e ({ frames := 0, cells := 0, slots := 0, locals := 0 } : Room) s m args below meth c s.heap [] 0 0 (MQ below (vp_Si (fun z => r = z)) args s 0 0 (fun _ => False)) (F0 m 28 ls [.int s1, .int s0]) := by
  obtain ⟨hx, hb, hml, hown, hts, hr, hlocks, hK, hN⟩ := C0
  unfold f_X7_receivedMany_b28 at hf
  refine lv_iadd hx hb dX7_receivedMany_28 ?_
  refine lv_istore_n (lv' := [(1, .int (s0 + s1)), (0, .ref o_t), (2, .int x2)]) hx hb dX7_receivedMany_29 rfl hl (by decide) rfl (fun ls hl => ?_)
  refine lv_iinc (v := (x2 + 1)) (lv' := [(2, .int (x2 + 1)), (1, .int (s0 + s1)), (0, .ref o_t)]) hx hb dX7_receivedMany_30 hl (k := 2) rfl (hp_inc (by decide)) (by decide) rfl (fun ls hl => ?_)
  refine lv_goto (tgt := 4) hx hb dX7_receivedMany_33 (by decide) ?_
  exact ih4 ((s0 + s1), (x2 + 1)) _ hf _ (lv_sub hl [2, 1, 0] rfl)
set_option maxHeartbeats 4000000 in
set_option maxRecDepth 100000 in
theorem w_X7_receivedMany_l4 {p : Program} {l : Launch} {e : Env} {s : State} {m : MethodId} {args : Array Value} {below : List Frame} {meth : Method} {c : Code} {dC : Nat → ClassId} {dI : Nat → Nat → Nat} {cI cII : ClassId} {o_t : Nat} {a_t : Nat → Nat} (C0 : hC p s m args meth c dC dI cI cII RX7 cX7_receivedMany 3 (wd yX7_receivedMany cX7_receivedMany 3 (some .int)) (some .int)) {h_t : Int64} {v_t : obV}   (hP : va_P (dC, dI) vwCl (wX7 o_t a_t cI v_t h_t) s.heap) :
    ∀ (n : Nat) (y : Int32 × Int32) (r : Int32), f_X7_receivedMany_l4  v_t  n y = some r → ∀ (ls : Array Slot), lv_has ls 3 [(0, .ref o_t), (1, .int y.1), (2, .int y.2)] → W p l e ({ frames := 0, cells := 0, slots := 0, locals := 0 } : Room) s m args below meth c s.heap [] 0 0 (MQ below (vp_Si (fun z => r = z)) args s 0 0 (fun _ => False)) (F0 m 4 ls []) := by
  obtain ⟨hx, hb, hml, hown, hts, hr, hlocks, hK, hN⟩ := C0
  refine lp_W ?_
  intro k4 ih4 y r hf ls hl
  obtain ⟨x1, x2⟩ := y
  have hf : f_X7_receivedMany_b4  v_t x1 x2  k4 = some r := hf
  have hl : lv_has ls 3 [(0, .ref o_t), (1, .int x1), (2, .int x2)] := hl
  unfold f_X7_receivedMany_b4 at hf
  refine lv_iload_n hx hb dX7_receivedMany_4 rfl (lv_at hl 2 rfl) ?_
  refine lv_aload_n hx hb dX7_receivedMany_5 rfl (lv_at hl 0 rfl) ?_
  refine va_get (D := (dC, dI)) (ci := 7) (v := .int (v_t.1 6)) (C := RX7) (T := TX7) (N := 30) hx hb hts hw_X7 hown hK hP 0 rfl rfl 6 (by decide) (hts _ (List.mem_cons_of_mem _ mw_604)) (fun _ h9 => h9) rfl dX7_receivedMany_6 ?_
  refine lv_icmp_ge (tgt := 36) hx hb dX7_receivedMany_9 (by decide) (fun c_9 => ?_) (fun c_9 => ?_)
  · have hf := ho_t hf c_9
    refine lv_iload_n hx hb dX7_receivedMany_36 rfl (lv_at hl 1 rfl) ?_
    obtain rfl := Option.some.inj hf
    exact W.iret (v := x1) hx hb hr (fun t ht hW => ⟨_, rfl, rfl, ht⟩) (fun q hq => by cases hq) dX7_receivedMany_37 hlocks
  · have hf := ho_f hf c_9
    refine lv_iload_n hx hb dX7_receivedMany_12 rfl (lv_at hl 1 rfl) ?_
    refine lv_aload_n hx hb dX7_receivedMany_13 rfl (lv_at hl 0 rfl) ?_
    refine va_get (D := (dC, dI)) (ci := 7) (v := .ref (a_t 11)) (C := RX7) (T := TX7) (N := 30) hx hb hts hw_X7 hown hK hP 0 rfl rfl 11 (by decide) (hts _ (List.mem_cons_of_mem _ mw_609)) (fun _ h9 => h9) rfl dX7_receivedMany_14 ?_
    refine lv_iload_n hx hb dX7_receivedMany_17 rfl (lv_at hl 2 rfl) ?_
    obtain ⟨h_18, hf⟩ := ho_g hf
    refine va_iald (n := 5) (f := (v_t.2 11)) hx hb hK hP 4 0 rfl rfl h_18 dX7_receivedMany_18 ?_
    refine lv_iconst (v := (-1)) hx hb dX7_receivedMany_19 (by decide) ?_
    refine lv_icmp_ne (tgt := 27) hx hb dX7_receivedMany_20 (by decide) (fun c_20 => ?_) (fun c_20 => ?_)
    · have hf := ho_f hf c_20
      refine lv_iconst (v := 1) hx hb dX7_receivedMany_27 (by decide) ?_
      exact w_X7_receivedMany_b28 ⟨hx, hb, hml, hown, hts, hr, hlocks, hK, hN⟩ ih4 hP hf (lv_sub hl [0, 2] rfl)
    · have hf := ho_t hf c_20
      refine lv_iconst (v := 0) hx hb dX7_receivedMany_23 (by decide) ?_
      refine lv_goto (tgt := 28) hx hb dX7_receivedMany_24 (by decide) ?_
      exact w_X7_receivedMany_b28 ⟨hx, hb, hml, hown, hts, hr, hlocks, hK, hN⟩ ih4 hP hf (lv_sub hl [0, 2] rfl)
set_option maxHeartbeats 4000000 in
set_option maxRecDepth 100000 in
theorem c_X7_receivedMany (l : Launch) (dC : Nat → ClassId) (dI : Nat → Nat → Nat) (cI cII : ClassId) (o_t : Nat) (a_t : Nat → Nat) (v_t : obV) (h_t : Int64)  (r : Int32) (hf : f_X7_receivedMany  v_t  = some r) :
    Met l yX7_receivedMany (wd yX7_receivedMany cX7_receivedMany 3 (some .int)) ({ frames := 0, cells := 0, slots := 0, locals := 0 } : Room) (va_Pc [.ref o_t] (pB (dC, dI) vwCl (wX7 o_t a_t cI v_t h_t) (hTY cI cII))) (vp_Si (fun z => r = z)) 0 0 (fun _ => False) := by
  refine Met.ofW (cc := cX7_receivedMany) (maxL := 3) (ret := (some .int)) (by decide) rfl ?_
  intro p e s m args below meth c s₁ B hml hv
  obtain ⟨rfl, hP, hK, hN⟩ := hv
  have hx := B.exec
  have hb := B.bytes
  have hr := B.returns
  have hts := atoms_spec (ws := (wd yX7_receivedMany cX7_receivedMany 3 (some .int))) B.pre
  have hown : s.vm.findClass RX7 = some m.cls := findClass_of_methodNamed B.named
  have hlocks := B.notSynchronized
  have hl := lv_entry ([.ref o_t]) (n := 3) (Nat.le_of_ble_eq_true rfl)
  rw [lg_entry_eq]
  generalize (lg_sl ([.ref o_t]) ++ List.replicate (3 - (lg_sl ([.ref o_t])).length) Slot.unset).toArray = ls at hl ⊢
  have hl : lv_has ls 3 [(0, .ref o_t)] := hl
  unfold f_X7_receivedMany at hf
  refine lv_iconst (v := 0) hx hb dX7_receivedMany_0 (by decide) ?_
  refine lv_istore_n (lv' := [(1, .int 0), (0, .ref o_t)]) hx hb dX7_receivedMany_1 rfl hl (by decide) rfl (fun ls hl => ?_)
  refine lv_iconst (v := 0) hx hb dX7_receivedMany_2 (by decide) ?_
  refine lv_istore_n (lv' := [(2, .int 0), (1, .int 0), (0, .ref o_t)]) hx hb dX7_receivedMany_3 rfl hl (by decide) rfl (fun ls hl => ?_)
  exact w_X7_receivedMany_l4 ⟨hx, hb, hml, hown, hts, hr, hlocks, hK, hN⟩  hP _ _ _ hf _ (lv_sub hl [2, 1, 0] rfl)
set_option maxHeartbeats 4000000 in
set_option maxRecDepth 100000 in
theorem w_X7_helpedMany_b28 {p : Program} {l : Launch} {e : Env} {s : State} {m : MethodId} {args : Array Value} {below : List Frame} {meth : Method} {c : Code} {dC : Nat → ClassId} {dI : Nat → Nat → Nat} {cI cII : ClassId} {o_t : Nat} {a_t : Nat → Nat} (C0 : hC p s m args meth c dC dI cI cII RX7 cX7_helpedMany 3 (wd yX7_helpedMany cX7_helpedMany 3 (some .int)) (some .int)) {h_t : Int64} {v_t : obV} {x2 : Int32} {s0 : Int32} {s1 : Int32} {k4 : Int32 × Int32 → Option (Int32)} (ih4 : ∀ (y : Int32 × Int32) (r : Int32), k4 y = some r → ∀ (ls : Array Slot), lv_has ls 3 [(0, .ref o_t), (1, .int y.1), (2, .int y.2)] → W p l e ({ frames := 0, cells := 0, slots := 0, locals := 0 } : Room) s m args below meth c s.heap [] 0 0 (MQ below (vp_Si (fun z => r = z)) args s 0 0 (fun _ => False)) (F0 m 4 ls [])) (hP : va_P (dC, dI) vwCl (wX7 o_t a_t cI v_t h_t) s.heap) {r : Int32} (hf : f_X7_helpedMany_b28  v_t x2 s0 s1 k4 = some r) {ls : Array Slot} (hl : lv_has ls 3 [(0, .ref o_t), (2, .int x2)]) :
    W p l e ({ frames := 0, cells := 0, slots := 0, locals := 0 } : Room) s m args below meth c s.heap [] 0 0 (MQ below (vp_Si (fun z => r = z)) args s 0 0 (fun _ => False)) (F0 m 28 ls [.int s1, .int s0]) := by
  obtain ⟨hx, hb, hml, hown, hts, hr, hlocks, hK, hN⟩ := C0
  unfold f_X7_helpedMany_b28 at hf
  refine lv_iadd hx hb dX7_helpedMany_28 ?_
  refine lv_istore_n (lv' := [(1, .int (s0 + s1)), (0, .ref o_t), (2, .int x2)]) hx hb dX7_helpedMany_29 rfl hl (by decide) rfl (fun ls hl => ?_)
  refine lv_iinc (v := (x2 + 1)) (lv' := [(2, .int (x2 + 1)), (1, .int (s0 + s1)), (0, .ref o_t)]) hx hb dX7_helpedMany_30 hl (k := 2) rfl (hp_inc (by decide)) (by decide) rfl (fun ls hl => ?_)
  refine lv_goto (tgt := 4) hx hb dX7_helpedMany_33 (by decide) ?_
  exact ih4 ((s0 + s1), (x2 + 1)) _ hf _ (lv_sub hl [2, 1, 0] rfl)
set_option maxHeartbeats 4000000 in
set_option maxRecDepth 100000 in
theorem w_X7_helpedMany_l4 {p : Program} {l : Launch} {e : Env} {s : State} {m : MethodId} {args : Array Value} {below : List Frame} {meth : Method} {c : Code} {dC : Nat → ClassId} {dI : Nat → Nat → Nat} {cI cII : ClassId} {o_t : Nat} {a_t : Nat → Nat} (C0 : hC p s m args meth c dC dI cI cII RX7 cX7_helpedMany 3 (wd yX7_helpedMany cX7_helpedMany 3 (some .int)) (some .int)) {h_t : Int64} {v_t : obV}   (hP : va_P (dC, dI) vwCl (wX7 o_t a_t cI v_t h_t) s.heap) :
    ∀ (n : Nat) (y : Int32 × Int32) (r : Int32), f_X7_helpedMany_l4  v_t  n y = some r → ∀ (ls : Array Slot), lv_has ls 3 [(0, .ref o_t), (1, .int y.1), (2, .int y.2)] → W p l e ({ frames := 0, cells := 0, slots := 0, locals := 0 } : Room) s m args below meth c s.heap [] 0 0 (MQ below (vp_Si (fun z => r = z)) args s 0 0 (fun _ => False)) (F0 m 4 ls []) := by
  obtain ⟨hx, hb, hml, hown, hts, hr, hlocks, hK, hN⟩ := C0
  refine lp_W ?_
  intro k4 ih4 y r hf ls hl
  obtain ⟨x1, x2⟩ := y
  have hf : f_X7_helpedMany_b4  v_t x1 x2  k4 = some r := hf
  have hl : lv_has ls 3 [(0, .ref o_t), (1, .int x1), (2, .int x2)] := hl
  unfold f_X7_helpedMany_b4 at hf
  refine lv_iload_n hx hb dX7_helpedMany_4 rfl (lv_at hl 2 rfl) ?_
  refine lv_aload_n hx hb dX7_helpedMany_5 rfl (lv_at hl 0 rfl) ?_
  refine va_get (D := (dC, dI)) (ci := 7) (v := .int (v_t.1 6)) (C := RX7) (T := TX7) (N := 30) hx hb hts hw_X7 hown hK hP 0 rfl rfl 6 (by decide) (hts _ (List.mem_cons_of_mem _ mw_604)) (fun _ h9 => h9) rfl dX7_helpedMany_6 ?_
  refine lv_icmp_ge (tgt := 36) hx hb dX7_helpedMany_9 (by decide) (fun c_9 => ?_) (fun c_9 => ?_)
  · have hf := ho_t hf c_9
    refine lv_iload_n hx hb dX7_helpedMany_36 rfl (lv_at hl 1 rfl) ?_
    obtain rfl := Option.some.inj hf
    exact W.iret (v := x1) hx hb hr (fun t ht hW => ⟨_, rfl, rfl, ht⟩) (fun q hq => by cases hq) dX7_helpedMany_37 hlocks
  · have hf := ho_f hf c_9
    refine lv_iload_n hx hb dX7_helpedMany_12 rfl (lv_at hl 1 rfl) ?_
    refine lv_aload_n hx hb dX7_helpedMany_13 rfl (lv_at hl 0 rfl) ?_
    refine va_get (D := (dC, dI)) (ci := 7) (v := .ref (a_t 12)) (C := RX7) (T := TX7) (N := 30) hx hb hts hw_X7 hown hK hP 0 rfl rfl 12 (by decide) (hts _ (List.mem_cons_of_mem _ mw_610)) (fun _ h9 => h9) rfl dX7_helpedMany_14 ?_
    refine lv_iload_n hx hb dX7_helpedMany_17 rfl (lv_at hl 2 rfl) ?_
    obtain ⟨h_18, hf⟩ := ho_g hf
    refine va_iald (n := 5) (f := (v_t.2 12)) hx hb hK hP 5 0 rfl rfl h_18 dX7_helpedMany_18 ?_
    refine lv_iconst (v := (-1)) hx hb dX7_helpedMany_19 (by decide) ?_
    refine lv_icmp_ne (tgt := 27) hx hb dX7_helpedMany_20 (by decide) (fun c_20 => ?_) (fun c_20 => ?_)
    · have hf := ho_f hf c_20
      refine lv_iconst (v := 1) hx hb dX7_helpedMany_27 (by decide) ?_
      exact w_X7_helpedMany_b28 ⟨hx, hb, hml, hown, hts, hr, hlocks, hK, hN⟩ ih4 hP hf (lv_sub hl [0, 2] rfl)
    · have hf := ho_t hf c_20
      refine lv_iconst (v := 0) hx hb dX7_helpedMany_23 (by decide) ?_
      refine lv_goto (tgt := 28) hx hb dX7_helpedMany_24 (by decide) ?_
      exact w_X7_helpedMany_b28 ⟨hx, hb, hml, hown, hts, hr, hlocks, hK, hN⟩ ih4 hP hf (lv_sub hl [0, 2] rfl)
set_option maxHeartbeats 4000000 in
set_option maxRecDepth 100000 in
theorem c_X7_helpedMany (l : Launch) (dC : Nat → ClassId) (dI : Nat → Nat → Nat) (cI cII : ClassId) (o_t : Nat) (a_t : Nat → Nat) (v_t : obV) (h_t : Int64)  (r : Int32) (hf : f_X7_helpedMany  v_t  = some r) :
    Met l yX7_helpedMany (wd yX7_helpedMany cX7_helpedMany 3 (some .int)) ({ frames := 0, cells := 0, slots := 0, locals := 0 } : Room) (va_Pc [.ref o_t] (pB (dC, dI) vwCl (wX7 o_t a_t cI v_t h_t) (hTY cI cII))) (vp_Si (fun z => r = z)) 0 0 (fun _ => False) := by
  refine Met.ofW (cc := cX7_helpedMany) (maxL := 3) (ret := (some .int)) (by decide) rfl ?_
  intro p e s m args below meth c s₁ B hml hv
  obtain ⟨rfl, hP, hK, hN⟩ := hv
  have hx := B.exec
  have hb := B.bytes
  have hr := B.returns
  have hts := atoms_spec (ws := (wd yX7_helpedMany cX7_helpedMany 3 (some .int))) B.pre
  have hown : s.vm.findClass RX7 = some m.cls := findClass_of_methodNamed B.named
  have hlocks := B.notSynchronized
  have hl := lv_entry ([.ref o_t]) (n := 3) (Nat.le_of_ble_eq_true rfl)
  rw [lg_entry_eq]
  generalize (lg_sl ([.ref o_t]) ++ List.replicate (3 - (lg_sl ([.ref o_t])).length) Slot.unset).toArray = ls at hl ⊢
  have hl : lv_has ls 3 [(0, .ref o_t)] := hl
  unfold f_X7_helpedMany at hf
  refine lv_iconst (v := 0) hx hb dX7_helpedMany_0 (by decide) ?_
  refine lv_istore_n (lv' := [(1, .int 0), (0, .ref o_t)]) hx hb dX7_helpedMany_1 rfl hl (by decide) rfl (fun ls hl => ?_)
  refine lv_iconst (v := 0) hx hb dX7_helpedMany_2 (by decide) ?_
  refine lv_istore_n (lv' := [(2, .int 0), (1, .int 0), (0, .ref o_t)]) hx hb dX7_helpedMany_3 rfl hl (by decide) rfl (fun ls hl => ?_)
  exact w_X7_helpedMany_l4 ⟨hx, hb, hml, hown, hts, hr, hlocks, hK, hN⟩  hP _ _ _ hf _ (lv_sub hl [2, 1, 0] rfl)
set_option maxHeartbeats 4000000 in
set_option maxRecDepth 100000 in
theorem w_X7_whenOf_b113 {p : Program} {l : Launch} {e : Env} {s : State} {m : MethodId} {args : Array Value} {below : List Frame} {meth : Method} {c : Code} {dC : Nat → ClassId} {dI : Nat → Nat → Nat} {cI cII : ClassId} {o_t : Nat} {a_t : Nat → Nat} {A : Nat → Prop} (C0 : hC p s m args meth c dC dI cI cII RX7 cX7_whenOf 7 (wd yX7_whenOf cX7_whenOf 7 (some .int)) (some .int)) (hA : ∀ q, s.heap.size ≤ q → A q) {h_t : Int64} {v_t : obV} {x1 : Int32} {x2 : Int32} {x4 : Int32} {s0 : Int32} {s1 : Int32} {k16 : obV × Int32 × Int32 → Option (Int32 × obV)} (ih16 : ∀ (y : obV × Int32 × Int32) (r : Int32 × obV), k16 y = some r → ∀ (H : Heap) (locs : List Loc) (ls : Array Slot), va_P (dC, dI) vwCl (wX7 o_t a_t cI y.1 h_t) H → va_D A (wX7 o_t a_t cI y.1 h_t) → va_S A s.heap H locs → lv_has ls 7 [(0, .ref o_t), (1, .int x1), (2, .int x2), (3, .int y.2.1), (4, .int y.2.2)] → W p l e ({ frames := 4, cells := 0, slots := 0, locals := 90 } : Room) s m args below meth c H locs 0 0 (MQ below (va_Qi (fun (z : Int32) (_ : Unit) => r.1 = z) (fun _ t => va_P (dC, dI) vwCl (wX7 o_t a_t cI r.2 h_t) t.heap ∧ va_D A (wX7 o_t a_t cI r.2 h_t)) A) args s 0 0 A) (F0 m 16 ls []))  {H : Heap} {locs : List Loc} (hP : va_P (dC, dI) vwCl (wX7 o_t a_t cI v_t h_t) H) (hD : va_D A (wX7 o_t a_t cI v_t h_t)) (hS : va_S A s.heap H locs) {r : Int32 × obV} (hf : f_X7_whenOf_b113  v_t x1 x2 x4 s0 s1 k16 = some r) {ls : Array Slot} (hl : lv_has ls 7 [(0, .ref o_t), (1, .int x1), (2, .int x2), (4, .int x4)]) :
    W p l e ({ frames := 4, cells := 0, slots := 0, locals := 90 } : Room) s m args below meth c H locs 0 0 (MQ below (va_Qi (fun (z : Int32) (_ : Unit) => r.1 = z) (fun _ t => va_P (dC, dI) vwCl (wX7 o_t a_t cI r.2 h_t) t.heap ∧ va_D A (wX7 o_t a_t cI r.2 h_t)) A) args s 0 0 A) (F0 m 113 ls [.int s1, .int s0]) := by
  obtain ⟨hx, hb, hml, hown, hts, hr, hlocks, hK, hN⟩ := C0
  unfold f_X7_whenOf_b113 at hf
  refine lv_ior hx hb dX7_whenOf_113 ?_
  refine lv_istore_n (lv' := [(3, .int (s0 ||| s1)), (0, .ref o_t), (1, .int x1), (2, .int x2), (4, .int x4)]) hx hb dX7_whenOf_114 rfl hl (by decide) rfl (fun ls hl => ?_)
  refine lv_iinc (v := (x4 + 1)) (lv' := [(4, .int (x4 + 1)), (3, .int (s0 ||| s1)), (0, .ref o_t), (1, .int x1), (2, .int x2)]) hx hb dX7_whenOf_115 hl (k := 4) rfl (hp_inc (by decide)) (by decide) rfl (fun ls hl => ?_)
  refine lv_goto (tgt := 16) hx hb dX7_whenOf_118 (by decide) ?_
  exact ih16 (v_t, (s0 ||| s1), (x4 + 1)) _ hf _ _ _ hP hD hS (lv_sub hl [2, 3, 4, 1, 0] rfl)
set_option maxHeartbeats 4000000 in
set_option maxRecDepth 100000 in
theorem w_X7_whenOf_l45 {p : Program} {l : Launch} {e : Env} {s : State} {m : MethodId} {args : Array Value} {below : List Frame} {meth : Method} {c : Code} {dC : Nat → ClassId} {dI : Nat → Nat → Nat} {cI cII : ClassId} {o_t : Nat} {a_t : Nat → Nat} {A : Nat → Prop} (C0 : hC p s m args meth c dC dI cI cII RX7 cX7_whenOf 7 (wd yX7_whenOf cX7_whenOf 7 (some .int)) (some .int)) (hA : ∀ q, s.heap.size ≤ q → A q) {h_t : Int64} {v_t : obV} {x1 : Int32} {x2 : Int32} {x3 : Int32} {x4 : Int32} {k16 : obV × Int32 × Int32 → Option (Int32 × obV)} (ih16 : ∀ (y : obV × Int32 × Int32) (r : Int32 × obV), k16 y = some r → ∀ (H : Heap) (locs : List Loc) (ls : Array Slot), va_P (dC, dI) vwCl (wX7 o_t a_t cI y.1 h_t) H → va_D A (wX7 o_t a_t cI y.1 h_t) → va_S A s.heap H locs → lv_has ls 7 [(0, .ref o_t), (1, .int x1), (2, .int x2), (3, .int y.2.1), (4, .int y.2.2)] → W p l e ({ frames := 4, cells := 0, slots := 0, locals := 90 } : Room) s m args below meth c H locs 0 0 (MQ below (va_Qi (fun (z : Int32) (_ : Unit) => r.1 = z) (fun _ t => va_P (dC, dI) vwCl (wX7 o_t a_t cI r.2 h_t) t.heap ∧ va_D A (wX7 o_t a_t cI r.2 h_t)) A) args s 0 0 A) (F0 m 16 ls []))  :
    ∀ (n : Nat) (y : Int32 × Int32) (r : Int32 × obV), f_X7_whenOf_l45  v_t x1 x2 x3 x4 k16 n y = some r → ∀ (H : Heap) (locs : List Loc) (ls : Array Slot), va_P (dC, dI) vwCl (wX7 o_t a_t cI v_t h_t) H → va_D A (wX7 o_t a_t cI v_t h_t) → va_S A s.heap H locs → lv_has ls 7 [(0, .ref o_t), (1, .int x1), (2, .int x2), (3, .int x3), (4, .int x4), (5, .int y.1), (6, .int y.2)] → W p l e ({ frames := 4, cells := 0, slots := 0, locals := 90 } : Room) s m args below meth c H locs 0 0 (MQ below (va_Qi (fun (z : Int32) (_ : Unit) => r.1 = z) (fun _ t => va_P (dC, dI) vwCl (wX7 o_t a_t cI r.2 h_t) t.heap ∧ va_D A (wX7 o_t a_t cI r.2 h_t)) A) args s 0 0 A) (F0 m 45 ls []) := by
  obtain ⟨hx, hb, hml, hown, hts, hr, hlocks, hK, hN⟩ := C0
  refine lp_W ?_
  intro k45 ih45 y r hf H locs ls hP hD hS hl
  obtain ⟨x5, x6⟩ := y
  have hf : f_X7_whenOf_b45  v_t x1 x2 x3 x4 x5 x6 k16 k45 = some r := hf
  have hP : va_P (dC, dI) vwCl (wX7 o_t a_t cI v_t h_t) H := hP
  have hD : va_D A (wX7 o_t a_t cI v_t h_t) := hD
  have hl : lv_has ls 7 [(0, .ref o_t), (1, .int x1), (2, .int x2), (3, .int x3), (4, .int x4), (5, .int x5), (6, .int x6)] := hl
  unfold f_X7_whenOf_b45 at hf
  refine lv_iload hx hb dX7_whenOf_45 (lv_at hl 6 rfl) ?_
  refine lv_aload_n hx hb dX7_whenOf_47 rfl (lv_at hl 0 rfl) ?_
  refine va_get (D := (dC, dI)) (ci := 7) (v := .int (v_t.1 18)) (C := RX7) (T := TX7) (N := 30) hx hb hts hw_X7 hown hK hP 0 rfl rfl 18 (by decide) (hts _ (List.mem_cons_of_mem _ mw_616)) (fun _ h9 => h9) rfl dX7_whenOf_48 ?_
  refine lv_icmp_ge (tgt := 99) hx hb dX7_whenOf_51 (by decide) (fun c_51 => ?_) (fun c_51 => ?_)
  · have hf := ho_t hf c_51
    refine lv_iload_n hx hb dX7_whenOf_99 rfl (lv_at hl 3 rfl) ?_
    refine lv_iload hx hb dX7_whenOf_100 (lv_at hl 5 rfl) ?_
    refine lv_if_eq (tgt := 112) hx hb dX7_whenOf_102 (by decide) (fun c_102 => ?_) (fun c_102 => ?_)
    · have hf := ho_t hf c_102
      refine lv_iconst (v := 0) hx hb dX7_whenOf_112 (by decide) ?_
      exact w_X7_whenOf_b113 ⟨hx, hb, hml, hown, hts, hr, hlocks, hK, hN⟩ hA ih16 hP hD hS hf (lv_sub hl [0, 1, 2, 4] rfl)
    · have hf := ho_f hf c_102
      refine lv_iconst (v := 1) hx hb dX7_whenOf_105 (by decide) ?_
      refine lv_iload hx hb dX7_whenOf_106 (lv_at hl 4 rfl) ?_
      refine lv_ishl hx hb dX7_whenOf_108 ?_
      refine lv_goto (tgt := 113) hx hb dX7_whenOf_109 (by decide) ?_
      exact w_X7_whenOf_b113 ⟨hx, hb, hml, hown, hts, hr, hlocks, hK, hN⟩ hA ih16 hP hD hS hf (lv_sub hl [0, 1, 2, 4] rfl)
  · have hf := ho_f hf c_51
    refine lv_iload hx hb dX7_whenOf_54 (lv_at hl 5 rfl) ?_
    refine lv_if_eq (tgt := 90) hx hb dX7_whenOf_56 (by decide) (fun c_56 => ?_) (fun c_56 => ?_)
    · have hf := ho_t hf c_56
      refine lv_iconst (v := 0) hx hb dX7_whenOf_90 (by decide) ?_
      refine lv_istore (lv' := [(5, .int 0), (0, .ref o_t), (1, .int x1), (2, .int x2), (3, .int x3), (4, .int x4), (6, .int x6)]) hx hb dX7_whenOf_91 hl (by decide) rfl (fun ls hl => ?_)
      refine lv_iinc (v := (x6 + 1)) (lv' := [(6, .int (x6 + 1)), (5, .int 0), (0, .ref o_t), (1, .int x1), (2, .int x2), (3, .int x3), (4, .int x4)]) hx hb dX7_whenOf_93 hl (k := 6) rfl (hp_inc (by decide)) (by decide) rfl (fun ls hl => ?_)
      refine lv_goto (tgt := 45) hx hb dX7_whenOf_96 (by decide) ?_
      exact ih45 (0, (x6 + 1)) _ hf _ _ _ hP hD hS (lv_sub hl [2, 3, 4, 5, 6, 1, 0] rfl)
    · have hf := ho_f hf c_56
      refine lv_aload_n hx hb dX7_whenOf_59 rfl (lv_at hl 0 rfl) ?_
      refine lv_aload_n hx hb dX7_whenOf_60 rfl (lv_at hl 0 rfl) ?_
      refine va_get (D := (dC, dI)) (ci := 7) (v := .ref (a_t 19)) (C := RX7) (T := TX7) (N := 30) hx hb hts hw_X7 hown hK hP 0 rfl rfl 19 (by decide) (hts _ (List.mem_cons_of_mem _ mw_617)) (fun _ h9 => h9) rfl dX7_whenOf_61 ?_
      refine lv_iconst (v := 2) hx hb dX7_whenOf_64 (by decide) ?_
      refine lv_iload hx hb dX7_whenOf_65 (lv_at hl 6 rfl) ?_
      refine lv_imul hx hb dX7_whenOf_67 ?_
      obtain ⟨h_68, hf⟩ := ho_g hf
      refine va_iald (n := 16) (f := (v_t.2 19)) hx hb hK hP 8 0 rfl rfl h_68 dX7_whenOf_68 ?_
      obtain ⟨u_69, e_69, hf⟩ := ho_b hf
      refine vp_callSi (va_runV (As := [.int ((v_t.2 19) (Int32.toNatClampNeg (2 * x6)))]) (rest := []) ⟨hx, hb, hml, hown, hts⟩ (c_X7_waitingAt l dC dI cI cII o_t a_t v_t h_t (((v_t.2 19) (Int32.toNatClampNeg (2 * x6)))) u_69 e_69) (cwV 1 hts (hw_giV mw_781 mw_783 mw_33 mw_60 mw_784) rfl rfl rfl (by decide +kernel) ⟨Nat.le_of_ble_eq_true rfl, Nat.le_of_ble_eq_true rfl⟩) ⟨pB_blind, va_recv hK hP (ci := 7) (q0 := 0) rfl rfl, fun U hU hW => ⟨rfl, pB_go hP hK hN hU hW⟩⟩ rfl rfl hl.1 rfl (lv_room (Nat.le_of_ble_eq_true rfl)) dX7_whenOf_69 ⟨Nat.zero_le _, Nat.zero_le _⟩).run (fun z_69 ez_69 => ?_)
      subst ez_69
      refine lv_aload_n hx hb dX7_whenOf_72 rfl (lv_at hl 0 rfl) ?_
      refine va_get (D := (dC, dI)) (ci := 7) (v := .ref (a_t 19)) (C := RX7) (T := TX7) (N := 30) hx hb hts hw_X7 hown hK hP 0 rfl rfl 19 (by decide) (hts _ (List.mem_cons_of_mem _ mw_617)) (fun _ h9 => h9) rfl dX7_whenOf_73 ?_
      refine lv_iconst (v := 2) hx hb dX7_whenOf_76 (by decide) ?_
      refine lv_iload hx hb dX7_whenOf_77 (lv_at hl 6 rfl) ?_
      refine lv_imul hx hb dX7_whenOf_79 ?_
      refine lv_iconst (v := 1) hx hb dX7_whenOf_80 (by decide) ?_
      refine lv_iadd hx hb dX7_whenOf_81 ?_
      obtain ⟨h_82, hf⟩ := ho_g hf
      refine va_iald (n := 16) (f := (v_t.2 19)) hx hb hK hP 8 0 rfl rfl h_82 dX7_whenOf_82 ?_
      refine lv_icmp_ne (tgt := 90) hx hb dX7_whenOf_83 (by decide) (fun c_83 => ?_) (fun c_83 => ?_)
      · have hf := ho_f hf c_83
        refine lv_iconst (v := 0) hx hb dX7_whenOf_90 (by decide) ?_
        refine lv_istore (lv' := [(5, .int 0), (0, .ref o_t), (1, .int x1), (2, .int x2), (3, .int x3), (4, .int x4), (6, .int x6)]) hx hb dX7_whenOf_91 hl (by decide) rfl (fun ls hl => ?_)
        refine lv_iinc (v := (x6 + 1)) (lv' := [(6, .int (x6 + 1)), (5, .int 0), (0, .ref o_t), (1, .int x1), (2, .int x2), (3, .int x3), (4, .int x4)]) hx hb dX7_whenOf_93 hl (k := 6) rfl (hp_inc (by decide)) (by decide) rfl (fun ls hl => ?_)
        refine lv_goto (tgt := 45) hx hb dX7_whenOf_96 (by decide) ?_
        exact ih45 (0, (x6 + 1)) _ hf _ _ _ hP hD hS (lv_sub hl [2, 3, 4, 5, 6, 1, 0] rfl)
      · have hf := ho_t hf c_83
        refine lv_iconst (v := 1) hx hb dX7_whenOf_86 (by decide) ?_
        refine lv_goto (tgt := 91) hx hb dX7_whenOf_87 (by decide) ?_
        refine lv_istore (lv' := [(5, .int 1), (0, .ref o_t), (1, .int x1), (2, .int x2), (3, .int x3), (4, .int x4), (6, .int x6)]) hx hb dX7_whenOf_91 hl (by decide) rfl (fun ls hl => ?_)
        refine lv_iinc (v := (x6 + 1)) (lv' := [(6, .int (x6 + 1)), (5, .int 1), (0, .ref o_t), (1, .int x1), (2, .int x2), (3, .int x3), (4, .int x4)]) hx hb dX7_whenOf_93 hl (k := 6) rfl (hp_inc (by decide)) (by decide) rfl (fun ls hl => ?_)
        refine lv_goto (tgt := 45) hx hb dX7_whenOf_96 (by decide) ?_
        exact ih45 (1, (x6 + 1)) _ hf _ _ _ hP hD hS (lv_sub hl [2, 3, 4, 5, 6, 1, 0] rfl)
set_option maxHeartbeats 4000000 in
set_option maxRecDepth 100000 in
theorem w_X7_whenOf_l16 {p : Program} {l : Launch} {e : Env} {s : State} {m : MethodId} {args : Array Value} {below : List Frame} {meth : Method} {c : Code} {dC : Nat → ClassId} {dI : Nat → Nat → Nat} {cI cII : ClassId} {o_t : Nat} {a_t : Nat → Nat} {A : Nat → Prop} (C0 : hC p s m args meth c dC dI cI cII RX7 cX7_whenOf 7 (wd yX7_whenOf cX7_whenOf 7 (some .int)) (some .int)) (hA : ∀ q, s.heap.size ≤ q → A q) {h_t : Int64} {x1 : Int32} {x2 : Int32}    :
    ∀ (n : Nat) (y : obV × Int32 × Int32) (r : Int32 × obV), f_X7_whenOf_l16  x1 x2  n y = some r → ∀ (H : Heap) (locs : List Loc) (ls : Array Slot), va_P (dC, dI) vwCl (wX7 o_t a_t cI y.1 h_t) H → va_D A (wX7 o_t a_t cI y.1 h_t) → va_S A s.heap H locs → lv_has ls 7 [(0, .ref o_t), (1, .int x1), (2, .int x2), (3, .int y.2.1), (4, .int y.2.2)] → W p l e ({ frames := 4, cells := 0, slots := 0, locals := 90 } : Room) s m args below meth c H locs 0 0 (MQ below (va_Qi (fun (z : Int32) (_ : Unit) => r.1 = z) (fun _ t => va_P (dC, dI) vwCl (wX7 o_t a_t cI r.2 h_t) t.heap ∧ va_D A (wX7 o_t a_t cI r.2 h_t)) A) args s 0 0 A) (F0 m 16 ls []) := by
  obtain ⟨hx, hb, hml, hown, hts, hr, hlocks, hK, hN⟩ := C0
  refine lp_W ?_
  intro k16 ih16 y r hf H locs ls hP hD hS hl
  obtain ⟨v_t, x3, x4⟩ := y
  have hf : f_X7_whenOf_b16  v_t x1 x2 x3 x4  k16 = some r := hf
  have hP : va_P (dC, dI) vwCl (wX7 o_t a_t cI v_t h_t) H := hP
  have hD : va_D A (wX7 o_t a_t cI v_t h_t) := hD
  have hl : lv_has ls 7 [(0, .ref o_t), (1, .int x1), (2, .int x2), (3, .int x3), (4, .int x4)] := hl
  unfold f_X7_whenOf_b16 at hf
  refine lv_iload hx hb dX7_whenOf_16 (lv_at hl 4 rfl) ?_
  refine lv_bipush (v := 10) hx hb dX7_whenOf_18 (by decide) ?_
  refine lv_icmp_ge (tgt := 121) hx hb dX7_whenOf_20 (by decide) (fun c_20 => ?_) (fun c_20 => ?_)
  · have hf := ho_t hf c_20
    refine lv_aload_n hx hb dX7_whenOf_121 rfl (lv_at hl 0 rfl) ?_
    refine va_get (D := (dC, dI)) (ci := 7) (v := .ref (a_t 10)) (C := RX7) (T := TX7) (N := 30) hx hb hts hw_X7 hown hK hP 0 rfl rfl 10 (by decide) (hts _ (List.mem_cons_of_mem _ mw_608)) (fun _ h9 => h9) rfl dX7_whenOf_122 ?_
    refine lv_iconst (v := 3) hx hb dX7_whenOf_125 (by decide) ?_
    refine lv_iload_n hx hb dX7_whenOf_126 rfl (lv_at hl 1 rfl) ?_
    refine lv_imul hx hb dX7_whenOf_127 ?_
    refine lv_iconst (v := 2) hx hb dX7_whenOf_128 (by decide) ?_
    refine lv_iadd hx hb dX7_whenOf_129 ?_
    refine lv_iload_n hx hb dX7_whenOf_130 rfl (lv_at hl 2 rfl) ?_
    obtain ⟨h_131, hf⟩ := ho_g hf
    refine va_iast (n := 15) (f := (v_t.2 10)) hx hb hK hP hD hS 3 0 rfl rfl h_131 dX7_whenOf_131 (fun H locs hP hD hS => ?_)
    have hP : va_P (dC, dI) vwCl (wX7 o_t a_t cI (oA v_t 10 (Int32.toNatClampNeg ((3 * x1) + 2)) x2) h_t) H := hP
    have hD : va_D A (wX7 o_t a_t cI (oA v_t 10 (Int32.toNatClampNeg ((3 * x1) + 2)) x2) h_t) := hD
    obtain ⟨v_t_131, e_v_t_131⟩ : ∃ z : obV, z = (oA v_t 10 (Int32.toNatClampNeg ((3 * x1) + 2)) x2) := ⟨_, rfl⟩
    rw [← e_v_t_131] at hP hD
    have hf := ho_l hf v_t_131 e_v_t_131
    refine lv_iload_n hx hb dX7_whenOf_132 rfl (lv_at hl 3 rfl) ?_
    obtain rfl := Option.some.inj hf
    exact W.iret (v := x3) hx hb hr (fun t ht hW => ⟨⟨_, (), rfl, rfl, by rw [ht]; exact hP, hD⟩, hS.F ht⟩) hS.2.2 dX7_whenOf_133 hlocks
  · have hf := ho_f hf c_20
    refine lv_aload_n hx hb dX7_whenOf_23 rfl (lv_at hl 0 rfl) ?_
    refine va_get (D := (dC, dI)) (ci := 7) (v := .ref (a_t 10)) (C := RX7) (T := TX7) (N := 30) hx hb hts hw_X7 hown hK hP 0 rfl rfl 10 (by decide) (hts _ (List.mem_cons_of_mem _ mw_608)) (fun _ h9 => h9) rfl dX7_whenOf_24 ?_
    refine lv_iconst (v := 3) hx hb dX7_whenOf_27 (by decide) ?_
    refine lv_iload_n hx hb dX7_whenOf_28 rfl (lv_at hl 1 rfl) ?_
    refine lv_imul hx hb dX7_whenOf_29 ?_
    refine lv_iconst (v := 2) hx hb dX7_whenOf_30 (by decide) ?_
    refine lv_iadd hx hb dX7_whenOf_31 ?_
    refine lv_iload hx hb dX7_whenOf_32 (lv_at hl 4 rfl) ?_
    obtain ⟨h_34, hf⟩ := ho_g hf
    refine va_iast (n := 15) (f := (v_t.2 10)) hx hb hK hP hD hS 3 0 rfl rfl h_34 dX7_whenOf_34 (fun H locs hP hD hS => ?_)
    have hP : va_P (dC, dI) vwCl (wX7 o_t a_t cI (oA v_t 10 (Int32.toNatClampNeg ((3 * x1) + 2)) x4) h_t) H := hP
    have hD : va_D A (wX7 o_t a_t cI (oA v_t 10 (Int32.toNatClampNeg ((3 * x1) + 2)) x4) h_t) := hD
    obtain ⟨v_t_34, e_v_t_34⟩ : ∃ z : obV, z = (oA v_t 10 (Int32.toNatClampNeg ((3 * x1) + 2)) x4) := ⟨_, rfl⟩
    rw [← e_v_t_34] at hP hD
    have hf := ho_l hf v_t_34 e_v_t_34
    refine lv_aload_n hx hb dX7_whenOf_35 rfl (lv_at hl 0 rfl) ?_
    obtain ⟨u_36, e_36, hf⟩ := ho_b hf
    have hFc := va_free (wc := (wX7 o_t a_t cI v_t_34 h_t)) hD hS hA [0, 1, 2, 3, 4, 5, 6, 7, 8, 9, 10, 11, 12] rfl
    refine va_callv (va_runV (As := []) (rest := []) ⟨hx, hb, hml, hown, hts⟩ (c_X7_layDay l dC dI cI cII o_t a_t v_t_34 h_t _ u_36 e_36) (cwV 0 hts (hw_giV mw_737 mw_739 mw_22 mw_60 mw_740) rfl rfl rfl (by decide +kernel) ⟨Nat.le_of_ble_eq_true rfl, Nat.le_of_ble_eq_true rfl⟩) ⟨qB_blind, va_recv hK hP (ci := 7) (q0 := 0) rfl rfl, fun U hU hW => ⟨rfl, qB_go hP hD hK hN hU hW⟩⟩ rfl rfl hl.1 rfl (lv_room (Nat.le_of_ble_eq_true rfl)) dX7_whenOf_36 ⟨Nat.zero_le _, Nat.zero_le _⟩) hS (fun q _ h => hFc q h) hFc (fun u t H1 locs ht hvm hw hB hz1 hk1 hS => ?_)
    obtain ⟨hP1, hD1⟩ := hB
    rw [ht] at hP1
    clear hP hD
    generalize H1 = H at hP1 hS ⊢
    have hP : va_P (dC, dI) vwCl (wX7 o_t a_t cI u_36 h_t) H := hP1
    have hD : va_D A (wX7 o_t a_t cI u_36 h_t) := hD1.weaken (fun _ q _ h => hFc q.1 h)
    refine lv_iconst (v := 1) hx hb dX7_whenOf_39 (by decide) ?_
    refine lv_istore (lv' := [(5, .int 1), (0, .ref o_t), (1, .int x1), (2, .int x2), (3, .int x3), (4, .int x4)]) hx hb dX7_whenOf_40 hl (by decide) rfl (fun ls hl => ?_)
    refine lv_iconst (v := 0) hx hb dX7_whenOf_42 (by decide) ?_
    refine lv_istore (lv' := [(6, .int 0), (5, .int 1), (0, .ref o_t), (1, .int x1), (2, .int x2), (3, .int x3), (4, .int x4)]) hx hb dX7_whenOf_43 hl (by decide) rfl (fun ls hl => ?_)
    exact w_X7_whenOf_l45 ⟨hx, hb, hml, hown, hts, hr, hlocks, hK, hN⟩ hA ih16 _ _ _ hf _ _ _ hP hD hS (lv_sub hl [2, 3, 4, 5, 6, 1, 0] rfl)
set_option maxHeartbeats 4000000 in
set_option maxRecDepth 100000 in
theorem c_X7_whenOf (l : Launch) (dC : Nat → ClassId) (dI : Nat → Nat → Nat) (cI cII : ClassId) (o_t : Nat) (a_t : Nat → Nat) (v_t : obV) (h_t : Int64) (x1 : Int32) (sz : Nat) (r : Int32 × obV) (hf : f_X7_whenOf  v_t x1 = some r) :
    Met l yX7_whenOf (wd yX7_whenOf cX7_whenOf 7 (some .int)) ({ frames := 4, cells := 0, slots := 0, locals := 90 } : Room) (va_Pc [.ref o_t, .int x1] (qB (dC, dI) vwCl (wX7 o_t a_t cI v_t h_t) (hTY cI cII) sz)) (va_Qi (fun (z : Int32) (_ : Unit) => r.1 = z) (fun _ t => va_P (dC, dI) vwCl (wX7 o_t a_t cI r.2 h_t) t.heap ∧ va_D (va_A (wX7 o_t a_t cI v_t h_t) sz) (wX7 o_t a_t cI r.2 h_t)) (va_A (wX7 o_t a_t cI v_t h_t) sz)) 0 0 (va_A (wX7 o_t a_t cI v_t h_t) sz) := by
  refine Met.ofW (cc := cX7_whenOf) (maxL := 7) (ret := (some .int)) (by decide) rfl ?_
  intro p e s m args below meth c s₁ B hml hv
  obtain ⟨rfl, hsz, hD0, hP, hK, hN⟩ := hv
  have hx := B.exec
  have hb := B.bytes
  have hr := B.returns
  have hts := atoms_spec (ws := (wd yX7_whenOf cX7_whenOf 7 (some .int))) B.pre
  have hown : s.vm.findClass RX7 = some m.cls := findClass_of_methodNamed B.named
  have hlocks := B.notSynchronized
  subst hsz
  have hD := hD0.self (sz := s.heap.size)
  generalize hAe : va_A (wX7 o_t a_t cI v_t h_t) s.heap.size = A at hD ⊢
  have hA : ∀ q : Nat, s.heap.size ≤ q → A q := fun q h => by rw [← hAe]; exact Or.inr h
  have hS : va_S A s.heap s.heap [] := va_S.rf
  have hl := lv_entry ([.ref o_t, .int x1]) (n := 7) (Nat.le_of_ble_eq_true rfl)
  rw [lg_entry_eq]
  generalize (lg_sl ([.ref o_t, .int x1]) ++ List.replicate (7 - (lg_sl ([.ref o_t, .int x1])).length) Slot.unset).toArray = ls at hl ⊢
  have hl : lv_has ls 7 [(0, .ref o_t), (1, .int x1)] := hl
  clear hAe hD0
  unfold f_X7_whenOf at hf
  refine lv_aload_n hx hb dX7_whenOf_0 rfl (lv_at hl 0 rfl) ?_
  refine va_get (D := (dC, dI)) (ci := 7) (v := .ref (a_t 10)) (C := RX7) (T := TX7) (N := 30) hx hb hts hw_X7 hown hK hP 0 rfl rfl 10 (by decide) (hts _ (List.mem_cons_of_mem _ mw_608)) (fun _ h9 => h9) rfl dX7_whenOf_1 ?_
  refine lv_iconst (v := 3) hx hb dX7_whenOf_4 (by decide) ?_
  refine lv_iload_n hx hb dX7_whenOf_5 rfl (lv_at hl 1 rfl) ?_
  refine lv_imul hx hb dX7_whenOf_6 ?_
  refine lv_iconst (v := 2) hx hb dX7_whenOf_7 (by decide) ?_
  refine lv_iadd hx hb dX7_whenOf_8 ?_
  obtain ⟨h_9, hf⟩ := ho_g hf
  refine va_iald (n := 15) (f := (v_t.2 10)) hx hb hK hP 3 0 rfl rfl h_9 dX7_whenOf_9 ?_
  refine lv_istore_n (lv' := [(2, .int ((v_t.2 10) (Int32.toNatClampNeg ((3 * x1) + 2)))), (0, .ref o_t), (1, .int x1)]) hx hb dX7_whenOf_10 rfl hl (by decide) rfl (fun ls hl => ?_)
  refine lv_iconst (v := 0) hx hb dX7_whenOf_11 (by decide) ?_
  refine lv_istore_n (lv' := [(3, .int 0), (2, .int ((v_t.2 10) (Int32.toNatClampNeg ((3 * x1) + 2)))), (0, .ref o_t), (1, .int x1)]) hx hb dX7_whenOf_12 rfl hl (by decide) rfl (fun ls hl => ?_)
  refine lv_iconst (v := 0) hx hb dX7_whenOf_13 (by decide) ?_
  refine lv_istore (lv' := [(4, .int 0), (3, .int 0), (2, .int ((v_t.2 10) (Int32.toNatClampNeg ((3 * x1) + 2)))), (0, .ref o_t), (1, .int x1)]) hx hb dX7_whenOf_14 hl (by decide) rfl (fun ls hl => ?_)
  exact w_X7_whenOf_l16 ⟨hx, hb, hml, hown, hts, hr, hlocks, hK, hN⟩ hA  _ _ _ hf _ _ _ hP hD hS (lv_sub hl [3, 4, 2, 1, 0] rfl)
set_option maxHeartbeats 4000000 in
set_option maxRecDepth 100000 in
theorem w_X7_lookOf_b218 {p : Program} {l : Launch} {e : Env} {s : State} {m : MethodId} {args : Array Value} {below : List Frame} {meth : Method} {c : Code} {dC : Nat → ClassId} {dI : Nat → Nat → Nat} {cI cII : ClassId} {o_t : Nat} {a_t : Nat → Nat} {A : Nat → Prop} (C0 : hC p s m args meth c dC dI cI cII RX7 cX7_lookOf 9 (wd yX7_lookOf cX7_lookOf 9 (some .int)) (some .int)) (hA : ∀ q, s.heap.size ≤ q → A q) {h_t : Int64} {v_t : obV} {x2 : Int32} {x5 : Int32} {x6 : Int32} {x7 : Int32} {s0 : Int32} {k136 : Int32 × Int32 × Int32 → Option (Int32 × obV)} (ih136 : ∀ (y : Int32 × Int32 × Int32) (r : Int32 × obV), k136 y = some r → ∀ (H : Heap) (locs : List Loc) (ls : Array Slot), va_P (dC, dI) vwCl (wX7 o_t a_t cI v_t h_t) H → va_D A (wX7 o_t a_t cI v_t h_t) → va_S A s.heap H locs → lv_has ls 9 [(0, .ref o_t), (2, .int x2), (4, .int y.1), (5, .int y.2.1), (6, .int y.2.2)] → W p l e ({ frames := 5, cells := 0, slots := 0, locals := 116 } : Room) s m args below meth c H locs 0 0 (MQ below (va_Qi (fun (z : Int32) (_ : Unit) => r.1 = z) (fun _ t => va_P (dC, dI) vwCl (wX7 o_t a_t cI r.2 h_t) t.heap ∧ va_D A (wX7 o_t a_t cI r.2 h_t)) A) args s 0 0 A) (F0 m 136 ls []))  {H : Heap} {locs : List Loc} (hP : va_P (dC, dI) vwCl (wX7 o_t a_t cI v_t h_t) H) (hD : va_D A (wX7 o_t a_t cI v_t h_t)) (hS : va_S A s.heap H locs) {r : Int32 × obV} (hf : f_X7_lookOf_b218  v_t x2 x5 x6 x7 s0 k136 = some r) {ls : Array Slot} (hl : lv_has ls 9 [(0, .ref o_t), (2, .int x2), (5, .int x5), (6, .int x6), (7, .int x7)]) :
    W p l e ({ frames := 5, cells := 0, slots := 0, locals := 116 } : Room) s m args below meth c H locs 0 0 (MQ below (va_Qi (fun (z : Int32) (_ : Unit) => r.1 = z) (fun _ t => va_P (dC, dI) vwCl (wX7 o_t a_t cI r.2 h_t) t.heap ∧ va_D A (wX7 o_t a_t cI r.2 h_t)) A) args s 0 0 A) (F0 m 218 ls [.int s0]) := by
  obtain ⟨hx, hb, hml, hown, hts, hr, hlocks, hK, hN⟩ := C0
  unfold f_X7_lookOf_b218 at hf
  refine lv_istore (lv' := [(4, .int s0), (0, .ref o_t), (2, .int x2), (5, .int x5), (6, .int x6), (7, .int x7)]) hx hb dX7_lookOf_218 hl (by decide) rfl (fun ls hl => ?_)
  refine lv_iload hx hb dX7_lookOf_220 (lv_at hl 5 rfl) ?_
  refine lv_iload hx hb dX7_lookOf_222 (lv_at hl 3 rfl) ?_
  refine lv_icmp_ge (tgt := 232) hx hb dX7_lookOf_224 (by decide) (fun c_224 => ?_) (fun c_224 => ?_)
  · have hf := ho_t hf c_224
    refine lv_iload hx hb dX7_lookOf_232 (lv_at hl 3 rfl) ?_
    refine lv_istore (lv' := [(5, .int x5), (4, .int s0), (0, .ref o_t), (2, .int x2), (6, .int x6), (7, .int x7)]) hx hb dX7_lookOf_234 hl (by decide) rfl (fun ls hl => ?_)
    refine lv_iinc (v := (x6 + 1)) (lv' := [(6, .int (x6 + 1)), (5, .int x5), (4, .int s0), (0, .ref o_t), (2, .int x2), (7, .int x7)]) hx hb dX7_lookOf_236 hl (k := 4) rfl (hp_inc (by decide)) (by decide) rfl (fun ls hl => ?_)
    refine lv_goto (tgt := 136) hx hb dX7_lookOf_239 (by decide) ?_
    exact ih136 (s0, x5, (x6 + 1)) _ hf _ _ _ hP hD hS (lv_sub hl [3, 4, 2, 1, 0] rfl)
  · have hf := ho_f hf c_224
    refine lv_iload hx hb dX7_lookOf_227 (lv_at hl 5 rfl) ?_
    refine lv_goto (tgt := 234) hx hb dX7_lookOf_229 (by decide) ?_
    refine lv_istore (lv' := [(5, .int x7), (4, .int s0), (0, .ref o_t), (2, .int x2), (6, .int x6), (7, .int x7)]) hx hb dX7_lookOf_234 hl (by decide) rfl (fun ls hl => ?_)
    refine lv_iinc (v := (x6 + 1)) (lv' := [(6, .int (x6 + 1)), (5, .int x7), (4, .int s0), (0, .ref o_t), (2, .int x2), (7, .int x7)]) hx hb dX7_lookOf_236 hl (k := 4) rfl (hp_inc (by decide)) (by decide) rfl (fun ls hl => ?_)
    refine lv_goto (tgt := 136) hx hb dX7_lookOf_239 (by decide) ?_
    exact ih136 (s0, x7, (x6 + 1)) _ hf _ _ _ hP hD hS (lv_sub hl [3, 4, 2, 1, 0] rfl)
set_option maxHeartbeats 4000000 in
set_option maxRecDepth 100000 in
theorem w_X7_lookOf_l153 {p : Program} {l : Launch} {e : Env} {s : State} {m : MethodId} {args : Array Value} {below : List Frame} {meth : Method} {c : Code} {dC : Nat → ClassId} {dI : Nat → Nat → Nat} {cI cII : ClassId} {o_t : Nat} {a_t : Nat → Nat} {A : Nat → Prop} (C0 : hC p s m args meth c dC dI cI cII RX7 cX7_lookOf 9 (wd yX7_lookOf cX7_lookOf 9 (some .int)) (some .int)) (hA : ∀ q, s.heap.size ≤ q → A q) {h_t : Int64} {v_t : obV} {x2 : Int32} {x4 : Int32} {x5 : Int32} {x6 : Int32} {k136 : Int32 × Int32 × Int32 → Option (Int32 × obV)} (ih136 : ∀ (y : Int32 × Int32 × Int32) (r : Int32 × obV), k136 y = some r → ∀ (H : Heap) (locs : List Loc) (ls : Array Slot), va_P (dC, dI) vwCl (wX7 o_t a_t cI v_t h_t) H → va_D A (wX7 o_t a_t cI v_t h_t) → va_S A s.heap H locs → lv_has ls 9 [(0, .ref o_t), (2, .int x2), (4, .int y.1), (5, .int y.2.1), (6, .int y.2.2)] → W p l e ({ frames := 5, cells := 0, slots := 0, locals := 116 } : Room) s m args below meth c H locs 0 0 (MQ below (va_Qi (fun (z : Int32) (_ : Unit) => r.1 = z) (fun _ t => va_P (dC, dI) vwCl (wX7 o_t a_t cI r.2 h_t) t.heap ∧ va_D A (wX7 o_t a_t cI r.2 h_t)) A) args s 0 0 A) (F0 m 136 ls []))  :
    ∀ (n : Nat) (y : Int32 × Int32) (r : Int32 × obV), f_X7_lookOf_l153  v_t x2 x4 x5 x6 k136 n y = some r → ∀ (H : Heap) (locs : List Loc) (ls : Array Slot), va_P (dC, dI) vwCl (wX7 o_t a_t cI v_t h_t) H → va_D A (wX7 o_t a_t cI v_t h_t) → va_S A s.heap H locs → lv_has ls 9 [(0, .ref o_t), (2, .int x2), (4, .int x4), (5, .int x5), (6, .int x6), (7, .int y.1), (8, .int y.2)] → W p l e ({ frames := 5, cells := 0, slots := 0, locals := 116 } : Room) s m args below meth c H locs 0 0 (MQ below (va_Qi (fun (z : Int32) (_ : Unit) => r.1 = z) (fun _ t => va_P (dC, dI) vwCl (wX7 o_t a_t cI r.2 h_t) t.heap ∧ va_D A (wX7 o_t a_t cI r.2 h_t)) A) args s 0 0 A) (F0 m 153 ls []) := by
  obtain ⟨hx, hb, hml, hown, hts, hr, hlocks, hK, hN⟩ := C0
  refine lp_W ?_
  intro k153 ih153 y r hf H locs ls hP hD hS hl
  obtain ⟨x7, x8⟩ := y
  have hf : f_X7_lookOf_b153  v_t x2 x4 x5 x6 x7 x8 k136 k153 = some r := hf
  have hP : va_P (dC, dI) vwCl (wX7 o_t a_t cI v_t h_t) H := hP
  have hD : va_D A (wX7 o_t a_t cI v_t h_t) := hD
  have hl : lv_has ls 9 [(0, .ref o_t), (2, .int x2), (4, .int x4), (5, .int x5), (6, .int x6), (7, .int x7), (8, .int x8)] := hl
  unfold f_X7_lookOf_b153 at hf
  refine lv_iload hx hb dX7_lookOf_153 (lv_at hl 6 rfl) ?_
  refine lv_bipush (v := 6) hx hb dX7_lookOf_155 (by decide) ?_
  refine lv_icmp_ge (tgt := 204) hx hb dX7_lookOf_157 (by decide) (fun c_157 => ?_) (fun c_157 => ?_)
  · have hf := ho_t hf c_157
    refine lv_iload hx hb dX7_lookOf_204 (lv_at hl 5 rfl) ?_
    refine lv_iload hx hb dX7_lookOf_206 (lv_at hl 3 rfl) ?_
    refine lv_icmp_ge (tgt := 216) hx hb dX7_lookOf_208 (by decide) (fun c_208 => ?_) (fun c_208 => ?_)
    · have hf := ho_t hf c_208
      refine lv_iload hx hb dX7_lookOf_216 (lv_at hl 2 rfl) ?_
      exact w_X7_lookOf_b218 ⟨hx, hb, hml, hown, hts, hr, hlocks, hK, hN⟩ hA ih136 hP hD hS hf (lv_sub hl [0, 1, 3, 4, 5] rfl)
    · have hf := ho_f hf c_208
      refine lv_iload hx hb dX7_lookOf_211 (lv_at hl 4 rfl) ?_
      refine lv_goto (tgt := 218) hx hb dX7_lookOf_213 (by decide) ?_
      exact w_X7_lookOf_b218 ⟨hx, hb, hml, hown, hts, hr, hlocks, hK, hN⟩ hA ih136 hP hD hS hf (lv_sub hl [0, 1, 3, 4, 5] rfl)
  · have hf := ho_f hf c_157
    refine lv_aload_n hx hb dX7_lookOf_160 rfl (lv_at hl 0 rfl) ?_
    refine va_get (D := (dC, dI)) (ci := 7) (v := .ref (a_t 20)) (C := RX7) (T := TX7) (N := 30) hx hb hts hw_X7 hown hK hP 0 rfl rfl 20 (by decide) (hts _ (List.mem_cons_of_mem _ mw_618)) (fun _ h9 => h9) rfl dX7_lookOf_161 ?_
    refine lv_bipush (v := 6) hx hb dX7_lookOf_164 (by decide) ?_
    refine lv_iload hx hb dX7_lookOf_166 (lv_at hl 4 rfl) ?_
    refine lv_imul hx hb dX7_lookOf_168 ?_
    refine lv_iload hx hb dX7_lookOf_169 (lv_at hl 6 rfl) ?_
    refine lv_iadd hx hb dX7_lookOf_171 ?_
    obtain ⟨h_172, hf⟩ := ho_g hf
    refine va_iald (n := 120) (f := (v_t.2 20)) hx hb hK hP 9 0 rfl rfl h_172 dX7_lookOf_172 ?_
    refine lv_iload hx hb dX7_lookOf_173 (lv_at hl 5 rfl) ?_
    refine lv_icmp_le (tgt := 194) hx hb dX7_lookOf_175 (by decide) (fun c_175 => ?_) (fun c_175 => ?_)
    · have hf := ho_t hf c_175
      refine lv_iload hx hb dX7_lookOf_194 (lv_at hl 5 rfl) ?_
      refine lv_istore (lv' := [(7, .int x7), (0, .ref o_t), (2, .int x2), (4, .int x4), (5, .int x5), (6, .int x6), (8, .int x8)]) hx hb dX7_lookOf_196 hl (by decide) rfl (fun ls hl => ?_)
      refine lv_iinc (v := (x8 + 1)) (lv' := [(8, .int (x8 + 1)), (7, .int x7), (0, .ref o_t), (2, .int x2), (4, .int x4), (5, .int x5), (6, .int x6)]) hx hb dX7_lookOf_198 hl (k := 6) rfl (hp_inc (by decide)) (by decide) rfl (fun ls hl => ?_)
      refine lv_goto (tgt := 153) hx hb dX7_lookOf_201 (by decide) ?_
      exact ih153 (x7, (x8 + 1)) _ hf _ _ _ hP hD hS (lv_sub hl [2, 3, 4, 5, 6, 1, 0] rfl)
    · have hf := ho_f hf c_175
      refine lv_aload_n hx hb dX7_lookOf_178 rfl (lv_at hl 0 rfl) ?_
      refine va_get (D := (dC, dI)) (ci := 7) (v := .ref (a_t 20)) (C := RX7) (T := TX7) (N := 30) hx hb hts hw_X7 hown hK hP 0 rfl rfl 20 (by decide) (hts _ (List.mem_cons_of_mem _ mw_618)) (fun _ h9 => h9) rfl dX7_lookOf_179 ?_
      refine lv_bipush (v := 6) hx hb dX7_lookOf_182 (by decide) ?_
      refine lv_iload hx hb dX7_lookOf_184 (lv_at hl 4 rfl) ?_
      refine lv_imul hx hb dX7_lookOf_186 ?_
      refine lv_iload hx hb dX7_lookOf_187 (lv_at hl 6 rfl) ?_
      refine lv_iadd hx hb dX7_lookOf_189 ?_
      obtain ⟨h_190, hf⟩ := ho_g hf
      refine va_iald (n := 120) (f := (v_t.2 20)) hx hb hK hP 9 0 rfl rfl h_190 dX7_lookOf_190 ?_
      refine lv_goto (tgt := 196) hx hb dX7_lookOf_191 (by decide) ?_
      refine lv_istore (lv' := [(7, .int ((v_t.2 20) (Int32.toNatClampNeg ((6 * x6) + x8)))), (0, .ref o_t), (2, .int x2), (4, .int x4), (5, .int x5), (6, .int x6), (8, .int x8)]) hx hb dX7_lookOf_196 hl (by decide) rfl (fun ls hl => ?_)
      refine lv_iinc (v := (x8 + 1)) (lv' := [(8, .int (x8 + 1)), (7, .int ((v_t.2 20) (Int32.toNatClampNeg ((6 * x6) + x8)))), (0, .ref o_t), (2, .int x2), (4, .int x4), (5, .int x5), (6, .int x6)]) hx hb dX7_lookOf_198 hl (k := 6) rfl (hp_inc (by decide)) (by decide) rfl (fun ls hl => ?_)
      refine lv_goto (tgt := 153) hx hb dX7_lookOf_201 (by decide) ?_
      exact ih153 (((v_t.2 20) (Int32.toNatClampNeg ((6 * x6) + x8))), (x8 + 1)) _ hf _ _ _ hP hD hS (lv_sub hl [2, 3, 4, 5, 6, 1, 0] rfl)
set_option maxHeartbeats 4000000 in
set_option maxRecDepth 100000 in
theorem w_X7_lookOf_l136 {p : Program} {l : Launch} {e : Env} {s : State} {m : MethodId} {args : Array Value} {below : List Frame} {meth : Method} {c : Code} {dC : Nat → ClassId} {dI : Nat → Nat → Nat} {cI cII : ClassId} {o_t : Nat} {a_t : Nat → Nat} {A : Nat → Prop} (C0 : hC p s m args meth c dC dI cI cII RX7 cX7_lookOf 9 (wd yX7_lookOf cX7_lookOf 9 (some .int)) (some .int)) (hA : ∀ q, s.heap.size ≤ q → A q) {h_t : Int64} {v_t : obV} {x2 : Int32}    :
    ∀ (n : Nat) (y : Int32 × Int32 × Int32) (r : Int32 × obV), f_X7_lookOf_l136  v_t x2  n y = some r → ∀ (H : Heap) (locs : List Loc) (ls : Array Slot), va_P (dC, dI) vwCl (wX7 o_t a_t cI v_t h_t) H → va_D A (wX7 o_t a_t cI v_t h_t) → va_S A s.heap H locs → lv_has ls 9 [(0, .ref o_t), (2, .int x2), (4, .int y.1), (5, .int y.2.1), (6, .int y.2.2)] → W p l e ({ frames := 5, cells := 0, slots := 0, locals := 116 } : Room) s m args below meth c H locs 0 0 (MQ below (va_Qi (fun (z : Int32) (_ : Unit) => r.1 = z) (fun _ t => va_P (dC, dI) vwCl (wX7 o_t a_t cI r.2 h_t) t.heap ∧ va_D A (wX7 o_t a_t cI r.2 h_t)) A) args s 0 0 A) (F0 m 136 ls []) := by
  obtain ⟨hx, hb, hml, hown, hts, hr, hlocks, hK, hN⟩ := C0
  refine lp_W ?_
  intro k136 ih136 y r hf H locs ls hP hD hS hl
  obtain ⟨x4, x5, x6⟩ := y
  have hf : f_X7_lookOf_b136  v_t x2 x4 x5 x6  k136 = some r := hf
  have hP : va_P (dC, dI) vwCl (wX7 o_t a_t cI v_t h_t) H := hP
  have hD : va_D A (wX7 o_t a_t cI v_t h_t) := hD
  have hl : lv_has ls 9 [(0, .ref o_t), (2, .int x2), (4, .int x4), (5, .int x5), (6, .int x6)] := hl
  unfold f_X7_lookOf_b136 at hf
  refine lv_iload hx hb dX7_lookOf_136 (lv_at hl 4 rfl) ?_
  refine lv_bipush (v := 20) hx hb dX7_lookOf_138 (by decide) ?_
  refine lv_icmp_ge (tgt := 242) hx hb dX7_lookOf_140 (by decide) (fun c_140 => ?_) (fun c_140 => ?_)
  · have hf := ho_t hf c_140
    refine lv_iload hx hb dX7_lookOf_242 (lv_at hl 2 rfl) ?_
    obtain rfl := Option.some.inj hf
    exact W.iret (v := x4) hx hb hr (fun t ht hW => ⟨⟨_, (), rfl, rfl, by rw [ht]; exact hP, hD⟩, hS.F ht⟩) hS.2.2 dX7_lookOf_244 hlocks
  · have hf := ho_f hf c_140
    refine lv_iload_n hx hb dX7_lookOf_143 rfl (lv_at hl 1 rfl) ?_
    refine lv_if_eq (tgt := 242) hx hb dX7_lookOf_144 (by decide) (fun c_144 => ?_) (fun c_144 => ?_)
    · have hf := ho_t hf c_144
      refine lv_iload hx hb dX7_lookOf_242 (lv_at hl 2 rfl) ?_
      obtain rfl := Option.some.inj hf
      exact W.iret (v := x4) hx hb hr (fun t ht hW => ⟨⟨_, (), rfl, rfl, by rw [ht]; exact hP, hD⟩, hS.F ht⟩) hS.2.2 dX7_lookOf_244 hlocks
    · have hf := ho_f hf c_144
      refine lv_iconst (v := 0) hx hb dX7_lookOf_147 (by decide) ?_
      refine lv_istore (lv' := [(7, .int 0), (0, .ref o_t), (2, .int x2), (4, .int x4), (5, .int x5), (6, .int x6)]) hx hb dX7_lookOf_148 hl (by decide) rfl (fun ls hl => ?_)
      refine lv_iconst (v := 0) hx hb dX7_lookOf_150 (by decide) ?_
      refine lv_istore (lv' := [(8, .int 0), (7, .int 0), (0, .ref o_t), (2, .int x2), (4, .int x4), (5, .int x5), (6, .int x6)]) hx hb dX7_lookOf_151 hl (by decide) rfl (fun ls hl => ?_)
      exact w_X7_lookOf_l153 ⟨hx, hb, hml, hown, hts, hr, hlocks, hK, hN⟩ hA ih136 _ _ _ hf _ _ _ hP hD hS (lv_sub hl [2, 3, 4, 5, 6, 1, 0] rfl)
set_option maxHeartbeats 4000000 in
set_option maxRecDepth 100000 in
theorem w_X7_lookOf_l70 {p : Program} {l : Launch} {e : Env} {s : State} {m : MethodId} {args : Array Value} {below : List Frame} {meth : Method} {c : Code} {dC : Nat → ClassId} {dI : Nat → Nat → Nat} {cI cII : ClassId} {o_t : Nat} {a_t : Nat → Nat} {A : Nat → Prop} (C0 : hC p s m args meth c dC dI cI cII RX7 cX7_lookOf 9 (wd yX7_lookOf cX7_lookOf 9 (some .int)) (some .int)) (hA : ∀ q, s.heap.size ≤ q → A q) {h_t : Int64} {x1 : Int32} {x2 : Int32} {x3 : Int32} {x4 : Int32} {k44 : obV × Int32 → Option (Int32 × obV)} (ih44 : ∀ (y : obV × Int32) (r : Int32 × obV), k44 y = some r → ∀ (H : Heap) (locs : List Loc) (ls : Array Slot), va_P (dC, dI) vwCl (wX7 o_t a_t cI y.1 h_t) H → va_D A (wX7 o_t a_t cI y.1 h_t) → va_S A s.heap H locs → lv_has ls 9 [(0, .ref o_t), (1, .int x1), (2, .int x2), (3, .int x3), (4, .int y.2)] → W p l e ({ frames := 5, cells := 0, slots := 0, locals := 116 } : Room) s m args below meth c H locs 0 0 (MQ below (va_Qi (fun (z : Int32) (_ : Unit) => r.1 = z) (fun _ t => va_P (dC, dI) vwCl (wX7 o_t a_t cI r.2 h_t) t.heap ∧ va_D A (wX7 o_t a_t cI r.2 h_t)) A) args s 0 0 A) (F0 m 44 ls []))  :
    ∀ (n : Nat) (y : obV × Int32) (r : Int32 × obV), f_X7_lookOf_l70  x1 x2 x3 x4 k44 n y = some r → ∀ (H : Heap) (locs : List Loc) (ls : Array Slot), va_P (dC, dI) vwCl (wX7 o_t a_t cI y.1 h_t) H → va_D A (wX7 o_t a_t cI y.1 h_t) → va_S A s.heap H locs → lv_has ls 9 [(0, .ref o_t), (1, .int x1), (2, .int x2), (3, .int x3), (4, .int x4), (5, .int y.2)] → W p l e ({ frames := 5, cells := 0, slots := 0, locals := 116 } : Room) s m args below meth c H locs 0 0 (MQ below (va_Qi (fun (z : Int32) (_ : Unit) => r.1 = z) (fun _ t => va_P (dC, dI) vwCl (wX7 o_t a_t cI r.2 h_t) t.heap ∧ va_D A (wX7 o_t a_t cI r.2 h_t)) A) args s 0 0 A) (F0 m 70 ls []) := by
  obtain ⟨hx, hb, hml, hown, hts, hr, hlocks, hK, hN⟩ := C0
  refine lp_W ?_
  intro k70 ih70 y r hf H locs ls hP hD hS hl
  obtain ⟨v_t, x5⟩ := y
  have hf : f_X7_lookOf_b70  v_t x1 x2 x3 x4 x5 k44 k70 = some r := hf
  have hP : va_P (dC, dI) vwCl (wX7 o_t a_t cI v_t h_t) H := hP
  have hD : va_D A (wX7 o_t a_t cI v_t h_t) := hD
  have hl : lv_has ls 9 [(0, .ref o_t), (1, .int x1), (2, .int x2), (3, .int x3), (4, .int x4), (5, .int x5)] := hl
  unfold f_X7_lookOf_b70 at hf
  refine lv_iload hx hb dX7_lookOf_70 (lv_at hl 5 rfl) ?_
  refine lv_bipush (v := 20) hx hb dX7_lookOf_72 (by decide) ?_
  refine lv_icmp_ge (tgt := 109) hx hb dX7_lookOf_74 (by decide) (fun c_74 => ?_) (fun c_74 => ?_)
  · have hf := ho_t hf c_74
    refine lv_iinc (v := (x4 + 1)) (lv' := [(4, .int (x4 + 1)), (0, .ref o_t), (1, .int x1), (2, .int x2), (3, .int x3), (5, .int x5)]) hx hb dX7_lookOf_109 hl (k := 4) rfl (hp_inc (by decide)) (by decide) rfl (fun ls hl => ?_)
    refine lv_goto (tgt := 44) hx hb dX7_lookOf_112 (by decide) ?_
    exact ih44 (v_t, (x4 + 1)) _ hf _ _ _ hP hD hS (lv_sub hl [1, 2, 3, 4, 0] rfl)
  · have hf := ho_f hf c_74
    refine lv_aload_n hx hb dX7_lookOf_77 rfl (lv_at hl 0 rfl) ?_
    refine va_get (D := (dC, dI)) (ci := 7) (v := .ref (a_t 20)) (C := RX7) (T := TX7) (N := 30) hx hb hts hw_X7 hown hK hP 0 rfl rfl 20 (by decide) (hts _ (List.mem_cons_of_mem _ mw_618)) (fun _ h9 => h9) rfl dX7_lookOf_78 ?_
    refine lv_bipush (v := 6) hx hb dX7_lookOf_81 (by decide) ?_
    refine lv_iload hx hb dX7_lookOf_83 (lv_at hl 5 rfl) ?_
    refine lv_imul hx hb dX7_lookOf_85 ?_
    refine lv_aload_n hx hb dX7_lookOf_86 rfl (lv_at hl 0 rfl) ?_
    refine lv_iload hx hb dX7_lookOf_87 (lv_at hl 5 rfl) ?_
    obtain ⟨u_89, e_89, hf⟩ := ho_b hf
    refine vp_callSi (va_runV (As := [.int x5]) (rest := [.int (6 * x5), .ref (a_t 20)]) ⟨hx, hb, hml, hown, hts⟩ (c_X7_waitingAt l dC dI cI cII o_t a_t v_t h_t (x5) u_89 e_89) (cwV 1 hts (hw_giV mw_781 mw_783 mw_33 mw_60 mw_784) rfl rfl rfl (by decide +kernel) ⟨Nat.le_of_ble_eq_true rfl, Nat.le_of_ble_eq_true rfl⟩) ⟨pB_blind, va_recv hK hP (ci := 7) (q0 := 0) rfl rfl, fun U hU hW => ⟨rfl, pB_go hP hK hN hU hW⟩⟩ rfl rfl hl.1 rfl (lv_room (Nat.le_of_ble_eq_true rfl)) dX7_lookOf_89 ⟨Nat.zero_le _, Nat.zero_le _⟩).run (fun z_89 ez_89 => ?_)
    subst ez_89
    refine lv_iadd hx hb dX7_lookOf_92 ?_
    refine lv_dup2_11 hx hb dX7_lookOf_93 rfl rfl ?_
    obtain ⟨h_94, hf⟩ := ho_g hf
    refine va_iald (n := 120) (f := (v_t.2 20)) hx hb hK hP 9 0 rfl rfl h_94 dX7_lookOf_94 ?_
    refine lv_iload_n hx hb dX7_lookOf_95 rfl (lv_at hl 2 rfl) ?_
    refine lv_iload hx hb dX7_lookOf_96 (lv_at hl 4 rfl) ?_
    refine lv_ishr hx hb dX7_lookOf_98 ?_
    refine lv_iconst (v := 1) hx hb dX7_lookOf_99 (by decide) ?_
    refine lv_iand hx hb dX7_lookOf_100 ?_
    refine lv_iadd hx hb dX7_lookOf_101 ?_
    obtain ⟨h_102, hf⟩ := ho_g hf
    refine va_iast (n := 120) (f := (v_t.2 20)) hx hb hK hP hD hS 9 0 rfl rfl h_102 dX7_lookOf_102 (fun H locs hP hD hS => ?_)
    have hP : va_P (dC, dI) vwCl (wX7 o_t a_t cI (oA v_t 20 (Int32.toNatClampNeg ((6 * x5) + u_89)) (((v_t.2 20) (Int32.toNatClampNeg ((6 * x5) + u_89))) + ((x2 >>> (x4 &&& 31)) &&& 1))) h_t) H := hP
    have hD : va_D A (wX7 o_t a_t cI (oA v_t 20 (Int32.toNatClampNeg ((6 * x5) + u_89)) (((v_t.2 20) (Int32.toNatClampNeg ((6 * x5) + u_89))) + ((x2 >>> (x4 &&& 31)) &&& 1))) h_t) := hD
    obtain ⟨v_t_102, e_v_t_102⟩ : ∃ z : obV, z = (oA v_t 20 (Int32.toNatClampNeg ((6 * x5) + u_89)) (((v_t.2 20) (Int32.toNatClampNeg ((6 * x5) + u_89))) + ((x2 >>> (x4 &&& 31)) &&& 1))) := ⟨_, rfl⟩
    rw [← e_v_t_102] at hP hD
    have hf := ho_l hf v_t_102 e_v_t_102
    refine lv_iinc (v := (x5 + 1)) (lv' := [(5, .int (x5 + 1)), (0, .ref o_t), (1, .int x1), (2, .int x2), (3, .int x3), (4, .int x4)]) hx hb dX7_lookOf_103 hl (k := 5) rfl (hp_inc (by decide)) (by decide) rfl (fun ls hl => ?_)
    refine lv_goto (tgt := 70) hx hb dX7_lookOf_106 (by decide) ?_
    exact ih70 (v_t_102, (x5 + 1)) _ hf _ _ _ hP hD hS (lv_sub hl [1, 2, 3, 4, 5, 0] rfl)
set_option maxHeartbeats 4000000 in
set_option maxRecDepth 100000 in
theorem w_X7_lookOf_l44 {p : Program} {l : Launch} {e : Env} {s : State} {m : MethodId} {args : Array Value} {below : List Frame} {meth : Method} {c : Code} {dC : Nat → ClassId} {dI : Nat → Nat → Nat} {cI cII : ClassId} {o_t : Nat} {a_t : Nat → Nat} {A : Nat → Prop} (C0 : hC p s m args meth c dC dI cI cII RX7 cX7_lookOf 9 (wd yX7_lookOf cX7_lookOf 9 (some .int)) (some .int)) (hA : ∀ q, s.heap.size ≤ q → A q) {h_t : Int64} {x1 : Int32} {x2 : Int32} {x3 : Int32}    :
    ∀ (n : Nat) (y : obV × Int32) (r : Int32 × obV), f_X7_lookOf_l44  x1 x2 x3  n y = some r → ∀ (H : Heap) (locs : List Loc) (ls : Array Slot), va_P (dC, dI) vwCl (wX7 o_t a_t cI y.1 h_t) H → va_D A (wX7 o_t a_t cI y.1 h_t) → va_S A s.heap H locs → lv_has ls 9 [(0, .ref o_t), (1, .int x1), (2, .int x2), (3, .int x3), (4, .int y.2)] → W p l e ({ frames := 5, cells := 0, slots := 0, locals := 116 } : Room) s m args below meth c H locs 0 0 (MQ below (va_Qi (fun (z : Int32) (_ : Unit) => r.1 = z) (fun _ t => va_P (dC, dI) vwCl (wX7 o_t a_t cI r.2 h_t) t.heap ∧ va_D A (wX7 o_t a_t cI r.2 h_t)) A) args s 0 0 A) (F0 m 44 ls []) := by
  obtain ⟨hx, hb, hml, hown, hts, hr, hlocks, hK, hN⟩ := C0
  refine lp_W ?_
  intro k44 ih44 y r hf H locs ls hP hD hS hl
  obtain ⟨v_t, x4⟩ := y
  have hf : f_X7_lookOf_b44  v_t x1 x2 x3 x4  k44 = some r := hf
  have hP : va_P (dC, dI) vwCl (wX7 o_t a_t cI v_t h_t) H := hP
  have hD : va_D A (wX7 o_t a_t cI v_t h_t) := hD
  have hl : lv_has ls 9 [(0, .ref o_t), (1, .int x1), (2, .int x2), (3, .int x3), (4, .int x4)] := hl
  unfold f_X7_lookOf_b44 at hf
  refine lv_iload hx hb dX7_lookOf_44 (lv_at hl 4 rfl) ?_
  refine lv_bipush (v := 10) hx hb dX7_lookOf_46 (by decide) ?_
  refine lv_icmp_ge (tgt := 115) hx hb dX7_lookOf_48 (by decide) (fun c_48 => ?_) (fun c_48 => ?_)
  · have hf := ho_t hf c_48
    refine lv_aload_n hx hb dX7_lookOf_115 rfl (lv_at hl 0 rfl) ?_
    refine va_get (D := (dC, dI)) (ci := 7) (v := .ref (a_t 10)) (C := RX7) (T := TX7) (N := 30) hx hb hts hw_X7 hown hK hP 0 rfl rfl 10 (by decide) (hts _ (List.mem_cons_of_mem _ mw_608)) (fun _ h9 => h9) rfl dX7_lookOf_116 ?_
    refine lv_iconst (v := 3) hx hb dX7_lookOf_119 (by decide) ?_
    refine lv_iload_n hx hb dX7_lookOf_120 rfl (lv_at hl 1 rfl) ?_
    refine lv_imul hx hb dX7_lookOf_121 ?_
    refine lv_iconst (v := 2) hx hb dX7_lookOf_122 (by decide) ?_
    refine lv_iadd hx hb dX7_lookOf_123 ?_
    refine lv_iload_n hx hb dX7_lookOf_124 rfl (lv_at hl 3 rfl) ?_
    obtain ⟨h_125, hf⟩ := ho_g hf
    refine va_iast (n := 15) (f := (v_t.2 10)) hx hb hK hP hD hS 3 0 rfl rfl h_125 dX7_lookOf_125 (fun H locs hP hD hS => ?_)
    have hP : va_P (dC, dI) vwCl (wX7 o_t a_t cI (oA v_t 10 (Int32.toNatClampNeg ((3 * x1) + 2)) x3) h_t) H := hP
    have hD : va_D A (wX7 o_t a_t cI (oA v_t 10 (Int32.toNatClampNeg ((3 * x1) + 2)) x3) h_t) := hD
    obtain ⟨v_t_125, e_v_t_125⟩ : ∃ z : obV, z = (oA v_t 10 (Int32.toNatClampNeg ((3 * x1) + 2)) x3) := ⟨_, rfl⟩
    rw [← e_v_t_125] at hP hD
    have hf := ho_l hf v_t_125 e_v_t_125
    refine lv_iconst (v := (-1)) hx hb dX7_lookOf_126 (by decide) ?_
    refine lv_istore (lv' := [(4, .int (-1)), (0, .ref o_t), (1, .int x1), (2, .int x2), (3, .int x3)]) hx hb dX7_lookOf_127 hl (by decide) rfl (fun ls hl => ?_)
    refine lv_bipush (v := 11) hx hb dX7_lookOf_129 (by decide) ?_
    refine lv_istore (lv' := [(5, .int 11), (4, .int (-1)), (0, .ref o_t), (1, .int x1), (2, .int x2), (3, .int x3)]) hx hb dX7_lookOf_131 hl (by decide) rfl (fun ls hl => ?_)
    refine lv_iconst (v := 0) hx hb dX7_lookOf_133 (by decide) ?_
    refine lv_istore (lv' := [(6, .int 0), (5, .int 11), (4, .int (-1)), (0, .ref o_t), (1, .int x1), (2, .int x2), (3, .int x3)]) hx hb dX7_lookOf_134 hl (by decide) rfl (fun ls hl => ?_)
    exact w_X7_lookOf_l136 ⟨hx, hb, hml, hown, hts, hr, hlocks, hK, hN⟩ hA  _ _ _ hf _ _ _ hP hD hS (lv_sub hl [3, 5, 2, 1, 0] rfl)
  · have hf := ho_f hf c_48
    refine lv_aload_n hx hb dX7_lookOf_51 rfl (lv_at hl 0 rfl) ?_
    refine va_get (D := (dC, dI)) (ci := 7) (v := .ref (a_t 10)) (C := RX7) (T := TX7) (N := 30) hx hb hts hw_X7 hown hK hP 0 rfl rfl 10 (by decide) (hts _ (List.mem_cons_of_mem _ mw_608)) (fun _ h9 => h9) rfl dX7_lookOf_52 ?_
    refine lv_iconst (v := 3) hx hb dX7_lookOf_55 (by decide) ?_
    refine lv_iload_n hx hb dX7_lookOf_56 rfl (lv_at hl 1 rfl) ?_
    refine lv_imul hx hb dX7_lookOf_57 ?_
    refine lv_iconst (v := 2) hx hb dX7_lookOf_58 (by decide) ?_
    refine lv_iadd hx hb dX7_lookOf_59 ?_
    refine lv_iload hx hb dX7_lookOf_60 (lv_at hl 4 rfl) ?_
    obtain ⟨h_62, hf⟩ := ho_g hf
    refine va_iast (n := 15) (f := (v_t.2 10)) hx hb hK hP hD hS 3 0 rfl rfl h_62 dX7_lookOf_62 (fun H locs hP hD hS => ?_)
    have hP : va_P (dC, dI) vwCl (wX7 o_t a_t cI (oA v_t 10 (Int32.toNatClampNeg ((3 * x1) + 2)) x4) h_t) H := hP
    have hD : va_D A (wX7 o_t a_t cI (oA v_t 10 (Int32.toNatClampNeg ((3 * x1) + 2)) x4) h_t) := hD
    obtain ⟨v_t_62, e_v_t_62⟩ : ∃ z : obV, z = (oA v_t 10 (Int32.toNatClampNeg ((3 * x1) + 2)) x4) := ⟨_, rfl⟩
    rw [← e_v_t_62] at hP hD
    have hf := ho_l hf v_t_62 e_v_t_62
    refine lv_aload_n hx hb dX7_lookOf_63 rfl (lv_at hl 0 rfl) ?_
    obtain ⟨u_64, e_64, hf⟩ := ho_b hf
    have hFc := va_free (wc := (wX7 o_t a_t cI v_t_62 h_t)) hD hS hA [0, 1, 2, 3, 4, 5, 6, 7, 8, 9, 10, 11, 12] rfl
    refine va_callv (va_runV (As := []) (rest := []) ⟨hx, hb, hml, hown, hts⟩ (c_X7_layDay l dC dI cI cII o_t a_t v_t_62 h_t _ u_64 e_64) (cwV 0 hts (hw_giV mw_737 mw_739 mw_22 mw_60 mw_740) rfl rfl rfl (by decide +kernel) ⟨Nat.le_of_ble_eq_true rfl, Nat.le_of_ble_eq_true rfl⟩) ⟨qB_blind, va_recv hK hP (ci := 7) (q0 := 0) rfl rfl, fun U hU hW => ⟨rfl, qB_go hP hD hK hN hU hW⟩⟩ rfl rfl hl.1 rfl (lv_room (Nat.le_of_ble_eq_true rfl)) dX7_lookOf_64 ⟨Nat.zero_le _, Nat.zero_le _⟩) hS (fun q _ h => hFc q h) hFc (fun u t H1 locs ht hvm hw hB hz1 hk1 hS => ?_)
    obtain ⟨hP1, hD1⟩ := hB
    rw [ht] at hP1
    clear hP hD
    generalize H1 = H at hP1 hS ⊢
    have hP : va_P (dC, dI) vwCl (wX7 o_t a_t cI u_64 h_t) H := hP1
    have hD : va_D A (wX7 o_t a_t cI u_64 h_t) := hD1.weaken (fun _ q _ h => hFc q.1 h)
    refine lv_iconst (v := 0) hx hb dX7_lookOf_67 (by decide) ?_
    refine lv_istore (lv' := [(5, .int 0), (0, .ref o_t), (1, .int x1), (2, .int x2), (3, .int x3), (4, .int x4)]) hx hb dX7_lookOf_68 hl (by decide) rfl (fun ls hl => ?_)
    exact w_X7_lookOf_l70 ⟨hx, hb, hml, hown, hts, hr, hlocks, hK, hN⟩ hA ih44 _ _ _ hf _ _ _ hP hD hS (lv_sub hl [1, 2, 3, 4, 5, 0] rfl)
set_option maxHeartbeats 4000000 in
set_option maxRecDepth 100000 in
theorem w_X7_lookOf_l20 {p : Program} {l : Launch} {e : Env} {s : State} {m : MethodId} {args : Array Value} {below : List Frame} {meth : Method} {c : Code} {dC : Nat → ClassId} {dI : Nat → Nat → Nat} {cI cII : ClassId} {o_t : Nat} {a_t : Nat → Nat} {A : Nat → Prop} (C0 : hC p s m args meth c dC dI cI cII RX7 cX7_lookOf 9 (wd yX7_lookOf cX7_lookOf 9 (some .int)) (some .int)) (hA : ∀ q, s.heap.size ≤ q → A q) {h_t : Int64} {x1 : Int32} {x2 : Int32} {x3 : Int32}    :
    ∀ (n : Nat) (y : obV × Int32) (r : Int32 × obV), f_X7_lookOf_l20  x1 x2 x3  n y = some r → ∀ (H : Heap) (locs : List Loc) (ls : Array Slot), va_P (dC, dI) vwCl (wX7 o_t a_t cI y.1 h_t) H → va_D A (wX7 o_t a_t cI y.1 h_t) → va_S A s.heap H locs → lv_has ls 9 [(0, .ref o_t), (1, .int x1), (2, .int x2), (3, .int x3), (4, .int y.2)] → W p l e ({ frames := 5, cells := 0, slots := 0, locals := 116 } : Room) s m args below meth c H locs 0 0 (MQ below (va_Qi (fun (z : Int32) (_ : Unit) => r.1 = z) (fun _ t => va_P (dC, dI) vwCl (wX7 o_t a_t cI r.2 h_t) t.heap ∧ va_D A (wX7 o_t a_t cI r.2 h_t)) A) args s 0 0 A) (F0 m 20 ls []) := by
  obtain ⟨hx, hb, hml, hown, hts, hr, hlocks, hK, hN⟩ := C0
  refine lp_W ?_
  intro k20 ih20 y r hf H locs ls hP hD hS hl
  obtain ⟨v_t, x4⟩ := y
  have hf : f_X7_lookOf_b20  v_t x1 x2 x3 x4  k20 = some r := hf
  have hP : va_P (dC, dI) vwCl (wX7 o_t a_t cI v_t h_t) H := hP
  have hD : va_D A (wX7 o_t a_t cI v_t h_t) := hD
  have hl : lv_has ls 9 [(0, .ref o_t), (1, .int x1), (2, .int x2), (3, .int x3), (4, .int x4)] := hl
  unfold f_X7_lookOf_b20 at hf
  refine lv_iload hx hb dX7_lookOf_20 (lv_at hl 4 rfl) ?_
  refine lv_bipush (v := 120) hx hb dX7_lookOf_22 (by decide) ?_
  refine lv_icmp_ge (tgt := 41) hx hb dX7_lookOf_24 (by decide) (fun c_24 => ?_) (fun c_24 => ?_)
  · have hf := ho_t hf c_24
    refine lv_iconst (v := 0) hx hb dX7_lookOf_41 (by decide) ?_
    refine lv_istore (lv' := [(4, .int 0), (0, .ref o_t), (1, .int x1), (2, .int x2), (3, .int x3)]) hx hb dX7_lookOf_42 hl (by decide) rfl (fun ls hl => ?_)
    exact w_X7_lookOf_l44 ⟨hx, hb, hml, hown, hts, hr, hlocks, hK, hN⟩ hA  _ _ _ hf _ _ _ hP hD hS (lv_sub hl [1, 2, 3, 4, 0] rfl)
  · have hf := ho_f hf c_24
    refine lv_aload_n hx hb dX7_lookOf_27 rfl (lv_at hl 0 rfl) ?_
    refine va_get (D := (dC, dI)) (ci := 7) (v := .ref (a_t 20)) (C := RX7) (T := TX7) (N := 30) hx hb hts hw_X7 hown hK hP 0 rfl rfl 20 (by decide) (hts _ (List.mem_cons_of_mem _ mw_618)) (fun _ h9 => h9) rfl dX7_lookOf_28 ?_
    refine lv_iload hx hb dX7_lookOf_31 (lv_at hl 4 rfl) ?_
    refine lv_iconst (v := 0) hx hb dX7_lookOf_33 (by decide) ?_
    obtain ⟨h_34, hf⟩ := ho_g hf
    refine va_iast (n := 120) (f := (v_t.2 20)) hx hb hK hP hD hS 9 0 rfl rfl h_34 dX7_lookOf_34 (fun H locs hP hD hS => ?_)
    have hP : va_P (dC, dI) vwCl (wX7 o_t a_t cI (oA v_t 20 (Int32.toNatClampNeg x4) 0) h_t) H := hP
    have hD : va_D A (wX7 o_t a_t cI (oA v_t 20 (Int32.toNatClampNeg x4) 0) h_t) := hD
    obtain ⟨v_t_34, e_v_t_34⟩ : ∃ z : obV, z = (oA v_t 20 (Int32.toNatClampNeg x4) 0) := ⟨_, rfl⟩
    rw [← e_v_t_34] at hP hD
    have hf := ho_l hf v_t_34 e_v_t_34
    refine lv_iinc (v := (x4 + 1)) (lv' := [(4, .int (x4 + 1)), (0, .ref o_t), (1, .int x1), (2, .int x2), (3, .int x3)]) hx hb dX7_lookOf_35 hl (k := 4) rfl (hp_inc (by decide)) (by decide) rfl (fun ls hl => ?_)
    refine lv_goto (tgt := 20) hx hb dX7_lookOf_38 (by decide) ?_
    exact ih20 (v_t_34, (x4 + 1)) _ hf _ _ _ hP hD hS (lv_sub hl [1, 2, 3, 4, 0] rfl)
set_option maxHeartbeats 4000000 in
set_option maxRecDepth 100000 in
theorem c_X7_lookOf (l : Launch) (dC : Nat → ClassId) (dI : Nat → Nat → Nat) (cI cII : ClassId) (o_t : Nat) (a_t : Nat → Nat) (v_t : obV) (h_t : Int64) (x1 : Int32) (sz : Nat) (r : Int32 × obV) (hf : f_X7_lookOf  v_t x1 = some r) :
    Met l yX7_lookOf (wd yX7_lookOf cX7_lookOf 9 (some .int)) ({ frames := 5, cells := 0, slots := 0, locals := 116 } : Room) (va_Pc [.ref o_t, .int x1] (qB (dC, dI) vwCl (wX7 o_t a_t cI v_t h_t) (hTY cI cII) sz)) (va_Qi (fun (z : Int32) (_ : Unit) => r.1 = z) (fun _ t => va_P (dC, dI) vwCl (wX7 o_t a_t cI r.2 h_t) t.heap ∧ va_D (va_A (wX7 o_t a_t cI v_t h_t) sz) (wX7 o_t a_t cI r.2 h_t)) (va_A (wX7 o_t a_t cI v_t h_t) sz)) 0 0 (va_A (wX7 o_t a_t cI v_t h_t) sz) := by
  refine Met.ofW (cc := cX7_lookOf) (maxL := 9) (ret := (some .int)) (by decide) rfl ?_
  intro p e s m args below meth c s₁ B hml hv
  obtain ⟨rfl, hsz, hD0, hP, hK, hN⟩ := hv
  have hx := B.exec
  have hb := B.bytes
  have hr := B.returns
  have hts := atoms_spec (ws := (wd yX7_lookOf cX7_lookOf 9 (some .int))) B.pre
  have hown : s.vm.findClass RX7 = some m.cls := findClass_of_methodNamed B.named
  have hlocks := B.notSynchronized
  subst hsz
  have hD := hD0.self (sz := s.heap.size)
  generalize hAe : va_A (wX7 o_t a_t cI v_t h_t) s.heap.size = A at hD ⊢
  have hA : ∀ q : Nat, s.heap.size ≤ q → A q := fun q h => by rw [← hAe]; exact Or.inr h
  have hS : va_S A s.heap s.heap [] := va_S.rf
  have hl := lv_entry ([.ref o_t, .int x1]) (n := 9) (Nat.le_of_ble_eq_true rfl)
  rw [lg_entry_eq]
  generalize (lg_sl ([.ref o_t, .int x1]) ++ List.replicate (9 - (lg_sl ([.ref o_t, .int x1])).length) Slot.unset).toArray = ls at hl ⊢
  have hl : lv_has ls 9 [(0, .ref o_t), (1, .int x1)] := hl
  clear hAe hD0
  unfold f_X7_lookOf at hf
  refine lv_aload_n hx hb dX7_lookOf_0 rfl (lv_at hl 0 rfl) ?_
  refine lv_iload_n hx hb dX7_lookOf_1 rfl (lv_at hl 1 rfl) ?_
  obtain ⟨u_2, e_2, hf⟩ := ho_b hf
  have hFc := va_free (wc := (wX7 o_t a_t cI v_t h_t)) hD hS hA [0, 1, 2, 3, 4, 5, 6, 7, 8, 9, 10, 11, 12] rfl
  refine va_calli (va_runV (As := [.int x1]) (rest := []) ⟨hx, hb, hml, hown, hts⟩ (c_X7_whenOf l dC dI cI cII o_t a_t v_t h_t (x1) _ u_2 e_2) (cwV 1 hts (hw_giV mw_777 mw_779 mw_32 mw_60 mw_780) rfl rfl rfl (by decide +kernel) ⟨Nat.le_of_ble_eq_true rfl, Nat.le_of_ble_eq_true rfl⟩) ⟨qB_blind, va_recv hK hP (ci := 7) (q0 := 0) rfl rfl, fun U hU hW => ⟨rfl, qB_go hP hD hK hN hU hW⟩⟩ rfl rfl hl.1 rfl (lv_room (Nat.le_of_ble_eq_true rfl)) dX7_lookOf_2 ⟨Nat.zero_le _, Nat.zero_le _⟩) hS (fun q _ h => hFc q h) hFc (fun z_2 u t H1 locs ht hvm ez_2 hB hz1 hk1 hS => ?_)
  subst ez_2
  obtain ⟨hP1, hD1⟩ := hB
  rw [ht] at hP1
  clear hP hD
  generalize H1 = H at hP1 hS ⊢
  have hP : va_P (dC, dI) vwCl (wX7 o_t a_t cI u_2.2 h_t) H := hP1
  have hD : va_D A (wX7 o_t a_t cI u_2.2 h_t) := hD1.weaken (fun _ q _ h => hFc q.1 h)
  refine lv_istore_n (lv' := [(2, .int u_2.1), (0, .ref o_t), (1, .int x1)]) hx hb dX7_lookOf_5 rfl hl (by decide) rfl (fun ls hl => ?_)
  refine lv_aload_n hx hb dX7_lookOf_6 rfl (lv_at hl 1 rfl) ?_
  refine va_get (D := (dC, dI)) (ci := 7) (v := .ref (a_t 10)) (C := RX7) (T := TX7) (N := 30) hx hb hts hw_X7 hown hK hP 0 rfl rfl 10 (by decide) (hts _ (List.mem_cons_of_mem _ mw_608)) (fun _ h9 => h9) rfl dX7_lookOf_7 ?_
  refine lv_iconst (v := 3) hx hb dX7_lookOf_10 (by decide) ?_
  refine lv_iload_n hx hb dX7_lookOf_11 rfl (lv_at hl 2 rfl) ?_
  refine lv_imul hx hb dX7_lookOf_12 ?_
  refine lv_iconst (v := 2) hx hb dX7_lookOf_13 (by decide) ?_
  refine lv_iadd hx hb dX7_lookOf_14 ?_
  obtain ⟨h_15, hf⟩ := ho_g hf
  refine va_iald (n := 15) (f := (u_2.2.2 10)) hx hb hK hP 3 0 rfl rfl h_15 dX7_lookOf_15 ?_
  refine lv_istore_n (lv' := [(3, .int ((u_2.2.2 10) (Int32.toNatClampNeg ((3 * x1) + 2)))), (2, .int u_2.1), (0, .ref o_t), (1, .int x1)]) hx hb dX7_lookOf_16 rfl hl (by decide) rfl (fun ls hl => ?_)
  refine lv_iconst (v := 0) hx hb dX7_lookOf_17 (by decide) ?_
  refine lv_istore (lv' := [(4, .int 0), (3, .int ((u_2.2.2 10) (Int32.toNatClampNeg ((3 * x1) + 2)))), (2, .int u_2.1), (0, .ref o_t), (1, .int x1)]) hx hb dX7_lookOf_18 hl (by decide) rfl (fun ls hl => ?_)
  exact w_X7_lookOf_l20 ⟨hx, hb, hml, hown, hts, hr, hlocks, hK, hN⟩ hA  _ _ _ hf _ _ _ hP hD hS (lv_sub hl [3, 4, 2, 1, 0] rfl)
set_option maxHeartbeats 4000000 in
set_option maxRecDepth 100000 in
theorem c_X7_tell (l : Launch) (dC : Nat → ClassId) (dI : Nat → Nat → Nat) (cI cII : ClassId) (o_t : Nat) (a_t : Nat → Nat) (v_t : obV) (h_t : Int64) (x1 : Int32) (x2 : Int32) (sz : Nat) (r : Int32 × obV) (hf : f_X7_tell  v_t x1 x2 = some r) :
    Met l yX7_tell (wd yX7_tell cX7_tell 3 (some .int)) ({ frames := 6, cells := 0, slots := 0, locals := 144 } : Room) (va_Pc [.ref o_t, .int x1, .int x2] (qB (dC, dI) vwCl (wX7 o_t a_t cI v_t h_t) (hTY cI cII) sz)) (va_Qi (fun (z : Int32) (_ : Unit) => r.1 = z) (fun _ t => va_P (dC, dI) vwCl (wX7 o_t a_t cI r.2 h_t) t.heap ∧ va_D (va_A (wX7 o_t a_t cI v_t h_t) sz) (wX7 o_t a_t cI r.2 h_t)) (va_A (wX7 o_t a_t cI v_t h_t) sz)) 0 0 (va_A (wX7 o_t a_t cI v_t h_t) sz) := by
  refine Met.ofW (cc := cX7_tell) (maxL := 3) (ret := (some .int)) (by decide) rfl ?_
  intro p e s m args below meth c s₁ B hml hv
  obtain ⟨rfl, hsz, hD0, hP, hK, hN⟩ := hv
  have hx := B.exec
  have hb := B.bytes
  have hr := B.returns
  have hts := atoms_spec (ws := (wd yX7_tell cX7_tell 3 (some .int))) B.pre
  have hown : s.vm.findClass RX7 = some m.cls := findClass_of_methodNamed B.named
  have hlocks := B.notSynchronized
  subst hsz
  have hD := hD0.self (sz := s.heap.size)
  generalize hAe : va_A (wX7 o_t a_t cI v_t h_t) s.heap.size = A at hD ⊢
  have hA : ∀ q : Nat, s.heap.size ≤ q → A q := fun q h => by rw [← hAe]; exact Or.inr h
  have hS : va_S A s.heap s.heap [] := va_S.rf
  have hl := lv_entry ([.ref o_t, .int x1, .int x2]) (n := 3) (Nat.le_of_ble_eq_true rfl)
  rw [lg_entry_eq]
  generalize (lg_sl ([.ref o_t, .int x1, .int x2]) ++ List.replicate (3 - (lg_sl ([.ref o_t, .int x1, .int x2])).length) Slot.unset).toArray = ls at hl ⊢
  have hl : lv_has ls 3 [(0, .ref o_t), (1, .int x1), (2, .int x2)] := hl
  clear hAe hD0
  unfold f_X7_tell at hf
  refine lv_aload_n hx hb dX7_tell_0 rfl (lv_at hl 0 rfl) ?_
  obtain ⟨u_1, e_1, hf⟩ := ho_b hf
  have hFc := va_free (wc := (wX7 o_t a_t cI v_t h_t)) hD hS hA [0, 1, 2, 3, 4, 5, 6, 7, 8, 9, 10, 11, 12] rfl
  refine va_callv (va_runV (As := []) (rest := []) ⟨hx, hb, hml, hown, hts⟩ (c_X7_layDay l dC dI cI cII o_t a_t v_t h_t _ u_1 e_1) (cwV 0 hts (hw_giV mw_737 mw_739 mw_22 mw_60 mw_740) rfl rfl rfl (by decide +kernel) ⟨Nat.le_of_ble_eq_true rfl, Nat.le_of_ble_eq_true rfl⟩) ⟨qB_blind, va_recv hK hP (ci := 7) (q0 := 0) rfl rfl, fun U hU hW => ⟨rfl, qB_go hP hD hK hN hU hW⟩⟩ rfl rfl hl.1 rfl (lv_room (Nat.le_of_ble_eq_true rfl)) dX7_tell_1 ⟨Nat.zero_le _, Nat.zero_le _⟩) hS (fun q _ h => hFc q h) hFc (fun u t H1 locs ht hvm hw hB hz1 hk1 hS => ?_)
  obtain ⟨hP1, hD1⟩ := hB
  rw [ht] at hP1
  clear hP hD
  generalize H1 = H at hP1 hS ⊢
  have hP : va_P (dC, dI) vwCl (wX7 o_t a_t cI u_1 h_t) H := hP1
  have hD : va_D A (wX7 o_t a_t cI u_1 h_t) := hD1.weaken (fun _ q _ h => hFc q.1 h)
  refine lv_iload_n hx hb dX7_tell_4 rfl (lv_at hl 2 rfl) ?_
  by_cases c_5_0 : x2 = 0
  · have hf := ho_t hf c_5_0
    refine lv_tableIn (tgt := 60) hx hb dX7_tell_5 (by rw [c_5_0] <;> decide) (by rw [c_5_0] <;> decide) (by rw [c_5_0] <;> rfl) (by decide) ?_
    refine lv_aload_n hx hb dX7_tell_60 rfl (lv_at hl 0 rfl) ?_
    refine va_get (D := (dC, dI)) (ci := 7) (v := .ref (a_t 10)) (C := RX7) (T := TX7) (N := 30) hx hb hts hw_X7 hown hK hP 0 rfl rfl 10 (by decide) (hts _ (List.mem_cons_of_mem _ mw_608)) (fun _ h9 => h9) rfl dX7_tell_61 ?_
    refine lv_iconst (v := 3) hx hb dX7_tell_64 (by decide) ?_
    refine lv_iload_n hx hb dX7_tell_65 rfl (lv_at hl 1 rfl) ?_
    refine lv_imul hx hb dX7_tell_66 ?_
    refine lv_iload_n hx hb dX7_tell_67 rfl (lv_at hl 2 rfl) ?_
    refine lv_iadd hx hb dX7_tell_68 ?_
    obtain ⟨h_69, hf⟩ := ho_g hf
    refine va_iald (n := 15) (f := (u_1.2 10)) hx hb hK hP 3 0 rfl rfl h_69 dX7_tell_69 ?_
    obtain rfl := Option.some.inj hf
    exact W.iret (v := ((u_1.2 10) (Int32.toNatClampNeg ((3 * x1) + x2)))) hx hb hr (fun t ht hW => ⟨⟨_, (), rfl, rfl, by rw [ht]; exact hP, hD⟩, hS.F ht⟩) hS.2.2 dX7_tell_70 hlocks
  have hf := ho_f hf c_5_0
  by_cases c_5_1 : x2 = 1
  · have hf := ho_t hf c_5_1
    refine lv_tableIn (tgt := 60) hx hb dX7_tell_5 (by rw [c_5_1] <;> decide) (by rw [c_5_1] <;> decide) (by rw [c_5_1] <;> rfl) (by decide) ?_
    refine lv_aload_n hx hb dX7_tell_60 rfl (lv_at hl 0 rfl) ?_
    refine va_get (D := (dC, dI)) (ci := 7) (v := .ref (a_t 10)) (C := RX7) (T := TX7) (N := 30) hx hb hts hw_X7 hown hK hP 0 rfl rfl 10 (by decide) (hts _ (List.mem_cons_of_mem _ mw_608)) (fun _ h9 => h9) rfl dX7_tell_61 ?_
    refine lv_iconst (v := 3) hx hb dX7_tell_64 (by decide) ?_
    refine lv_iload_n hx hb dX7_tell_65 rfl (lv_at hl 1 rfl) ?_
    refine lv_imul hx hb dX7_tell_66 ?_
    refine lv_iload_n hx hb dX7_tell_67 rfl (lv_at hl 2 rfl) ?_
    refine lv_iadd hx hb dX7_tell_68 ?_
    obtain ⟨h_69, hf⟩ := ho_g hf
    refine va_iald (n := 15) (f := (u_1.2 10)) hx hb hK hP 3 0 rfl rfl h_69 dX7_tell_69 ?_
    obtain rfl := Option.some.inj hf
    exact W.iret (v := ((u_1.2 10) (Int32.toNatClampNeg ((3 * x1) + x2)))) hx hb hr (fun t ht hW => ⟨⟨_, (), rfl, rfl, by rw [ht]; exact hP, hD⟩, hS.F ht⟩) hS.2.2 dX7_tell_70 hlocks
  have hf := ho_f hf c_5_1
  by_cases c_5_2 : x2 = 2
  · have hf := ho_t hf c_5_2
    refine lv_tableIn (tgt := 60) hx hb dX7_tell_5 (by rw [c_5_2] <;> decide) (by rw [c_5_2] <;> decide) (by rw [c_5_2] <;> rfl) (by decide) ?_
    refine lv_aload_n hx hb dX7_tell_60 rfl (lv_at hl 0 rfl) ?_
    refine va_get (D := (dC, dI)) (ci := 7) (v := .ref (a_t 10)) (C := RX7) (T := TX7) (N := 30) hx hb hts hw_X7 hown hK hP 0 rfl rfl 10 (by decide) (hts _ (List.mem_cons_of_mem _ mw_608)) (fun _ h9 => h9) rfl dX7_tell_61 ?_
    refine lv_iconst (v := 3) hx hb dX7_tell_64 (by decide) ?_
    refine lv_iload_n hx hb dX7_tell_65 rfl (lv_at hl 1 rfl) ?_
    refine lv_imul hx hb dX7_tell_66 ?_
    refine lv_iload_n hx hb dX7_tell_67 rfl (lv_at hl 2 rfl) ?_
    refine lv_iadd hx hb dX7_tell_68 ?_
    obtain ⟨h_69, hf⟩ := ho_g hf
    refine va_iald (n := 15) (f := (u_1.2 10)) hx hb hK hP 3 0 rfl rfl h_69 dX7_tell_69 ?_
    obtain rfl := Option.some.inj hf
    exact W.iret (v := ((u_1.2 10) (Int32.toNatClampNeg ((3 * x1) + x2)))) hx hb hr (fun t ht hW => ⟨⟨_, (), rfl, rfl, by rw [ht]; exact hP, hD⟩, hS.F ht⟩) hS.2.2 dX7_tell_70 hlocks
  have hf := ho_f hf c_5_2
  by_cases c_5_3 : x2 = 3
  · have hf := ho_t hf c_5_3
    refine lv_tableIn (tgt := 71) hx hb dX7_tell_5 (by rw [c_5_3] <;> decide) (by rw [c_5_3] <;> decide) (by rw [c_5_3] <;> rfl) (by decide) ?_
    refine lv_aload_n hx hb dX7_tell_71 rfl (lv_at hl 0 rfl) ?_
    refine lv_iload_n hx hb dX7_tell_72 rfl (lv_at hl 1 rfl) ?_
    obtain ⟨u_73, e_73, hf⟩ := ho_b hf
    refine vp_callSi (va_runV (As := [.int x1]) (rest := []) ⟨hx, hb, hml, hown, hts⟩ (c_X7_staysOf l dC dI cI cII o_t a_t u_1 h_t (x1) u_73 e_73) (cwV 1 hts (hw_giV mw_757 mw_759 mw_27 mw_60 mw_760) rfl rfl rfl (by decide +kernel) ⟨Nat.le_of_ble_eq_true rfl, Nat.le_of_ble_eq_true rfl⟩) ⟨pB_blind, va_recv hK hP (ci := 7) (q0 := 0) rfl rfl, fun U hU hW => ⟨rfl, pB_go hP hK hN hU hW⟩⟩ rfl rfl hl.1 rfl (lv_room (Nat.le_of_ble_eq_true rfl)) dX7_tell_73 ⟨Nat.zero_le _, Nat.zero_le _⟩).run (fun z_73 ez_73 => ?_)
    subst ez_73
    obtain rfl := Option.some.inj hf
    exact W.iret (v := u_73) hx hb hr (fun t ht hW => ⟨⟨_, (), rfl, rfl, by rw [ht]; exact hP, hD⟩, hS.F ht⟩) hS.2.2 dX7_tell_76 hlocks
  have hf := ho_f hf c_5_3
  by_cases c_5_4 : x2 = 4
  · have hf := ho_t hf c_5_4
    refine lv_tableIn (tgt := 77) hx hb dX7_tell_5 (by rw [c_5_4] <;> decide) (by rw [c_5_4] <;> decide) (by rw [c_5_4] <;> rfl) (by decide) ?_
    refine lv_aload_n hx hb dX7_tell_77 rfl (lv_at hl 0 rfl) ?_
    refine lv_iload_n hx hb dX7_tell_78 rfl (lv_at hl 1 rfl) ?_
    obtain ⟨u_79, e_79, hf⟩ := ho_b hf
    refine vp_callSi (va_runV (As := [.int x1]) (rest := []) ⟨hx, hb, hml, hown, hts⟩ (c_X7_wearsOf l dC dI cI cII o_t a_t u_1 h_t (x1) u_79 e_79) (cwV 1 hts (hw_giV mw_753 mw_755 mw_26 mw_60 mw_756) rfl rfl rfl (by decide +kernel) ⟨Nat.le_of_ble_eq_true rfl, Nat.le_of_ble_eq_true rfl⟩) ⟨pB_blind, va_recv hK hP (ci := 7) (q0 := 0) rfl rfl, fun U hU hW => ⟨rfl, pB_go hP hK hN hU hW⟩⟩ rfl rfl hl.1 rfl (lv_room (Nat.le_of_ble_eq_true rfl)) dX7_tell_79 ⟨Nat.zero_le _, Nat.zero_le _⟩).run (fun z_79 ez_79 => ?_)
    subst ez_79
    obtain rfl := Option.some.inj hf
    exact W.iret (v := u_79) hx hb hr (fun t ht hW => ⟨⟨_, (), rfl, rfl, by rw [ht]; exact hP, hD⟩, hS.F ht⟩) hS.2.2 dX7_tell_82 hlocks
  have hf := ho_f hf c_5_4
  by_cases c_5_5 : x2 = 5
  · have hf := ho_t hf c_5_5
    refine lv_tableIn (tgt := 83) hx hb dX7_tell_5 (by rw [c_5_5] <;> decide) (by rw [c_5_5] <;> decide) (by rw [c_5_5] <;> rfl) (by decide) ?_
    refine lv_aload_n hx hb dX7_tell_83 rfl (lv_at hl 0 rfl) ?_
    refine va_get (D := (dC, dI)) (ci := 7) (v := .ref (a_t 11)) (C := RX7) (T := TX7) (N := 30) hx hb hts hw_X7 hown hK hP 0 rfl rfl 11 (by decide) (hts _ (List.mem_cons_of_mem _ mw_609)) (fun _ h9 => h9) rfl dX7_tell_84 ?_
    refine lv_iload_n hx hb dX7_tell_87 rfl (lv_at hl 1 rfl) ?_
    obtain ⟨h_88, hf⟩ := ho_g hf
    refine va_iald (n := 5) (f := (u_1.2 11)) hx hb hK hP 4 0 rfl rfl h_88 dX7_tell_88 ?_
    obtain rfl := Option.some.inj hf
    exact W.iret (v := ((u_1.2 11) (Int32.toNatClampNeg x1))) hx hb hr (fun t ht hW => ⟨⟨_, (), rfl, rfl, by rw [ht]; exact hP, hD⟩, hS.F ht⟩) hS.2.2 dX7_tell_89 hlocks
  have hf := ho_f hf c_5_5
  by_cases c_5_6 : x2 = 6
  · have hf := ho_t hf c_5_6
    refine lv_tableIn (tgt := 90) hx hb dX7_tell_5 (by rw [c_5_6] <;> decide) (by rw [c_5_6] <;> decide) (by rw [c_5_6] <;> rfl) (by decide) ?_
    refine lv_aload_n hx hb dX7_tell_90 rfl (lv_at hl 0 rfl) ?_
    refine lv_iload_n hx hb dX7_tell_91 rfl (lv_at hl 1 rfl) ?_
    obtain ⟨u_92, e_92, hf⟩ := ho_b hf
    refine vp_callSi (va_runV (As := [.int x1]) (rest := []) ⟨hx, hb, hml, hown, hts⟩ (c_X7_waitsOf l dC dI cI cII o_t a_t u_1 h_t (x1) u_92 e_92) (cwV 1 hts (hw_giV mw_769 mw_771 mw_30 mw_60 mw_772) rfl rfl rfl (by decide +kernel) ⟨Nat.le_of_ble_eq_true rfl, Nat.le_of_ble_eq_true rfl⟩) ⟨pB_blind, va_recv hK hP (ci := 7) (q0 := 0) rfl rfl, fun U hU hW => ⟨rfl, pB_go hP hK hN hU hW⟩⟩ rfl rfl hl.1 rfl (lv_room (Nat.le_of_ble_eq_true rfl)) dX7_tell_92 ⟨Nat.zero_le _, Nat.zero_le _⟩).run (fun z_92 ez_92 => ?_)
    subst ez_92
    obtain rfl := Option.some.inj hf
    exact W.iret (v := u_92) hx hb hr (fun t ht hW => ⟨⟨_, (), rfl, rfl, by rw [ht]; exact hP, hD⟩, hS.F ht⟩) hS.2.2 dX7_tell_95 hlocks
  have hf := ho_f hf c_5_6
  by_cases c_5_7 : x2 = 7
  · have hf := ho_t hf c_5_7
    refine lv_tableIn (tgt := 96) hx hb dX7_tell_5 (by rw [c_5_7] <;> decide) (by rw [c_5_7] <;> decide) (by rw [c_5_7] <;> rfl) (by decide) ?_
    refine lv_aload_n hx hb dX7_tell_96 rfl (lv_at hl 0 rfl) ?_
    refine va_get (D := (dC, dI)) (ci := 7) (v := .ref (a_t 12)) (C := RX7) (T := TX7) (N := 30) hx hb hts hw_X7 hown hK hP 0 rfl rfl 12 (by decide) (hts _ (List.mem_cons_of_mem _ mw_610)) (fun _ h9 => h9) rfl dX7_tell_97 ?_
    refine lv_iload_n hx hb dX7_tell_100 rfl (lv_at hl 1 rfl) ?_
    obtain ⟨h_101, hf⟩ := ho_g hf
    refine va_iald (n := 5) (f := (u_1.2 12)) hx hb hK hP 5 0 rfl rfl h_101 dX7_tell_101 ?_
    obtain rfl := Option.some.inj hf
    exact W.iret (v := ((u_1.2 12) (Int32.toNatClampNeg x1))) hx hb hr (fun t ht hW => ⟨⟨_, (), rfl, rfl, by rw [ht]; exact hP, hD⟩, hS.F ht⟩) hS.2.2 dX7_tell_102 hlocks
  have hf := ho_f hf c_5_7
  by_cases c_5_8 : x2 = 8
  · have hf := ho_t hf c_5_8
    refine lv_tableIn (tgt := 103) hx hb dX7_tell_5 (by rw [c_5_8] <;> decide) (by rw [c_5_8] <;> decide) (by rw [c_5_8] <;> rfl) (by decide) ?_
    refine lv_aload_n hx hb dX7_tell_103 rfl (lv_at hl 0 rfl) ?_
    refine lv_iload_n hx hb dX7_tell_104 rfl (lv_at hl 1 rfl) ?_
    obtain ⟨u_105, e_105, hf⟩ := ho_b hf
    have hFc := va_free (wc := (wX7 o_t a_t cI u_1 h_t)) hD hS hA [0, 1, 2, 3, 4, 5, 6, 7, 8, 9, 10, 11, 12] rfl
    refine va_calli (va_runV (As := [.int x1]) (rest := []) ⟨hx, hb, hml, hown, hts⟩ (c_X7_whenOf l dC dI cI cII o_t a_t u_1 h_t (x1) _ u_105 e_105) (cwV 1 hts (hw_giV mw_777 mw_779 mw_32 mw_60 mw_780) rfl rfl rfl (by decide +kernel) ⟨Nat.le_of_ble_eq_true rfl, Nat.le_of_ble_eq_true rfl⟩) ⟨qB_blind, va_recv hK hP (ci := 7) (q0 := 0) rfl rfl, fun U hU hW => ⟨rfl, qB_go hP hD hK hN hU hW⟩⟩ rfl rfl hl.1 rfl (lv_room (Nat.le_of_ble_eq_true rfl)) dX7_tell_105 ⟨Nat.zero_le _, Nat.zero_le _⟩) hS (fun q _ h => hFc q h) hFc (fun z_105 u t H1 locs ht hvm ez_105 hB hz1 hk1 hS => ?_)
    subst ez_105
    obtain ⟨hP1, hD1⟩ := hB
    rw [ht] at hP1
    clear hP hD
    generalize H1 = H at hP1 hS ⊢
    have hP : va_P (dC, dI) vwCl (wX7 o_t a_t cI u_105.2 h_t) H := hP1
    have hD : va_D A (wX7 o_t a_t cI u_105.2 h_t) := hD1.weaken (fun _ q _ h => hFc q.1 h)
    obtain rfl := Option.some.inj hf
    exact W.iret (v := u_105.1) hx hb hr (fun t ht hW => ⟨⟨_, (), rfl, rfl, by rw [ht]; exact hP, hD⟩, hS.F ht⟩) hS.2.2 dX7_tell_108 hlocks
  have hf := ho_f hf c_5_8
  by_cases c_5_9 : x2 = 9
  · have hf := ho_t hf c_5_9
    refine lv_tableIn (tgt := 109) hx hb dX7_tell_5 (by rw [c_5_9] <;> decide) (by rw [c_5_9] <;> decide) (by rw [c_5_9] <;> rfl) (by decide) ?_
    refine lv_aload_n hx hb dX7_tell_109 rfl (lv_at hl 0 rfl) ?_
    refine lv_iload_n hx hb dX7_tell_110 rfl (lv_at hl 1 rfl) ?_
    obtain ⟨u_111, e_111, hf⟩ := ho_b hf
    have hFc := va_free (wc := (wX7 o_t a_t cI u_1 h_t)) hD hS hA [0, 1, 2, 3, 4, 5, 6, 7, 8, 9, 10, 11, 12] rfl
    refine va_calli (va_runV (As := [.int x1]) (rest := []) ⟨hx, hb, hml, hown, hts⟩ (c_X7_lookOf l dC dI cI cII o_t a_t u_1 h_t (x1) _ u_111 e_111) (cwV 1 hts (hw_giV mw_785 mw_787 mw_34 mw_60 mw_788) rfl rfl rfl (by decide +kernel) ⟨Nat.le_of_ble_eq_true rfl, Nat.le_of_ble_eq_true rfl⟩) ⟨qB_blind, va_recv hK hP (ci := 7) (q0 := 0) rfl rfl, fun U hU hW => ⟨rfl, qB_go hP hD hK hN hU hW⟩⟩ rfl rfl hl.1 rfl (lv_room (Nat.le_of_ble_eq_true rfl)) dX7_tell_111 ⟨Nat.zero_le _, Nat.zero_le _⟩) hS (fun q _ h => hFc q h) hFc (fun z_111 u t H1 locs ht hvm ez_111 hB hz1 hk1 hS => ?_)
    subst ez_111
    obtain ⟨hP1, hD1⟩ := hB
    rw [ht] at hP1
    clear hP hD
    generalize H1 = H at hP1 hS ⊢
    have hP : va_P (dC, dI) vwCl (wX7 o_t a_t cI u_111.2 h_t) H := hP1
    have hD : va_D A (wX7 o_t a_t cI u_111.2 h_t) := hD1.weaken (fun _ q _ h => hFc q.1 h)
    obtain rfl := Option.some.inj hf
    exact W.iret (v := u_111.1) hx hb hr (fun t ht hW => ⟨⟨_, (), rfl, rfl, by rw [ht]; exact hP, hD⟩, hS.F ht⟩) hS.2.2 dX7_tell_114 hlocks
  have hf := ho_f hf c_5_9
  refine lv_tableOut (tgt := 115) hx hb dX7_tell_5 (by have e0 := lv_neT c_5_0 (a := 0) (by decide); have e1 := lv_neT c_5_1 (a := 1) (by decide); have e2 := lv_neT c_5_2 (a := 2) (by decide); have e3 := lv_neT c_5_3 (a := 3) (by decide); have e4 := lv_neT c_5_4 (a := 4) (by decide); have e5 := lv_neT c_5_5 (a := 5) (by decide); have e6 := lv_neT c_5_6 (a := 6) (by decide); have e7 := lv_neT c_5_7 (a := 7) (by decide); have e8 := lv_neT c_5_8 (a := 8) (by decide); have e9 := lv_neT c_5_9 (a := 9) (by decide); omega) (by decide) ?_
  refine lv_bipush (v := (-102)) hx hb dX7_tell_115 (by decide) ?_
  obtain rfl := Option.some.inj hf
  exact W.iret (v := (-102)) hx hb hr (fun t ht hW => ⟨⟨_, (), rfl, rfl, by rw [ht]; exact hP, hD⟩, hS.F ht⟩) hS.2.2 dX7_tell_117 hlocks
set_option maxHeartbeats 4000000 in
set_option maxRecDepth 100000 in
theorem c_X7_pilgrim (l : Launch) (dC : Nat → ClassId) (dI : Nat → Nat → Nat) (cI cII : ClassId) (o_t : Nat) (a_t : Nat → Nat) (v_t : obV) (h_t : Int64) (x1 : Int32) (x2 : Int32) (sz : Nat) (r : Int32 × obV) (hf : f_X7_pilgrim  v_t x1 x2 = some r) :
    Met l yX7_pilgrim (wd yX7_pilgrim cX7_pilgrim 3 (some .int)) ({ frames := 7, cells := 0, slots := 0, locals := 166 } : Room) (va_Pc [.ref o_t, .int x1, .int x2] (qB (dC, dI) vwCl (wX7 o_t a_t cI v_t h_t) (hTY cI cII) sz)) (va_Qi (fun (z : Int32) (_ : Unit) => r.1 = z) (fun _ t => va_P (dC, dI) vwCl (wX7 o_t a_t cI r.2 h_t) t.heap ∧ va_D (va_A (wX7 o_t a_t cI v_t h_t) sz) (wX7 o_t a_t cI r.2 h_t)) (va_A (wX7 o_t a_t cI v_t h_t) sz)) 0 0 (va_A (wX7 o_t a_t cI v_t h_t) sz) := by
  refine Met.ofW (cc := cX7_pilgrim) (maxL := 3) (ret := (some .int)) (by decide) rfl ?_
  intro p e s m args below meth c s₁ B hml hv
  obtain ⟨rfl, hsz, hD0, hP, hK, hN⟩ := hv
  have hx := B.exec
  have hb := B.bytes
  have hr := B.returns
  have hts := atoms_spec (ws := (wd yX7_pilgrim cX7_pilgrim 3 (some .int))) B.pre
  have hown : s.vm.findClass RX7 = some m.cls := findClass_of_methodNamed B.named
  have hlocks := B.notSynchronized
  subst hsz
  have hD := hD0.self (sz := s.heap.size)
  generalize hAe : va_A (wX7 o_t a_t cI v_t h_t) s.heap.size = A at hD ⊢
  have hA : ∀ q : Nat, s.heap.size ≤ q → A q := fun q h => by rw [← hAe]; exact Or.inr h
  have hS : va_S A s.heap s.heap [] := va_S.rf
  have hl := lv_entry ([.ref o_t, .int x1, .int x2]) (n := 3) (Nat.le_of_ble_eq_true rfl)
  rw [lg_entry_eq]
  generalize (lg_sl ([.ref o_t, .int x1, .int x2]) ++ List.replicate (3 - (lg_sl ([.ref o_t, .int x1, .int x2])).length) Slot.unset).toArray = ls at hl ⊢
  have hl : lv_has ls 3 [(0, .ref o_t), (1, .int x1), (2, .int x2)] := hl
  clear hAe hD0
  unfold f_X7_pilgrim at hf
  refine lv_aload_n hx hb dX7_pilgrim_0 rfl (lv_at hl 0 rfl) ?_
  refine lv_iload_n hx hb dX7_pilgrim_1 rfl (lv_at hl 1 rfl) ?_
  obtain ⟨u_2, e_2, hf⟩ := ho_b hf
  refine vp_callSi (va_runV (As := [.int x1]) (rest := []) ⟨hx, hb, hml, hown, hts⟩ (c_X7_isPilgrim l dC dI cI cII o_t a_t v_t h_t (x1) u_2 e_2) (cwV 1 hts (hw_giV mw_729 mw_731 mw_20 mw_60 mw_732) rfl rfl rfl (by decide +kernel) ⟨Nat.le_of_ble_eq_true rfl, Nat.le_of_ble_eq_true rfl⟩) ⟨pB_blind, va_recv hK hP (ci := 7) (q0 := 0) rfl rfl, fun U hU hW => ⟨rfl, pB_go hP hK hN hU hW⟩⟩ rfl rfl hl.1 rfl (lv_room (Nat.le_of_ble_eq_true rfl)) dX7_pilgrim_2 ⟨Nat.zero_le _, Nat.zero_le _⟩).run (fun z_2 ez_2 => ?_)
  subst ez_2
  refine lv_if_eq (tgt := 17) hx hb dX7_pilgrim_5 (by decide) (fun c_5 => ?_) (fun c_5 => ?_)
  · have hf := ho_t hf c_5
    refine lv_bipush (v := (-101)) hx hb dX7_pilgrim_17 (by decide) ?_
    obtain rfl := Option.some.inj hf
    exact W.iret (v := (-101)) hx hb hr (fun t ht hW => ⟨⟨_, (), rfl, rfl, by rw [ht]; exact hP, hD⟩, hS.F ht⟩) hS.2.2 dX7_pilgrim_19 hlocks
  · have hf := ho_f hf c_5
    refine lv_aload_n hx hb dX7_pilgrim_8 rfl (lv_at hl 0 rfl) ?_
    refine lv_iload_n hx hb dX7_pilgrim_9 rfl (lv_at hl 1 rfl) ?_
    refine lv_iload_n hx hb dX7_pilgrim_10 rfl (lv_at hl 2 rfl) ?_
    obtain ⟨u_11, e_11, hf⟩ := ho_b hf
    have hFc := va_free (wc := (wX7 o_t a_t cI v_t h_t)) hD hS hA [0, 1, 2, 3, 4, 5, 6, 7, 8, 9, 10, 11, 12] rfl
    refine va_calli (va_runV (As := [.int x1, .int x2]) (rest := []) ⟨hx, hb, hml, hown, hts⟩ (c_X7_tell l dC dI cI cII o_t a_t v_t h_t (x1) (x2) _ u_11 e_11) (cwV 2 hts (hw_giV mw_733 mw_735 mw_21 mw_60 mw_736) rfl rfl rfl (by decide +kernel) ⟨Nat.le_of_ble_eq_true rfl, Nat.le_of_ble_eq_true rfl⟩) ⟨qB_blind, va_recv hK hP (ci := 7) (q0 := 0) rfl rfl, fun U hU hW => ⟨rfl, qB_go hP hD hK hN hU hW⟩⟩ rfl rfl hl.1 rfl (lv_room (Nat.le_of_ble_eq_true rfl)) dX7_pilgrim_11 ⟨Nat.zero_le _, Nat.zero_le _⟩) hS (fun q _ h => hFc q h) hFc (fun z_11 u t H1 locs ht hvm ez_11 hB hz1 hk1 hS => ?_)
    subst ez_11
    obtain ⟨hP1, hD1⟩ := hB
    rw [ht] at hP1
    clear hP hD
    generalize H1 = H at hP1 hS ⊢
    have hP : va_P (dC, dI) vwCl (wX7 o_t a_t cI u_11.2 h_t) H := hP1
    have hD : va_D A (wX7 o_t a_t cI u_11.2 h_t) := hD1.weaken (fun _ q _ h => hFc q.1 h)
    refine lv_goto (tgt := 19) hx hb dX7_pilgrim_14 (by decide) ?_
    obtain rfl := Option.some.inj hf
    exact W.iret (v := u_11.1) hx hb hr (fun t ht hW => ⟨⟨_, (), rfl, rfl, by rw [ht]; exact hP, hD⟩, hS.F ht⟩) hS.2.2 dX7_pilgrim_19 hlocks
set_option maxHeartbeats 4000000 in
set_option maxRecDepth 100000 in
theorem w_X7_as_b59 {p : Program} {l : Launch} {e : Env} {s : State} {m : MethodId} {args : Array Value} {below : List Frame} {meth : Method} {c : Code} {dC : Nat → ClassId} {dI : Nat → Nat → Nat} {cI cII : ClassId} {o_t : Nat} {a_t : Nat → Nat} (C0 : hC p s m args meth c dC dI cI cII RX7 cX7_as 5 (wd yX7_as cX7_as 5 (some .int)) (some .int)) {h_t : Int64} {v_t : obV} {x1 : Int32} {s0 : Int32}   (hP : va_P (dC, dI) vwCl (wX7 o_t a_t cI v_t h_t) s.heap) {r : Int32} (hf : f_X7_as_b59  v_t x1 s0  = some r) {ls : Array Slot} (hl : lv_has ls 5 [(1, .int x1)]) :
    W p l e ({ frames := 2, cells := 0, slots := 0, locals := 46 } : Room) s m args below meth c s.heap [] 0 0 (MQ below (vp_Si (fun z => r = z)) args s 0 0 (fun _ => False)) (F0 m 59 ls [.int s0]) := by
  obtain ⟨hx, hb, hml, hown, hts, hr, hlocks, hK, hN⟩ := C0
  unfold f_X7_as_b59 at hf
  refine lv_istore (lv' := [(4, .int s0), (1, .int x1)]) hx hb dX7_as_59 hl (by decide) rfl (fun ls hl => ?_)
  refine lv_iload hx hb dX7_as_61 (lv_at hl 0 rfl) ?_
  refine lv_if_eq (tgt := 70) hx hb dX7_as_63 (by decide) (fun c_63 => ?_) (fun c_63 => ?_)
  · have hf := ho_t hf c_63
    refine lv_iconst (v := (-1)) hx hb dX7_as_70 (by decide) ?_
    obtain rfl := Option.some.inj hf
    exact W.iret (v := (-1)) hx hb hr (fun t ht hW => ⟨_, rfl, rfl, ht⟩) (fun q hq => by cases hq) dX7_as_71 hlocks
  · have hf := ho_f hf c_63
    refine lv_iload_n hx hb dX7_as_66 rfl (lv_at hl 1 rfl) ?_
    refine lv_goto (tgt := 71) hx hb dX7_as_67 (by decide) ?_
    obtain rfl := Option.some.inj hf
    exact W.iret (v := x1) hx hb hr (fun t ht hW => ⟨_, rfl, rfl, ht⟩) (fun q hq => by cases hq) dX7_as_71 hlocks
set_option maxHeartbeats 4000000 in
set_option maxRecDepth 100000 in
theorem c_X7_as (l : Launch) (dC : Nat → ClassId) (dI : Nat → Nat → Nat) (cI cII : ClassId) (o_t : Nat) (a_t : Nat → Nat) (v_t : obV) (h_t : Int64) (x1 : Int32) (x2 : Int32) (r : Int32) (hf : f_X7_as  v_t x1 x2 = some r) :
    Met l yX7_as (wd yX7_as cX7_as 5 (some .int)) ({ frames := 2, cells := 0, slots := 0, locals := 46 } : Room) (va_Pc [.ref o_t, .int x1, .int x2] (pB (dC, dI) vwCl (wX7 o_t a_t cI v_t h_t) (hTY cI cII))) (vp_Si (fun z => r = z)) 0 0 (fun _ => False) := by
  refine Met.ofW (cc := cX7_as) (maxL := 5) (ret := (some .int)) (by decide) rfl ?_
  intro p e s m args below meth c s₁ B hml hv
  obtain ⟨rfl, hP, hK, hN⟩ := hv
  have hx := B.exec
  have hb := B.bytes
  have hr := B.returns
  have hts := atoms_spec (ws := (wd yX7_as cX7_as 5 (some .int))) B.pre
  have hown : s.vm.findClass RX7 = some m.cls := findClass_of_methodNamed B.named
  have hlocks := B.notSynchronized
  have hl := lv_entry ([.ref o_t, .int x1, .int x2]) (n := 5) (Nat.le_of_ble_eq_true rfl)
  rw [lg_entry_eq]
  generalize (lg_sl ([.ref o_t, .int x1, .int x2]) ++ List.replicate (5 - (lg_sl ([.ref o_t, .int x1, .int x2])).length) Slot.unset).toArray = ls at hl ⊢
  have hl : lv_has ls 5 [(0, .ref o_t), (1, .int x1), (2, .int x2)] := hl
  unfold f_X7_as at hf
  refine lv_aload_n hx hb dX7_as_0 rfl (lv_at hl 0 rfl) ?_
  refine lv_iload_n hx hb dX7_as_1 rfl (lv_at hl 1 rfl) ?_
  obtain ⟨u_2, e_2, hf⟩ := ho_b hf
  refine vp_callSi (va_runV (As := [.int x1]) (rest := []) ⟨hx, hb, hml, hown, hts⟩ (c_X7_isPilgrim l dC dI cI cII o_t a_t v_t h_t (x1) u_2 e_2) (cwV 1 hts (hw_giV mw_729 mw_731 mw_20 mw_60 mw_732) rfl rfl rfl (by decide +kernel) ⟨Nat.le_of_ble_eq_true rfl, Nat.le_of_ble_eq_true rfl⟩) ⟨pB_blind, va_recv hK hP (ci := 7) (q0 := 0) rfl rfl, fun U hU hW => ⟨rfl, pB_go hP hK hN hU hW⟩⟩ rfl rfl hl.1 rfl (lv_room (Nat.le_of_ble_eq_true rfl)) dX7_as_2 ⟨Nat.zero_le _, Nat.zero_le _⟩).run (fun z_2 ez_2 => ?_)
  subst ez_2
  refine lv_if_ne (tgt := 11) hx hb dX7_as_5 (by decide) (fun c_5 => ?_) (fun c_5 => ?_)
  · have hf := ho_f hf c_5
    refine lv_iload_n hx hb dX7_as_11 rfl (lv_at hl 2 rfl) ?_
    refine lv_i2l (v := (Int32.toInt64 x2)) hx hb dX7_as_12 rfl ?_
    refine lv_lconst (v := 0) hx hb dX7_as_13 (by decide) ?_
    refine lv_ldc2 (v := 4) hx hb hown (hts _ (List.mem_cons_of_mem _ mw_793)) dX7_as_14 ?_
    obtain ⟨u_17, e_17, hf⟩ := ho_b hf
    have hPc := hP.sub (ws' := ([] : va_W)) [] rfl
    refine vp_callSi (va_runS (As := [.long (Int32.toInt64 x2), .long 0, .long 4]) (rest := []) ⟨hx, hb, hml, hown, hts⟩ (c_X7_in l dC dI cI cII ((Int32.toInt64 x2)) (0) (4) u_17 e_17) (va_cwS 3 hts (hw_giS mw_694 mw_695 mw_60 mw_696) rfl rfl rfl (by decide +kernel) ⟨Nat.le_of_ble_eq_true rfl, Nat.le_of_ble_eq_true rfl⟩) ⟨pB_blind, fun U hU hW => ⟨rfl, pB_go hPc hK hN hU hW⟩⟩ rfl rfl hl.1 rfl (lv_room (Nat.le_of_ble_eq_true rfl)) dX7_as_17 ⟨Nat.zero_le _, Nat.zero_le _⟩).run (fun z_17 ez_17 => ?_)
    subst ez_17
    refine lv_if_ne (tgt := 26) hx hb dX7_as_20 (by decide) (fun c_20 => ?_) (fun c_20 => ?_)
    · have hf := ho_f hf c_20
      refine lv_aload_n hx hb dX7_as_26 rfl (lv_at hl 0 rfl) ?_
      refine va_get (D := (dC, dI)) (ci := 7) (v := .ref (a_t 10)) (C := RX7) (T := TX7) (N := 30) hx hb hts hw_X7 hown hK hP 0 rfl rfl 10 (by decide) (hts _ (List.mem_cons_of_mem _ mw_608)) (fun _ h9 => h9) rfl dX7_as_27 ?_
      refine lv_iconst (v := 3) hx hb dX7_as_30 (by decide) ?_
      refine lv_iload_n hx hb dX7_as_31 rfl (lv_at hl 1 rfl) ?_
      refine lv_imul hx hb dX7_as_32 ?_
      obtain ⟨h_33, hf⟩ := ho_g hf
      refine va_iald (n := 15) (f := (v_t.2 10)) hx hb hK hP 3 0 rfl rfl h_33 dX7_as_33 ?_
      refine lv_istore_n (lv' := [(3, .int ((v_t.2 10) (Int32.toNatClampNeg (3 * x1)))), (0, .ref o_t), (1, .int x1), (2, .int x2)]) hx hb dX7_as_34 rfl hl (by decide) rfl (fun ls hl => ?_)
      refine lv_iload_n hx hb dX7_as_35 rfl (lv_at hl 3 rfl) ?_
      refine lv_if_eq (tgt := 54) hx hb dX7_as_36 (by decide) (fun c_36 => ?_) (fun c_36 => ?_)
      · have hf := ho_t hf c_36
        refine lv_iconst (v := 1) hx hb dX7_as_54 (by decide) ?_
        refine lv_goto (tgt := 59) hx hb dX7_as_55 (by decide) ?_
        exact w_X7_as_b59 ⟨hx, hb, hml, hown, hts, hr, hlocks, hK, hN⟩  hP hf (lv_sub hl [2] rfl)
      · have hf := ho_f hf c_36
        refine lv_iload_n hx hb dX7_as_39 rfl (lv_at hl 3 rfl) ?_
        refine lv_iload_n hx hb dX7_as_40 rfl (lv_at hl 0 rfl) ?_
        refine lv_icmp_eq (tgt := 54) hx hb dX7_as_41 (by decide) (fun c_41 => ?_) (fun c_41 => ?_)
        · have hf := ho_t hf c_41
          refine lv_iconst (v := 1) hx hb dX7_as_54 (by decide) ?_
          refine lv_goto (tgt := 59) hx hb dX7_as_55 (by decide) ?_
          exact w_X7_as_b59 ⟨hx, hb, hml, hown, hts, hr, hlocks, hK, hN⟩  hP hf (lv_sub hl [2] rfl)
        · have hf := ho_f hf c_41
          refine lv_iload_n hx hb dX7_as_44 rfl (lv_at hl 3 rfl) ?_
          refine lv_iconst (v := 2) hx hb dX7_as_45 (by decide) ?_
          refine lv_icmp_ne (tgt := 58) hx hb dX7_as_46 (by decide) (fun c_46 => ?_) (fun c_46 => ?_)
          · have hf := ho_f hf c_46
            refine lv_iconst (v := 0) hx hb dX7_as_58 (by decide) ?_
            exact w_X7_as_b59 ⟨hx, hb, hml, hown, hts, hr, hlocks, hK, hN⟩  hP hf (lv_sub hl [2] rfl)
          · have hf := ho_t hf c_46
            refine lv_iload_n hx hb dX7_as_49 rfl (lv_at hl 0 rfl) ?_
            refine lv_iconst (v := 4) hx hb dX7_as_50 (by decide) ?_
            refine lv_icmp_ne (tgt := 58) hx hb dX7_as_51 (by decide) (fun c_51 => ?_) (fun c_51 => ?_)
            · have hf := ho_f hf c_51
              refine lv_iconst (v := 0) hx hb dX7_as_58 (by decide) ?_
              exact w_X7_as_b59 ⟨hx, hb, hml, hown, hts, hr, hlocks, hK, hN⟩  hP hf (lv_sub hl [2] rfl)
            · have hf := ho_t hf c_51
              refine lv_iconst (v := 1) hx hb dX7_as_54 (by decide) ?_
              refine lv_goto (tgt := 59) hx hb dX7_as_55 (by decide) ?_
              exact w_X7_as_b59 ⟨hx, hb, hml, hown, hts, hr, hlocks, hK, hN⟩  hP hf (lv_sub hl [2] rfl)
    · have hf := ho_t hf c_20
      refine lv_bipush (v := (-102)) hx hb dX7_as_23 (by decide) ?_
      obtain rfl := Option.some.inj hf
      exact W.iret (v := (-102)) hx hb hr (fun t ht hW => ⟨_, rfl, rfl, ht⟩) (fun q hq => by cases hq) dX7_as_25 hlocks
  · have hf := ho_t hf c_5
    refine lv_bipush (v := (-101)) hx hb dX7_as_8 (by decide) ?_
    obtain rfl := Option.some.inj hf
    exact W.iret (v := (-101)) hx hb hr (fun t ht hW => ⟨_, rfl, rfl, ht⟩) (fun q hq => by cases hq) dX7_as_10 hlocks
set_option maxHeartbeats 4000000 in
set_option maxRecDepth 100000 in
theorem c_X7_come (l : Launch) (dC : Nat → ClassId) (dI : Nat → Nat → Nat) (cI cII : ClassId) (o_t : Nat) (a_t : Nat → Nat) (v_t : obV) (h_t : Int64) (x1 : Int32) (x2 : Int32) (sz : Nat) (r : Int32 × obV) (hf : f_X7_come  v_t x1 x2 = some r) :
    Met l yX7_come (wd yX7_come cX7_come 4 (some .int)) ({ frames := 2, cells := 0, slots := 0, locals := 46 } : Room) (va_Pc [.ref o_t, .int x1, .int x2] (qB (dC, dI) vwCl (wX7 o_t a_t cI v_t h_t) (hTY cI cII) sz)) (va_Qi (fun (z : Int32) (_ : Unit) => r.1 = z) (fun _ t => va_P (dC, dI) vwCl (wX7 o_t a_t cI r.2 h_t) t.heap ∧ va_D (va_A (wX7 o_t a_t cI v_t h_t) sz) (wX7 o_t a_t cI r.2 h_t)) (va_A (wX7 o_t a_t cI v_t h_t) sz)) 0 0 (va_A (wX7 o_t a_t cI v_t h_t) sz) := by
  refine Met.ofW (cc := cX7_come) (maxL := 4) (ret := (some .int)) (by decide) rfl ?_
  intro p e s m args below meth c s₁ B hml hv
  obtain ⟨rfl, hsz, hD0, hP, hK, hN⟩ := hv
  have hx := B.exec
  have hb := B.bytes
  have hr := B.returns
  have hts := atoms_spec (ws := (wd yX7_come cX7_come 4 (some .int))) B.pre
  have hown : s.vm.findClass RX7 = some m.cls := findClass_of_methodNamed B.named
  have hlocks := B.notSynchronized
  subst hsz
  have hD := hD0.self (sz := s.heap.size)
  generalize hAe : va_A (wX7 o_t a_t cI v_t h_t) s.heap.size = A at hD ⊢
  have hA : ∀ q : Nat, s.heap.size ≤ q → A q := fun q h => by rw [← hAe]; exact Or.inr h
  have hS : va_S A s.heap s.heap [] := va_S.rf
  have hl := lv_entry ([.ref o_t, .int x1, .int x2]) (n := 4) (Nat.le_of_ble_eq_true rfl)
  rw [lg_entry_eq]
  generalize (lg_sl ([.ref o_t, .int x1, .int x2]) ++ List.replicate (4 - (lg_sl ([.ref o_t, .int x1, .int x2])).length) Slot.unset).toArray = ls at hl ⊢
  have hl : lv_has ls 4 [(0, .ref o_t), (1, .int x1), (2, .int x2)] := hl
  clear hAe hD0
  unfold f_X7_come at hf
  refine lv_aload_n hx hb dX7_come_0 rfl (lv_at hl 0 rfl) ?_
  refine lv_iload_n hx hb dX7_come_1 rfl (lv_at hl 1 rfl) ?_
  obtain ⟨u_2, e_2, hf⟩ := ho_b hf
  refine vp_callSi (va_runV (As := [.int x1]) (rest := []) ⟨hx, hb, hml, hown, hts⟩ (c_X7_isPilgrim l dC dI cI cII o_t a_t v_t h_t (x1) u_2 e_2) (cwV 1 hts (hw_giV mw_729 mw_731 mw_20 mw_60 mw_732) rfl rfl rfl (by decide +kernel) ⟨Nat.le_of_ble_eq_true rfl, Nat.le_of_ble_eq_true rfl⟩) ⟨pB_blind, va_recv hK hP (ci := 7) (q0 := 0) rfl rfl, fun U hU hW => ⟨rfl, pB_go hP hK hN hU hW⟩⟩ rfl rfl hl.1 rfl (lv_room (Nat.le_of_ble_eq_true rfl)) dX7_come_2 ⟨Nat.zero_le _, Nat.zero_le _⟩).run (fun z_2 ez_2 => ?_)
  subst ez_2
  refine lv_if_ne (tgt := 11) hx hb dX7_come_5 (by decide) (fun c_5 => ?_) (fun c_5 => ?_)
  · have hf := ho_f hf c_5
    refine lv_iload_n hx hb dX7_come_11 rfl (lv_at hl 2 rfl) ?_
    refine lv_i2l (v := (Int32.toInt64 x2)) hx hb dX7_come_12 rfl ?_
    refine lv_lconst (v := 0) hx hb dX7_come_13 (by decide) ?_
    refine lv_ldc2 (v := 9) hx hb hown (hts _ (List.mem_cons_of_mem _ mw_717)) dX7_come_14 ?_
    obtain ⟨u_17, e_17, hf⟩ := ho_b hf
    have hPc := hP.sub (ws' := ([] : va_W)) [] rfl
    refine vp_callSi (va_runS (As := [.long (Int32.toInt64 x2), .long 0, .long 9]) (rest := []) ⟨hx, hb, hml, hown, hts⟩ (c_X7_in l dC dI cI cII ((Int32.toInt64 x2)) (0) (9) u_17 e_17) (va_cwS 3 hts (hw_giS mw_694 mw_695 mw_60 mw_696) rfl rfl rfl (by decide +kernel) ⟨Nat.le_of_ble_eq_true rfl, Nat.le_of_ble_eq_true rfl⟩) ⟨pB_blind, fun U hU hW => ⟨rfl, pB_go hPc hK hN hU hW⟩⟩ rfl rfl hl.1 rfl (lv_room (Nat.le_of_ble_eq_true rfl)) dX7_come_17 ⟨Nat.zero_le _, Nat.zero_le _⟩).run (fun z_17 ez_17 => ?_)
    subst ez_17
    refine lv_if_ne (tgt := 26) hx hb dX7_come_20 (by decide) (fun c_20 => ?_) (fun c_20 => ?_)
    · have hf := ho_f hf c_20
      refine lv_aload_n hx hb dX7_come_26 rfl (lv_at hl 0 rfl) ?_
      refine va_get (D := (dC, dI)) (ci := 7) (v := .ref (a_t 10)) (C := RX7) (T := TX7) (N := 30) hx hb hts hw_X7 hown hK hP 0 rfl rfl 10 (by decide) (hts _ (List.mem_cons_of_mem _ mw_608)) (fun _ h9 => h9) rfl dX7_come_27 ?_
      refine lv_iconst (v := 3) hx hb dX7_come_30 (by decide) ?_
      refine lv_iload_n hx hb dX7_come_31 rfl (lv_at hl 1 rfl) ?_
      refine lv_imul hx hb dX7_come_32 ?_
      refine lv_iconst (v := 2) hx hb dX7_come_33 (by decide) ?_
      refine lv_iadd hx hb dX7_come_34 ?_
      obtain ⟨h_35, hf⟩ := ho_g hf
      refine va_iald (n := 15) (f := (v_t.2 10)) hx hb hK hP 3 0 rfl rfl h_35 dX7_come_35 ?_
      refine lv_istore_n (lv' := [(3, .int ((v_t.2 10) (Int32.toNatClampNeg ((3 * x1) + 2)))), (0, .ref o_t), (1, .int x1), (2, .int x2)]) hx hb dX7_come_36 rfl hl (by decide) rfl (fun ls hl => ?_)
      refine lv_aload_n hx hb dX7_come_37 rfl (lv_at hl 1 rfl) ?_
      refine va_get (D := (dC, dI)) (ci := 7) (v := .ref (a_t 10)) (C := RX7) (T := TX7) (N := 30) hx hb hts hw_X7 hown hK hP 0 rfl rfl 10 (by decide) (hts _ (List.mem_cons_of_mem _ mw_608)) (fun _ h9 => h9) rfl dX7_come_38 ?_
      refine lv_iconst (v := 3) hx hb dX7_come_41 (by decide) ?_
      refine lv_iload_n hx hb dX7_come_42 rfl (lv_at hl 2 rfl) ?_
      refine lv_imul hx hb dX7_come_43 ?_
      refine lv_iconst (v := 2) hx hb dX7_come_44 (by decide) ?_
      refine lv_iadd hx hb dX7_come_45 ?_
      refine lv_iload_n hx hb dX7_come_46 rfl (lv_at hl 3 rfl) ?_
      obtain ⟨h_47, hf⟩ := ho_g hf
      refine va_iast (n := 15) (f := (v_t.2 10)) hx hb hK hP hD hS 3 0 rfl rfl h_47 dX7_come_47 (fun H locs hP hD hS => ?_)
      have hP : va_P (dC, dI) vwCl (wX7 o_t a_t cI (oA v_t 10 (Int32.toNatClampNeg ((3 * x1) + 2)) x2) h_t) H := hP
      have hD : va_D A (wX7 o_t a_t cI (oA v_t 10 (Int32.toNatClampNeg ((3 * x1) + 2)) x2) h_t) := hD
      obtain ⟨v_t_47, e_v_t_47⟩ : ∃ z : obV, z = (oA v_t 10 (Int32.toNatClampNeg ((3 * x1) + 2)) x2) := ⟨_, rfl⟩
      rw [← e_v_t_47] at hP hD
      have hf := ho_l hf v_t_47 e_v_t_47
      refine lv_aload_n hx hb dX7_come_48 rfl (lv_at hl 1 rfl) ?_
      refine lv_dup hx hb dX7_come_49 rfl ?_
      refine va_get (D := (dC, dI)) (ci := 7) (v := .int (v_t_47.1 8)) (C := RX7) (T := TX7) (N := 30) hx hb hts hw_X7 hown hK hP 0 rfl rfl 8 (by decide) (hts _ (List.mem_cons_of_mem _ mw_606)) (fun _ h9 => h9) rfl dX7_come_50 ?_
      refine lv_iconst (v := 1) hx hb dX7_come_53 (by decide) ?_
      refine lv_iadd hx hb dX7_come_54 ?_
      refine va_put (D := (dC, dI)) (ci := 7) (v := .int ((v_t_47.1 8) + 1)) (ty := .int) (C := RX7) (T := TX7) (N := 30) hx hb hts hw_X7 tyX7 tyX7_ok nmX7 hown hK hP hD hS 0 rfl rfl 8 (by decide) (hts _ (List.mem_cons_of_mem _ mw_606)) (fun _ h9 => h9) rfl (by decide +kernel) rfl rfl (Nat.le_of_ble_eq_true rfl) dX7_come_55 (fun H locs hP hD hS => ?_)
      have hP : va_P (dC, dI) vwCl (wX7 o_t a_t cI (oF v_t_47 8 ((v_t_47.1 8) + 1)) h_t) H := hP
      have hD : va_D A (wX7 o_t a_t cI (oF v_t_47 8 ((v_t_47.1 8) + 1)) h_t) := hD
      obtain ⟨v_t_55, e_v_t_55⟩ : ∃ z : obV, z = (oF v_t_47 8 ((v_t_47.1 8) + 1)) := ⟨_, rfl⟩
      rw [← e_v_t_55] at hP hD
      have hf := ho_l hf v_t_55 e_v_t_55
      refine lv_iload_n hx hb dX7_come_58 rfl (lv_at hl 0 rfl) ?_
      obtain rfl := Option.some.inj hf
      exact W.iret (v := ((v_t.2 10) (Int32.toNatClampNeg ((3 * x1) + 2)))) hx hb hr (fun t ht hW => ⟨⟨_, (), rfl, rfl, by rw [ht]; exact hP, hD⟩, hS.F ht⟩) hS.2.2 dX7_come_59 hlocks
    · have hf := ho_t hf c_20
      refine lv_bipush (v := (-102)) hx hb dX7_come_23 (by decide) ?_
      obtain rfl := Option.some.inj hf
      exact W.iret (v := (-102)) hx hb hr (fun t ht hW => ⟨⟨_, (), rfl, rfl, by rw [ht]; exact hP, hD⟩, hS.F ht⟩) hS.2.2 dX7_come_25 hlocks
  · have hf := ho_t hf c_5
    refine lv_bipush (v := (-101)) hx hb dX7_come_8 (by decide) ?_
    obtain rfl := Option.some.inj hf
    exact W.iret (v := (-101)) hx hb hr (fun t ht hW => ⟨⟨_, (), rfl, rfl, by rw [ht]; exact hP, hD⟩, hS.F ht⟩) hS.2.2 dX7_come_10 hlocks
set_option maxHeartbeats 4000000 in
set_option maxRecDepth 100000 in
theorem c_X7_trouble (l : Launch) (dC : Nat → ClassId) (dI : Nat → Nat → Nat) (cI cII : ClassId) (o_t : Nat) (a_t : Nat → Nat) (v_t : obV) (h_t : Int64) (x1 : Int32) (x2 : Int32) (sz : Nat) (r : Int32 × obV) (hf : f_X7_trouble  v_t x1 x2 = some r) :
    Met l yX7_trouble (wd yX7_trouble cX7_trouble 4 (some .int)) ({ frames := 2, cells := 0, slots := 0, locals := 46 } : Room) (va_Pc [.ref o_t, .int x1, .int x2] (qB (dC, dI) vwCl (wX7 o_t a_t cI v_t h_t) (hTY cI cII) sz)) (va_Qi (fun (z : Int32) (_ : Unit) => r.1 = z) (fun _ t => va_P (dC, dI) vwCl (wX7 o_t a_t cI r.2 h_t) t.heap ∧ va_D (va_A (wX7 o_t a_t cI v_t h_t) sz) (wX7 o_t a_t cI r.2 h_t)) (va_A (wX7 o_t a_t cI v_t h_t) sz)) 0 0 (va_A (wX7 o_t a_t cI v_t h_t) sz) := by
  refine Met.ofW (cc := cX7_trouble) (maxL := 4) (ret := (some .int)) (by decide) rfl ?_
  intro p e s m args below meth c s₁ B hml hv
  obtain ⟨rfl, hsz, hD0, hP, hK, hN⟩ := hv
  have hx := B.exec
  have hb := B.bytes
  have hr := B.returns
  have hts := atoms_spec (ws := (wd yX7_trouble cX7_trouble 4 (some .int))) B.pre
  have hown : s.vm.findClass RX7 = some m.cls := findClass_of_methodNamed B.named
  have hlocks := B.notSynchronized
  subst hsz
  have hD := hD0.self (sz := s.heap.size)
  generalize hAe : va_A (wX7 o_t a_t cI v_t h_t) s.heap.size = A at hD ⊢
  have hA : ∀ q : Nat, s.heap.size ≤ q → A q := fun q h => by rw [← hAe]; exact Or.inr h
  have hS : va_S A s.heap s.heap [] := va_S.rf
  have hl := lv_entry ([.ref o_t, .int x1, .int x2]) (n := 4) (Nat.le_of_ble_eq_true rfl)
  rw [lg_entry_eq]
  generalize (lg_sl ([.ref o_t, .int x1, .int x2]) ++ List.replicate (4 - (lg_sl ([.ref o_t, .int x1, .int x2])).length) Slot.unset).toArray = ls at hl ⊢
  have hl : lv_has ls 4 [(0, .ref o_t), (1, .int x1), (2, .int x2)] := hl
  clear hAe hD0
  unfold f_X7_trouble at hf
  refine lv_aload_n hx hb dX7_trouble_0 rfl (lv_at hl 0 rfl) ?_
  refine lv_iload_n hx hb dX7_trouble_1 rfl (lv_at hl 1 rfl) ?_
  obtain ⟨u_2, e_2, hf⟩ := ho_b hf
  refine vp_callSi (va_runV (As := [.int x1]) (rest := []) ⟨hx, hb, hml, hown, hts⟩ (c_X7_isPilgrim l dC dI cI cII o_t a_t v_t h_t (x1) u_2 e_2) (cwV 1 hts (hw_giV mw_729 mw_731 mw_20 mw_60 mw_732) rfl rfl rfl (by decide +kernel) ⟨Nat.le_of_ble_eq_true rfl, Nat.le_of_ble_eq_true rfl⟩) ⟨pB_blind, va_recv hK hP (ci := 7) (q0 := 0) rfl rfl, fun U hU hW => ⟨rfl, pB_go hP hK hN hU hW⟩⟩ rfl rfl hl.1 rfl (lv_room (Nat.le_of_ble_eq_true rfl)) dX7_trouble_2 ⟨Nat.zero_le _, Nat.zero_le _⟩).run (fun z_2 ez_2 => ?_)
  subst ez_2
  refine lv_if_ne (tgt := 11) hx hb dX7_trouble_5 (by decide) (fun c_5 => ?_) (fun c_5 => ?_)
  · have hf := ho_f hf c_5
    refine lv_iload_n hx hb dX7_trouble_11 rfl (lv_at hl 2 rfl) ?_
    refine lv_i2l (v := (Int32.toInt64 x2)) hx hb dX7_trouble_12 rfl ?_
    refine lv_lconst (v := 0) hx hb dX7_trouble_13 (by decide) ?_
    refine lv_ldc2 (v := 5) hx hb hown (hts _ (List.mem_cons_of_mem _ mw_716)) dX7_trouble_14 ?_
    obtain ⟨u_17, e_17, hf⟩ := ho_b hf
    have hPc := hP.sub (ws' := ([] : va_W)) [] rfl
    refine vp_callSi (va_runS (As := [.long (Int32.toInt64 x2), .long 0, .long 5]) (rest := []) ⟨hx, hb, hml, hown, hts⟩ (c_X7_in l dC dI cI cII ((Int32.toInt64 x2)) (0) (5) u_17 e_17) (va_cwS 3 hts (hw_giS mw_694 mw_695 mw_60 mw_696) rfl rfl rfl (by decide +kernel) ⟨Nat.le_of_ble_eq_true rfl, Nat.le_of_ble_eq_true rfl⟩) ⟨pB_blind, fun U hU hW => ⟨rfl, pB_go hPc hK hN hU hW⟩⟩ rfl rfl hl.1 rfl (lv_room (Nat.le_of_ble_eq_true rfl)) dX7_trouble_17 ⟨Nat.zero_le _, Nat.zero_le _⟩).run (fun z_17 ez_17 => ?_)
    subst ez_17
    refine lv_if_ne (tgt := 26) hx hb dX7_trouble_20 (by decide) (fun c_20 => ?_) (fun c_20 => ?_)
    · have hf := ho_f hf c_20
      refine lv_aload_n hx hb dX7_trouble_26 rfl (lv_at hl 0 rfl) ?_
      refine va_get (D := (dC, dI)) (ci := 7) (v := .ref (a_t 10)) (C := RX7) (T := TX7) (N := 30) hx hb hts hw_X7 hown hK hP 0 rfl rfl 10 (by decide) (hts _ (List.mem_cons_of_mem _ mw_608)) (fun _ h9 => h9) rfl dX7_trouble_27 ?_
      refine lv_iconst (v := 3) hx hb dX7_trouble_30 (by decide) ?_
      refine lv_iload_n hx hb dX7_trouble_31 rfl (lv_at hl 1 rfl) ?_
      refine lv_imul hx hb dX7_trouble_32 ?_
      refine lv_iconst (v := 1) hx hb dX7_trouble_33 (by decide) ?_
      refine lv_iadd hx hb dX7_trouble_34 ?_
      obtain ⟨h_35, hf⟩ := ho_g hf
      refine va_iald (n := 15) (f := (v_t.2 10)) hx hb hK hP 3 0 rfl rfl h_35 dX7_trouble_35 ?_
      refine lv_istore_n (lv' := [(3, .int ((v_t.2 10) (Int32.toNatClampNeg ((3 * x1) + 1)))), (0, .ref o_t), (1, .int x1), (2, .int x2)]) hx hb dX7_trouble_36 rfl hl (by decide) rfl (fun ls hl => ?_)
      refine lv_aload_n hx hb dX7_trouble_37 rfl (lv_at hl 1 rfl) ?_
      refine va_get (D := (dC, dI)) (ci := 7) (v := .ref (a_t 10)) (C := RX7) (T := TX7) (N := 30) hx hb hts hw_X7 hown hK hP 0 rfl rfl 10 (by decide) (hts _ (List.mem_cons_of_mem _ mw_608)) (fun _ h9 => h9) rfl dX7_trouble_38 ?_
      refine lv_iconst (v := 3) hx hb dX7_trouble_41 (by decide) ?_
      refine lv_iload_n hx hb dX7_trouble_42 rfl (lv_at hl 2 rfl) ?_
      refine lv_imul hx hb dX7_trouble_43 ?_
      refine lv_iconst (v := 1) hx hb dX7_trouble_44 (by decide) ?_
      refine lv_iadd hx hb dX7_trouble_45 ?_
      refine lv_iload_n hx hb dX7_trouble_46 rfl (lv_at hl 3 rfl) ?_
      obtain ⟨h_47, hf⟩ := ho_g hf
      refine va_iast (n := 15) (f := (v_t.2 10)) hx hb hK hP hD hS 3 0 rfl rfl h_47 dX7_trouble_47 (fun H locs hP hD hS => ?_)
      have hP : va_P (dC, dI) vwCl (wX7 o_t a_t cI (oA v_t 10 (Int32.toNatClampNeg ((3 * x1) + 1)) x2) h_t) H := hP
      have hD : va_D A (wX7 o_t a_t cI (oA v_t 10 (Int32.toNatClampNeg ((3 * x1) + 1)) x2) h_t) := hD
      obtain ⟨v_t_47, e_v_t_47⟩ : ∃ z : obV, z = (oA v_t 10 (Int32.toNatClampNeg ((3 * x1) + 1)) x2) := ⟨_, rfl⟩
      rw [← e_v_t_47] at hP hD
      have hf := ho_l hf v_t_47 e_v_t_47
      refine lv_aload_n hx hb dX7_trouble_48 rfl (lv_at hl 1 rfl) ?_
      refine lv_dup hx hb dX7_trouble_49 rfl ?_
      refine va_get (D := (dC, dI)) (ci := 7) (v := .int (v_t_47.1 8)) (C := RX7) (T := TX7) (N := 30) hx hb hts hw_X7 hown hK hP 0 rfl rfl 8 (by decide) (hts _ (List.mem_cons_of_mem _ mw_606)) (fun _ h9 => h9) rfl dX7_trouble_50 ?_
      refine lv_iconst (v := 1) hx hb dX7_trouble_53 (by decide) ?_
      refine lv_iadd hx hb dX7_trouble_54 ?_
      refine va_put (D := (dC, dI)) (ci := 7) (v := .int ((v_t_47.1 8) + 1)) (ty := .int) (C := RX7) (T := TX7) (N := 30) hx hb hts hw_X7 tyX7 tyX7_ok nmX7 hown hK hP hD hS 0 rfl rfl 8 (by decide) (hts _ (List.mem_cons_of_mem _ mw_606)) (fun _ h9 => h9) rfl (by decide +kernel) rfl rfl (Nat.le_of_ble_eq_true rfl) dX7_trouble_55 (fun H locs hP hD hS => ?_)
      have hP : va_P (dC, dI) vwCl (wX7 o_t a_t cI (oF v_t_47 8 ((v_t_47.1 8) + 1)) h_t) H := hP
      have hD : va_D A (wX7 o_t a_t cI (oF v_t_47 8 ((v_t_47.1 8) + 1)) h_t) := hD
      obtain ⟨v_t_55, e_v_t_55⟩ : ∃ z : obV, z = (oF v_t_47 8 ((v_t_47.1 8) + 1)) := ⟨_, rfl⟩
      rw [← e_v_t_55] at hP hD
      have hf := ho_l hf v_t_55 e_v_t_55
      refine lv_iload_n hx hb dX7_trouble_58 rfl (lv_at hl 0 rfl) ?_
      obtain rfl := Option.some.inj hf
      exact W.iret (v := ((v_t.2 10) (Int32.toNatClampNeg ((3 * x1) + 1)))) hx hb hr (fun t ht hW => ⟨⟨_, (), rfl, rfl, by rw [ht]; exact hP, hD⟩, hS.F ht⟩) hS.2.2 dX7_trouble_59 hlocks
    · have hf := ho_t hf c_20
      refine lv_bipush (v := (-102)) hx hb dX7_trouble_23 (by decide) ?_
      obtain rfl := Option.some.inj hf
      exact W.iret (v := (-102)) hx hb hr (fun t ht hW => ⟨⟨_, (), rfl, rfl, by rw [ht]; exact hP, hD⟩, hS.F ht⟩) hS.2.2 dX7_trouble_25 hlocks
  · have hf := ho_t hf c_5
    refine lv_bipush (v := (-101)) hx hb dX7_trouble_8 (by decide) ?_
    obtain rfl := Option.some.inj hf
    exact W.iret (v := (-101)) hx hb hr (fun t ht hW => ⟨⟨_, (), rfl, rfl, by rw [ht]; exact hP, hD⟩, hS.F ht⟩) hS.2.2 dX7_trouble_10 hlocks
