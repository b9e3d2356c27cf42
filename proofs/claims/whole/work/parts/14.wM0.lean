set_option maxHeartbeats 4000000 in
set_option maxRecDepth 100000 in
theorem c_X7_in (l : Launch) (dC : Nat → ClassId) (dI : Nat → Nat → Nat) (cI cII : ClassId)   (x0 : Int64) (x2 : Int64) (x4 : Int64) (r : Int32) (hf : f_X7_in   x0 x2 x4 = some r) :
    Met l yX7_in (wd yX7_in cX7_in 6 (some .boolean)) ({ frames := 0, cells := 0, slots := 0, locals := 0 } : Room) (va_Pc [.long x0, .long x2, .long x4] (pB (dC, dI) vwCl ([] : va_W) (hTY cI cII))) (vp_Si (fun z => r = z)) 0 0 (fun _ => False) := by
  refine Met.ofW (cc := cX7_in) (maxL := 6) (ret := (some .boolean)) (by decide) rfl ?_
  intro p e s m args below meth c s₁ B hml hv
  obtain ⟨rfl, hP, hK, hN⟩ := hv
  have hx := B.exec
  have hb := B.bytes
  have hr := B.returns
  have hts := atoms_spec (ws := (wd yX7_in cX7_in 6 (some .boolean))) B.pre
  have hown : s.vm.findClass RX7 = some m.cls := findClass_of_methodNamed B.named
  have hlocks := B.notSynchronized
  have hl := lv_entry ([.long x0, .long x2, .long x4]) (n := 6) (Nat.le_of_ble_eq_true rfl)
  rw [lg_entry_eq]
  generalize (lg_sl ([.long x0, .long x2, .long x4]) ++ List.replicate (6 - (lg_sl ([.long x0, .long x2, .long x4])).length) Slot.unset).toArray = ls at hl ⊢
  have hl : lv_has ls 6 [(0, .long x0), (2, .long x2), (4, .long x4)] := hl
  unfold f_X7_in at hf
  refine lv_lload_n hx hb dX7_in_0 rfl (lv_at hl 0 rfl) ?_
  refine lv_lload_n hx hb dX7_in_1 rfl (lv_at hl 1 rfl) ?_
  refine W.lcmp hx hb dX7_in_2 ?_
  refine lv_if_lt (tgt := 17) hx hb dX7_in_3 (by decide) (fun c_3 => ?_) (fun c_3 => ?_)
  · have hf := ho_t hf c_3
    refine lv_iconst (v := 0) hx hb dX7_in_17 (by decide) ?_
    obtain rfl := Option.some.inj hf
    exact W.zret (v := 0) hx hb hr (by decide) (fun t ht hW => ⟨_, rfl, rfl, ht⟩) (fun q hq => by cases hq) dX7_in_18 hlocks
  · have hf := ho_f hf c_3
    refine lv_lload_n hx hb dX7_in_6 rfl (lv_at hl 0 rfl) ?_
    refine lv_lload hx hb dX7_in_7 (lv_at hl 2 rfl) ?_
    refine W.lcmp hx hb dX7_in_9 ?_
    refine lv_if_gt (tgt := 17) hx hb dX7_in_10 (by decide) (fun c_10 => ?_) (fun c_10 => ?_)
    · have hf := ho_t hf c_10
      refine lv_iconst (v := 0) hx hb dX7_in_17 (by decide) ?_
      obtain rfl := Option.some.inj hf
      exact W.zret (v := 0) hx hb hr (by decide) (fun t ht hW => ⟨_, rfl, rfl, ht⟩) (fun q hq => by cases hq) dX7_in_18 hlocks
    · have hf := ho_f hf c_10
      refine lv_iconst (v := 1) hx hb dX7_in_13 (by decide) ?_
      refine lv_goto (tgt := 18) hx hb dX7_in_14 (by decide) ?_
      obtain rfl := Option.some.inj hf
      exact W.zret (v := 1) hx hb hr (by decide) (fun t ht hW => ⟨_, rfl, rfl, ht⟩) (fun q hq => by cases hq) dX7_in_18 hlocks
set_option maxHeartbeats 4000000 in
set_option maxRecDepth 100000 in
theorem w_X7_copy_l2 {p : Program} {l : Launch} {e : Env} {s : State} {m : MethodId} {args : Array Value} {below : List Frame} {meth : Method} {c : Code} {dC : Nat → ClassId} {dI : Nat → Nat → Nat} {cI cII : ClassId} {o_a0 : Nat} {n_a0 : Nat} {o_a1 : Nat} {n_a1 : Nat} {A : Nat → Prop} (C0 : hC p s m args meth c dC dI cI cII RX7 cX7_copy 3 (wd yX7_copy cX7_copy 3 none) none) (hA : ∀ q, s.heap.size ≤ q → A q)  {f_a0 : Nat → Int32}    :
    ∀ (n : Nat) (y : (Nat → Int32) × Int32) (r : (Nat → Int32)), f_X7_copy_l2 n_a0 n_a1 f_a0  n y = some r → ∀ (H : Heap) (locs : List Loc) (ls : Array Slot), va_P (dC, dI) vwCl ([(o_a0, .inl (cI, n_a0, .inl f_a0))] ++ ([(o_a1, .inl (cI, n_a1, .inl y.1))])) H → va_D A ([(o_a0, .inl (cI, n_a0, .inl f_a0))] ++ ([(o_a1, .inl (cI, n_a1, .inl y.1))])) → va_S A s.heap H locs → lv_has ls 3 [(0, .ref o_a0), (1, .ref o_a1), (2, .int y.2)] → W p l e ({ frames := 0, cells := 0, slots := 0, locals := 0 } : Room) s m args below meth c H locs 0 0 (MQ below (va_Qv (fun (_ : Unit) => True) (fun _ t => va_P (dC, dI) vwCl ([(o_a0, .inl (cI, n_a0, .inl f_a0))] ++ ([(o_a1, .inl (cI, n_a1, .inl r))])) t.heap ∧ va_D A ([(o_a0, .inl (cI, n_a0, .inl f_a0))] ++ ([(o_a1, .inl (cI, n_a1, .inl r))]))) A) args s 0 0 A) (F0 m 2 ls []) := by
  obtain ⟨hx, hb, hml, hown, hts, hr, hlocks, hK, hN⟩ := C0
  refine lp_W ?_
  intro k2 ih2 y r hf H locs ls hP hD hS hl
  obtain ⟨f_a1, x2⟩ := y
  have hf : f_X7_copy_b2 n_a0 n_a1 f_a0 f_a1 x2  k2 = some r := hf
  have hP : va_P (dC, dI) vwCl ([(o_a0, .inl (cI, n_a0, .inl f_a0))] ++ ([(o_a1, .inl (cI, n_a1, .inl f_a1))])) H := hP
  have hD : va_D A ([(o_a0, .inl (cI, n_a0, .inl f_a0))] ++ ([(o_a1, .inl (cI, n_a1, .inl f_a1))])) := hD
  have hl : lv_has ls 3 [(0, .ref o_a0), (1, .ref o_a1), (2, .int x2)] := hl
  unfold f_X7_copy_b2 at hf
  refine lv_iload_n hx hb dX7_copy_2 rfl (lv_at hl 2 rfl) ?_
  refine lv_aload_n hx hb dX7_copy_3 rfl (lv_at hl 0 rfl) ?_
  refine va_alen (v := (nI n_a0)) hx hb hK hP 0 0 rfl rfl rfl dX7_copy_4 ?_
  refine lv_icmp_ge (tgt := 20) hx hb dX7_copy_5 (by decide) (fun c_5 => ?_) (fun c_5 => ?_)
  · have hf := ho_t hf c_5
    obtain rfl := Option.some.inj hf
    exact W.vret hx hb hr (fun t ht hW => ⟨⟨(), rfl, trivial, by rw [ht]; exact hP, hD⟩, hS.F ht⟩) hS.2.2 dX7_copy_20 hlocks
  · have hf := ho_f hf c_5
    refine lv_aload_n hx hb dX7_copy_8 rfl (lv_at hl 1 rfl) ?_
    refine lv_iload_n hx hb dX7_copy_9 rfl (lv_at hl 2 rfl) ?_
    refine lv_aload_n hx hb dX7_copy_10 rfl (lv_at hl 0 rfl) ?_
    refine lv_iload_n hx hb dX7_copy_11 rfl (lv_at hl 2 rfl) ?_
    obtain ⟨h_12, hf⟩ := ho_g hf
    refine va_iald (n := n_a0) (f := f_a0) hx hb hK hP 0 0 rfl rfl h_12 dX7_copy_12 ?_
    obtain ⟨h_13, hf⟩ := ho_g hf
    refine va_iast (n := n_a1) (f := f_a1) hx hb hK hP hD hS 1 0 rfl rfl h_13 dX7_copy_13 (fun H locs hP hD hS => ?_)
    have hP : va_P (dC, dI) vwCl ([(o_a0, .inl (cI, n_a0, .inl f_a0))] ++ ([(o_a1, .inl (cI, n_a1, .inl (upd f_a1 (Int32.toNatClampNeg x2) (f_a0 (Int32.toNatClampNeg x2)))))])) H := hP
    have hD : va_D A ([(o_a0, .inl (cI, n_a0, .inl f_a0))] ++ ([(o_a1, .inl (cI, n_a1, .inl (upd f_a1 (Int32.toNatClampNeg x2) (f_a0 (Int32.toNatClampNeg x2)))))])) := hD
    obtain ⟨f_a1_13, e_f_a1_13⟩ : ∃ z : Nat → Int32, z = (upd f_a1 (Int32.toNatClampNeg x2) (f_a0 (Int32.toNatClampNeg x2))) := ⟨_, rfl⟩
    rw [← e_f_a1_13] at hP hD
    have hf := ho_l hf f_a1_13 e_f_a1_13
    refine lv_iinc (v := (x2 + 1)) (lv' := [(2, .int (x2 + 1)), (0, .ref o_a0), (1, .ref o_a1)]) hx hb dX7_copy_14 hl (k := 2) rfl (hp_inc (by decide)) (by decide) rfl (fun ls hl => ?_)
    refine lv_goto (tgt := 2) hx hb dX7_copy_17 (by decide) ?_
    exact ih2 (f_a1_13, (x2 + 1)) _ hf _ _ _ hP hD hS (lv_sub hl [1, 2, 0] rfl)
set_option maxHeartbeats 4000000 in
set_option maxRecDepth 100000 in
theorem c_X7_copy (l : Launch) (dC : Nat → ClassId) (dI : Nat → Nat → Nat) (cI cII : ClassId) (o_a0 : Nat) (n_a0 : Nat) (o_a1 : Nat) (n_a1 : Nat) (f_a0 : Nat → Int32) (f_a1 : Nat → Int32)  (sz : Nat) (r : (Nat → Int32)) (hf : f_X7_copy n_a0 n_a1 f_a0 f_a1  = some r) :
    Met l yX7_copy (wd yX7_copy cX7_copy 3 none) ({ frames := 0, cells := 0, slots := 0, locals := 0 } : Room) (va_Pc [.ref o_a0, .ref o_a1] (qB (dC, dI) vwCl ([(o_a0, .inl (cI, n_a0, .inl f_a0))] ++ ([(o_a1, .inl (cI, n_a1, .inl f_a1))])) (hTY cI cII) sz)) (va_Qv (fun (_ : Unit) => True) (fun _ t => va_P (dC, dI) vwCl ([(o_a0, .inl (cI, n_a0, .inl f_a0))] ++ ([(o_a1, .inl (cI, n_a1, .inl r))])) t.heap ∧ va_D (va_A ([(o_a0, .inl (cI, n_a0, .inl f_a0))] ++ ([(o_a1, .inl (cI, n_a1, .inl f_a1))])) sz) ([(o_a0, .inl (cI, n_a0, .inl f_a0))] ++ ([(o_a1, .inl (cI, n_a1, .inl r))]))) (va_A ([(o_a0, .inl (cI, n_a0, .inl f_a0))] ++ ([(o_a1, .inl (cI, n_a1, .inl f_a1))])) sz)) 0 0 (va_A ([(o_a0, .inl (cI, n_a0, .inl f_a0))] ++ ([(o_a1, .inl (cI, n_a1, .inl f_a1))])) sz) := by
  refine Met.ofW (cc := cX7_copy) (maxL := 3) (ret := none) (by decide) rfl ?_
  intro p e s m args below meth c s₁ B hml hv
  obtain ⟨rfl, hsz, hD0, hP, hK, hN⟩ := hv
  have hx := B.exec
  have hb := B.bytes
  have hr := B.returns
  have hts := atoms_spec (ws := (wd yX7_copy cX7_copy 3 none)) B.pre
  have hown : s.vm.findClass RX7 = some m.cls := findClass_of_methodNamed B.named
  have hlocks := B.notSynchronized
  subst hsz
  have hD := hD0.self (sz := s.heap.size)
  generalize hAe : va_A ([(o_a0, .inl (cI, n_a0, .inl f_a0))] ++ ([(o_a1, .inl (cI, n_a1, .inl f_a1))])) s.heap.size = A at hD ⊢
  have hA : ∀ q : Nat, s.heap.size ≤ q → A q := fun q h => by rw [← hAe]; exact Or.inr h
  have hS : va_S A s.heap s.heap [] := va_S.rf
  have hl := lv_entry ([.ref o_a0, .ref o_a1]) (n := 3) (Nat.le_of_ble_eq_true rfl)
  rw [lg_entry_eq]
  generalize (lg_sl ([.ref o_a0, .ref o_a1]) ++ List.replicate (3 - (lg_sl ([.ref o_a0, .ref o_a1])).length) Slot.unset).toArray = ls at hl ⊢
  have hl : lv_has ls 3 [(0, .ref o_a0), (1, .ref o_a1)] := hl
  clear hAe hD0
  unfold f_X7_copy at hf
  refine lv_iconst (v := 0) hx hb dX7_copy_0 (by decide) ?_
  refine lv_istore_n (lv' := [(2, .int 0), (0, .ref o_a0), (1, .ref o_a1)]) hx hb dX7_copy_1 rfl hl (by decide) rfl (fun ls hl => ?_)
  exact w_X7_copy_l2 ⟨hx, hb, hml, hown, hts, hr, hlocks, hK, hN⟩ hA  _ _ _ hf _ _ _ hP hD hS (lv_sub hl [1, 2, 0] rfl)
set_option maxHeartbeats 4000000 in
set_option maxRecDepth 100000 in
theorem c_X7_letter (l : Launch) (dC : Nat → ClassId) (dI : Nat → Nat → Nat) (cI cII : ClassId) (o_t : Nat) (a_t : Nat → Nat) (v_t : obV) (h_t : Int64) (x1 : Int32) (sz : Nat) (r : Int32 × obV) (hf : f_X7_letter  v_t x1 = some r) :
    Met l yX7_letter (wd yX7_letter cX7_letter 2 (some .int)) ({ frames := 1, cells := 0, slots := 0, locals := 25 } : Room) (va_Pc [.ref o_t, .int x1] (qB (dC, dI) vwCl (wX7 o_t a_t cI v_t h_t) (hTY cI cII) sz)) (va_Qi (fun (z : Int32) (_ : Unit) => r.1 = z) (fun _ t => va_P (dC, dI) vwCl (wX7 o_t a_t cI r.2 h_t) t.heap ∧ va_D (va_A (wX7 o_t a_t cI v_t h_t) sz) (wX7 o_t a_t cI r.2 h_t)) (va_A (wX7 o_t a_t cI v_t h_t) sz)) 0 0 (va_A (wX7 o_t a_t cI v_t h_t) sz) := by
  refine Met.ofW (cc := cX7_letter) (maxL := 2) (ret := (some .int)) (by decide) rfl ?_
  intro p e s m args below meth c s₁ B hml hv
  obtain ⟨rfl, hsz, hD0, hP, hK, hN⟩ := hv
  have hx := B.exec
  have hb := B.bytes
  have hr := B.returns
  have hts := atoms_spec (ws := (wd yX7_letter cX7_letter 2 (some .int))) B.pre
  have hown : s.vm.findClass RX7 = some m.cls := findClass_of_methodNamed B.named
  have hlocks := B.notSynchronized
  subst hsz
  have hD := hD0.self (sz := s.heap.size)
  generalize hAe : va_A (wX7 o_t a_t cI v_t h_t) s.heap.size = A at hD ⊢
  have hA : ∀ q : Nat, s.heap.size ≤ q → A q := fun q h => by rw [← hAe]; exact Or.inr h
  have hS : va_S A s.heap s.heap [] := va_S.rf
  have hl := lv_entry ([.ref o_t, .int x1]) (n := 2) (Nat.le_of_ble_eq_true rfl)
  rw [lg_entry_eq]
  generalize (lg_sl ([.ref o_t, .int x1]) ++ List.replicate (2 - (lg_sl ([.ref o_t, .int x1])).length) Slot.unset).toArray = ls at hl ⊢
  have hl : lv_has ls 2 [(0, .ref o_t), (1, .int x1)] := hl
  clear hAe hD0
  unfold f_X7_letter at hf
  refine lv_iload_n hx hb dX7_letter_0 rfl (lv_at hl 1 rfl) ?_
  refine lv_i2l (v := (Int32.toInt64 x1)) hx hb dX7_letter_1 rfl ?_
  refine lv_lconst (v := 1) hx hb dX7_letter_2 (by decide) ?_
  refine lv_ldc2 (v := 126) hx hb hown (hts _ (List.mem_cons_of_mem _ mw_693)) dX7_letter_3 ?_
  obtain ⟨u_6, e_6, hf⟩ := ho_b hf
  have hPc := hP.sub (ws' := ([] : va_W)) [] rfl
  refine vp_callSi (va_runS (As := [.long (Int32.toInt64 x1), .long 1, .long 126]) (rest := []) ⟨hx, hb, hml, hown, hts⟩ (c_X7_in l dC dI cI cII ((Int32.toInt64 x1)) (1) (126) u_6 e_6) (va_cwS 3 hts (hw_giS mw_694 mw_695 mw_60 mw_696) rfl rfl rfl (by decide +kernel) ⟨Nat.le_of_ble_eq_true rfl, Nat.le_of_ble_eq_true rfl⟩) ⟨pB_blind, fun U hU hW => ⟨rfl, pB_go hPc hK hN hU hW⟩⟩ rfl rfl hl.1 rfl (lv_room (Nat.le_of_ble_eq_true rfl)) dX7_letter_6 ⟨Nat.zero_le _, Nat.zero_le _⟩).run (fun z_6 ez_6 => ?_)
  subst ez_6
  refine lv_if_ne (tgt := 15) hx hb dX7_letter_9 (by decide) (fun c_9 => ?_) (fun c_9 => ?_)
  · have hf := ho_f hf c_9
    refine lv_aload_n hx hb dX7_letter_15 rfl (lv_at hl 0 rfl) ?_
    refine va_get (D := (dC, dI)) (ci := 7) (v := .int (v_t.1 1)) (C := RX7) (T := TX7) (N := 30) hx hb hts hw_X7 hown hK hP 0 rfl rfl 1 (by decide) (hts _ (List.mem_cons_of_mem _ mw_599)) (fun _ h9 => h9) rfl dX7_letter_16 ?_
    refine lv_bipush (v := 24) hx hb dX7_letter_19 (by decide) ?_
    refine lv_icmp_ne (tgt := 27) hx hb dX7_letter_21 (by decide) (fun c_21 => ?_) (fun c_21 => ?_)
    · have hf := ho_f hf c_21
      refine lv_aload_n hx hb dX7_letter_27 rfl (lv_at hl 0 rfl) ?_
      refine va_get (D := (dC, dI)) (ci := 7) (v := .ref (a_t 0)) (C := RX7) (T := TX7) (N := 30) hx hb hts hw_X7 hown hK hP 0 rfl rfl 0 (by decide) (hts _ (List.mem_cons_of_mem _ mw_598)) (fun _ h9 => h9) rfl dX7_letter_28 ?_
      refine lv_aload_n hx hb dX7_letter_31 rfl (lv_at hl 0 rfl) ?_
      refine va_get (D := (dC, dI)) (ci := 7) (v := .int (v_t.1 1)) (C := RX7) (T := TX7) (N := 30) hx hb hts hw_X7 hown hK hP 0 rfl rfl 1 (by decide) (hts _ (List.mem_cons_of_mem _ mw_599)) (fun _ h9 => h9) rfl dX7_letter_32 ?_
      refine lv_iload_n hx hb dX7_letter_35 rfl (lv_at hl 1 rfl) ?_
      obtain ⟨h_36, hf⟩ := ho_g hf
      refine va_iast (n := 24) (f := (v_t.2 0)) hx hb hK hP hD hS 1 0 rfl rfl h_36 dX7_letter_36 (fun H locs hP hD hS => ?_)
      have hP : va_P (dC, dI) vwCl (wX7 o_t a_t cI (oA v_t 0 (Int32.toNatClampNeg (v_t.1 1)) x1) h_t) H := hP
      have hD : va_D A (wX7 o_t a_t cI (oA v_t 0 (Int32.toNatClampNeg (v_t.1 1)) x1) h_t) := hD
      obtain ⟨v_t_36, e_v_t_36⟩ : ∃ z : obV, z = (oA v_t 0 (Int32.toNatClampNeg (v_t.1 1)) x1) := ⟨_, rfl⟩
      rw [← e_v_t_36] at hP hD
      have hf := ho_l hf v_t_36 e_v_t_36
      refine lv_aload_n hx hb dX7_letter_37 rfl (lv_at hl 0 rfl) ?_
      refine lv_dup hx hb dX7_letter_38 rfl ?_
      refine va_get (D := (dC, dI)) (ci := 7) (v := .int (v_t_36.1 1)) (C := RX7) (T := TX7) (N := 30) hx hb hts hw_X7 hown hK hP 0 rfl rfl 1 (by decide) (hts _ (List.mem_cons_of_mem _ mw_599)) (fun _ h9 => h9) rfl dX7_letter_39 ?_
      refine lv_iconst (v := 1) hx hb dX7_letter_42 (by decide) ?_
      refine lv_iadd hx hb dX7_letter_43 ?_
      refine va_put (D := (dC, dI)) (ci := 7) (v := .int ((v_t_36.1 1) + 1)) (ty := .int) (C := RX7) (T := TX7) (N := 30) hx hb hts hw_X7 tyX7 tyX7_ok nmX7 hown hK hP hD hS 0 rfl rfl 1 (by decide) (hts _ (List.mem_cons_of_mem _ mw_599)) (fun _ h9 => h9) rfl (by decide +kernel) rfl rfl (Nat.le_of_ble_eq_true rfl) dX7_letter_44 (fun H locs hP hD hS => ?_)
      have hP : va_P (dC, dI) vwCl (wX7 o_t a_t cI (oF v_t_36 1 ((v_t_36.1 1) + 1)) h_t) H := hP
      have hD : va_D A (wX7 o_t a_t cI (oF v_t_36 1 ((v_t_36.1 1) + 1)) h_t) := hD
      obtain ⟨v_t_44, e_v_t_44⟩ : ∃ z : obV, z = (oF v_t_36 1 ((v_t_36.1 1) + 1)) := ⟨_, rfl⟩
      rw [← e_v_t_44] at hP hD
      have hf := ho_l hf v_t_44 e_v_t_44
      refine lv_aload_n hx hb dX7_letter_47 rfl (lv_at hl 0 rfl) ?_
      refine va_get (D := (dC, dI)) (ci := 7) (v := .int (v_t_44.1 1)) (C := RX7) (T := TX7) (N := 30) hx hb hts hw_X7 hown hK hP 0 rfl rfl 1 (by decide) (hts _ (List.mem_cons_of_mem _ mw_599)) (fun _ h9 => h9) rfl dX7_letter_48 ?_
      obtain rfl := Option.some.inj hf
      exact W.iret (v := (v_t_44.1 1)) hx hb hr (fun t ht hW => ⟨⟨_, (), rfl, rfl, by rw [ht]; exact hP, hD⟩, hS.F ht⟩) hS.2.2 dX7_letter_51 hlocks
    · have hf := ho_t hf c_21
      refine lv_bipush (v := (-104)) hx hb dX7_letter_24 (by decide) ?_
      obtain rfl := Option.some.inj hf
      exact W.iret (v := (-104)) hx hb hr (fun t ht hW => ⟨⟨_, (), rfl, rfl, by rw [ht]; exact hP, hD⟩, hS.F ht⟩) hS.2.2 dX7_letter_26 hlocks
  · have hf := ho_t hf c_9
    refine lv_bipush (v := (-102)) hx hb dX7_letter_12 (by decide) ?_
    obtain rfl := Option.some.inj hf
    exact W.iret (v := (-102)) hx hb hr (fun t ht hW => ⟨⟨_, (), rfl, rfl, by rw [ht]; exact hP, hD⟩, hS.F ht⟩) hS.2.2 dX7_letter_14 hlocks
set_option maxHeartbeats 4000000 in
set_option maxRecDepth 100000 in
theorem c_X7_blank (l : Launch) (dC : Nat → ClassId) (dI : Nat → Nat → Nat) (cI cII : ClassId) (o_t : Nat) (a_t : Nat → Nat) (v_t : obV) (h_t : Int64)  (sz : Nat) (r : Int32 × obV) (hf : f_X7_blank  v_t  = some r) :
    Met l yX7_blank (wd yX7_blank cX7_blank 2 (some .int)) ({ frames := 0, cells := 0, slots := 0, locals := 0 } : Room) (va_Pc [.ref o_t] (qB (dC, dI) vwCl (wX7 o_t a_t cI v_t h_t) (hTY cI cII) sz)) (va_Qi (fun (z : Int32) (_ : Unit) => r.1 = z) (fun _ t => va_P (dC, dI) vwCl (wX7 o_t a_t cI r.2 h_t) t.heap ∧ va_D (va_A (wX7 o_t a_t cI v_t h_t) sz) (wX7 o_t a_t cI r.2 h_t)) (va_A (wX7 o_t a_t cI v_t h_t) sz)) 0 0 (va_A (wX7 o_t a_t cI v_t h_t) sz) := by
  refine Met.ofW (cc := cX7_blank) (maxL := 2) (ret := (some .int)) (by decide) rfl ?_
  intro p e s m args below meth c s₁ B hml hv
  obtain ⟨rfl, hsz, hD0, hP, hK, hN⟩ := hv
  have hx := B.exec
  have hb := B.bytes
  have hr := B.returns
  have hts := atoms_spec (ws := (wd yX7_blank cX7_blank 2 (some .int))) B.pre
  have hown : s.vm.findClass RX7 = some m.cls := findClass_of_methodNamed B.named
  have hlocks := B.notSynchronized
  subst hsz
  have hD := hD0.self (sz := s.heap.size)
  generalize hAe : va_A (wX7 o_t a_t cI v_t h_t) s.heap.size = A at hD ⊢
  have hA : ∀ q : Nat, s.heap.size ≤ q → A q := fun q h => by rw [← hAe]; exact Or.inr h
  have hS : va_S A s.heap s.heap [] := va_S.rf
  have hl := lv_entry ([.ref o_t]) (n := 2) (Nat.le_of_ble_eq_true rfl)
  rw [lg_entry_eq]
  generalize (lg_sl ([.ref o_t]) ++ List.replicate (2 - (lg_sl ([.ref o_t])).length) Slot.unset).toArray = ls at hl ⊢
  have hl : lv_has ls 2 [(0, .ref o_t)] := hl
  clear hAe hD0
  unfold f_X7_blank at hf
  refine lv_aload_n hx hb dX7_blank_0 rfl (lv_at hl 0 rfl) ?_
  refine va_get (D := (dC, dI)) (ci := 7) (v := .int (v_t.1 1)) (C := RX7) (T := TX7) (N := 30) hx hb hts hw_X7 hown hK hP 0 rfl rfl 1 (by decide) (hts _ (List.mem_cons_of_mem _ mw_599)) (fun _ h9 => h9) rfl dX7_blank_1 ?_
  refine lv_istore_n (lv' := [(1, .int (v_t.1 1)), (0, .ref o_t)]) hx hb dX7_blank_4 rfl hl (by decide) rfl (fun ls hl => ?_)
  refine lv_aload_n hx hb dX7_blank_5 rfl (lv_at hl 1 rfl) ?_
  refine lv_iconst (v := 0) hx hb dX7_blank_6 (by decide) ?_
  refine va_put (D := (dC, dI)) (ci := 7) (v := .int 0) (ty := .int) (C := RX7) (T := TX7) (N := 30) hx hb hts hw_X7 tyX7 tyX7_ok nmX7 hown hK hP hD hS 0 rfl rfl 1 (by decide) (hts _ (List.mem_cons_of_mem _ mw_599)) (fun _ h9 => h9) rfl (by decide +kernel) rfl rfl (Nat.le_of_ble_eq_true rfl) dX7_blank_7 (fun H locs hP hD hS => ?_)
  have hP : va_P (dC, dI) vwCl (wX7 o_t a_t cI (oF v_t 1 0) h_t) H := hP
  have hD : va_D A (wX7 o_t a_t cI (oF v_t 1 0) h_t) := hD
  obtain ⟨v_t_7, e_v_t_7⟩ : ∃ z : obV, z = (oF v_t 1 0) := ⟨_, rfl⟩
  rw [← e_v_t_7] at hP hD
  have hf := ho_l hf v_t_7 e_v_t_7
  refine lv_iload_n hx hb dX7_blank_10 rfl (lv_at hl 0 rfl) ?_
  obtain rfl := Option.some.inj hf
  exact W.iret (v := (v_t.1 1)) hx hb hr (fun t ht hW => ⟨⟨_, (), rfl, rfl, by rw [ht]; exact hP, hD⟩, hS.F ht⟩) hS.2.2 dX7_blank_11 hlocks
set_option maxHeartbeats 4000000 in
set_option maxRecDepth 100000 in
theorem c_X7_kindBy (l : Launch) (dC : Nat → ClassId) (dI : Nat → Nat → Nat) (cI cII : ClassId)   (x0 : Int32) (r : Int32) (hf : f_X7_kindBy   x0 = some r) :
    Met l yX7_kindBy (wd yX7_kindBy cX7_kindBy 1 (some .int)) ({ frames := 0, cells := 0, slots := 0, locals := 0 } : Room) (va_Pc [.int x0] (pB (dC, dI) vwCl ([] : va_W) (hTY cI cII))) (vp_Si (fun z => r = z)) 0 0 (fun _ => False) := by
  refine Met.ofW (cc := cX7_kindBy) (maxL := 1) (ret := (some .int)) (by decide) rfl ?_
  intro p e s m args below meth c s₁ B hml hv
  obtain ⟨rfl, hP, hK, hN⟩ := hv
  have hx := B.exec
  have hb := B.bytes
  have hr := B.returns
  have hts := atoms_spec (ws := (wd yX7_kindBy cX7_kindBy 1 (some .int))) B.pre
  have hown : s.vm.findClass RX7 = some m.cls := findClass_of_methodNamed B.named
  have hlocks := B.notSynchronized
  have hl := lv_entry ([.int x0]) (n := 1) (Nat.le_of_ble_eq_true rfl)
  rw [lg_entry_eq]
  generalize (lg_sl ([.int x0]) ++ List.replicate (1 - (lg_sl ([.int x0])).length) Slot.unset).toArray = ls at hl ⊢
  have hl : lv_has ls 1 [(0, .int x0)] := hl
  unfold f_X7_kindBy at hf
  refine lv_iload_n hx hb dX7_kindBy_0 rfl (lv_at hl 0 rfl) ?_
  refine lv_bipush (v := 112) hx hb dX7_kindBy_1 (by decide) ?_
  refine lv_icmp_ne (tgt := 10) hx hb dX7_kindBy_3 (by decide) (fun c_3 => ?_) (fun c_3 => ?_)
  · have hf := ho_f hf c_3
    refine lv_iload_n hx hb dX7_kindBy_10 rfl (lv_at hl 0 rfl) ?_
    refine lv_bipush (v := 116) hx hb dX7_kindBy_11 (by decide) ?_
    refine lv_icmp_ne (tgt := 20) hx hb dX7_kindBy_13 (by decide) (fun c_13 => ?_) (fun c_13 => ?_)
    · have hf := ho_f hf c_13
      refine lv_iload_n hx hb dX7_kindBy_20 rfl (lv_at hl 0 rfl) ?_
      refine lv_bipush (v := 101) hx hb dX7_kindBy_21 (by decide) ?_
      refine lv_icmp_ne (tgt := 30) hx hb dX7_kindBy_23 (by decide) (fun c_23 => ?_) (fun c_23 => ?_)
      · have hf := ho_f hf c_23
        refine lv_iload_n hx hb dX7_kindBy_30 rfl (lv_at hl 0 rfl) ?_
        refine lv_bipush (v := 115) hx hb dX7_kindBy_31 (by decide) ?_
        refine lv_icmp_ne (tgt := 40) hx hb dX7_kindBy_33 (by decide) (fun c_33 => ?_) (fun c_33 => ?_)
        · have hf := ho_f hf c_33
          refine lv_iload_n hx hb dX7_kindBy_40 rfl (lv_at hl 0 rfl) ?_
          refine lv_bipush (v := 98) hx hb dX7_kindBy_41 (by decide) ?_
          refine lv_icmp_ne (tgt := 50) hx hb dX7_kindBy_43 (by decide) (fun c_43 => ?_) (fun c_43 => ?_)
          · have hf := ho_f hf c_43
            refine lv_iconst (v := (-1)) hx hb dX7_kindBy_50 (by decide) ?_
            obtain rfl := Option.some.inj hf
            exact W.iret (v := (-1)) hx hb hr (fun t ht hW => ⟨_, rfl, rfl, ht⟩) (fun q hq => by cases hq) dX7_kindBy_51 hlocks
          · have hf := ho_t hf c_43
            refine lv_iconst (v := 4) hx hb dX7_kindBy_46 (by decide) ?_
            refine lv_goto (tgt := 51) hx hb dX7_kindBy_47 (by decide) ?_
            obtain rfl := Option.some.inj hf
            exact W.iret (v := 4) hx hb hr (fun t ht hW => ⟨_, rfl, rfl, ht⟩) (fun q hq => by cases hq) dX7_kindBy_51 hlocks
        · have hf := ho_t hf c_33
          refine lv_iconst (v := 3) hx hb dX7_kindBy_36 (by decide) ?_
          refine lv_goto (tgt := 51) hx hb dX7_kindBy_37 (by decide) ?_
          obtain rfl := Option.some.inj hf
          exact W.iret (v := 3) hx hb hr (fun t ht hW => ⟨_, rfl, rfl, ht⟩) (fun q hq => by cases hq) dX7_kindBy_51 hlocks
      · have hf := ho_t hf c_23
        refine lv_iconst (v := 2) hx hb dX7_kindBy_26 (by decide) ?_
        refine lv_goto (tgt := 51) hx hb dX7_kindBy_27 (by decide) ?_
        obtain rfl := Option.some.inj hf
        exact W.iret (v := 2) hx hb hr (fun t ht hW => ⟨_, rfl, rfl, ht⟩) (fun q hq => by cases hq) dX7_kindBy_51 hlocks
    · have hf := ho_t hf c_13
      refine lv_iconst (v := 1) hx hb dX7_kindBy_16 (by decide) ?_
      refine lv_goto (tgt := 51) hx hb dX7_kindBy_17 (by decide) ?_
      obtain rfl := Option.some.inj hf
      exact W.iret (v := 1) hx hb hr (fun t ht hW => ⟨_, rfl, rfl, ht⟩) (fun q hq => by cases hq) dX7_kindBy_51 hlocks
  · have hf := ho_t hf c_3
    refine lv_iconst (v := 0) hx hb dX7_kindBy_6 (by decide) ?_
    refine lv_goto (tgt := 51) hx hb dX7_kindBy_7 (by decide) ?_
    obtain rfl := Option.some.inj hf
    exact W.iret (v := 0) hx hb hr (fun t ht hW => ⟨_, rfl, rfl, ht⟩) (fun q hq => by cases hq) dX7_kindBy_51 hlocks
set_option maxHeartbeats 4000000 in
set_option maxRecDepth 100000 in
theorem w_X7_go_b155 {p : Program} {l : Launch} {e : Env} {s : State} {m : MethodId} {args : Array Value} {below : List Frame} {meth : Method} {c : Code} {dC : Nat → ClassId} {dI : Nat → Nat → Nat} {cI cII : ClassId} {o_t : Nat} {a_t : Nat → Nat} {A : Nat → Prop} (C0 : hC p s m args meth c dC dI cI cII RX7 cX7_go 4 (wd yX7_go cX7_go 4 (some .boolean)) (some .boolean)) (hA : ∀ q, s.heap.size ≤ q → A q) {h_t : Int64} {v_t : obV} {x1 : Int32} {s1 : Int32}    {H : Heap} {locs : List Loc} (hP : va_P (dC, dI) vwCl (wX7 o_t a_t cI v_t h_t) H) (hD : va_D A (wX7 o_t a_t cI v_t h_t)) (hS : va_S A s.heap H locs) {r : Int32 × obV} (hf : f_X7_go_b155  v_t x1 s1  = some r) {ls : Array Slot} (hl : lv_has ls 4 [(0, .ref o_t), (1, .int x1)]) :
    W p l e ({ frames := 1, cells := 0, slots := 0, locals := 25 } : Room) s m args below meth c H locs 0 0 (MQ below (va_Qi (fun (z : Int32) (_ : Unit) => r.1 = z) (fun _ t => va_P (dC, dI) vwCl (wX7 o_t a_t cI r.2 h_t) t.heap ∧ va_D A (wX7 o_t a_t cI r.2 h_t)) A) args s 0 0 A) (F0 m 155 ls [.int s1, .ref o_t]) := by
  obtain ⟨hx, hb, hml, hown, hts, hr, hlocks, hK, hN⟩ := C0
  unfold f_X7_go_b155 at hf
  refine va_put (D := (dC, dI)) (ci := 7) (v := .int s1) (ty := .int) (C := RX7) (T := TX7) (N := 30) hx hb hts hw_X7 tyX7 tyX7_ok nmX7 hown hK hP hD hS 0 rfl rfl 5 (by decide) (hts _ (List.mem_cons_of_mem _ mw_603)) (fun _ h9 => h9) rfl (by decide +kernel) rfl rfl (Nat.le_of_ble_eq_true rfl) dX7_go_155 (fun H locs hP hD hS => ?_)
  have hP : va_P (dC, dI) vwCl (wX7 o_t a_t cI (oF v_t 5 s1) h_t) H := hP
  have hD : va_D A (wX7 o_t a_t cI (oF v_t 5 s1) h_t) := hD
  obtain ⟨v_t_155, e_v_t_155⟩ : ∃ z : obV, z = (oF v_t 5 s1) := ⟨_, rfl⟩
  rw [← e_v_t_155] at hP hD
  have hf := ho_l hf v_t_155 e_v_t_155
  refine lv_iload_n hx hb dX7_go_158 rfl (lv_at hl 1 rfl) ?_
  refine lv_bipush (v := 44) hx hb dX7_go_159 (by decide) ?_
  refine lv_icmp_ne (tgt := 180) hx hb dX7_go_161 (by decide) (fun c_161 => ?_) (fun c_161 => ?_)
  · have hf := ho_f hf c_161
    refine lv_iload_n hx hb dX7_go_180 rfl (lv_at hl 1 rfl) ?_
    refine lv_bipush (v := 59) hx hb dX7_go_181 (by decide) ?_
    refine lv_icmp_ne (tgt := 198) hx hb dX7_go_183 (by decide) (fun c_183 => ?_) (fun c_183 => ?_)
    · have hf := ho_f hf c_183
      refine lv_iconst (v := 0) hx hb dX7_go_198 (by decide) ?_
      obtain rfl := Option.some.inj hf
      exact W.zret (v := 0) hx hb hr (by decide) (fun t ht hW => ⟨⟨_, (), rfl, rfl, by rw [ht]; exact hP, hD⟩, hS.F ht⟩) hS.2.2 dX7_go_199 hlocks
    · have hf := ho_t hf c_183
      refine lv_aload_n hx hb dX7_go_186 rfl (lv_at hl 0 rfl) ?_
      refine va_get (D := (dC, dI)) (ci := 7) (v := .int (v_t_155.1 3)) (C := RX7) (T := TX7) (N := 30) hx hb hts hw_X7 hown hK hP 0 rfl rfl 3 (by decide) (hts _ (List.mem_cons_of_mem _ mw_601)) (fun _ h9 => h9) rfl dX7_go_187 ?_
      refine lv_iconst (v := 1) hx hb dX7_go_190 (by decide) ?_
      refine lv_icmp_le (tgt := 198) hx hb dX7_go_191 (by decide) (fun c_191 => ?_) (fun c_191 => ?_)
      · have hf := ho_t hf c_191
        refine lv_iconst (v := 0) hx hb dX7_go_198 (by decide) ?_
        obtain rfl := Option.some.inj hf
        exact W.zret (v := 0) hx hb hr (by decide) (fun t ht hW => ⟨⟨_, (), rfl, rfl, by rw [ht]; exact hP, hD⟩, hS.F ht⟩) hS.2.2 dX7_go_199 hlocks
      · have hf := ho_f hf c_191
        refine lv_iconst (v := 1) hx hb dX7_go_194 (by decide) ?_
        refine lv_goto (tgt := 199) hx hb dX7_go_195 (by decide) ?_
        obtain rfl := Option.some.inj hf
        exact W.zret (v := 1) hx hb hr (by decide) (fun t ht hW => ⟨⟨_, (), rfl, rfl, by rw [ht]; exact hP, hD⟩, hS.F ht⟩) hS.2.2 dX7_go_199 hlocks
  · have hf := ho_t hf c_161
    refine lv_aload_n hx hb dX7_go_164 rfl (lv_at hl 0 rfl) ?_
    refine va_get (D := (dC, dI)) (ci := 7) (v := .int (v_t_155.1 3)) (C := RX7) (T := TX7) (N := 30) hx hb hts hw_X7 hown hK hP 0 rfl rfl 3 (by decide) (hts _ (List.mem_cons_of_mem _ mw_601)) (fun _ h9 => h9) rfl dX7_go_165 ?_
    refine lv_iconst (v := 5) hx hb dX7_go_168 (by decide) ?_
    refine lv_icmp_ge (tgt := 176) hx hb dX7_go_169 (by decide) (fun c_169 => ?_) (fun c_169 => ?_)
    · have hf := ho_t hf c_169
      refine lv_iconst (v := 0) hx hb dX7_go_176 (by decide) ?_
      refine lv_goto (tgt := 199) hx hb dX7_go_177 (by decide) ?_
      obtain rfl := Option.some.inj hf
      exact W.zret (v := 0) hx hb hr (by decide) (fun t ht hW => ⟨⟨_, (), rfl, rfl, by rw [ht]; exact hP, hD⟩, hS.F ht⟩) hS.2.2 dX7_go_199 hlocks
    · have hf := ho_f hf c_169
      refine lv_iconst (v := 1) hx hb dX7_go_172 (by decide) ?_
      refine lv_goto (tgt := 199) hx hb dX7_go_173 (by decide) ?_
      obtain rfl := Option.some.inj hf
      exact W.zret (v := 1) hx hb hr (by decide) (fun t ht hW => ⟨⟨_, (), rfl, rfl, by rw [ht]; exact hP, hD⟩, hS.F ht⟩) hS.2.2 dX7_go_199 hlocks
set_option maxHeartbeats 4000000 in
set_option maxRecDepth 100000 in
theorem c_X7_go (l : Launch) (dC : Nat → ClassId) (dI : Nat → Nat → Nat) (cI cII : ClassId) (o_t : Nat) (a_t : Nat → Nat) (v_t : obV) (h_t : Int64) (x1 : Int32) (sz : Nat) (r : Int32 × obV) (hf : f_X7_go  v_t x1 = some r) :
    Met l yX7_go (wd yX7_go cX7_go 4 (some .boolean)) ({ frames := 1, cells := 0, slots := 0, locals := 25 } : Room) (va_Pc [.ref o_t, .int x1] (qB (dC, dI) vwCl (wX7 o_t a_t cI v_t h_t) (hTY cI cII) sz)) (va_Qi (fun (z : Int32) (_ : Unit) => r.1 = z) (fun _ t => va_P (dC, dI) vwCl (wX7 o_t a_t cI r.2 h_t) t.heap ∧ va_D (va_A (wX7 o_t a_t cI v_t h_t) sz) (wX7 o_t a_t cI r.2 h_t)) (va_A (wX7 o_t a_t cI v_t h_t) sz)) 0 0 (va_A (wX7 o_t a_t cI v_t h_t) sz) := by
  refine Met.ofW (cc := cX7_go) (maxL := 4) (ret := (some .boolean)) (by decide) rfl ?_
  intro p e s m args below meth c s₁ B hml hv
  obtain ⟨rfl, hsz, hD0, hP, hK, hN⟩ := hv
  have hx := B.exec
  have hb := B.bytes
  have hr := B.returns
  have hts := atoms_spec (ws := (wd yX7_go cX7_go 4 (some .boolean))) B.pre
  have hown : s.vm.findClass RX7 = some m.cls := findClass_of_methodNamed B.named
  have hlocks := B.notSynchronized
  subst hsz
  have hD := hD0.self (sz := s.heap.size)
  generalize hAe : va_A (wX7 o_t a_t cI v_t h_t) s.heap.size = A at hD ⊢
  have hA : ∀ q : Nat, s.heap.size ≤ q → A q := fun q h => by rw [← hAe]; exact Or.inr h
  have hS : va_S A s.heap s.heap [] := va_S.rf
  have hl := lv_entry ([.ref o_t, .int x1]) (n := 4) (Nat.le_of_ble_eq_true rfl)
  rw [lg_entry_eq]
  generalize (lg_sl ([.ref o_t, .int x1]) ++ List.replicate (4 - (lg_sl ([.ref o_t, .int x1])).length) Slot.unset).toArray = ls at hl ⊢
  have hl : lv_has ls 4 [(0, .ref o_t), (1, .int x1)] := hl
  clear hAe hD0
  unfold f_X7_go at hf
  refine lv_iload_n hx hb dX7_go_0 rfl (lv_at hl 1 rfl) ?_
  refine lv_bipush (v := 48) hx hb dX7_go_1 (by decide) ?_
  refine lv_isub hx hb dX7_go_3 ?_
  refine lv_istore_n (lv' := [(2, .int (x1 - 48)), (0, .ref o_t), (1, .int x1)]) hx hb dX7_go_4 rfl hl (by decide) rfl (fun ls hl => ?_)
  refine lv_aload_n hx hb dX7_go_5 rfl (lv_at hl 1 rfl) ?_
  refine va_get (D := (dC, dI)) (ci := 7) (v := .int (v_t.1 5)) (C := RX7) (T := TX7) (N := 30) hx hb hts hw_X7 hown hK hP 0 rfl rfl 5 (by decide) (hts _ (List.mem_cons_of_mem _ mw_603)) (fun _ h9 => h9) rfl dX7_go_6 ?_
  refine lv_istore_n (lv' := [(3, .int (v_t.1 5)), (2, .int (x1 - 48)), (0, .ref o_t), (1, .int x1)]) hx hb dX7_go_9 rfl hl (by decide) rfl (fun ls hl => ?_)
  refine lv_aload_n hx hb dX7_go_10 rfl (lv_at hl 2 rfl) ?_
  refine lv_dup hx hb dX7_go_11 rfl ?_
  refine va_get (D := (dC, dI)) (ci := 7) (v := .int (v_t.1 5)) (C := RX7) (T := TX7) (N := 30) hx hb hts hw_X7 hown hK hP 0 rfl rfl 5 (by decide) (hts _ (List.mem_cons_of_mem _ mw_603)) (fun _ h9 => h9) rfl dX7_go_12 ?_
  refine lv_iconst (v := 1) hx hb dX7_go_15 (by decide) ?_
  refine lv_iadd hx hb dX7_go_16 ?_
  refine va_put (D := (dC, dI)) (ci := 7) (v := .int ((v_t.1 5) + 1)) (ty := .int) (C := RX7) (T := TX7) (N := 30) hx hb hts hw_X7 tyX7 tyX7_ok nmX7 hown hK hP hD hS 0 rfl rfl 5 (by decide) (hts _ (List.mem_cons_of_mem _ mw_603)) (fun _ h9 => h9) rfl (by decide +kernel) rfl rfl (Nat.le_of_ble_eq_true rfl) dX7_go_17 (fun H locs hP hD hS => ?_)
  have hP : va_P (dC, dI) vwCl (wX7 o_t a_t cI (oF v_t 5 ((v_t.1 5) + 1)) h_t) H := hP
  have hD : va_D A (wX7 o_t a_t cI (oF v_t 5 ((v_t.1 5) + 1)) h_t) := hD
  obtain ⟨v_t_17, e_v_t_17⟩ : ∃ z : obV, z = (oF v_t 5 ((v_t.1 5) + 1)) := ⟨_, rfl⟩
  rw [← e_v_t_17] at hP hD
  have hf := ho_l hf v_t_17 e_v_t_17
  refine lv_iload_n hx hb dX7_go_20 rfl (lv_at hl 0 rfl) ?_
  by_cases c_21_0 : (v_t.1 5) = 0
  · have hf := ho_t hf c_21_0
    refine lv_tableIn (tgt := 56) hx hb dX7_go_21 (by rw [c_21_0] <;> decide) (by rw [c_21_0] <;> decide) (by rw [c_21_0] <;> rfl) (by decide) ?_
    refine lv_aload_n hx hb dX7_go_56 rfl (lv_at hl 2 rfl) ?_
    refine va_get (D := (dC, dI)) (ci := 7) (v := .ref (a_t 2)) (C := RX7) (T := TX7) (N := 30) hx hb hts hw_X7 hown hK hP 0 rfl rfl 2 (by decide) (hts _ (List.mem_cons_of_mem _ mw_600)) (fun _ h9 => h9) rfl dX7_go_57 ?_
    refine lv_iconst (v := 3) hx hb dX7_go_60 (by decide) ?_
    refine lv_aload_n hx hb dX7_go_61 rfl (lv_at hl 2 rfl) ?_
    refine va_get (D := (dC, dI)) (ci := 7) (v := .int (v_t_17.1 3)) (C := RX7) (T := TX7) (N := 30) hx hb hts hw_X7 hown hK hP 0 rfl rfl 3 (by decide) (hts _ (List.mem_cons_of_mem _ mw_601)) (fun _ h9 => h9) rfl dX7_go_62 ?_
    refine lv_imul hx hb dX7_go_65 ?_
    refine lv_iload_n hx hb dX7_go_66 rfl (lv_at hl 3 rfl) ?_
    obtain ⟨u_67, e_67, hf⟩ := ho_b hf
    have hPc := hP.sub (ws' := ([] : va_W)) [] rfl
    refine vp_callSi (va_runS (As := [.int x1]) (rest := [.int (3 * (v_t_17.1 3)), .ref (a_t 2)]) ⟨hx, hb, hml, hown, hts⟩ (c_X7_kindBy l dC dI cI cII (x1) u_67 e_67) (va_cwS 1 hts (hw_giS mw_713 mw_714 mw_60 mw_715) rfl rfl rfl (by decide +kernel) ⟨Nat.le_of_ble_eq_true rfl, Nat.le_of_ble_eq_true rfl⟩) ⟨pB_blind, fun U hU hW => ⟨rfl, pB_go hPc hK hN hU hW⟩⟩ rfl rfl hl.1 rfl (lv_room (Nat.le_of_ble_eq_true rfl)) dX7_go_67 ⟨Nat.zero_le _, Nat.zero_le _⟩).run (fun z_67 ez_67 => ?_)
    subst ez_67
    obtain ⟨h_70, hf⟩ := ho_g hf
    refine va_iast (n := 15) (f := (v_t_17.2 2)) hx hb hK hP hD hS 2 0 rfl rfl h_70 dX7_go_70 (fun H locs hP hD hS => ?_)
    have hP : va_P (dC, dI) vwCl (wX7 o_t a_t cI (oA v_t_17 2 (Int32.toNatClampNeg (3 * (v_t_17.1 3))) u_67) h_t) H := hP
    have hD : va_D A (wX7 o_t a_t cI (oA v_t_17 2 (Int32.toNatClampNeg (3 * (v_t_17.1 3))) u_67) h_t) := hD
    obtain ⟨v_t_70, e_v_t_70⟩ : ∃ z : obV, z = (oA v_t_17 2 (Int32.toNatClampNeg (3 * (v_t_17.1 3))) u_67) := ⟨_, rfl⟩
    rw [← e_v_t_70] at hP hD
    have hf := ho_l hf v_t_70 e_v_t_70
    refine lv_iload_n hx hb dX7_go_71 rfl (lv_at hl 3 rfl) ?_
    obtain ⟨u_72, e_72, hf⟩ := ho_b hf
    have hPc := hP.sub (ws' := ([] : va_W)) [] rfl
    refine vp_callSi (va_runS (As := [.int x1]) (rest := []) ⟨hx, hb, hml, hown, hts⟩ (c_X7_kindBy l dC dI cI cII (x1) u_72 e_72) (va_cwS 1 hts (hw_giS mw_713 mw_714 mw_60 mw_715) rfl rfl rfl (by decide +kernel) ⟨Nat.le_of_ble_eq_true rfl, Nat.le_of_ble_eq_true rfl⟩) ⟨pB_blind, fun U hU hW => ⟨rfl, pB_go hPc hK hN hU hW⟩⟩ rfl rfl hl.1 rfl (lv_room (Nat.le_of_ble_eq_true rfl)) dX7_go_72 ⟨Nat.zero_le _, Nat.zero_le _⟩).run (fun z_72 ez_72 => ?_)
    subst ez_72
    refine lv_iconst (v := (-1)) hx hb dX7_go_75 (by decide) ?_
    refine lv_icmp_eq (tgt := 83) hx hb dX7_go_76 (by decide) (fun c_76 => ?_) (fun c_76 => ?_)
    · have hf := ho_t hf c_76
      refine lv_iconst (v := 0) hx hb dX7_go_83 (by decide) ?_
      obtain rfl := Option.some.inj hf
      exact W.zret (v := 0) hx hb hr (by decide) (fun t ht hW => ⟨⟨_, (), rfl, rfl, by rw [ht]; exact hP, hD⟩, hS.F ht⟩) hS.2.2 dX7_go_84 hlocks
    · have hf := ho_f hf c_76
      refine lv_iconst (v := 1) hx hb dX7_go_79 (by decide) ?_
      refine lv_goto (tgt := 84) hx hb dX7_go_80 (by decide) ?_
      obtain rfl := Option.some.inj hf
      exact W.zret (v := 1) hx hb hr (by decide) (fun t ht hW => ⟨⟨_, (), rfl, rfl, by rw [ht]; exact hP, hD⟩, hS.F ht⟩) hS.2.2 dX7_go_84 hlocks
  have hf := ho_f hf c_21_0
  by_cases c_21_1 : (v_t.1 5) = 1
  · have hf := ho_t hf c_21_1
    refine lv_tableIn (tgt := 85) hx hb dX7_go_21 (by rw [c_21_1] <;> decide) (by rw [c_21_1] <;> decide) (by rw [c_21_1] <;> rfl) (by decide) ?_
    refine lv_aload_n hx hb dX7_go_85 rfl (lv_at hl 2 rfl) ?_
    refine va_get (D := (dC, dI)) (ci := 7) (v := .ref (a_t 2)) (C := RX7) (T := TX7) (N := 30) hx hb hts hw_X7 hown hK hP 0 rfl rfl 2 (by decide) (hts _ (List.mem_cons_of_mem _ mw_600)) (fun _ h9 => h9) rfl dX7_go_86 ?_
    refine lv_iconst (v := 3) hx hb dX7_go_89 (by decide) ?_
    refine lv_aload_n hx hb dX7_go_90 rfl (lv_at hl 2 rfl) ?_
    refine va_get (D := (dC, dI)) (ci := 7) (v := .int (v_t_17.1 3)) (C := RX7) (T := TX7) (N := 30) hx hb hts hw_X7 hown hK hP 0 rfl rfl 3 (by decide) (hts _ (List.mem_cons_of_mem _ mw_601)) (fun _ h9 => h9) rfl dX7_go_91 ?_
    refine lv_imul hx hb dX7_go_94 ?_
    refine lv_iconst (v := 1) hx hb dX7_go_95 (by decide) ?_
    refine lv_iadd hx hb dX7_go_96 ?_
    refine lv_iload_n hx hb dX7_go_97 rfl (lv_at hl 1 rfl) ?_
    obtain ⟨h_98, hf⟩ := ho_g hf
    refine va_iast (n := 15) (f := (v_t_17.2 2)) hx hb hK hP hD hS 2 0 rfl rfl h_98 dX7_go_98 (fun H locs hP hD hS => ?_)
    have hP : va_P (dC, dI) vwCl (wX7 o_t a_t cI (oA v_t_17 2 (Int32.toNatClampNeg ((3 * (v_t_17.1 3)) + 1)) (x1 - 48)) h_t) H := hP
    have hD : va_D A (wX7 o_t a_t cI (oA v_t_17 2 (Int32.toNatClampNeg ((3 * (v_t_17.1 3)) + 1)) (x1 - 48)) h_t) := hD
    obtain ⟨v_t_98, e_v_t_98⟩ : ∃ z : obV, z = (oA v_t_17 2 (Int32.toNatClampNeg ((3 * (v_t_17.1 3)) + 1)) (x1 - 48)) := ⟨_, rfl⟩
    rw [← e_v_t_98] at hP hD
    have hf := ho_l hf v_t_98 e_v_t_98
    refine lv_iload_n hx hb dX7_go_99 rfl (lv_at hl 1 rfl) ?_
    refine lv_i2l (v := (Int32.toInt64 (x1 - 48))) hx hb dX7_go_100 rfl ?_
    refine lv_lconst (v := 0) hx hb dX7_go_101 (by decide) ?_
    refine lv_ldc2 (v := 5) hx hb hown (hts _ (List.mem_cons_of_mem _ mw_716)) dX7_go_102 ?_
    obtain ⟨u_105, e_105, hf⟩ := ho_b hf
    have hPc := hP.sub (ws' := ([] : va_W)) [] rfl
    refine vp_callSi (va_runS (As := [.long (Int32.toInt64 (x1 - 48)), .long 0, .long 5]) (rest := []) ⟨hx, hb, hml, hown, hts⟩ (c_X7_in l dC dI cI cII ((Int32.toInt64 (x1 - 48))) (0) (5) u_105 e_105) (va_cwS 3 hts (hw_giS mw_694 mw_695 mw_60 mw_696) rfl rfl rfl (by decide +kernel) ⟨Nat.le_of_ble_eq_true rfl, Nat.le_of_ble_eq_true rfl⟩) ⟨pB_blind, fun U hU hW => ⟨rfl, pB_go hPc hK hN hU hW⟩⟩ rfl rfl hl.1 rfl (lv_room (Nat.le_of_ble_eq_true rfl)) dX7_go_105 ⟨Nat.zero_le _, Nat.zero_le _⟩).run (fun z_105 ez_105 => ?_)
    subst ez_105
    obtain ⟨h_108, hf⟩ := ho_g hf
    obtain rfl := Option.some.inj hf
    exact W.zret (v := u_105) hx hb hr (hp_z h_108) (fun t ht hW => ⟨⟨_, (), rfl, rfl, by rw [ht]; exact hP, hD⟩, hS.F ht⟩) hS.2.2 dX7_go_108 hlocks
  have hf := ho_f hf c_21_1
  by_cases c_21_2 : (v_t.1 5) = 2
  · have hf := ho_t hf c_21_2
    refine lv_tableIn (tgt := 109) hx hb dX7_go_21 (by rw [c_21_2] <;> decide) (by rw [c_21_2] <;> decide) (by rw [c_21_2] <;> rfl) (by decide) ?_
    refine lv_aload_n hx hb dX7_go_109 rfl (lv_at hl 2 rfl) ?_
    refine va_get (D := (dC, dI)) (ci := 7) (v := .ref (a_t 2)) (C := RX7) (T := TX7) (N := 30) hx hb hts hw_X7 hown hK hP 0 rfl rfl 2 (by decide) (hts _ (List.mem_cons_of_mem _ mw_600)) (fun _ h9 => h9) rfl dX7_go_110 ?_
    refine lv_iconst (v := 3) hx hb dX7_go_113 (by decide) ?_
    refine lv_aload_n hx hb dX7_go_114 rfl (lv_at hl 2 rfl) ?_
    refine va_get (D := (dC, dI)) (ci := 7) (v := .int (v_t_17.1 3)) (C := RX7) (T := TX7) (N := 30) hx hb hts hw_X7 hown hK hP 0 rfl rfl 3 (by decide) (hts _ (List.mem_cons_of_mem _ mw_601)) (fun _ h9 => h9) rfl dX7_go_115 ?_
    refine lv_imul hx hb dX7_go_118 ?_
    refine lv_iconst (v := 2) hx hb dX7_go_119 (by decide) ?_
    refine lv_iadd hx hb dX7_go_120 ?_
    refine lv_iload_n hx hb dX7_go_121 rfl (lv_at hl 1 rfl) ?_
    obtain ⟨h_122, hf⟩ := ho_g hf
    refine va_iast (n := 15) (f := (v_t_17.2 2)) hx hb hK hP hD hS 2 0 rfl rfl h_122 dX7_go_122 (fun H locs hP hD hS => ?_)
    have hP : va_P (dC, dI) vwCl (wX7 o_t a_t cI (oA v_t_17 2 (Int32.toNatClampNeg ((3 * (v_t_17.1 3)) + 2)) (x1 - 48)) h_t) H := hP
    have hD : va_D A (wX7 o_t a_t cI (oA v_t_17 2 (Int32.toNatClampNeg ((3 * (v_t_17.1 3)) + 2)) (x1 - 48)) h_t) := hD
    obtain ⟨v_t_122, e_v_t_122⟩ : ∃ z : obV, z = (oA v_t_17 2 (Int32.toNatClampNeg ((3 * (v_t_17.1 3)) + 2)) (x1 - 48)) := ⟨_, rfl⟩
    rw [← e_v_t_122] at hP hD
    have hf := ho_l hf v_t_122 e_v_t_122
    refine lv_aload_n hx hb dX7_go_123 rfl (lv_at hl 2 rfl) ?_
    refine lv_dup hx hb dX7_go_124 rfl ?_
    refine va_get (D := (dC, dI)) (ci := 7) (v := .int (v_t_122.1 3)) (C := RX7) (T := TX7) (N := 30) hx hb hts hw_X7 hown hK hP 0 rfl rfl 3 (by decide) (hts _ (List.mem_cons_of_mem _ mw_601)) (fun _ h9 => h9) rfl dX7_go_125 ?_
    refine lv_iconst (v := 1) hx hb dX7_go_128 (by decide) ?_
    refine lv_iadd hx hb dX7_go_129 ?_
    refine va_put (D := (dC, dI)) (ci := 7) (v := .int ((v_t_122.1 3) + 1)) (ty := .int) (C := RX7) (T := TX7) (N := 30) hx hb hts hw_X7 tyX7 tyX7_ok nmX7 hown hK hP hD hS 0 rfl rfl 3 (by decide) (hts _ (List.mem_cons_of_mem _ mw_601)) (fun _ h9 => h9) rfl (by decide +kernel) rfl rfl (Nat.le_of_ble_eq_true rfl) dX7_go_130 (fun H locs hP hD hS => ?_)
    have hP : va_P (dC, dI) vwCl (wX7 o_t a_t cI (oF v_t_122 3 ((v_t_122.1 3) + 1)) h_t) H := hP
    have hD : va_D A (wX7 o_t a_t cI (oF v_t_122 3 ((v_t_122.1 3) + 1)) h_t) := hD
    obtain ⟨v_t_130, e_v_t_130⟩ : ∃ z : obV, z = (oF v_t_122 3 ((v_t_122.1 3) + 1)) := ⟨_, rfl⟩
    rw [← e_v_t_130] at hP hD
    have hf := ho_l hf v_t_130 e_v_t_130
    refine lv_iload_n hx hb dX7_go_133 rfl (lv_at hl 1 rfl) ?_
    refine lv_i2l (v := (Int32.toInt64 (x1 - 48))) hx hb dX7_go_134 rfl ?_
    refine lv_lconst (v := 0) hx hb dX7_go_135 (by decide) ?_
    refine lv_ldc2 (v := 9) hx hb hown (hts _ (List.mem_cons_of_mem _ mw_717)) dX7_go_136 ?_
    obtain ⟨u_139, e_139, hf⟩ := ho_b hf
    have hPc := hP.sub (ws' := ([] : va_W)) [] rfl
    refine vp_callSi (va_runS (As := [.long (Int32.toInt64 (x1 - 48)), .long 0, .long 9]) (rest := []) ⟨hx, hb, hml, hown, hts⟩ (c_X7_in l dC dI cI cII ((Int32.toInt64 (x1 - 48))) (0) (9) u_139 e_139) (va_cwS 3 hts (hw_giS mw_694 mw_695 mw_60 mw_696) rfl rfl rfl (by decide +kernel) ⟨Nat.le_of_ble_eq_true rfl, Nat.le_of_ble_eq_true rfl⟩) ⟨pB_blind, fun U hU hW => ⟨rfl, pB_go hPc hK hN hU hW⟩⟩ rfl rfl hl.1 rfl (lv_room (Nat.le_of_ble_eq_true rfl)) dX7_go_139 ⟨Nat.zero_le _, Nat.zero_le _⟩).run (fun z_139 ez_139 => ?_)
    subst ez_139
    obtain ⟨h_142, hf⟩ := ho_g hf
    obtain rfl := Option.some.inj hf
    exact W.zret (v := u_139) hx hb hr (hp_z h_142) (fun t ht hW => ⟨⟨_, (), rfl, rfl, by rw [ht]; exact hP, hD⟩, hS.F ht⟩) hS.2.2 dX7_go_142 hlocks
  have hf := ho_f hf c_21_2
  by_cases c_21_3 : (v_t.1 5) = 3
  · have hf := ho_t hf c_21_3
    refine lv_tableIn (tgt := 143) hx hb dX7_go_21 (by rw [c_21_3] <;> decide) (by rw [c_21_3] <;> decide) (by rw [c_21_3] <;> rfl) (by decide) ?_
    refine lv_aload_n hx hb dX7_go_143 rfl (lv_at hl 2 rfl) ?_
    refine lv_iload_n hx hb dX7_go_144 rfl (lv_at hl 3 rfl) ?_
    refine lv_bipush (v := 44) hx hb dX7_go_145 (by decide) ?_
    refine lv_icmp_ne (tgt := 154) hx hb dX7_go_147 (by decide) (fun c_147 => ?_) (fun c_147 => ?_)
    · have hf := ho_f hf c_147
      refine lv_iconst (v := 4) hx hb dX7_go_154 (by decide) ?_
      exact w_X7_go_b155 ⟨hx, hb, hml, hown, hts, hr, hlocks, hK, hN⟩ hA  hP hD hS hf (lv_sub hl [2, 3] rfl)
    · have hf := ho_t hf c_147
      refine lv_iconst (v := 0) hx hb dX7_go_150 (by decide) ?_
      refine lv_goto (tgt := 155) hx hb dX7_go_151 (by decide) ?_
      exact w_X7_go_b155 ⟨hx, hb, hml, hown, hts, hr, hlocks, hK, hN⟩ hA  hP hD hS hf (lv_sub hl [2, 3] rfl)
  have hf := ho_f hf c_21_3
  by_cases c_21_4 : (v_t.1 5) = 4
  · have hf := ho_t hf c_21_4
    refine lv_tableIn (tgt := 200) hx hb dX7_go_21 (by rw [c_21_4] <;> decide) (by rw [c_21_4] <;> decide) (by rw [c_21_4] <;> rfl) (by decide) ?_
    refine lv_aload_n hx hb dX7_go_200 rfl (lv_at hl 2 rfl) ?_
    refine lv_iload_n hx hb dX7_go_201 rfl (lv_at hl 1 rfl) ?_
    refine va_put (D := (dC, dI)) (ci := 7) (v := .int (x1 - 48)) (ty := .int) (C := RX7) (T := TX7) (N := 30) hx hb hts hw_X7 tyX7 tyX7_ok nmX7 hown hK hP hD hS 0 rfl rfl 4 (by decide) (hts _ (List.mem_cons_of_mem _ mw_602)) (fun _ h9 => h9) rfl (by decide +kernel) rfl rfl (Nat.le_of_ble_eq_true rfl) dX7_go_202 (fun H locs hP hD hS => ?_)
    have hP : va_P (dC, dI) vwCl (wX7 o_t a_t cI (oF v_t_17 4 (x1 - 48)) h_t) H := hP
    have hD : va_D A (wX7 o_t a_t cI (oF v_t_17 4 (x1 - 48)) h_t) := hD
    obtain ⟨v_t_202, e_v_t_202⟩ : ∃ z : obV, z = (oF v_t_17 4 (x1 - 48)) := ⟨_, rfl⟩
    rw [← e_v_t_202] at hP hD
    have hf := ho_l hf v_t_202 e_v_t_202
    refine lv_iload_n hx hb dX7_go_205 rfl (lv_at hl 1 rfl) ?_
    refine lv_i2l (v := (Int32.toInt64 (x1 - 48))) hx hb dX7_go_206 rfl ?_
    refine lv_lconst (v := 0) hx hb dX7_go_207 (by decide) ?_
    refine lv_ldc2 (v := 9) hx hb hown (hts _ (List.mem_cons_of_mem _ mw_717)) dX7_go_208 ?_
    obtain ⟨u_211, e_211, hf⟩ := ho_b hf
    have hPc := hP.sub (ws' := ([] : va_W)) [] rfl
    refine vp_callSi (va_runS (As := [.long (Int32.toInt64 (x1 - 48)), .long 0, .long 9]) (rest := []) ⟨hx, hb, hml, hown, hts⟩ (c_X7_in l dC dI cI cII ((Int32.toInt64 (x1 - 48))) (0) (9) u_211 e_211) (va_cwS 3 hts (hw_giS mw_694 mw_695 mw_60 mw_696) rfl rfl rfl (by decide +kernel) ⟨Nat.le_of_ble_eq_true rfl, Nat.le_of_ble_eq_true rfl⟩) ⟨pB_blind, fun U hU hW => ⟨rfl, pB_go hPc hK hN hU hW⟩⟩ rfl rfl hl.1 rfl (lv_room (Nat.le_of_ble_eq_true rfl)) dX7_go_211 ⟨Nat.zero_le _, Nat.zero_le _⟩).run (fun z_211 ez_211 => ?_)
    subst ez_211
    obtain ⟨h_214, hf⟩ := ho_g hf
    obtain rfl := Option.some.inj hf
    exact W.zret (v := u_211) hx hb hr (hp_z h_214) (fun t ht hW => ⟨⟨_, (), rfl, rfl, by rw [ht]; exact hP, hD⟩, hS.F ht⟩) hS.2.2 dX7_go_214 hlocks
  have hf := ho_f hf c_21_4
  refine lv_tableOut (tgt := 215) hx hb dX7_go_21 (by have e0 := lv_neT c_21_0 (a := 0) (by decide); have e1 := lv_neT c_21_1 (a := 1) (by decide); have e2 := lv_neT c_21_2 (a := 2) (by decide); have e3 := lv_neT c_21_3 (a := 3) (by decide); have e4 := lv_neT c_21_4 (a := 4) (by decide); omega) (by decide) ?_
  refine lv_iconst (v := 0) hx hb dX7_go_215 (by decide) ?_
  obtain rfl := Option.some.inj hf
  exact W.zret (v := 0) hx hb hr (by decide) (fun t ht hW => ⟨⟨_, (), rfl, rfl, by rw [ht]; exact hP, hD⟩, hS.F ht⟩) hS.2.2 dX7_go_216 hlocks
set_option maxHeartbeats 4000000 in
set_option maxRecDepth 100000 in
theorem w_X7_faultOf_l12 {p : Program} {l : Launch} {e : Env} {s : State} {m : MethodId} {args : Array Value} {below : List Frame} {meth : Method} {c : Code} {dC : Nat → ClassId} {dI : Nat → Nat → Nat} {cI cII : ClassId} {o_t : Nat} {a_t : Nat → Nat} {A : Nat → Prop} (C0 : hC p s m args meth c dC dI cI cII RX7 cX7_faultOf 2 (wd yX7_faultOf cX7_faultOf 2 (some .int)) (some .int)) (hA : ∀ q, s.heap.size ≤ q → A q) {h_t : Int64}     :
    ∀ (n : Nat) (y : obV × Int32) (r : Int32 × obV), f_X7_faultOf_l12    n y = some r → ∀ (H : Heap) (locs : List Loc) (ls : Array Slot), va_P (dC, dI) vwCl (wX7 o_t a_t cI y.1 h_t) H → va_D A (wX7 o_t a_t cI y.1 h_t) → va_S A s.heap H locs → lv_has ls 2 [(0, .ref o_t), (1, .int y.2)] → W p l e ({ frames := 2, cells := 0, slots := 0, locals := 48 } : Room) s m args below meth c H locs 0 0 (MQ below (va_Qi (fun (z : Int32) (_ : Unit) => r.1 = z) (fun _ t => va_P (dC, dI) vwCl (wX7 o_t a_t cI r.2 h_t) t.heap ∧ va_D A (wX7 o_t a_t cI r.2 h_t)) A) args s 0 0 A) (F0 m 12 ls []) := by
  obtain ⟨hx, hb, hml, hown, hts, hr, hlocks, hK, hN⟩ := C0
  refine lp_W ?_
  intro k12 ih12 y r hf H locs ls hP hD hS hl
  obtain ⟨v_t, x1⟩ := y
  have hf : f_X7_faultOf_b12  v_t x1  k12 = some r := hf
  have hP : va_P (dC, dI) vwCl (wX7 o_t a_t cI v_t h_t) H := hP
  have hD : va_D A (wX7 o_t a_t cI v_t h_t) := hD
  have hl : lv_has ls 2 [(0, .ref o_t), (1, .int x1)] := hl
  unfold f_X7_faultOf_b12 at hf
  refine lv_iload_n hx hb dX7_faultOf_12 rfl (lv_at hl 1 rfl) ?_
  refine lv_aload_n hx hb dX7_faultOf_13 rfl (lv_at hl 0 rfl) ?_
  refine va_get (D := (dC, dI)) (ci := 7) (v := .int (v_t.1 1)) (C := RX7) (T := TX7) (N := 30) hx hb hts hw_X7 hown hK hP 0 rfl rfl 1 (by decide) (hts _ (List.mem_cons_of_mem _ mw_599)) (fun _ h9 => h9) rfl dX7_faultOf_14 ?_
  refine lv_icmp_ge (tgt := 39) hx hb dX7_faultOf_17 (by decide) (fun c_17 => ?_) (fun c_17 => ?_)
  · have hf := ho_t hf c_17
    refine lv_iload_n hx hb dX7_faultOf_39 rfl (lv_at hl 1 rfl) ?_
    obtain rfl := Option.some.inj hf
    exact W.iret (v := x1) hx hb hr (fun t ht hW => ⟨⟨_, (), rfl, rfl, by rw [ht]; exact hP, hD⟩, hS.F ht⟩) hS.2.2 dX7_faultOf_40 hlocks
  · have hf := ho_f hf c_17
    refine lv_aload_n hx hb dX7_faultOf_20 rfl (lv_at hl 0 rfl) ?_
    refine lv_aload_n hx hb dX7_faultOf_21 rfl (lv_at hl 0 rfl) ?_
    refine va_get (D := (dC, dI)) (ci := 7) (v := .ref (a_t 0)) (C := RX7) (T := TX7) (N := 30) hx hb hts hw_X7 hown hK hP 0 rfl rfl 0 (by decide) (hts _ (List.mem_cons_of_mem _ mw_598)) (fun _ h9 => h9) rfl dX7_faultOf_22 ?_
    refine lv_iload_n hx hb dX7_faultOf_25 rfl (lv_at hl 1 rfl) ?_
    obtain ⟨h_26, hf⟩ := ho_g hf
    refine va_iald (n := 24) (f := (v_t.2 0)) hx hb hK hP 1 0 rfl rfl h_26 dX7_faultOf_26 ?_
    obtain ⟨u_27, e_27, hf⟩ := ho_b hf
    have hFc := va_free (wc := (wX7 o_t a_t cI v_t h_t)) hD hS hA [0, 1, 2, 3, 4, 5, 6, 7, 8, 9, 10, 11, 12] rfl
    refine va_calli (va_runV (As := [.int ((v_t.2 0) (Int32.toNatClampNeg x1))]) (rest := []) ⟨hx, hb, hml, hown, hts⟩ (c_X7_go l dC dI cI cII o_t a_t v_t h_t (((v_t.2 0) (Int32.toNatClampNeg x1))) _ u_27 e_27) (cwV 1 hts (hw_giV mw_709 mw_711 mw_19 mw_60 mw_712) rfl rfl rfl (by decide +kernel) ⟨Nat.le_of_ble_eq_true rfl, Nat.le_of_ble_eq_true rfl⟩) ⟨qB_blind, va_recv hK hP (ci := 7) (q0 := 0) rfl rfl, fun U hU hW => ⟨rfl, qB_go hP hD hK hN hU hW⟩⟩ rfl rfl hl.1 rfl (lv_room (Nat.le_of_ble_eq_true rfl)) dX7_faultOf_27 ⟨Nat.zero_le _, Nat.zero_le _⟩) hS (fun q _ h => hFc q h) hFc (fun z_27 u t H1 locs ht hvm ez_27 hB hz1 hk1 hS => ?_)
    subst ez_27
    obtain ⟨hP1, hD1⟩ := hB
    rw [ht] at hP1
    clear hP hD
    generalize H1 = H at hP1 hS ⊢
    have hP : va_P (dC, dI) vwCl (wX7 o_t a_t cI u_27.2 h_t) H := hP1
    have hD : va_D A (wX7 o_t a_t cI u_27.2 h_t) := hD1.weaken (fun _ q _ h => hFc q.1 h)
    refine lv_if_eq (tgt := 39) hx hb dX7_faultOf_30 (by decide) (fun c_30 => ?_) (fun c_30 => ?_)
    · have hf := ho_t hf c_30
      refine lv_iload_n hx hb dX7_faultOf_39 rfl (lv_at hl 1 rfl) ?_
      obtain rfl := Option.some.inj hf
      exact W.iret (v := x1) hx hb hr (fun t ht hW => ⟨⟨_, (), rfl, rfl, by rw [ht]; exact hP, hD⟩, hS.F ht⟩) hS.2.2 dX7_faultOf_40 hlocks
    · have hf := ho_f hf c_30
      refine lv_iinc (v := (x1 + 1)) (lv' := [(1, .int (x1 + 1)), (0, .ref o_t)]) hx hb dX7_faultOf_33 hl (k := 1) rfl (hp_inc (by decide)) (by decide) rfl (fun ls hl => ?_)
      refine lv_goto (tgt := 12) hx hb dX7_faultOf_36 (by decide) ?_
      exact ih12 (u_27.2, (x1 + 1)) _ hf _ _ _ hP hD hS (lv_sub hl [1, 0] rfl)
set_option maxHeartbeats 4000000 in
set_option maxRecDepth 100000 in
theorem c_X7_faultOf (l : Launch) (dC : Nat → ClassId) (dI : Nat → Nat → Nat) (cI cII : ClassId) (o_t : Nat) (a_t : Nat → Nat) (v_t : obV) (h_t : Int64)  (sz : Nat) (r : Int32 × obV) (hf : f_X7_faultOf  v_t  = some r) :
    Met l yX7_faultOf (wd yX7_faultOf cX7_faultOf 2 (some .int)) ({ frames := 2, cells := 0, slots := 0, locals := 48 } : Room) (va_Pc [.ref o_t] (qB (dC, dI) vwCl (wX7 o_t a_t cI v_t h_t) (hTY cI cII) sz)) (va_Qi (fun (z : Int32) (_ : Unit) => r.1 = z) (fun _ t => va_P (dC, dI) vwCl (wX7 o_t a_t cI r.2 h_t) t.heap ∧ va_D (va_A (wX7 o_t a_t cI v_t h_t) sz) (wX7 o_t a_t cI r.2 h_t)) (va_A (wX7 o_t a_t cI v_t h_t) sz)) 0 0 (va_A (wX7 o_t a_t cI v_t h_t) sz) := by
  refine Met.ofW (cc := cX7_faultOf) (maxL := 2) (ret := (some .int)) (by decide) rfl ?_
  intro p e s m args below meth c s₁ B hml hv
  obtain ⟨rfl, hsz, hD0, hP, hK, hN⟩ := hv
  have hx := B.exec
  have hb := B.bytes
  have hr := B.returns
  have hts := atoms_spec (ws := (wd yX7_faultOf cX7_faultOf 2 (some .int))) B.pre
  have hown : s.vm.findClass RX7 = some m.cls := findClass_of_methodNamed B.named
  have hlocks := B.notSynchronized
  subst hsz
  have hD := hD0.self (sz := s.heap.size)
  generalize hAe : va_A (wX7 o_t a_t cI v_t h_t) s.heap.size = A at hD ⊢
  have hA : ∀ q : Nat, s.heap.size ≤ q → A q := fun q h => by rw [← hAe]; exact Or.inr h
  have hS : va_S A s.heap s.heap [] := va_S.rf
  have hl := lv_entry ([.ref o_t]) (n := 2) (Nat.le_of_ble_eq_true rfl)
  rw [lg_entry_eq]
  generalize (lg_sl ([.ref o_t]) ++ List.replicate (2 - (lg_sl ([.ref o_t])).length) Slot.unset).toArray = ls at hl ⊢
  have hl : lv_has ls 2 [(0, .ref o_t)] := hl
  clear hAe hD0
  unfold f_X7_faultOf at hf
  refine lv_aload_n hx hb dX7_faultOf_0 rfl (lv_at hl 0 rfl) ?_
  refine lv_iconst (v := 0) hx hb dX7_faultOf_1 (by decide) ?_
  refine va_put (D := (dC, dI)) (ci := 7) (v := .int 0) (ty := .int) (C := RX7) (T := TX7) (N := 30) hx hb hts hw_X7 tyX7 tyX7_ok nmX7 hown hK hP hD hS 0 rfl rfl 3 (by decide) (hts _ (List.mem_cons_of_mem _ mw_601)) (fun _ h9 => h9) rfl (by decide +kernel) rfl rfl (Nat.le_of_ble_eq_true rfl) dX7_faultOf_2 (fun H locs hP hD hS => ?_)
  have hP : va_P (dC, dI) vwCl (wX7 o_t a_t cI (oF v_t 3 0) h_t) H := hP
  have hD : va_D A (wX7 o_t a_t cI (oF v_t 3 0) h_t) := hD
  obtain ⟨v_t_2, e_v_t_2⟩ : ∃ z : obV, z = (oF v_t 3 0) := ⟨_, rfl⟩
  rw [← e_v_t_2] at hP hD
  have hf := ho_l hf v_t_2 e_v_t_2
  refine lv_aload_n hx hb dX7_faultOf_5 rfl (lv_at hl 0 rfl) ?_
  refine lv_iconst (v := 0) hx hb dX7_faultOf_6 (by decide) ?_
  refine va_put (D := (dC, dI)) (ci := 7) (v := .int 0) (ty := .int) (C := RX7) (T := TX7) (N := 30) hx hb hts hw_X7 tyX7 tyX7_ok nmX7 hown hK hP hD hS 0 rfl rfl 5 (by decide) (hts _ (List.mem_cons_of_mem _ mw_603)) (fun _ h9 => h9) rfl (by decide +kernel) rfl rfl (Nat.le_of_ble_eq_true rfl) dX7_faultOf_7 (fun H locs hP hD hS => ?_)
  have hP : va_P (dC, dI) vwCl (wX7 o_t a_t cI (oF v_t_2 5 0) h_t) H := hP
  have hD : va_D A (wX7 o_t a_t cI (oF v_t_2 5 0) h_t) := hD
  obtain ⟨v_t_7, e_v_t_7⟩ : ∃ z : obV, z = (oF v_t_2 5 0) := ⟨_, rfl⟩
  rw [← e_v_t_7] at hP hD
  have hf := ho_l hf v_t_7 e_v_t_7
  refine lv_iconst (v := 0) hx hb dX7_faultOf_10 (by decide) ?_
  refine lv_istore_n (lv' := [(1, .int 0), (0, .ref o_t)]) hx hb dX7_faultOf_11 rfl hl (by decide) rfl (fun ls hl => ?_)
  exact w_X7_faultOf_l12 ⟨hx, hb, hml, hown, hts, hr, hlocks, hK, hN⟩ hA  _ _ _ hf _ _ _ hP hD hS (lv_sub hl [1, 0] rfl)
set_option maxHeartbeats 4000000 in
set_option maxRecDepth 100000 in
theorem c_X7_fault (l : Launch) (dC : Nat → ClassId) (dI : Nat → Nat → Nat) (cI cII : ClassId) (o_t : Nat) (a_t : Nat → Nat) (v_t : obV) (h_t : Int64)  (sz : Nat) (r : Int32 × obV) (hf : f_X7_fault  v_t  = some r) :
    Met l yX7_fault (wd yX7_fault cX7_fault 1 (some .int)) ({ frames := 3, cells := 0, slots := 0, locals := 69 } : Room) (va_Pc [.ref o_t] (qB (dC, dI) vwCl (wX7 o_t a_t cI v_t h_t) (hTY cI cII) sz)) (va_Qi (fun (z : Int32) (_ : Unit) => r.1 = z) (fun _ t => va_P (dC, dI) vwCl (wX7 o_t a_t cI r.2 h_t) t.heap ∧ va_D (va_A (wX7 o_t a_t cI v_t h_t) sz) (wX7 o_t a_t cI r.2 h_t)) (va_A (wX7 o_t a_t cI v_t h_t) sz)) 0 0 (va_A (wX7 o_t a_t cI v_t h_t) sz) := by
  refine Met.ofW (cc := cX7_fault) (maxL := 1) (ret := (some .int)) (by decide) rfl ?_
  intro p e s m args below meth c s₁ B hml hv
  obtain ⟨rfl, hsz, hD0, hP, hK, hN⟩ := hv
  have hx := B.exec
  have hb := B.bytes
  have hr := B.returns
  have hts := atoms_spec (ws := (wd yX7_fault cX7_fault 1 (some .int))) B.pre
  have hown : s.vm.findClass RX7 = some m.cls := findClass_of_methodNamed B.named
  have hlocks := B.notSynchronized
  subst hsz
  have hD := hD0.self (sz := s.heap.size)
  generalize hAe : va_A (wX7 o_t a_t cI v_t h_t) s.heap.size = A at hD ⊢
  have hA : ∀ q : Nat, s.heap.size ≤ q → A q := fun q h => by rw [← hAe]; exact Or.inr h
  have hS : va_S A s.heap s.heap [] := va_S.rf
  have hl := lv_entry ([.ref o_t]) (n := 1) (Nat.le_of_ble_eq_true rfl)
  rw [lg_entry_eq]
  generalize (lg_sl ([.ref o_t]) ++ List.replicate (1 - (lg_sl ([.ref o_t])).length) Slot.unset).toArray = ls at hl ⊢
  have hl : lv_has ls 1 [(0, .ref o_t)] := hl
  clear hAe hD0
  unfold f_X7_fault at hf
  refine lv_aload_n hx hb dX7_fault_0 rfl (lv_at hl 0 rfl) ?_
  obtain ⟨u_1, e_1, hf⟩ := ho_b hf
  have hFc := va_free (wc := (wX7 o_t a_t cI v_t h_t)) hD hS hA [0, 1, 2, 3, 4, 5, 6, 7, 8, 9, 10, 11, 12] rfl
  refine va_calli (va_runV (As := []) (rest := []) ⟨hx, hb, hml, hown, hts⟩ (c_X7_faultOf l dC dI cI cII o_t a_t v_t h_t _ u_1 e_1) (cwV 0 hts (hw_giV mw_705 mw_707 mw_18 mw_60 mw_708) rfl rfl rfl (by decide +kernel) ⟨Nat.le_of_ble_eq_true rfl, Nat.le_of_ble_eq_true rfl⟩) ⟨qB_blind, va_recv hK hP (ci := 7) (q0 := 0) rfl rfl, fun U hU hW => ⟨rfl, qB_go hP hD hK hN hU hW⟩⟩ rfl rfl hl.1 rfl (lv_room (Nat.le_of_ble_eq_true rfl)) dX7_fault_1 ⟨Nat.zero_le _, Nat.zero_le _⟩) hS (fun q _ h => hFc q h) hFc (fun z_1 u t H1 locs ht hvm ez_1 hB hz1 hk1 hS => ?_)
  subst ez_1
  obtain ⟨hP1, hD1⟩ := hB
  rw [ht] at hP1
  clear hP hD
  generalize H1 = H at hP1 hS ⊢
  have hP : va_P (dC, dI) vwCl (wX7 o_t a_t cI u_1.2 h_t) H := hP1
  have hD : va_D A (wX7 o_t a_t cI u_1.2 h_t) := hD1.weaken (fun _ q _ h => hFc q.1 h)
  obtain rfl := Option.some.inj hf
  exact W.iret (v := u_1.1) hx hb hr (fun t ht hW => ⟨⟨_, (), rfl, rfl, by rw [ht]; exact hP, hD⟩, hS.F ht⟩) hS.2.2 dX7_fault_4 hlocks
set_option maxHeartbeats 4000000 in
set_option maxRecDepth 100000 in
theorem c_X7_cave (l : Launch) (dC : Nat → ClassId) (dI : Nat → Nat → Nat) (cI cII : ClassId) (o_t : Nat) (a_t : Nat → Nat) (v_t : obV) (h_t : Int64)  (sz : Nat) (r : Int32 × obV) (hf : f_X7_cave  v_t  = some r) :
    Met l yX7_cave (wd yX7_cave cX7_cave 1 (some .int)) ({ frames := 3, cells := 0, slots := 0, locals := 69 } : Room) (va_Pc [.ref o_t] (qB (dC, dI) vwCl (wX7 o_t a_t cI v_t h_t) (hTY cI cII) sz)) (va_Qi (fun (z : Int32) (_ : Unit) => r.1 = z) (fun _ t => va_P (dC, dI) vwCl (wX7 o_t a_t cI r.2 h_t) t.heap ∧ va_D (va_A (wX7 o_t a_t cI v_t h_t) sz) (wX7 o_t a_t cI r.2 h_t)) (va_A (wX7 o_t a_t cI v_t h_t) sz)) 0 0 (va_A (wX7 o_t a_t cI v_t h_t) sz) := by
  refine Met.ofW (cc := cX7_cave) (maxL := 1) (ret := (some .int)) (by decide) rfl ?_
  intro p e s m args below meth c s₁ B hml hv
  obtain ⟨rfl, hsz, hD0, hP, hK, hN⟩ := hv
  have hx := B.exec
  have hb := B.bytes
  have hr := B.returns
  have hts := atoms_spec (ws := (wd yX7_cave cX7_cave 1 (some .int))) B.pre
  have hown : s.vm.findClass RX7 = some m.cls := findClass_of_methodNamed B.named
  have hlocks := B.notSynchronized
  subst hsz
  have hD := hD0.self (sz := s.heap.size)
  generalize hAe : va_A (wX7 o_t a_t cI v_t h_t) s.heap.size = A at hD ⊢
  have hA : ∀ q : Nat, s.heap.size ≤ q → A q := fun q h => by rw [← hAe]; exact Or.inr h
  have hS : va_S A s.heap s.heap [] := va_S.rf
  have hl := lv_entry ([.ref o_t]) (n := 1) (Nat.le_of_ble_eq_true rfl)
  rw [lg_entry_eq]
  generalize (lg_sl ([.ref o_t]) ++ List.replicate (1 - (lg_sl ([.ref o_t])).length) Slot.unset).toArray = ls at hl ⊢
  have hl : lv_has ls 1 [(0, .ref o_t)] := hl
  clear hAe hD0
  unfold f_X7_cave at hf
  refine lv_aload_n hx hb dX7_cave_0 rfl (lv_at hl 0 rfl) ?_
  obtain ⟨u_1, e_1, hf⟩ := ho_b hf
  have hFc := va_free (wc := (wX7 o_t a_t cI v_t h_t)) hD hS hA [0, 1, 2, 3, 4, 5, 6, 7, 8, 9, 10, 11, 12] rfl
  refine va_calli (va_runV (As := []) (rest := []) ⟨hx, hb, hml, hown, hts⟩ (c_X7_faultOf l dC dI cI cII o_t a_t v_t h_t _ u_1 e_1) (cwV 0 hts (hw_giV mw_705 mw_707 mw_18 mw_60 mw_708) rfl rfl rfl (by decide +kernel) ⟨Nat.le_of_ble_eq_true rfl, Nat.le_of_ble_eq_true rfl⟩) ⟨qB_blind, va_recv hK hP (ci := 7) (q0 := 0) rfl rfl, fun U hU hW => ⟨rfl, qB_go hP hD hK hN hU hW⟩⟩ rfl rfl hl.1 rfl (lv_room (Nat.le_of_ble_eq_true rfl)) dX7_cave_1 ⟨Nat.zero_le _, Nat.zero_le _⟩) hS (fun q _ h => hFc q h) hFc (fun z_1 u t H1 locs ht hvm ez_1 hB hz1 hk1 hS => ?_)
  subst ez_1
  obtain ⟨hP1, hD1⟩ := hB
  rw [ht] at hP1
  clear hP hD
  generalize H1 = H at hP1 hS ⊢
  have hP : va_P (dC, dI) vwCl (wX7 o_t a_t cI u_1.2 h_t) H := hP1
  have hD : va_D A (wX7 o_t a_t cI u_1.2 h_t) := hD1.weaken (fun _ q _ h => hFc q.1 h)
  refine lv_aload_n hx hb dX7_cave_4 rfl (lv_at hl 0 rfl) ?_
  refine va_get (D := (dC, dI)) (ci := 7) (v := .int (u_1.2.1 1)) (C := RX7) (T := TX7) (N := 30) hx hb hts hw_X7 hown hK hP 0 rfl rfl 1 (by decide) (hts _ (List.mem_cons_of_mem _ mw_599)) (fun _ h9 => h9) rfl dX7_cave_5 ?_
  refine lv_icmp_lt (tgt := 19) hx hb dX7_cave_8 (by decide) (fun c_8 => ?_) (fun c_8 => ?_)
  · have hf := ho_t hf c_8
    refine lv_bipush (v := (-103)) hx hb dX7_cave_19 (by decide) ?_
    obtain rfl := Option.some.inj hf
    exact W.iret (v := (-103)) hx hb hr (fun t ht hW => ⟨⟨_, (), rfl, rfl, by rw [ht]; exact hP, hD⟩, hS.F ht⟩) hS.2.2 dX7_cave_21 hlocks
  · have hf := ho_f hf c_8
    refine lv_aload_n hx hb dX7_cave_11 rfl (lv_at hl 0 rfl) ?_
    refine va_get (D := (dC, dI)) (ci := 7) (v := .int (u_1.2.1 5)) (C := RX7) (T := TX7) (N := 30) hx hb hts hw_X7 hown hK hP 0 rfl rfl 5 (by decide) (hts _ (List.mem_cons_of_mem _ mw_603)) (fun _ h9 => h9) rfl dX7_cave_12 ?_
    refine lv_iconst (v := 5) hx hb dX7_cave_15 (by decide) ?_
    refine lv_icmp_eq (tgt := 22) hx hb dX7_cave_16 (by decide) (fun c_16 => ?_) (fun c_16 => ?_)
    · have hf := ho_t hf c_16
      refine lv_aload_n hx hb dX7_cave_22 rfl (lv_at hl 0 rfl) ?_
      refine lv_aload_n hx hb dX7_cave_23 rfl (lv_at hl 0 rfl) ?_
      refine va_get (D := (dC, dI)) (ci := 7) (v := .int (u_1.2.1 3)) (C := RX7) (T := TX7) (N := 30) hx hb hts hw_X7 hown hK hP 0 rfl rfl 3 (by decide) (hts _ (List.mem_cons_of_mem _ mw_601)) (fun _ h9 => h9) rfl dX7_cave_24 ?_
      refine va_put (D := (dC, dI)) (ci := 7) (v := .int (u_1.2.1 3)) (ty := .int) (C := RX7) (T := TX7) (N := 30) hx hb hts hw_X7 tyX7 tyX7_ok nmX7 hown hK hP hD hS 0 rfl rfl 6 (by decide) (hts _ (List.mem_cons_of_mem _ mw_604)) (fun _ h9 => h9) rfl (by decide +kernel) rfl rfl (Nat.le_of_ble_eq_true rfl) dX7_cave_27 (fun H locs hP hD hS => ?_)
      have hP : va_P (dC, dI) vwCl (wX7 o_t a_t cI (oF u_1.2 6 (u_1.2.1 3)) h_t) H := hP
      have hD : va_D A (wX7 o_t a_t cI (oF u_1.2 6 (u_1.2.1 3)) h_t) := hD
      obtain ⟨v_t_27, e_v_t_27⟩ : ∃ z : obV, z = (oF u_1.2 6 (u_1.2.1 3)) := ⟨_, rfl⟩
      rw [← e_v_t_27] at hP hD
      have hf := ho_l hf v_t_27 e_v_t_27
      refine lv_aload_n hx hb dX7_cave_30 rfl (lv_at hl 0 rfl) ?_
      refine va_get (D := (dC, dI)) (ci := 7) (v := .ref (a_t 2)) (C := RX7) (T := TX7) (N := 30) hx hb hts hw_X7 hown hK hP 0 rfl rfl 2 (by decide) (hts _ (List.mem_cons_of_mem _ mw_600)) (fun _ h9 => h9) rfl dX7_cave_31 ?_
      refine lv_aload_n hx hb dX7_cave_34 rfl (lv_at hl 0 rfl) ?_
      refine va_get (D := (dC, dI)) (ci := 7) (v := .ref (a_t 10)) (C := RX7) (T := TX7) (N := 30) hx hb hts hw_X7 hown hK hP 0 rfl rfl 10 (by decide) (hts _ (List.mem_cons_of_mem _ mw_608)) (fun _ h9 => h9) rfl dX7_cave_35 ?_
      obtain ⟨u_38, e_38, hf⟩ := ho_b hf
      have hPc := hP.sub (ws' := ([((a_t 2), .inl (cI, 15, .inl (v_t_27.2 2)))] ++ ([((a_t 10), .inl (cI, 15, .inl (v_t_27.2 10)))]))) [2, 3] rfl
      have hDc := hD.sub (ws' := ([((a_t 2), .inl (cI, 15, .inl (v_t_27.2 2)))] ++ ([((a_t 10), .inl (cI, 15, .inl (v_t_27.2 10)))]))) [2, 3] (by decide) rfl
      have hFc := va_free (wc := ([((a_t 2), .inl (cI, 15, .inl (v_t_27.2 2)))] ++ ([((a_t 10), .inl (cI, 15, .inl (v_t_27.2 10)))]))) hD hS hA [2, 3] rfl
      refine va_callv (va_runS (As := [.ref (a_t 2), .ref (a_t 10)]) (rest := []) ⟨hx, hb, hml, hown, hts⟩ (c_X7_copy l dC dI cI cII (a_t 2) 15 (a_t 10) 15 (v_t_27.2 2) (v_t_27.2 10) _ u_38 e_38) (va_cwS 2 hts (hw_giS mw_722 mw_723 mw_60 mw_724) rfl rfl rfl (by decide +kernel) ⟨Nat.le_of_ble_eq_true rfl, Nat.le_of_ble_eq_true rfl⟩) ⟨qB_blind, fun U hU hW => ⟨rfl, qB_go hPc hDc hK hN hU hW⟩⟩ rfl rfl hl.1 rfl (lv_room (Nat.le_of_ble_eq_true rfl)) dX7_cave_38 ⟨Nat.zero_le _, Nat.zero_le _⟩) hS (fun q _ h => hFc q h) hFc (fun u t H1 locs ht hvm hw hB hz1 hk1 hS => ?_)
      obtain ⟨hP1, hD1⟩ := hB
      rw [ht] at hP1
      obtain ⟨hP, hD⟩ := va_join (wr := ([(o_t, .inr (7, [.ref (a_t 0), .int (v_t_27.1 1), .ref (a_t 2), .int (v_t_27.1 3), .int (v_t_27.1 4), .int (v_t_27.1 5), .int (v_t_27.1 6), .int (v_t_27.1 7), .int (v_t_27.1 8), .int (v_t_27.1 9), .ref (a_t 10), .ref (a_t 11), .ref (a_t 12), .int (v_t_27.1 13), .int (v_t_27.1 14), .int (v_t_27.1 15), .ref (a_t 16), .ref (a_t 17), .int (v_t_27.1 18), .ref (a_t 19), .ref (a_t 20), .int (v_t_27.1 21), .ref (a_t 22), .int (v_t_27.1 23), .int (v_t_27.1 24), .int (v_t_27.1 25), .int (v_t_27.1 26), .ref (a_t 27), .ref (a_t 28), .long h_t])), (a_t 0, .inl (cI, 24, .inl (v_t_27.2 0))), (a_t 11, .inl (cI, 5, .inl (v_t_27.2 11))), (a_t 12, .inl (cI, 5, .inl (v_t_27.2 12))), (a_t 16, .inl (cI, 5, .inl (v_t_27.2 16))), (a_t 17, .inl (cI, 5, .inl (v_t_27.2 17))), (a_t 19, .inl (cI, 16, .inl (v_t_27.2 19))), (a_t 20, .inl (cI, 120, .inl (v_t_27.2 20))), (a_t 22, .inl (cI, 15, .inl (v_t_27.2 22))), (a_t 27, .inl (cI, 15, .inl (v_t_27.2 27))), (a_t 28, .inl (cI, 16, .inl (v_t_27.2 28)))])) (w1 := ([((a_t 2), .inl (cI, 15, .inl (v_t_27.2 2)))] ++ ([((a_t 10), .inl (cI, 15, .inl ((oC v_t_27 10 u_38).2 10)))]))) hP hD [2, 3] [0, 1, 4, 5, 6, 7, 8, 9, 10, 11, 12] rfl rfl (by decide) (by decide) hk1 hFc hP1 hD1
      generalize H1 = H at hP hS ⊢
      have hP : va_P (dC, dI) vwCl (wX7 o_t a_t cI (oC v_t_27 10 u_38) h_t) H := hP.sub [0, 1, 11, 12, 2, 3, 4, 5, 6, 7, 8, 9, 10] rfl
      have hD : va_D A (wX7 o_t a_t cI (oC v_t_27 10 u_38) h_t) := hD.sub [0, 1, 11, 12, 2, 3, 4, 5, 6, 7, 8, 9, 10] (by decide) rfl
      refine lv_aload_n hx hb dX7_cave_41 rfl (lv_at hl 0 rfl) ?_
      refine lv_aload_n hx hb dX7_cave_42 rfl (lv_at hl 0 rfl) ?_
      refine va_get (D := (dC, dI)) (ci := 7) (v := .int (v_t_27.1 4)) (C := RX7) (T := TX7) (N := 30) hx hb hts hw_X7 hown hK hP 0 rfl rfl 4 (by decide) (hts _ (List.mem_cons_of_mem _ mw_602)) (fun _ h9 => h9) rfl dX7_cave_43 ?_
      refine va_put (D := (dC, dI)) (ci := 7) (v := .int (v_t_27.1 4)) (ty := .int) (C := RX7) (T := TX7) (N := 30) hx hb hts hw_X7 tyX7 tyX7_ok nmX7 hown hK hP hD hS 0 rfl rfl 7 (by decide) (hts _ (List.mem_cons_of_mem _ mw_605)) (fun _ h9 => h9) rfl (by decide +kernel) rfl rfl (Nat.le_of_ble_eq_true rfl) dX7_cave_46 (fun H locs hP hD hS => ?_)
      have hP : va_P (dC, dI) vwCl (wX7 o_t a_t cI (oF (oC v_t_27 10 u_38) 7 (v_t_27.1 4)) h_t) H := hP
      have hD : va_D A (wX7 o_t a_t cI (oF (oC v_t_27 10 u_38) 7 (v_t_27.1 4)) h_t) := hD
      obtain ⟨v_t_46, e_v_t_46⟩ : ∃ z : obV, z = (oF (oC v_t_27 10 u_38) 7 (v_t_27.1 4)) := ⟨_, rfl⟩
      rw [← e_v_t_46] at hP hD
      have hf := ho_l hf v_t_46 e_v_t_46
      refine lv_aload_n hx hb dX7_cave_49 rfl (lv_at hl 0 rfl) ?_
      refine lv_iconst (v := 0) hx hb dX7_cave_50 (by decide) ?_
      refine va_put (D := (dC, dI)) (ci := 7) (v := .int 0) (ty := .int) (C := RX7) (T := TX7) (N := 30) hx hb hts hw_X7 tyX7 tyX7_ok nmX7 hown hK hP hD hS 0 rfl rfl 8 (by decide) (hts _ (List.mem_cons_of_mem _ mw_606)) (fun _ h9 => h9) rfl (by decide +kernel) rfl rfl (Nat.le_of_ble_eq_true rfl) dX7_cave_51 (fun H locs hP hD hS => ?_)
      have hP : va_P (dC, dI) vwCl (wX7 o_t a_t cI (oF v_t_46 8 0) h_t) H := hP
      have hD : va_D A (wX7 o_t a_t cI (oF v_t_46 8 0) h_t) := hD
      obtain ⟨v_t_51, e_v_t_51⟩ : ∃ z : obV, z = (oF v_t_46 8 0) := ⟨_, rfl⟩
      rw [← e_v_t_51] at hP hD
      have hf := ho_l hf v_t_51 e_v_t_51
      refine lv_aload_n hx hb dX7_cave_54 rfl (lv_at hl 0 rfl) ?_
      refine lv_iconst (v := 0) hx hb dX7_cave_55 (by decide) ?_
      refine va_put (D := (dC, dI)) (ci := 7) (v := .int 0) (ty := .int) (C := RX7) (T := TX7) (N := 30) hx hb hts hw_X7 tyX7 tyX7_ok nmX7 hown hK hP hD hS 0 rfl rfl 18 (by decide) (hts _ (List.mem_cons_of_mem _ mw_616)) (fun _ h9 => h9) rfl (by decide +kernel) rfl rfl (Nat.le_of_ble_eq_true rfl) dX7_cave_56 (fun H locs hP hD hS => ?_)
      have hP : va_P (dC, dI) vwCl (wX7 o_t a_t cI (oF v_t_51 18 0) h_t) H := hP
      have hD : va_D A (wX7 o_t a_t cI (oF v_t_51 18 0) h_t) := hD
      obtain ⟨v_t_56, e_v_t_56⟩ : ∃ z : obV, z = (oF v_t_51 18 0) := ⟨_, rfl⟩
      rw [← e_v_t_56] at hP hD
      have hf := ho_l hf v_t_56 e_v_t_56
      refine lv_aload_n hx hb dX7_cave_59 rfl (lv_at hl 0 rfl) ?_
      refine lv_dup hx hb dX7_cave_60 rfl ?_
      refine va_get (D := (dC, dI)) (ci := 7) (v := .int (v_t_56.1 9)) (C := RX7) (T := TX7) (N := 30) hx hb hts hw_X7 hown hK hP 0 rfl rfl 9 (by decide) (hts _ (List.mem_cons_of_mem _ mw_607)) (fun _ h9 => h9) rfl dX7_cave_61 ?_
      refine lv_iconst (v := 1) hx hb dX7_cave_64 (by decide) ?_
      refine lv_iadd hx hb dX7_cave_65 ?_
      refine va_put (D := (dC, dI)) (ci := 7) (v := .int ((v_t_56.1 9) + 1)) (ty := .int) (C := RX7) (T := TX7) (N := 30) hx hb hts hw_X7 tyX7 tyX7_ok nmX7 hown hK hP hD hS 0 rfl rfl 9 (by decide) (hts _ (List.mem_cons_of_mem _ mw_607)) (fun _ h9 => h9) rfl (by decide +kernel) rfl rfl (Nat.le_of_ble_eq_true rfl) dX7_cave_66 (fun H locs hP hD hS => ?_)
      have hP : va_P (dC, dI) vwCl (wX7 o_t a_t cI (oF v_t_56 9 ((v_t_56.1 9) + 1)) h_t) H := hP
      have hD : va_D A (wX7 o_t a_t cI (oF v_t_56 9 ((v_t_56.1 9) + 1)) h_t) := hD
      obtain ⟨v_t_66, e_v_t_66⟩ : ∃ z : obV, z = (oF v_t_56 9 ((v_t_56.1 9) + 1)) := ⟨_, rfl⟩
      rw [← e_v_t_66] at hP hD
      have hf := ho_l hf v_t_66 e_v_t_66
      refine lv_aload_n hx hb dX7_cave_69 rfl (lv_at hl 0 rfl) ?_
      refine lv_iconst (v := 0) hx hb dX7_cave_70 (by decide) ?_
      refine va_put (D := (dC, dI)) (ci := 7) (v := .int 0) (ty := .int) (C := RX7) (T := TX7) (N := 30) hx hb hts hw_X7 tyX7 tyX7_ok nmX7 hown hK hP hD hS 0 rfl rfl 1 (by decide) (hts _ (List.mem_cons_of_mem _ mw_599)) (fun _ h9 => h9) rfl (by decide +kernel) rfl rfl (Nat.le_of_ble_eq_true rfl) dX7_cave_71 (fun H locs hP hD hS => ?_)
      have hP : va_P (dC, dI) vwCl (wX7 o_t a_t cI (oF v_t_66 1 0) h_t) H := hP
      have hD : va_D A (wX7 o_t a_t cI (oF v_t_66 1 0) h_t) := hD
      obtain ⟨v_t_71, e_v_t_71⟩ : ∃ z : obV, z = (oF v_t_66 1 0) := ⟨_, rfl⟩
      rw [← e_v_t_71] at hP hD
      have hf := ho_l hf v_t_71 e_v_t_71
      refine lv_aload_n hx hb dX7_cave_74 rfl (lv_at hl 0 rfl) ?_
      refine va_get (D := (dC, dI)) (ci := 7) (v := .int (v_t_71.1 6)) (C := RX7) (T := TX7) (N := 30) hx hb hts hw_X7 hown hK hP 0 rfl rfl 6 (by decide) (hts _ (List.mem_cons_of_mem _ mw_604)) (fun _ h9 => h9) rfl dX7_cave_75 ?_
      obtain rfl := Option.some.inj hf
      exact W.iret (v := (v_t_71.1 6)) hx hb hr (fun t ht hW => ⟨⟨_, (), rfl, rfl, by rw [ht]; exact hP, hD⟩, hS.F ht⟩) hS.2.2 dX7_cave_78 hlocks
    · have hf := ho_f hf c_16
      refine lv_bipush (v := (-103)) hx hb dX7_cave_19 (by decide) ?_
      obtain rfl := Option.some.inj hf
      exact W.iret (v := (-103)) hx hb hr (fun t ht hW => ⟨⟨_, (), rfl, rfl, by rw [ht]; exact hP, hD⟩, hS.F ht⟩) hS.2.2 dX7_cave_21 hlocks
set_option maxHeartbeats 4000000 in
set_option maxRecDepth 100000 in
theorem c_X7_lacks (l : Launch) (dC : Nat → ClassId) (dI : Nat → Nat → Nat) (cI cII : ClassId) (o_t : Nat) (a_t : Nat → Nat) (v_t : obV) (h_t : Int64)  (r : Int32) (hf : f_X7_lacks  v_t  = some r) :
    Met l yX7_lacks (wd yX7_lacks cX7_lacks 1 (some .boolean)) ({ frames := 0, cells := 0, slots := 0, locals := 0 } : Room) (va_Pc [.ref o_t] (pB (dC, dI) vwCl (wX7 o_t a_t cI v_t h_t) (hTY cI cII))) (vp_Si (fun z => r = z)) 0 0 (fun _ => False) := by
  refine Met.ofW (cc := cX7_lacks) (maxL := 1) (ret := (some .boolean)) (by decide) rfl ?_
  intro p e s m args below meth c s₁ B hml hv
  obtain ⟨rfl, hP, hK, hN⟩ := hv
  have hx := B.exec
  have hb := B.bytes
  have hr := B.returns
  have hts := atoms_spec (ws := (wd yX7_lacks cX7_lacks 1 (some .boolean))) B.pre
  have hown : s.vm.findClass RX7 = some m.cls := findClass_of_methodNamed B.named
  have hlocks := B.notSynchronized
  have hl := lv_entry ([.ref o_t]) (n := 1) (Nat.le_of_ble_eq_true rfl)
  rw [lg_entry_eq]
  generalize (lg_sl ([.ref o_t]) ++ List.replicate (1 - (lg_sl ([.ref o_t])).length) Slot.unset).toArray = ls at hl ⊢
  have hl : lv_has ls 1 [(0, .ref o_t)] := hl
  unfold f_X7_lacks at hf
  refine lv_aload_n hx hb dX7_lacks_0 rfl (lv_at hl 0 rfl) ?_
  refine va_get (D := (dC, dI)) (ci := 7) (v := .int (v_t.1 6)) (C := RX7) (T := TX7) (N := 30) hx hb hts hw_X7 hown hK hP 0 rfl rfl 6 (by decide) (hts _ (List.mem_cons_of_mem _ mw_604)) (fun _ h9 => h9) rfl dX7_lacks_1 ?_
  refine lv_if_ne (tgt := 11) hx hb dX7_lacks_4 (by decide) (fun c_4 => ?_) (fun c_4 => ?_)
  · have hf := ho_f hf c_4
    refine lv_iconst (v := 0) hx hb dX7_lacks_11 (by decide) ?_
    obtain rfl := Option.some.inj hf
    exact W.zret (v := 0) hx hb hr (by decide) (fun t ht hW => ⟨_, rfl, rfl, ht⟩) (fun q hq => by cases hq) dX7_lacks_12 hlocks
  · have hf := ho_t hf c_4
    refine lv_iconst (v := 1) hx hb dX7_lacks_7 (by decide) ?_
    refine lv_goto (tgt := 12) hx hb dX7_lacks_8 (by decide) ?_
    obtain rfl := Option.some.inj hf
    exact W.zret (v := 1) hx hb hr (by decide) (fun t ht hW => ⟨_, rfl, rfl, ht⟩) (fun q hq => by cases hq) dX7_lacks_12 hlocks
set_option maxHeartbeats 4000000 in
set_option maxRecDepth 100000 in
theorem c_X7_isPilgrim (l : Launch) (dC : Nat → ClassId) (dI : Nat → Nat → Nat) (cI cII : ClassId) (o_t : Nat) (a_t : Nat → Nat) (v_t : obV) (h_t : Int64) (x1 : Int32) (r : Int32) (hf : f_X7_isPilgrim  v_t x1 = some r) :
    Met l yX7_isPilgrim (wd yX7_isPilgrim cX7_isPilgrim 2 (some .boolean)) ({ frames := 1, cells := 0, slots := 0, locals := 25 } : Room) (va_Pc [.ref o_t, .int x1] (pB (dC, dI) vwCl (wX7 o_t a_t cI v_t h_t) (hTY cI cII))) (vp_Si (fun z => r = z)) 0 0 (fun _ => False) := by
  refine Met.ofW (cc := cX7_isPilgrim) (maxL := 2) (ret := (some .boolean)) (by decide) rfl ?_
  intro p e s m args below meth c s₁ B hml hv
  obtain ⟨rfl, hP, hK, hN⟩ := hv
  have hx := B.exec
  have hb := B.bytes
  have hr := B.returns
  have hts := atoms_spec (ws := (wd yX7_isPilgrim cX7_isPilgrim 2 (some .boolean))) B.pre
  have hown : s.vm.findClass RX7 = some m.cls := findClass_of_methodNamed B.named
  have hlocks := B.notSynchronized
  have hl := lv_entry ([.ref o_t, .int x1]) (n := 2) (Nat.le_of_ble_eq_true rfl)
  rw [lg_entry_eq]
  generalize (lg_sl ([.ref o_t, .int x1]) ++ List.replicate (2 - (lg_sl ([.ref o_t, .int x1])).length) Slot.unset).toArray = ls at hl ⊢
  have hl : lv_has ls 2 [(0, .ref o_t), (1, .int x1)] := hl
  unfold f_X7_isPilgrim at hf
  refine lv_iload_n hx hb dX7_isPilgrim_0 rfl (lv_at hl 1 rfl) ?_
  refine lv_i2l (v := (Int32.toInt64 x1)) hx hb dX7_isPilgrim_1 rfl ?_
  refine lv_lconst (v := 0) hx hb dX7_isPilgrim_2 (by decide) ?_
  refine lv_aload_n hx hb dX7_isPilgrim_3 rfl (lv_at hl 0 rfl) ?_
  refine va_get (D := (dC, dI)) (ci := 7) (v := .int (v_t.1 6)) (C := RX7) (T := TX7) (N := 30) hx hb hts hw_X7 hown hK hP 0 rfl rfl 6 (by decide) (hts _ (List.mem_cons_of_mem _ mw_604)) (fun _ h9 => h9) rfl dX7_isPilgrim_4 ?_
  refine lv_iconst (v := 1) hx hb dX7_isPilgrim_7 (by decide) ?_
  refine lv_isub hx hb dX7_isPilgrim_8 ?_
  refine lv_i2l (v := (Int32.toInt64 ((v_t.1 6) - 1))) hx hb dX7_isPilgrim_9 rfl ?_
  obtain ⟨u_10, e_10, hf⟩ := ho_b hf
  have hPc := hP.sub (ws' := ([] : va_W)) [] rfl
  refine vp_callSi (va_runS (As := [.long (Int32.toInt64 x1), .long 0, .long (Int32.toInt64 ((v_t.1 6) - 1))]) (rest := []) ⟨hx, hb, hml, hown, hts⟩ (c_X7_in l dC dI cI cII ((Int32.toInt64 x1)) (0) ((Int32.toInt64 ((v_t.1 6) - 1))) u_10 e_10) (va_cwS 3 hts (hw_giS mw_694 mw_695 mw_60 mw_696) rfl rfl rfl (by decide +kernel) ⟨Nat.le_of_ble_eq_true rfl, Nat.le_of_ble_eq_true rfl⟩) ⟨pB_blind, fun U hU hW => ⟨rfl, pB_go hPc hK hN hU hW⟩⟩ rfl rfl hl.1 rfl (lv_room (Nat.le_of_ble_eq_true rfl)) dX7_isPilgrim_10 ⟨Nat.zero_le _, Nat.zero_le _⟩).run (fun z_10 ez_10 => ?_)
  subst ez_10
  obtain ⟨h_13, hf⟩ := ho_g hf
  obtain rfl := Option.some.inj hf
  exact W.zret (v := u_10) hx hb hr (hp_z h_13) (fun t ht hW => ⟨_, rfl, rfl, ht⟩) (fun q hq => by cases hq) dX7_isPilgrim_13 hlocks
set_option maxHeartbeats 4000000 in
set_option maxRecDepth 100000 in
theorem c_X7_staysOf (l : Launch) (dC : Nat → ClassId) (dI : Nat → Nat → Nat) (cI cII : ClassId) (o_t : Nat) (a_t : Nat → Nat) (v_t : obV) (h_t : Int64) (x1 : Int32) (r : Int32) (hf : f_X7_staysOf  v_t x1 = some r) :
    Met l yX7_staysOf (wd yX7_staysOf cX7_staysOf 2 (some .int)) ({ frames := 0, cells := 0, slots := 0, locals := 0 } : Room) (va_Pc [.ref o_t, .int x1] (pB (dC, dI) vwCl (wX7 o_t a_t cI v_t h_t) (hTY cI cII))) (vp_Si (fun z => r = z)) 0 0 (fun _ => False) := by
  refine Met.ofW (cc := cX7_staysOf) (maxL := 2) (ret := (some .int)) (by decide) rfl ?_
  intro p e s m args below meth c s₁ B hml hv
  obtain ⟨rfl, hP, hK, hN⟩ := hv
  have hx := B.exec
  have hb := B.bytes
  have hr := B.returns
  have hts := atoms_spec (ws := (wd yX7_staysOf cX7_staysOf 2 (some .int))) B.pre
  have hown : s.vm.findClass RX7 = some m.cls := findClass_of_methodNamed B.named
  have hlocks := B.notSynchronized
  have hl := lv_entry ([.ref o_t, .int x1]) (n := 2) (Nat.le_of_ble_eq_true rfl)
  rw [lg_entry_eq]
  generalize (lg_sl ([.ref o_t, .int x1]) ++ List.replicate (2 - (lg_sl ([.ref o_t, .int x1])).length) Slot.unset).toArray = ls at hl ⊢
  have hl : lv_has ls 2 [(0, .ref o_t), (1, .int x1)] := hl
  unfold f_X7_staysOf at hf
  refine lv_aload_n hx hb dX7_staysOf_0 rfl (lv_at hl 0 rfl) ?_
  refine va_get (D := (dC, dI)) (ci := 7) (v := .ref (a_t 10)) (C := RX7) (T := TX7) (N := 30) hx hb hts hw_X7 hown hK hP 0 rfl rfl 10 (by decide) (hts _ (List.mem_cons_of_mem _ mw_608)) (fun _ h9 => h9) rfl dX7_staysOf_1 ?_
  refine lv_iconst (v := 3) hx hb dX7_staysOf_4 (by decide) ?_
  refine lv_iload_n hx hb dX7_staysOf_5 rfl (lv_at hl 1 rfl) ?_
  refine lv_imul hx hb dX7_staysOf_6 ?_
  obtain ⟨h_7, hf⟩ := ho_g hf
  refine va_iald (n := 15) (f := (v_t.2 10)) hx hb hK hP 3 0 rfl rfl h_7 dX7_staysOf_7 ?_
  refine lv_iconst (v := 1) hx hb dX7_staysOf_8 (by decide) ?_
  refine lv_icmp_eq (tgt := 24) hx hb dX7_staysOf_9 (by decide) (fun c_9 => ?_) (fun c_9 => ?_)
  · have hf := ho_t hf c_9
    refine lv_iconst (v := 2) hx hb dX7_staysOf_24 (by decide) ?_
    refine lv_goto (tgt := 29) hx hb dX7_staysOf_25 (by decide) ?_
    obtain rfl := Option.some.inj hf
    exact W.iret (v := 2) hx hb hr (fun t ht hW => ⟨_, rfl, rfl, ht⟩) (fun q hq => by cases hq) dX7_staysOf_29 hlocks
  · have hf := ho_f hf c_9
    refine lv_aload_n hx hb dX7_staysOf_12 rfl (lv_at hl 0 rfl) ?_
    refine va_get (D := (dC, dI)) (ci := 7) (v := .ref (a_t 10)) (C := RX7) (T := TX7) (N := 30) hx hb hts hw_X7 hown hK hP 0 rfl rfl 10 (by decide) (hts _ (List.mem_cons_of_mem _ mw_608)) (fun _ h9 => h9) rfl dX7_staysOf_13 ?_
    refine lv_iconst (v := 3) hx hb dX7_staysOf_16 (by decide) ?_
    refine lv_iload_n hx hb dX7_staysOf_17 rfl (lv_at hl 1 rfl) ?_
    refine lv_imul hx hb dX7_staysOf_18 ?_
    obtain ⟨h_19, hf⟩ := ho_g hf
    refine va_iald (n := 15) (f := (v_t.2 10)) hx hb hK hP 3 0 rfl rfl h_19 dX7_staysOf_19 ?_
    refine lv_iconst (v := 4) hx hb dX7_staysOf_20 (by decide) ?_
    refine lv_icmp_ne (tgt := 28) hx hb dX7_staysOf_21 (by decide) (fun c_21 => ?_) (fun c_21 => ?_)
    · have hf := ho_f hf c_21
      refine lv_iconst (v := 1) hx hb dX7_staysOf_28 (by decide) ?_
      obtain rfl := Option.some.inj hf
      exact W.iret (v := 1) hx hb hr (fun t ht hW => ⟨_, rfl, rfl, ht⟩) (fun q hq => by cases hq) dX7_staysOf_29 hlocks
    · have hf := ho_t hf c_21
      refine lv_iconst (v := 2) hx hb dX7_staysOf_24 (by decide) ?_
      refine lv_goto (tgt := 29) hx hb dX7_staysOf_25 (by decide) ?_
      obtain rfl := Option.some.inj hf
      exact W.iret (v := 2) hx hb hr (fun t ht hW => ⟨_, rfl, rfl, ht⟩) (fun q hq => by cases hq) dX7_staysOf_29 hlocks
set_option maxHeartbeats 4000000 in
set_option maxRecDepth 100000 in
theorem c_X7_wearsOf (l : Launch) (dC : Nat → ClassId) (dI : Nat → Nat → Nat) (cI cII : ClassId) (o_t : Nat) (a_t : Nat → Nat) (v_t : obV) (h_t : Int64) (x1 : Int32) (r : Int32) (hf : f_X7_wearsOf  v_t x1 = some r) :
    Met l yX7_wearsOf (wd yX7_wearsOf cX7_wearsOf 2 (some .int)) ({ frames := 0, cells := 0, slots := 0, locals := 0 } : Room) (va_Pc [.ref o_t, .int x1] (pB (dC, dI) vwCl (wX7 o_t a_t cI v_t h_t) (hTY cI cII))) (vp_Si (fun z => r = z)) 0 0 (fun _ => False) := by
  refine Met.ofW (cc := cX7_wearsOf) (maxL := 2) (ret := (some .int)) (by decide) rfl ?_
  intro p e s m args below meth c s₁ B hml hv
  obtain ⟨rfl, hP, hK, hN⟩ := hv
  have hx := B.exec
  have hb := B.bytes
  have hr := B.returns
  have hts := atoms_spec (ws := (wd yX7_wearsOf cX7_wearsOf 2 (some .int))) B.pre
  have hown : s.vm.findClass RX7 = some m.cls := findClass_of_methodNamed B.named
  have hlocks := B.notSynchronized
  have hl := lv_entry ([.ref o_t, .int x1]) (n := 2) (Nat.le_of_ble_eq_true rfl)
  rw [lg_entry_eq]
  generalize (lg_sl ([.ref o_t, .int x1]) ++ List.replicate (2 - (lg_sl ([.ref o_t, .int x1])).length) Slot.unset).toArray = ls at hl ⊢
  have hl : lv_has ls 2 [(0, .ref o_t), (1, .int x1)] := hl
  unfold f_X7_wearsOf at hf
  refine lv_aload_n hx hb dX7_wearsOf_0 rfl (lv_at hl 0 rfl) ?_
  refine va_get (D := (dC, dI)) (ci := 7) (v := .ref (a_t 10)) (C := RX7) (T := TX7) (N := 30) hx hb hts hw_X7 hown hK hP 0 rfl rfl 10 (by decide) (hts _ (List.mem_cons_of_mem _ mw_608)) (fun _ h9 => h9) rfl dX7_wearsOf_1 ?_
  refine lv_iconst (v := 3) hx hb dX7_wearsOf_4 (by decide) ?_
  refine lv_iload_n hx hb dX7_wearsOf_5 rfl (lv_at hl 1 rfl) ?_
  refine lv_imul hx hb dX7_wearsOf_6 ?_
  obtain ⟨h_7, hf⟩ := ho_g hf
  refine va_iald (n := 15) (f := (v_t.2 10)) hx hb hK hP 3 0 rfl rfl h_7 dX7_wearsOf_7 ?_
  refine lv_iconst (v := 3) hx hb dX7_wearsOf_8 (by decide) ?_
  refine lv_icmp_ne (tgt := 16) hx hb dX7_wearsOf_9 (by decide) (fun c_9 => ?_) (fun c_9 => ?_)
  · have hf := ho_f hf c_9
    refine lv_iconst (v := 1) hx hb dX7_wearsOf_16 (by decide) ?_
    obtain rfl := Option.some.inj hf
    exact W.iret (v := 1) hx hb hr (fun t ht hW => ⟨_, rfl, rfl, ht⟩) (fun q hq => by cases hq) dX7_wearsOf_17 hlocks
  · have hf := ho_t hf c_9
    refine lv_iconst (v := 3) hx hb dX7_wearsOf_12 (by decide) ?_
    refine lv_goto (tgt := 17) hx hb dX7_wearsOf_13 (by decide) ?_
    obtain rfl := Option.some.inj hf
    exact W.iret (v := 3) hx hb hr (fun t ht hW => ⟨_, rfl, rfl, ht⟩) (fun q hq => by cases hq) dX7_wearsOf_17 hlocks
set_option maxHeartbeats 4000000 in
set_option maxRecDepth 100000 in
theorem c_X7_isPeer (l : Launch) (dC : Nat → ClassId) (dI : Nat → Nat → Nat) (cI cII : ClassId) (o_t : Nat) (a_t : Nat → Nat) (v_t : obV) (h_t : Int64) (x1 : Int32) (r : Int32) (hf : f_X7_isPeer  v_t x1 = some r) :
    Met l yX7_isPeer (wd yX7_isPeer cX7_isPeer 2 (some .boolean)) ({ frames := 0, cells := 0, slots := 0, locals := 0 } : Room) (va_Pc [.ref o_t, .int x1] (pB (dC, dI) vwCl (wX7 o_t a_t cI v_t h_t) (hTY cI cII))) (vp_Si (fun z => r = z)) 0 0 (fun _ => False) := by
  refine Met.ofW (cc := cX7_isPeer) (maxL := 2) (ret := (some .boolean)) (by decide) rfl ?_
  intro p e s m args below meth c s₁ B hml hv
  obtain ⟨rfl, hP, hK, hN⟩ := hv
  have hx := B.exec
  have hb := B.bytes
  have hr := B.returns
  have hts := atoms_spec (ws := (wd yX7_isPeer cX7_isPeer 2 (some .boolean))) B.pre
  have hown : s.vm.findClass RX7 = some m.cls := findClass_of_methodNamed B.named
  have hlocks := B.notSynchronized
  have hl := lv_entry ([.ref o_t, .int x1]) (n := 2) (Nat.le_of_ble_eq_true rfl)
  rw [lg_entry_eq]
  generalize (lg_sl ([.ref o_t, .int x1]) ++ List.replicate (2 - (lg_sl ([.ref o_t, .int x1])).length) Slot.unset).toArray = ls at hl ⊢
  have hl : lv_has ls 2 [(0, .ref o_t), (1, .int x1)] := hl
  unfold f_X7_isPeer at hf
  refine lv_aload_n hx hb dX7_isPeer_0 rfl (lv_at hl 0 rfl) ?_
  refine va_get (D := (dC, dI)) (ci := 7) (v := .ref (a_t 10)) (C := RX7) (T := TX7) (N := 30) hx hb hts hw_X7 hown hK hP 0 rfl rfl 10 (by decide) (hts _ (List.mem_cons_of_mem _ mw_608)) (fun _ h9 => h9) rfl dX7_isPeer_1 ?_
  refine lv_iconst (v := 3) hx hb dX7_isPeer_4 (by decide) ?_
  refine lv_iload_n hx hb dX7_isPeer_5 rfl (lv_at hl 1 rfl) ?_
  refine lv_imul hx hb dX7_isPeer_6 ?_
  obtain ⟨h_7, hf⟩ := ho_g hf
  refine va_iald (n := 15) (f := (v_t.2 10)) hx hb hK hP 3 0 rfl rfl h_7 dX7_isPeer_7 ?_
  refine lv_iconst (v := 2) hx hb dX7_isPeer_8 (by decide) ?_
  refine lv_icmp_eq (tgt := 24) hx hb dX7_isPeer_9 (by decide) (fun c_9 => ?_) (fun c_9 => ?_)
  · have hf := ho_t hf c_9
    refine lv_iconst (v := 1) hx hb dX7_isPeer_24 (by decide) ?_
    refine lv_goto (tgt := 29) hx hb dX7_isPeer_25 (by decide) ?_
    obtain rfl := Option.some.inj hf
    exact W.zret (v := 1) hx hb hr (by decide) (fun t ht hW => ⟨_, rfl, rfl, ht⟩) (fun q hq => by cases hq) dX7_isPeer_29 hlocks
  · have hf := ho_f hf c_9
    refine lv_aload_n hx hb dX7_isPeer_12 rfl (lv_at hl 0 rfl) ?_
    refine va_get (D := (dC, dI)) (ci := 7) (v := .ref (a_t 10)) (C := RX7) (T := TX7) (N := 30) hx hb hts hw_X7 hown hK hP 0 rfl rfl 10 (by decide) (hts _ (List.mem_cons_of_mem _ mw_608)) (fun _ h9 => h9) rfl dX7_isPeer_13 ?_
    refine lv_iconst (v := 3) hx hb dX7_isPeer_16 (by decide) ?_
    refine lv_iload_n hx hb dX7_isPeer_17 rfl (lv_at hl 1 rfl) ?_
    refine lv_imul hx hb dX7_isPeer_18 ?_
    obtain ⟨h_19, hf⟩ := ho_g hf
    refine va_iald (n := 15) (f := (v_t.2 10)) hx hb hK hP 3 0 rfl rfl h_19 dX7_isPeer_19 ?_
    refine lv_iconst (v := 4) hx hb dX7_isPeer_20 (by decide) ?_
    refine lv_icmp_ne (tgt := 28) hx hb dX7_isPeer_21 (by decide) (fun c_21 => ?_) (fun c_21 => ?_)
    · have hf := ho_f hf c_21
      refine lv_iconst (v := 0) hx hb dX7_isPeer_28 (by decide) ?_
      obtain rfl := Option.some.inj hf
      exact W.zret (v := 0) hx hb hr (by decide) (fun t ht hW => ⟨_, rfl, rfl, ht⟩) (fun q hq => by cases hq) dX7_isPeer_29 hlocks
    · have hf := ho_t hf c_21
      refine lv_iconst (v := 1) hx hb dX7_isPeer_24 (by decide) ?_
      refine lv_goto (tgt := 29) hx hb dX7_isPeer_25 (by decide) ?_
      obtain rfl := Option.some.inj hf
      exact W.zret (v := 1) hx hb hr (by decide) (fun t ht hW => ⟨_, rfl, rfl, ht⟩) (fun q hq => by cases hq) dX7_isPeer_29 hlocks
set_option maxHeartbeats 4000000 in
set_option maxRecDepth 100000 in
theorem w_X7_sayingFor_b31 {p : Program} {l : Launch} {e : Env} {s : State} {m : MethodId} {args : Array Value} {below : List Frame} {meth : Method} {c : Code} {dC : Nat → ClassId} {dI : Nat → Nat → Nat} {cI cII : ClassId} {o_t : Nat} {a_t : Nat → Nat} (C0 : hC p s m args meth c dC dI cI cII RX7 cX7_sayingFor 6 (wd yX7_sayingFor cX7_sayingFor 6 (some .int)) (some .int)) {h_t : Int64} {v_t : obV} {x4 : Int32} {s0 : Int32}   (hP : va_P (dC, dI) vwCl (wX7 o_t a_t cI v_t h_t) s.heap) {r : Int32} (hf : f_X7_sayingFor_b31  v_t x4 s0  = some r) {ls : Array Slot} (hl : lv_has ls 6 [(0, .ref o_t), (4, .int x4)]) :
    W p l e ({ frames := 0, cells := 0, slots := 0, locals := 0 } : Room) s m args below meth c s.heap [] 0 0 (MQ below (vp_Si (fun z => r = z)) args s 0 0 (fun _ => False)) (F0 m 31 ls [.int s0]) := by
  obtain ⟨hx, hb, hml, hown, hts, hr, hlocks, hK, hN⟩ := C0
  unfold f_X7_sayingFor_b31 at hf
  refine lv_istore (lv' := [(5, .int s0), (0, .ref o_t), (4, .int x4)]) hx hb dX7_sayingFor_31 hl (by decide) rfl (fun ls hl => ?_)
  refine lv_aload_n hx hb dX7_sayingFor_33 rfl (lv_at hl 1 rfl) ?_
  refine va_get (D := (dC, dI)) (ci := 7) (v := .int (v_t.1 15)) (C := RX7) (T := TX7) (N := 30) hx hb hts hw_X7 hown hK hP 0 rfl rfl 15 (by decide) (hts _ (List.mem_cons_of_mem _ mw_613)) (fun _ h9 => h9) rfl dX7_sayingFor_34 ?_
  refine lv_iload hx hb dX7_sayingFor_37 (lv_at hl 2 rfl) ?_
  refine lv_ishr hx hb dX7_sayingFor_39 ?_
  refine lv_iconst (v := 1) hx hb dX7_sayingFor_40 (by decide) ?_
  refine lv_iand hx hb dX7_sayingFor_41 ?_
  refine lv_if_ne (tgt := 50) hx hb dX7_sayingFor_42 (by decide) (fun c_42 => ?_) (fun c_42 => ?_)
  · have hf := ho_f hf c_42
    refine lv_aload_n hx hb dX7_sayingFor_50 rfl (lv_at hl 1 rfl) ?_
    refine va_get (D := (dC, dI)) (ci := 7) (v := .int (v_t.1 15)) (C := RX7) (T := TX7) (N := 30) hx hb hts hw_X7 hown hK hP 0 rfl rfl 15 (by decide) (hts _ (List.mem_cons_of_mem _ mw_613)) (fun _ h9 => h9) rfl dX7_sayingFor_51 ?_
    refine lv_iload hx hb dX7_sayingFor_54 (lv_at hl 0 rfl) ?_
    refine lv_ishr hx hb dX7_sayingFor_56 ?_
    refine lv_iconst (v := 1) hx hb dX7_sayingFor_57 (by decide) ?_
    refine lv_iand hx hb dX7_sayingFor_58 ?_
    refine lv_if_ne (tgt := 67) hx hb dX7_sayingFor_59 (by decide) (fun c_59 => ?_) (fun c_59 => ?_)
    · have hf := ho_f hf c_59
      refine lv_iconst (v := (-1)) hx hb dX7_sayingFor_67 (by decide) ?_
      obtain rfl := Option.some.inj hf
      exact W.iret (v := (-1)) hx hb hr (fun t ht hW => ⟨_, rfl, rfl, ht⟩) (fun q hq => by cases hq) dX7_sayingFor_68 hlocks
    · have hf := ho_t hf c_59
      refine lv_iload hx hb dX7_sayingFor_62 (lv_at hl 0 rfl) ?_
      refine lv_goto (tgt := 68) hx hb dX7_sayingFor_64 (by decide) ?_
      obtain rfl := Option.some.inj hf
      exact W.iret (v := s0) hx hb hr (fun t ht hW => ⟨_, rfl, rfl, ht⟩) (fun q hq => by cases hq) dX7_sayingFor_68 hlocks
  · have hf := ho_t hf c_42
    refine lv_iload hx hb dX7_sayingFor_45 (lv_at hl 2 rfl) ?_
    refine lv_goto (tgt := 68) hx hb dX7_sayingFor_47 (by decide) ?_
    obtain rfl := Option.some.inj hf
    exact W.iret (v := x4) hx hb hr (fun t ht hW => ⟨_, rfl, rfl, ht⟩) (fun q hq => by cases hq) dX7_sayingFor_68 hlocks
set_option maxHeartbeats 4000000 in
set_option maxRecDepth 100000 in
theorem w_X7_sayingFor_b19 {p : Program} {l : Launch} {e : Env} {s : State} {m : MethodId} {args : Array Value} {below : List Frame} {meth : Method} {c : Code} {dC : Nat → ClassId} {dI : Nat → Nat → Nat} {cI cII : ClassId} {o_t : Nat} {a_t : Nat → Nat} (C0 : hC p s m args meth c dC dI cI cII RX7 cX7_sayingFor 6 (wd yX7_sayingFor cX7_sayingFor 6 (some .int)) (some .int)) {h_t : Int64} {v_t : obV} {x2 : Int32} {x3 : Int32} {s0 : Int32}   (hP : va_P (dC, dI) vwCl (wX7 o_t a_t cI v_t h_t) s.heap) {r : Int32} (hf : f_X7_sayingFor_b19  v_t x2 x3 s0  = some r) {ls : Array Slot} (hl : lv_has ls 6 [(0, .ref o_t), (2, .int x2), (3, .int x3)]) :
    W p l e ({ frames := 0, cells := 0, slots := 0, locals := 0 } : Room) s m args below meth c s.heap [] 0 0 (MQ below (vp_Si (fun z => r = z)) args s 0 0 (fun _ => False)) (F0 m 19 ls [.int s0]) := by
  obtain ⟨hx, hb, hml, hown, hts, hr, hlocks, hK, hN⟩ := C0
  unfold f_X7_sayingFor_b19 at hf
  refine lv_istore (lv' := [(4, .int s0), (0, .ref o_t), (2, .int x2), (3, .int x3)]) hx hb dX7_sayingFor_19 hl (by decide) rfl (fun ls hl => ?_)
  refine lv_iload_n hx hb dX7_sayingFor_21 rfl (lv_at hl 2 rfl) ?_
  refine lv_iload_n hx hb dX7_sayingFor_22 rfl (lv_at hl 3 rfl) ?_
  refine lv_icmp_ge (tgt := 30) hx hb dX7_sayingFor_23 (by decide) (fun c_23 => ?_) (fun c_23 => ?_)
  · have hf := ho_t hf c_23
    refine lv_iload_n hx hb dX7_sayingFor_30 rfl (lv_at hl 2 rfl) ?_
    exact w_X7_sayingFor_b31 ⟨hx, hb, hml, hown, hts, hr, hlocks, hK, hN⟩  hP hf (lv_sub hl [1, 0] rfl)
  · have hf := ho_f hf c_23
    refine lv_iload_n hx hb dX7_sayingFor_26 rfl (lv_at hl 3 rfl) ?_
    refine lv_goto (tgt := 31) hx hb dX7_sayingFor_27 (by decide) ?_
    exact w_X7_sayingFor_b31 ⟨hx, hb, hml, hown, hts, hr, hlocks, hK, hN⟩  hP hf (lv_sub hl [1, 0] rfl)
set_option maxHeartbeats 4000000 in
set_option maxRecDepth 100000 in
theorem c_X7_sayingFor (l : Launch) (dC : Nat → ClassId) (dI : Nat → Nat → Nat) (cI cII : ClassId) (o_t : Nat) (a_t : Nat → Nat) (v_t : obV) (h_t : Int64) (x1 : Int32) (r : Int32) (hf : f_X7_sayingFor  v_t x1 = some r) :
    Met l yX7_sayingFor (wd yX7_sayingFor cX7_sayingFor 6 (some .int)) ({ frames := 0, cells := 0, slots := 0, locals := 0 } : Room) (va_Pc [.ref o_t, .int x1] (pB (dC, dI) vwCl (wX7 o_t a_t cI v_t h_t) (hTY cI cII))) (vp_Si (fun z => r = z)) 0 0 (fun _ => False) := by
  refine Met.ofW (cc := cX7_sayingFor) (maxL := 6) (ret := (some .int)) (by decide) rfl ?_
  intro p e s m args below meth c s₁ B hml hv
  obtain ⟨rfl, hP, hK, hN⟩ := hv
  have hx := B.exec
  have hb := B.bytes
  have hr := B.returns
  have hts := atoms_spec (ws := (wd yX7_sayingFor cX7_sayingFor 6 (some .int))) B.pre
  have hown : s.vm.findClass RX7 = some m.cls := findClass_of_methodNamed B.named
  have hlocks := B.notSynchronized
  have hl := lv_entry ([.ref o_t, .int x1]) (n := 6) (Nat.le_of_ble_eq_true rfl)
  rw [lg_entry_eq]
  generalize (lg_sl ([.ref o_t, .int x1]) ++ List.replicate (6 - (lg_sl ([.ref o_t, .int x1])).length) Slot.unset).toArray = ls at hl ⊢
  have hl : lv_has ls 6 [(0, .ref o_t), (1, .int x1)] := hl
  unfold f_X7_sayingFor at hf
  refine lv_iload_n hx hb dX7_sayingFor_0 rfl (lv_at hl 1 rfl) ?_
  refine lv_istore_n (lv' := [(2, .int x1), (0, .ref o_t), (1, .int x1)]) hx hb dX7_sayingFor_1 rfl hl (by decide) rfl (fun ls hl => ?_)
  refine lv_iload_n hx hb dX7_sayingFor_2 rfl (lv_at hl 2 rfl) ?_
  refine lv_iconst (v := 1) hx hb dX7_sayingFor_3 (by decide) ?_
  refine lv_iadd hx hb dX7_sayingFor_4 ?_
  refine lv_bipush (v := 6) hx hb dX7_sayingFor_5 (by decide) ?_
  refine lv_irem hx hb dX7_sayingFor_7 (by decide) ?_
  refine lv_istore_n (lv' := [(3, .int ((x1 + 1) - (x1 + 1) / 6 * 6)), (2, .int x1), (0, .ref o_t), (1, .int x1)]) hx hb dX7_sayingFor_8 rfl hl (by decide) rfl (fun ls hl => ?_)
  refine lv_iload_n hx hb dX7_sayingFor_9 rfl (lv_at hl 1 rfl) ?_
  refine lv_iload_n hx hb dX7_sayingFor_10 rfl (lv_at hl 0 rfl) ?_
  refine lv_icmp_ge (tgt := 18) hx hb dX7_sayingFor_11 (by decide) (fun c_11 => ?_) (fun c_11 => ?_)
  · have hf := ho_t hf c_11
    refine lv_iload_n hx hb dX7_sayingFor_18 rfl (lv_at hl 0 rfl) ?_
    exact w_X7_sayingFor_b19 ⟨hx, hb, hml, hown, hts, hr, hlocks, hK, hN⟩  hP hf (lv_sub hl [2, 1, 0] rfl)
  · have hf := ho_f hf c_11
    refine lv_iload_n hx hb dX7_sayingFor_14 rfl (lv_at hl 1 rfl) ?_
    refine lv_goto (tgt := 19) hx hb dX7_sayingFor_15 (by decide) ?_
    exact w_X7_sayingFor_b19 ⟨hx, hb, hml, hown, hts, hr, hlocks, hK, hN⟩  hP hf (lv_sub hl [2, 1, 0] rfl)
set_option maxHeartbeats 4000000 in
set_option maxRecDepth 100000 in
theorem c_X7_tellSaying (l : Launch) (dC : Nat → ClassId) (dI : Nat → Nat → Nat) (cI cII : ClassId) (o_t : Nat) (a_t : Nat → Nat) (v_t : obV) (h_t : Int64) (x1 : Int32) (sz : Nat) (r : obV) (hf : f_X7_tellSaying  v_t x1 = some r) :
    Met l yX7_tellSaying (wd yX7_tellSaying cX7_tellSaying 2 none) ({ frames := 1, cells := 0, slots := 0, locals := 25 } : Room) (va_Pc [.ref o_t, .int x1] (qB (dC, dI) vwCl (wX7 o_t a_t cI v_t h_t) (hTY cI cII) sz)) (va_Qv (fun (_ : Unit) => True) (fun _ t => va_P (dC, dI) vwCl (wX7 o_t a_t cI r h_t) t.heap ∧ va_D (va_A (wX7 o_t a_t cI v_t h_t) sz) (wX7 o_t a_t cI r h_t)) (va_A (wX7 o_t a_t cI v_t h_t) sz)) 0 0 (va_A (wX7 o_t a_t cI v_t h_t) sz) := by
  refine Met.ofW (cc := cX7_tellSaying) (maxL := 2) (ret := none) (by decide) rfl ?_
  intro p e s m args below meth c s₁ B hml hv
  obtain ⟨rfl, hsz, hD0, hP, hK, hN⟩ := hv
  have hx := B.exec
  have hb := B.bytes
  have hr := B.returns
  have hts := atoms_spec (ws := (wd yX7_tellSaying cX7_tellSaying 2 none)) B.pre
  have hown : s.vm.findClass RX7 = some m.cls := findClass_of_methodNamed B.named
  have hlocks := B.notSynchronized
  subst hsz
  have hD := hD0.self (sz := s.heap.size)
  generalize hAe : va_A (wX7 o_t a_t cI v_t h_t) s.heap.size = A at hD ⊢
  have hA : ∀ q : Nat, s.heap.size ≤ q → A q := fun q h => by rw [← hAe]; exact Or.inr h
  have hS : va_S A s.heap s.heap [] := va_S.rf
  have hl := lv_entry ([.ref o_t, .int x1]) (n := 2) (Nat.le_of_ble_eq_true rfl)
  rw [lg_entry_eq]
  generalize (lg_sl ([.ref o_t, .int x1]) ++ List.replicate (2 - (lg_sl ([.ref o_t, .int x1])).length) Slot.unset).toArray = ls at hl ⊢
  have hl : lv_has ls 2 [(0, .ref o_t), (1, .int x1)] := hl
  clear hAe hD0
  unfold f_X7_tellSaying at hf
  refine lv_aload_n hx hb dX7_tellSaying_0 rfl (lv_at hl 0 rfl) ?_
  refine va_get (D := (dC, dI)) (ci := 7) (v := .ref (a_t 12)) (C := RX7) (T := TX7) (N := 30) hx hb hts hw_X7 hown hK hP 0 rfl rfl 12 (by decide) (hts _ (List.mem_cons_of_mem _ mw_610)) (fun _ h9 => h9) rfl dX7_tellSaying_1 ?_
  refine lv_iload_n hx hb dX7_tellSaying_4 rfl (lv_at hl 1 rfl) ?_
  refine lv_aload_n hx hb dX7_tellSaying_5 rfl (lv_at hl 0 rfl) ?_
  refine lv_aload_n hx hb dX7_tellSaying_6 rfl (lv_at hl 0 rfl) ?_
  refine va_get (D := (dC, dI)) (ci := 7) (v := .ref (a_t 10)) (C := RX7) (T := TX7) (N := 30) hx hb hts hw_X7 hown hK hP 0 rfl rfl 10 (by decide) (hts _ (List.mem_cons_of_mem _ mw_608)) (fun _ h9 => h9) rfl dX7_tellSaying_7 ?_
  refine lv_iconst (v := 3) hx hb dX7_tellSaying_10 (by decide) ?_
  refine lv_iload_n hx hb dX7_tellSaying_11 rfl (lv_at hl 1 rfl) ?_
  refine lv_imul hx hb dX7_tellSaying_12 ?_
  refine lv_iconst (v := 1) hx hb dX7_tellSaying_13 (by decide) ?_
  refine lv_iadd hx hb dX7_tellSaying_14 ?_
  obtain ⟨h_15, hf⟩ := ho_g hf
  refine va_iald (n := 15) (f := (v_t.2 10)) hx hb hK hP 3 0 rfl rfl h_15 dX7_tellSaying_15 ?_
  obtain ⟨u_16, e_16, hf⟩ := ho_b hf
  refine vp_callSi (va_runV (As := [.int ((v_t.2 10) (Int32.toNatClampNeg ((3 * x1) + 1)))]) (rest := [.int x1, .ref (a_t 12)]) ⟨hx, hb, hml, hown, hts⟩ (c_X7_sayingFor l dC dI cI cII o_t a_t v_t h_t (((v_t.2 10) (Int32.toNatClampNeg ((3 * x1) + 1)))) u_16 e_16) (cwV 1 hts (hw_giV mw_765 mw_767 mw_29 mw_60 mw_768) rfl rfl rfl (by decide +kernel) ⟨Nat.le_of_ble_eq_true rfl, Nat.le_of_ble_eq_true rfl⟩) ⟨pB_blind, va_recv hK hP (ci := 7) (q0 := 0) rfl rfl, fun U hU hW => ⟨rfl, pB_go hP hK hN hU hW⟩⟩ rfl rfl hl.1 rfl (lv_room (Nat.le_of_ble_eq_true rfl)) dX7_tellSaying_16 ⟨Nat.zero_le _, Nat.zero_le _⟩).run (fun z_16 ez_16 => ?_)
  subst ez_16
  obtain ⟨h_19, hf⟩ := ho_g hf
  refine va_iast (n := 5) (f := (v_t.2 12)) hx hb hK hP hD hS 5 0 rfl rfl h_19 dX7_tellSaying_19 (fun H locs hP hD hS => ?_)
  have hP : va_P (dC, dI) vwCl (wX7 o_t a_t cI (oA v_t 12 (Int32.toNatClampNeg x1) u_16) h_t) H := hP
  have hD : va_D A (wX7 o_t a_t cI (oA v_t 12 (Int32.toNatClampNeg x1) u_16) h_t) := hD
  obtain ⟨v_t_19, e_v_t_19⟩ : ∃ z : obV, z = (oA v_t 12 (Int32.toNatClampNeg x1) u_16) := ⟨_, rfl⟩
  rw [← e_v_t_19] at hP hD
  have hf := ho_l hf v_t_19 e_v_t_19
  refine lv_aload_n hx hb dX7_tellSaying_20 rfl (lv_at hl 0 rfl) ?_
  refine lv_dup hx hb dX7_tellSaying_21 rfl ?_
  refine va_get (D := (dC, dI)) (ci := 7) (v := .int (v_t_19.1 15)) (C := RX7) (T := TX7) (N := 30) hx hb hts hw_X7 hown hK hP 0 rfl rfl 15 (by decide) (hts _ (List.mem_cons_of_mem _ mw_613)) (fun _ h9 => h9) rfl dX7_tellSaying_22 ?_
  refine lv_aload_n hx hb dX7_tellSaying_25 rfl (lv_at hl 0 rfl) ?_
  refine va_get (D := (dC, dI)) (ci := 7) (v := .ref (a_t 12)) (C := RX7) (T := TX7) (N := 30) hx hb hts hw_X7 hown hK hP 0 rfl rfl 12 (by decide) (hts _ (List.mem_cons_of_mem _ mw_610)) (fun _ h9 => h9) rfl dX7_tellSaying_26 ?_
  refine lv_iload_n hx hb dX7_tellSaying_29 rfl (lv_at hl 1 rfl) ?_
  obtain ⟨h_30, hf⟩ := ho_g hf
  refine va_iald (n := 5) (f := (v_t_19.2 12)) hx hb hK hP 5 0 rfl rfl h_30 dX7_tellSaying_30 ?_
  refine lv_iconst (v := (-1)) hx hb dX7_tellSaying_31 (by decide) ?_
  refine lv_icmp_ne (tgt := 39) hx hb dX7_tellSaying_32 (by decide) (fun c_32 => ?_) (fun c_32 => ?_)
  · have hf := ho_f hf c_32
    refine lv_iconst (v := 1) hx hb dX7_tellSaying_39 (by decide) ?_
    refine lv_aload_n hx hb dX7_tellSaying_40 rfl (lv_at hl 0 rfl) ?_
    refine va_get (D := (dC, dI)) (ci := 7) (v := .ref (a_t 12)) (C := RX7) (T := TX7) (N := 30) hx hb hts hw_X7 hown hK hP 0 rfl rfl 12 (by decide) (hts _ (List.mem_cons_of_mem _ mw_610)) (fun _ h9 => h9) rfl dX7_tellSaying_41 ?_
    refine lv_iload_n hx hb dX7_tellSaying_44 rfl (lv_at hl 1 rfl) ?_
    obtain ⟨h_45, hf⟩ := ho_g hf
    refine va_iald (n := 5) (f := (v_t_19.2 12)) hx hb hK hP 5 0 rfl rfl h_45 dX7_tellSaying_45 ?_
    refine lv_ishl hx hb dX7_tellSaying_46 ?_
    refine lv_ior hx hb dX7_tellSaying_47 ?_
    refine va_put (D := (dC, dI)) (ci := 7) (v := .int ((v_t_19.1 15) ||| (1 <<< (((v_t_19.2 12) (Int32.toNatClampNeg x1)) &&& 31)))) (ty := .int) (C := RX7) (T := TX7) (N := 30) hx hb hts hw_X7 tyX7 tyX7_ok nmX7 hown hK hP hD hS 0 rfl rfl 15 (by decide) (hts _ (List.mem_cons_of_mem _ mw_613)) (fun _ h9 => h9) rfl (by decide +kernel) rfl rfl (Nat.le_of_ble_eq_true rfl) dX7_tellSaying_48 (fun H locs hP hD hS => ?_)
    have hP : va_P (dC, dI) vwCl (wX7 o_t a_t cI (oF v_t_19 15 ((v_t_19.1 15) ||| (1 <<< (((v_t_19.2 12) (Int32.toNatClampNeg x1)) &&& 31)))) h_t) H := hP
    have hD : va_D A (wX7 o_t a_t cI (oF v_t_19 15 ((v_t_19.1 15) ||| (1 <<< (((v_t_19.2 12) (Int32.toNatClampNeg x1)) &&& 31)))) h_t) := hD
    obtain ⟨v_t_48, e_v_t_48⟩ : ∃ z : obV, z = (oF v_t_19 15 ((v_t_19.1 15) ||| (1 <<< (((v_t_19.2 12) (Int32.toNatClampNeg x1)) &&& 31)))) := ⟨_, rfl⟩
    rw [← e_v_t_48] at hP hD
    have hf := ho_l hf v_t_48 e_v_t_48
    obtain rfl := Option.some.inj hf
    exact W.vret hx hb hr (fun t ht hW => ⟨⟨(), rfl, trivial, by rw [ht]; exact hP, hD⟩, hS.F ht⟩) hS.2.2 dX7_tellSaying_51 hlocks
  · have hf := ho_t hf c_32
    refine lv_iconst (v := 0) hx hb dX7_tellSaying_35 (by decide) ?_
    refine lv_goto (tgt := 47) hx hb dX7_tellSaying_36 (by decide) ?_
    refine lv_ior hx hb dX7_tellSaying_47 ?_
    refine va_put (D := (dC, dI)) (ci := 7) (v := .int ((v_t_19.1 15) ||| 0)) (ty := .int) (C := RX7) (T := TX7) (N := 30) hx hb hts hw_X7 tyX7 tyX7_ok nmX7 hown hK hP hD hS 0 rfl rfl 15 (by decide) (hts _ (List.mem_cons_of_mem _ mw_613)) (fun _ h9 => h9) rfl (by decide +kernel) rfl rfl (Nat.le_of_ble_eq_true rfl) dX7_tellSaying_48 (fun H locs hP hD hS => ?_)
    have hP : va_P (dC, dI) vwCl (wX7 o_t a_t cI (oF v_t_19 15 ((v_t_19.1 15) ||| 0)) h_t) H := hP
    have hD : va_D A (wX7 o_t a_t cI (oF v_t_19 15 ((v_t_19.1 15) ||| 0)) h_t) := hD
    obtain ⟨v_t_48, e_v_t_48⟩ : ∃ z : obV, z = (oF v_t_19 15 ((v_t_19.1 15) ||| 0)) := ⟨_, rfl⟩
    rw [← e_v_t_48] at hP hD
    have hf := ho_l hf v_t_48 e_v_t_48
    obtain rfl := Option.some.inj hf
    exact W.vret hx hb hr (fun t ht hW => ⟨⟨(), rfl, trivial, by rw [ht]; exact hP, hD⟩, hS.F ht⟩) hS.2.2 dX7_tellSaying_51 hlocks
set_option maxHeartbeats 4000000 in
set_option maxRecDepth 100000 in
theorem c_X7_isAhead (l : Launch) (dC : Nat → ClassId) (dI : Nat → Nat → Nat) (cI cII : ClassId) (o_t : Nat) (a_t : Nat → Nat) (v_t : obV) (h_t : Int64) (x1 : Int32) (x2 : Int32) (r : Int32) (hf : f_X7_isAhead  v_t x1 x2 = some r) :
    Met l yX7_isAhead (wd yX7_isAhead cX7_isAhead 3 (some .boolean)) ({ frames := 1, cells := 0, slots := 0, locals := 21 } : Room) (va_Pc [.ref o_t, .int x1, .int x2] (pB (dC, dI) vwCl (wX7 o_t a_t cI v_t h_t) (hTY cI cII))) (vp_Si (fun z => r = z)) 0 0 (fun _ => False) := by
  refine Met.ofW (cc := cX7_isAhead) (maxL := 3) (ret := (some .boolean)) (by decide) rfl ?_
  intro p e s m args below meth c s₁ B hml hv
  obtain ⟨rfl, hP, hK, hN⟩ := hv
  have hx := B.exec
  have hb := B.bytes
  have hr := B.returns
  have hts := atoms_spec (ws := (wd yX7_isAhead cX7_isAhead 3 (some .boolean))) B.pre
  have hown : s.vm.findClass RX7 = some m.cls := findClass_of_methodNamed B.named
  have hlocks := B.notSynchronized
  have hl := lv_entry ([.ref o_t, .int x1, .int x2]) (n := 3) (Nat.le_of_ble_eq_true rfl)
  rw [lg_entry_eq]
  generalize (lg_sl ([.ref o_t, .int x1, .int x2]) ++ List.replicate (3 - (lg_sl ([.ref o_t, .int x1, .int x2])).length) Slot.unset).toArray = ls at hl ⊢
  have hl : lv_has ls 3 [(0, .ref o_t), (1, .int x1), (2, .int x2)] := hl
  unfold f_X7_isAhead at hf
  refine lv_aload_n hx hb dX7_isAhead_0 rfl (lv_at hl 0 rfl) ?_
  refine lv_iload_n hx hb dX7_isAhead_1 rfl (lv_at hl 1 rfl) ?_
  obtain ⟨u_2, e_2, hf⟩ := ho_b hf
  refine vp_callSi (va_runV (As := [.int x1]) (rest := []) ⟨hx, hb, hml, hown, hts⟩ (c_X7_isPeer l dC dI cI cII o_t a_t v_t h_t (x1) u_2 e_2) (cwV 1 hts (hw_giV mw_749 mw_751 mw_25 mw_60 mw_752) rfl rfl rfl (by decide +kernel) ⟨Nat.le_of_ble_eq_true rfl, Nat.le_of_ble_eq_true rfl⟩) ⟨pB_blind, va_recv hK hP (ci := 7) (q0 := 0) rfl rfl, fun U hU hW => ⟨rfl, pB_go hP hK hN hU hW⟩⟩ rfl rfl hl.1 rfl (lv_room (Nat.le_of_ble_eq_true rfl)) dX7_isAhead_2 ⟨Nat.zero_le _, Nat.zero_le _⟩).run (fun z_2 ez_2 => ?_)
  subst ez_2
  refine lv_aload_n hx hb dX7_isAhead_5 rfl (lv_at hl 0 rfl) ?_
  refine lv_iload_n hx hb dX7_isAhead_6 rfl (lv_at hl 2 rfl) ?_
  obtain ⟨u_7, e_7, hf⟩ := ho_b hf
  refine vp_callSi (va_runV (As := [.int x2]) (rest := [.int u_2]) ⟨hx, hb, hml, hown, hts⟩ (c_X7_isPeer l dC dI cI cII o_t a_t v_t h_t (x2) u_7 e_7) (cwV 1 hts (hw_giV mw_749 mw_751 mw_25 mw_60 mw_752) rfl rfl rfl (by decide +kernel) ⟨Nat.le_of_ble_eq_true rfl, Nat.le_of_ble_eq_true rfl⟩) ⟨pB_blind, va_recv hK hP (ci := 7) (q0 := 0) rfl rfl, fun U hU hW => ⟨rfl, pB_go hP hK hN hU hW⟩⟩ rfl rfl hl.1 rfl (lv_room (Nat.le_of_ble_eq_true rfl)) dX7_isAhead_7 ⟨Nat.zero_le _, Nat.zero_le _⟩).run (fun z_7 ez_7 => ?_)
  subst ez_7
  refine lv_icmp_eq (tgt := 19) hx hb dX7_isAhead_10 (by decide) (fun c_10 => ?_) (fun c_10 => ?_)
  · have hf := ho_t hf c_10
    refine lv_aload_n hx hb dX7_isAhead_19 rfl (lv_at hl 0 rfl) ?_
    refine va_get (D := (dC, dI)) (ci := 7) (v := .ref (a_t 10)) (C := RX7) (T := TX7) (N := 30) hx hb hts hw_X7 hown hK hP 0 rfl rfl 10 (by decide) (hts _ (List.mem_cons_of_mem _ mw_608)) (fun _ h9 => h9) rfl dX7_isAhead_20 ?_
    refine lv_iconst (v := 3) hx hb dX7_isAhead_23 (by decide) ?_
    refine lv_iload_n hx hb dX7_isAhead_24 rfl (lv_at hl 1 rfl) ?_
    refine lv_imul hx hb dX7_isAhead_25 ?_
    refine lv_iconst (v := 2) hx hb dX7_isAhead_26 (by decide) ?_
    refine lv_iadd hx hb dX7_isAhead_27 ?_
    obtain ⟨h_28, hf⟩ := ho_g hf
    refine va_iald (n := 15) (f := (v_t.2 10)) hx hb hK hP 3 0 rfl rfl h_28 dX7_isAhead_28 ?_
    refine lv_aload_n hx hb dX7_isAhead_29 rfl (lv_at hl 0 rfl) ?_
    refine va_get (D := (dC, dI)) (ci := 7) (v := .ref (a_t 10)) (C := RX7) (T := TX7) (N := 30) hx hb hts hw_X7 hown hK hP 0 rfl rfl 10 (by decide) (hts _ (List.mem_cons_of_mem _ mw_608)) (fun _ h9 => h9) rfl dX7_isAhead_30 ?_
    refine lv_iconst (v := 3) hx hb dX7_isAhead_33 (by decide) ?_
    refine lv_iload_n hx hb dX7_isAhead_34 rfl (lv_at hl 2 rfl) ?_
    refine lv_imul hx hb dX7_isAhead_35 ?_
    refine lv_iconst (v := 2) hx hb dX7_isAhead_36 (by decide) ?_
    refine lv_iadd hx hb dX7_isAhead_37 ?_
    obtain ⟨h_38, hf⟩ := ho_g hf
    refine va_iald (n := 15) (f := (v_t.2 10)) hx hb hK hP 3 0 rfl rfl h_38 dX7_isAhead_38 ?_
    refine lv_icmp_eq (tgt := 73) hx hb dX7_isAhead_39 (by decide) (fun c_39 => ?_) (fun c_39 => ?_)
    · have hf := ho_t hf c_39
      refine lv_iload_n hx hb dX7_isAhead_73 rfl (lv_at hl 1 rfl) ?_
      refine lv_iload_n hx hb dX7_isAhead_74 rfl (lv_at hl 2 rfl) ?_
      refine lv_icmp_ge (tgt := 82) hx hb dX7_isAhead_75 (by decide) (fun c_75 => ?_) (fun c_75 => ?_)
      · have hf := ho_t hf c_75
        refine lv_iconst (v := 0) hx hb dX7_isAhead_82 (by decide) ?_
        obtain rfl := Option.some.inj hf
        exact W.zret (v := 0) hx hb hr (by decide) (fun t ht hW => ⟨_, rfl, rfl, ht⟩) (fun q hq => by cases hq) dX7_isAhead_83 hlocks
      · have hf := ho_f hf c_75
        refine lv_iconst (v := 1) hx hb dX7_isAhead_78 (by decide) ?_
        refine lv_goto (tgt := 83) hx hb dX7_isAhead_79 (by decide) ?_
        obtain rfl := Option.some.inj hf
        exact W.zret (v := 1) hx hb hr (by decide) (fun t ht hW => ⟨_, rfl, rfl, ht⟩) (fun q hq => by cases hq) dX7_isAhead_83 hlocks
    · have hf := ho_f hf c_39
      refine lv_aload_n hx hb dX7_isAhead_42 rfl (lv_at hl 0 rfl) ?_
      refine va_get (D := (dC, dI)) (ci := 7) (v := .ref (a_t 10)) (C := RX7) (T := TX7) (N := 30) hx hb hts hw_X7 hown hK hP 0 rfl rfl 10 (by decide) (hts _ (List.mem_cons_of_mem _ mw_608)) (fun _ h9 => h9) rfl dX7_isAhead_43 ?_
      refine lv_iconst (v := 3) hx hb dX7_isAhead_46 (by decide) ?_
      refine lv_iload_n hx hb dX7_isAhead_47 rfl (lv_at hl 1 rfl) ?_
      refine lv_imul hx hb dX7_isAhead_48 ?_
      refine lv_iconst (v := 2) hx hb dX7_isAhead_49 (by decide) ?_
      refine lv_iadd hx hb dX7_isAhead_50 ?_
      obtain ⟨h_51, hf⟩ := ho_g hf
      refine va_iald (n := 15) (f := (v_t.2 10)) hx hb hK hP 3 0 rfl rfl h_51 dX7_isAhead_51 ?_
      refine lv_aload_n hx hb dX7_isAhead_52 rfl (lv_at hl 0 rfl) ?_
      refine va_get (D := (dC, dI)) (ci := 7) (v := .ref (a_t 10)) (C := RX7) (T := TX7) (N := 30) hx hb hts hw_X7 hown hK hP 0 rfl rfl 10 (by decide) (hts _ (List.mem_cons_of_mem _ mw_608)) (fun _ h9 => h9) rfl dX7_isAhead_53 ?_
      refine lv_iconst (v := 3) hx hb dX7_isAhead_56 (by decide) ?_
      refine lv_iload_n hx hb dX7_isAhead_57 rfl (lv_at hl 2 rfl) ?_
      refine lv_imul hx hb dX7_isAhead_58 ?_
      refine lv_iconst (v := 2) hx hb dX7_isAhead_59 (by decide) ?_
      refine lv_iadd hx hb dX7_isAhead_60 ?_
      obtain ⟨h_61, hf⟩ := ho_g hf
      refine va_iald (n := 15) (f := (v_t.2 10)) hx hb hK hP 3 0 rfl rfl h_61 dX7_isAhead_61 ?_
      refine lv_icmp_ge (tgt := 69) hx hb dX7_isAhead_62 (by decide) (fun c_62 => ?_) (fun c_62 => ?_)
      · have hf := ho_t hf c_62
        refine lv_iconst (v := 0) hx hb dX7_isAhead_69 (by decide) ?_
        refine lv_goto (tgt := 83) hx hb dX7_isAhead_70 (by decide) ?_
        obtain rfl := Option.some.inj hf
        exact W.zret (v := 0) hx hb hr (by decide) (fun t ht hW => ⟨_, rfl, rfl, ht⟩) (fun q hq => by cases hq) dX7_isAhead_83 hlocks
      · have hf := ho_f hf c_62
        refine lv_iconst (v := 1) hx hb dX7_isAhead_65 (by decide) ?_
        refine lv_goto (tgt := 83) hx hb dX7_isAhead_66 (by decide) ?_
        obtain rfl := Option.some.inj hf
        exact W.zret (v := 1) hx hb hr (by decide) (fun t ht hW => ⟨_, rfl, rfl, ht⟩) (fun q hq => by cases hq) dX7_isAhead_83 hlocks
  · have hf := ho_f hf c_10
    refine lv_aload_n hx hb dX7_isAhead_13 rfl (lv_at hl 0 rfl) ?_
    refine lv_iload_n hx hb dX7_isAhead_14 rfl (lv_at hl 1 rfl) ?_
    obtain ⟨u_15, e_15, hf⟩ := ho_b hf
    refine vp_callSi (va_runV (As := [.int x1]) (rest := []) ⟨hx, hb, hml, hown, hts⟩ (c_X7_isPeer l dC dI cI cII o_t a_t v_t h_t (x1) u_15 e_15) (cwV 1 hts (hw_giV mw_749 mw_751 mw_25 mw_60 mw_752) rfl rfl rfl (by decide +kernel) ⟨Nat.le_of_ble_eq_true rfl, Nat.le_of_ble_eq_true rfl⟩) ⟨pB_blind, va_recv hK hP (ci := 7) (q0 := 0) rfl rfl, fun U hU hW => ⟨rfl, pB_go hP hK hN hU hW⟩⟩ rfl rfl hl.1 rfl (lv_room (Nat.le_of_ble_eq_true rfl)) dX7_isAhead_15 ⟨Nat.zero_le _, Nat.zero_le _⟩).run (fun z_15 ez_15 => ?_)
    subst ez_15
    obtain ⟨h_18, hf⟩ := ho_g hf
    obtain rfl := Option.some.inj hf
    exact W.zret (v := u_15) hx hb hr (hp_z h_18) (fun t ht hW => ⟨_, rfl, rfl, ht⟩) (fun q hq => by cases hq) dX7_isAhead_18 hlocks
set_option maxHeartbeats 4000000 in
set_option maxRecDepth 100000 in
theorem w_X7_nextAt_b41 {p : Program} {l : Launch} {e : Env} {s : State} {m : MethodId} {args : Array Value} {below : List Frame} {meth : Method} {c : Code} {dC : Nat → ClassId} {dI : Nat → Nat → Nat} {cI cII : ClassId} {o_t : Nat} {a_t : Nat → Nat} (C0 : hC p s m args meth c dC dI cI cII RX7 cX7_nextAt 5 (wd yX7_nextAt cX7_nextAt 5 (some .int)) (some .int)) {h_t : Int64} {v_t : obV} {x1 : Int32} {x2 : Int32} {x3 : Int32} {s0 : Int32} {k4 : Int32 × Int32 → Option (Int32)} (ih4 : ∀ (y : Int32 × Int32) (r : Int32), k4 y = some r → ∀ (ls : Array Slot), lv_has ls 5 [(0, .ref o_t), (1, .int x1), (2, .int y.1), (3, .int y.2)] → W p l e ({ frames := 2, cells := 0, slots := 0, locals := 43 } : Room) s m args below meth c s.heap [] 0 0 (MQ below (vp_Si (fun z => r = z)) args s 0 0 (fun _ => False)) (F0 m 4 ls [])) (hP : va_P (dC, dI) vwCl (wX7 o_t a_t cI v_t h_t) s.heap) {r : Int32} (hf : f_X7_nextAt_b41  v_t x1 x2 x3 s0 k4 = some r) {ls : Array Slot} (hl : lv_has ls 5 [(0, .ref o_t), (1, .int x1), (2, .int x2), (3, .int x3)]) :
    W p l e ({ frames := 2, cells := 0, slots := 0, locals := 43 } : Room) s m args below meth c s.heap [] 0 0 (MQ below (vp_Si (fun z => r = z)) args s 0 0 (fun _ => False)) (F0 m 41 ls [.int s0]) := by
  obtain ⟨hx, hb, hml, hown, hts, hr, hlocks, hK, hN⟩ := C0
  unfold f_X7_nextAt_b41 at hf
  refine lv_istore (lv' := [(4, .int s0), (0, .ref o_t), (1, .int x1), (2, .int x2), (3, .int x3)]) hx hb dX7_nextAt_41 hl (by decide) rfl (fun ls hl => ?_)
  refine lv_iload hx hb dX7_nextAt_43 (lv_at hl 0 rfl) ?_
  refine lv_if_eq (tgt := 66) hx hb dX7_nextAt_45 (by decide) (fun c_45 => ?_) (fun c_45 => ?_)
  · have hf := ho_t hf c_45
    refine lv_iload_n hx hb dX7_nextAt_66 rfl (lv_at hl 3 rfl) ?_
    refine lv_istore_n (lv' := [(2, .int x2), (4, .int s0), (0, .ref o_t), (1, .int x1), (3, .int x3)]) hx hb dX7_nextAt_67 rfl hl (by decide) rfl (fun ls hl => ?_)
    refine lv_iinc (v := (x3 + 1)) (lv' := [(3, .int (x3 + 1)), (2, .int x2), (4, .int s0), (0, .ref o_t), (1, .int x1)]) hx hb dX7_nextAt_68 hl (k := 4) rfl (hp_inc (by decide)) (by decide) rfl (fun ls hl => ?_)
    refine lv_goto (tgt := 4) hx hb dX7_nextAt_71 (by decide) ?_
    exact ih4 (x2, (x3 + 1)) _ hf _ (lv_sub hl [3, 4, 1, 0] rfl)
  · have hf := ho_f hf c_45
    refine lv_iload_n hx hb dX7_nextAt_48 rfl (lv_at hl 3 rfl) ?_
    refine lv_iconst (v := (-1)) hx hb dX7_nextAt_49 (by decide) ?_
    refine lv_icmp_eq (tgt := 62) hx hb dX7_nextAt_50 (by decide) (fun c_50 => ?_) (fun c_50 => ?_)
    · have hf := ho_t hf c_50
      refine lv_iload_n hx hb dX7_nextAt_62 rfl (lv_at hl 4 rfl) ?_
      refine lv_goto (tgt := 67) hx hb dX7_nextAt_63 (by decide) ?_
      refine lv_istore_n (lv' := [(2, .int x3), (4, .int s0), (0, .ref o_t), (1, .int x1), (3, .int x3)]) hx hb dX7_nextAt_67 rfl hl (by decide) rfl (fun ls hl => ?_)
      refine lv_iinc (v := (x3 + 1)) (lv' := [(3, .int (x3 + 1)), (2, .int x3), (4, .int s0), (0, .ref o_t), (1, .int x1)]) hx hb dX7_nextAt_68 hl (k := 4) rfl (hp_inc (by decide)) (by decide) rfl (fun ls hl => ?_)
      refine lv_goto (tgt := 4) hx hb dX7_nextAt_71 (by decide) ?_
      exact ih4 (x3, (x3 + 1)) _ hf _ (lv_sub hl [3, 4, 1, 0] rfl)
    · have hf := ho_f hf c_50
      refine lv_aload_n hx hb dX7_nextAt_53 rfl (lv_at hl 1 rfl) ?_
      refine lv_iload_n hx hb dX7_nextAt_54 rfl (lv_at hl 4 rfl) ?_
      refine lv_iload_n hx hb dX7_nextAt_55 rfl (lv_at hl 3 rfl) ?_
      obtain ⟨u_56, e_56, hf⟩ := ho_b hf
      refine vp_callSi (va_runV (As := [.int x3, .int x2]) (rest := []) ⟨hx, hb, hml, hown, hts⟩ (c_X7_isAhead l dC dI cI cII o_t a_t v_t h_t (x3) (x2) u_56 e_56) (cwV 2 hts (hw_giV mw_745 mw_747 mw_24 mw_60 mw_748) rfl rfl rfl (by decide +kernel) ⟨Nat.le_of_ble_eq_true rfl, Nat.le_of_ble_eq_true rfl⟩) ⟨pB_blind, va_recv hK hP (ci := 7) (q0 := 0) rfl rfl, fun U hU hW => ⟨rfl, pB_go hP hK hN hU hW⟩⟩ rfl rfl hl.1 rfl (lv_room (Nat.le_of_ble_eq_true rfl)) dX7_nextAt_56 ⟨Nat.zero_le _, Nat.zero_le _⟩).run (fun z_56 ez_56 => ?_)
      subst ez_56
      refine lv_if_eq (tgt := 66) hx hb dX7_nextAt_59 (by decide) (fun c_59 => ?_) (fun c_59 => ?_)
      · have hf := ho_t hf c_59
        refine lv_iload_n hx hb dX7_nextAt_66 rfl (lv_at hl 3 rfl) ?_
        refine lv_istore_n (lv' := [(2, .int x2), (4, .int s0), (0, .ref o_t), (1, .int x1), (3, .int x3)]) hx hb dX7_nextAt_67 rfl hl (by decide) rfl (fun ls hl => ?_)
        refine lv_iinc (v := (x3 + 1)) (lv' := [(3, .int (x3 + 1)), (2, .int x2), (4, .int s0), (0, .ref o_t), (1, .int x1)]) hx hb dX7_nextAt_68 hl (k := 4) rfl (hp_inc (by decide)) (by decide) rfl (fun ls hl => ?_)
        refine lv_goto (tgt := 4) hx hb dX7_nextAt_71 (by decide) ?_
        exact ih4 (x2, (x3 + 1)) _ hf _ (lv_sub hl [3, 4, 1, 0] rfl)
      · have hf := ho_f hf c_59
        refine lv_iload_n hx hb dX7_nextAt_62 rfl (lv_at hl 4 rfl) ?_
        refine lv_goto (tgt := 67) hx hb dX7_nextAt_63 (by decide) ?_
        refine lv_istore_n (lv' := [(2, .int x3), (4, .int s0), (0, .ref o_t), (1, .int x1), (3, .int x3)]) hx hb dX7_nextAt_67 rfl hl (by decide) rfl (fun ls hl => ?_)
        refine lv_iinc (v := (x3 + 1)) (lv' := [(3, .int (x3 + 1)), (2, .int x3), (4, .int s0), (0, .ref o_t), (1, .int x1)]) hx hb dX7_nextAt_68 hl (k := 4) rfl (hp_inc (by decide)) (by decide) rfl (fun ls hl => ?_)
        refine lv_goto (tgt := 4) hx hb dX7_nextAt_71 (by decide) ?_
        exact ih4 (x3, (x3 + 1)) _ hf _ (lv_sub hl [3, 4, 1, 0] rfl)
set_option maxHeartbeats 4000000 in
set_option maxRecDepth 100000 in
theorem w_X7_nextAt_l4 {p : Program} {l : Launch} {e : Env} {s : State} {m : MethodId} {args : Array Value} {below : List Frame} {meth : Method} {c : Code} {dC : Nat → ClassId} {dI : Nat → Nat → Nat} {cI cII : ClassId} {o_t : Nat} {a_t : Nat → Nat} (C0 : hC p s m args meth c dC dI cI cII RX7 cX7_nextAt 5 (wd yX7_nextAt cX7_nextAt 5 (some .int)) (some .int)) {h_t : Int64} {v_t : obV} {x1 : Int32}   (hP : va_P (dC, dI) vwCl (wX7 o_t a_t cI v_t h_t) s.heap) :
    ∀ (n : Nat) (y : Int32 × Int32) (r : Int32), f_X7_nextAt_l4  v_t x1  n y = some r → ∀ (ls : Array Slot), lv_has ls 5 [(0, .ref o_t), (1, .int x1), (2, .int y.1), (3, .int y.2)] → W p l e ({ frames := 2, cells := 0, slots := 0, locals := 43 } : Room) s m args below meth c s.heap [] 0 0 (MQ below (vp_Si (fun z => r = z)) args s 0 0 (fun _ => False)) (F0 m 4 ls []) := by
  obtain ⟨hx, hb, hml, hown, hts, hr, hlocks, hK, hN⟩ := C0
  refine lp_W ?_
  intro k4 ih4 y r hf ls hl
  obtain ⟨x2, x3⟩ := y
  have hf : f_X7_nextAt_b4  v_t x1 x2 x3  k4 = some r := hf
  have hl : lv_has ls 5 [(0, .ref o_t), (1, .int x1), (2, .int x2), (3, .int x3)] := hl
  unfold f_X7_nextAt_b4 at hf
  refine lv_iload_n hx hb dX7_nextAt_4 rfl (lv_at hl 3 rfl) ?_
  refine lv_aload_n hx hb dX7_nextAt_5 rfl (lv_at hl 0 rfl) ?_
  refine va_get (D := (dC, dI)) (ci := 7) (v := .int (v_t.1 6)) (C := RX7) (T := TX7) (N := 30) hx hb hts hw_X7 hown hK hP 0 rfl rfl 6 (by decide) (hts _ (List.mem_cons_of_mem _ mw_604)) (fun _ h9 => h9) rfl dX7_nextAt_6 ?_
  refine lv_icmp_ge (tgt := 74) hx hb dX7_nextAt_9 (by decide) (fun c_9 => ?_) (fun c_9 => ?_)
  · have hf := ho_t hf c_9
    refine lv_iload_n hx hb dX7_nextAt_74 rfl (lv_at hl 2 rfl) ?_
    obtain rfl := Option.some.inj hf
    exact W.iret (v := x2) hx hb hr (fun t ht hW => ⟨_, rfl, rfl, ht⟩) (fun q hq => by cases hq) dX7_nextAt_75 hlocks
  · have hf := ho_f hf c_9
    refine lv_aload_n hx hb dX7_nextAt_12 rfl (lv_at hl 0 rfl) ?_
    refine va_get (D := (dC, dI)) (ci := 7) (v := .ref (a_t 11)) (C := RX7) (T := TX7) (N := 30) hx hb hts hw_X7 hown hK hP 0 rfl rfl 11 (by decide) (hts _ (List.mem_cons_of_mem _ mw_609)) (fun _ h9 => h9) rfl dX7_nextAt_13 ?_
    refine lv_iload_n hx hb dX7_nextAt_16 rfl (lv_at hl 3 rfl) ?_
    obtain ⟨h_17, hf⟩ := ho_g hf
    refine va_iald (n := 5) (f := (v_t.2 11)) hx hb hK hP 4 0 rfl rfl h_17 dX7_nextAt_17 ?_
    refine lv_iconst (v := (-1)) hx hb dX7_nextAt_18 (by decide) ?_
    refine lv_icmp_ne (tgt := 40) hx hb dX7_nextAt_19 (by decide) (fun c_19 => ?_) (fun c_19 => ?_)
    · have hf := ho_f hf c_19
      refine lv_iconst (v := 0) hx hb dX7_nextAt_40 (by decide) ?_
      exact w_X7_nextAt_b41 ⟨hx, hb, hml, hown, hts, hr, hlocks, hK, hN⟩ ih4 hP hf (lv_sub hl [0, 1, 2, 3] rfl)
    · have hf := ho_t hf c_19
      refine lv_aload_n hx hb dX7_nextAt_22 rfl (lv_at hl 0 rfl) ?_
      refine va_get (D := (dC, dI)) (ci := 7) (v := .ref (a_t 10)) (C := RX7) (T := TX7) (N := 30) hx hb hts hw_X7 hown hK hP 0 rfl rfl 10 (by decide) (hts _ (List.mem_cons_of_mem _ mw_608)) (fun _ h9 => h9) rfl dX7_nextAt_23 ?_
      refine lv_iconst (v := 3) hx hb dX7_nextAt_26 (by decide) ?_
      refine lv_iload_n hx hb dX7_nextAt_27 rfl (lv_at hl 3 rfl) ?_
      refine lv_imul hx hb dX7_nextAt_28 ?_
      refine lv_iconst (v := 2) hx hb dX7_nextAt_29 (by decide) ?_
      refine lv_iadd hx hb dX7_nextAt_30 ?_
      obtain ⟨h_31, hf⟩ := ho_g hf
      refine va_iald (n := 15) (f := (v_t.2 10)) hx hb hK hP 3 0 rfl rfl h_31 dX7_nextAt_31 ?_
      refine lv_iload_n hx hb dX7_nextAt_32 rfl (lv_at hl 1 rfl) ?_
      refine lv_icmp_gt (tgt := 40) hx hb dX7_nextAt_33 (by decide) (fun c_33 => ?_) (fun c_33 => ?_)
      · have hf := ho_t hf c_33
        refine lv_iconst (v := 0) hx hb dX7_nextAt_40 (by decide) ?_
        exact w_X7_nextAt_b41 ⟨hx, hb, hml, hown, hts, hr, hlocks, hK, hN⟩ ih4 hP hf (lv_sub hl [0, 1, 2, 3] rfl)
      · have hf := ho_f hf c_33
        refine lv_iconst (v := 1) hx hb dX7_nextAt_36 (by decide) ?_
        refine lv_goto (tgt := 41) hx hb dX7_nextAt_37 (by decide) ?_
        exact w_X7_nextAt_b41 ⟨hx, hb, hml, hown, hts, hr, hlocks, hK, hN⟩ ih4 hP hf (lv_sub hl [0, 1, 2, 3] rfl)
set_option maxHeartbeats 4000000 in
set_option maxRecDepth 100000 in
theorem c_X7_nextAt (l : Launch) (dC : Nat → ClassId) (dI : Nat → Nat → Nat) (cI cII : ClassId) (o_t : Nat) (a_t : Nat → Nat) (v_t : obV) (h_t : Int64) (x1 : Int32) (r : Int32) (hf : f_X7_nextAt  v_t x1 = some r) :
    Met l yX7_nextAt (wd yX7_nextAt cX7_nextAt 5 (some .int)) ({ frames := 2, cells := 0, slots := 0, locals := 43 } : Room) (va_Pc [.ref o_t, .int x1] (pB (dC, dI) vwCl (wX7 o_t a_t cI v_t h_t) (hTY cI cII))) (vp_Si (fun z => r = z)) 0 0 (fun _ => False) := by
  refine Met.ofW (cc := cX7_nextAt) (maxL := 5) (ret := (some .int)) (by decide) rfl ?_
  intro p e s m args below meth c s₁ B hml hv
  obtain ⟨rfl, hP, hK, hN⟩ := hv
  have hx := B.exec
  have hb := B.bytes
  have hr := B.returns
  have hts := atoms_spec (ws := (wd yX7_nextAt cX7_nextAt 5 (some .int))) B.pre
  have hown : s.vm.findClass RX7 = some m.cls := findClass_of_methodNamed B.named
  have hlocks := B.notSynchronized
  have hl := lv_entry ([.ref o_t, .int x1]) (n := 5) (Nat.le_of_ble_eq_true rfl)
  rw [lg_entry_eq]
  generalize (lg_sl ([.ref o_t, .int x1]) ++ List.replicate (5 - (lg_sl ([.ref o_t, .int x1])).length) Slot.unset).toArray = ls at hl ⊢
  have hl : lv_has ls 5 [(0, .ref o_t), (1, .int x1)] := hl
  unfold f_X7_nextAt at hf
  refine lv_iconst (v := (-1)) hx hb dX7_nextAt_0 (by decide) ?_
  refine lv_istore_n (lv' := [(2, .int (-1)), (0, .ref o_t), (1, .int x1)]) hx hb dX7_nextAt_1 rfl hl (by decide) rfl (fun ls hl => ?_)
  refine lv_iconst (v := 0) hx hb dX7_nextAt_2 (by decide) ?_
  refine lv_istore_n (lv' := [(3, .int 0), (2, .int (-1)), (0, .ref o_t), (1, .int x1)]) hx hb dX7_nextAt_3 rfl hl (by decide) rfl (fun ls hl => ?_)
  exact w_X7_nextAt_l4 ⟨hx, hb, hml, hown, hts, hr, hlocks, hK, hN⟩  hP _ _ _ hf _ (lv_sub hl [2, 3, 1, 0] rfl)
set_option maxHeartbeats 4000000 in
set_option maxRecDepth 100000 in
theorem w_X7_layDay_b103 {p : Program} {l : Launch} {e : Env} {s : State} {m : MethodId} {args : Array Value} {below : List Frame} {meth : Method} {c : Code} {dC : Nat → ClassId} {dI : Nat → Nat → Nat} {cI cII : ClassId} {o_t : Nat} {a_t : Nat → Nat} {A : Nat → Prop} (C0 : hC p s m args meth c dC dI cI cII RX7 cX7_layDay 4 (wd yX7_layDay cX7_layDay 4 none) none) (hA : ∀ q, s.heap.size ≤ q → A q) {h_t : Int64} {v_t : obV} {x1 : Int32} {x2 : Int32} {x3 : Int32} {k49 : obV × Int32 × Int32 → Option (obV)} (ih49 : ∀ (y : obV × Int32 × Int32) (r : obV), k49 y = some r → ∀ (H : Heap) (locs : List Loc) (ls : Array Slot), va_P (dC, dI) vwCl (wX7 o_t a_t cI y.1 h_t) H → va_D A (wX7 o_t a_t cI y.1 h_t) → va_S A s.heap H locs → lv_has ls 4 [(0, .ref o_t), (1, .int y.2.1), (2, .int y.2.2)] → W p l e ({ frames := 3, cells := 0, slots := 0, locals := 67 } : Room) s m args below meth c H locs 0 0 (MQ below (va_Qv (fun (_ : Unit) => True) (fun _ t => va_P (dC, dI) vwCl (wX7 o_t a_t cI r h_t) t.heap ∧ va_D A (wX7 o_t a_t cI r h_t)) A) args s 0 0 A) (F0 m 49 ls []))  {H : Heap} {locs : List Loc} (hP : va_P (dC, dI) vwCl (wX7 o_t a_t cI v_t h_t) H) (hD : va_D A (wX7 o_t a_t cI v_t h_t)) (hS : va_S A s.heap H locs) {r : obV} (hf : f_X7_layDay_b103  v_t x1 x2 x3 k49 = some r) {ls : Array Slot} (hl : lv_has ls 4 [(0, .ref o_t), (1, .int x1), (2, .int x2), (3, .int x3)]) :
    W p l e ({ frames := 3, cells := 0, slots := 0, locals := 67 } : Room) s m args below meth c H locs 0 0 (MQ below (va_Qv (fun (_ : Unit) => True) (fun _ t => va_P (dC, dI) vwCl (wX7 o_t a_t cI r h_t) t.heap ∧ va_D A (wX7 o_t a_t cI r h_t)) A) args s 0 0 A) (F0 m 103 ls []) := by
  obtain ⟨hx, hb, hml, hown, hts, hr, hlocks, hK, hN⟩ := C0
  unfold f_X7_layDay_b103 at hf
  refine lv_iload_n hx hb dX7_layDay_103 rfl (lv_at hl 3 rfl) ?_
  refine lv_iconst (v := (-1)) hx hb dX7_layDay_104 (by decide) ?_
  refine lv_icmp_eq (tgt := 142) hx hb dX7_layDay_105 (by decide) (fun c_105 => ?_) (fun c_105 => ?_)
  · have hf := ho_t hf c_105
    refine lv_iinc (v := (x2 + 1)) (lv' := [(2, .int (x2 + 1)), (0, .ref o_t), (1, .int x1), (3, .int x3)]) hx hb dX7_layDay_142 hl (k := 2) rfl (hp_inc (by decide)) (by decide) rfl (fun ls hl => ?_)
    refine lv_goto (tgt := 49) hx hb dX7_layDay_145 (by decide) ?_
    exact ih49 (v_t, x1, (x2 + 1)) _ hf _ _ _ hP hD hS (lv_sub hl [1, 2, 0] rfl)
  · have hf := ho_f hf c_105
    refine lv_aload_n hx hb dX7_layDay_108 rfl (lv_at hl 0 rfl) ?_
    refine va_get (D := (dC, dI)) (ci := 7) (v := .ref (a_t 11)) (C := RX7) (T := TX7) (N := 30) hx hb hts hw_X7 hown hK hP 0 rfl rfl 11 (by decide) (hts _ (List.mem_cons_of_mem _ mw_609)) (fun _ h9 => h9) rfl dX7_layDay_109 ?_
    refine lv_iload_n hx hb dX7_layDay_112 rfl (lv_at hl 3 rfl) ?_
    refine lv_iload_n hx hb dX7_layDay_113 rfl (lv_at hl 2 rfl) ?_
    obtain ⟨h_114, hf⟩ := ho_g hf
    refine va_iast (n := 5) (f := (v_t.2 11)) hx hb hK hP hD hS 4 0 rfl rfl h_114 dX7_layDay_114 (fun H locs hP hD hS => ?_)
    have hP : va_P (dC, dI) vwCl (wX7 o_t a_t cI (oA v_t 11 (Int32.toNatClampNeg x3) x2) h_t) H := hP
    have hD : va_D A (wX7 o_t a_t cI (oA v_t 11 (Int32.toNatClampNeg x3) x2) h_t) := hD
    obtain ⟨v_t_114, e_v_t_114⟩ : ∃ z : obV, z = (oA v_t 11 (Int32.toNatClampNeg x3) x2) := ⟨_, rfl⟩
    rw [← e_v_t_114] at hP hD
    have hf := ho_l hf v_t_114 e_v_t_114
    refine lv_aload_n hx hb dX7_layDay_115 rfl (lv_at hl 0 rfl) ?_
    refine lv_dup hx hb dX7_layDay_116 rfl ?_
    refine va_get (D := (dC, dI)) (ci := 7) (v := .int (v_t_114.1 13)) (C := RX7) (T := TX7) (N := 30) hx hb hts hw_X7 hown hK hP 0 rfl rfl 13 (by decide) (hts _ (List.mem_cons_of_mem _ mw_611)) (fun _ h9 => h9) rfl dX7_layDay_117 ?_
    refine lv_aload_n hx hb dX7_layDay_120 rfl (lv_at hl 0 rfl) ?_
    refine lv_iload_n hx hb dX7_layDay_121 rfl (lv_at hl 3 rfl) ?_
    obtain ⟨u_122, e_122, hf⟩ := ho_b hf
    refine vp_callSi (va_runV (As := [.int x3]) (rest := [.int (v_t_114.1 13), .ref o_t]) ⟨hx, hb, hml, hown, hts⟩ (c_X7_wearsOf l dC dI cI cII o_t a_t v_t_114 h_t (x3) u_122 e_122) (cwV 1 hts (hw_giV mw_753 mw_755 mw_26 mw_60 mw_756) rfl rfl rfl (by decide +kernel) ⟨Nat.le_of_ble_eq_true rfl, Nat.le_of_ble_eq_true rfl⟩) ⟨pB_blind, va_recv hK hP (ci := 7) (q0 := 0) rfl rfl, fun U hU hW => ⟨rfl, pB_go hP hK hN hU hW⟩⟩ rfl rfl hl.1 rfl (lv_room (Nat.le_of_ble_eq_true rfl)) dX7_layDay_122 ⟨Nat.zero_le _, Nat.zero_le _⟩).run (fun z_122 ez_122 => ?_)
    subst ez_122
    refine lv_isub hx hb dX7_layDay_125 ?_
    refine va_put (D := (dC, dI)) (ci := 7) (v := .int ((v_t_114.1 13) - u_122)) (ty := .int) (C := RX7) (T := TX7) (N := 30) hx hb hts hw_X7 tyX7 tyX7_ok nmX7 hown hK hP hD hS 0 rfl rfl 13 (by decide) (hts _ (List.mem_cons_of_mem _ mw_611)) (fun _ h9 => h9) rfl (by decide +kernel) rfl rfl (Nat.le_of_ble_eq_true rfl) dX7_layDay_126 (fun H locs hP hD hS => ?_)
    have hP : va_P (dC, dI) vwCl (wX7 o_t a_t cI (oF v_t_114 13 ((v_t_114.1 13) - u_122)) h_t) H := hP
    have hD : va_D A (wX7 o_t a_t cI (oF v_t_114 13 ((v_t_114.1 13) - u_122)) h_t) := hD
    obtain ⟨v_t_126, e_v_t_126⟩ : ∃ z : obV, z = (oF v_t_114 13 ((v_t_114.1 13) - u_122)) := ⟨_, rfl⟩
    rw [← e_v_t_126] at hP hD
    have hf := ho_l hf v_t_126 e_v_t_126
    refine lv_iload_n hx hb dX7_layDay_129 rfl (lv_at hl 2 rfl) ?_
    refine lv_aload_n hx hb dX7_layDay_130 rfl (lv_at hl 0 rfl) ?_
    refine lv_iload_n hx hb dX7_layDay_131 rfl (lv_at hl 3 rfl) ?_
    obtain ⟨u_132, e_132, hf⟩ := ho_b hf
    refine vp_callSi (va_runV (As := [.int x3]) (rest := [.int x2]) ⟨hx, hb, hml, hown, hts⟩ (c_X7_staysOf l dC dI cI cII o_t a_t v_t_126 h_t (x3) u_132 e_132) (cwV 1 hts (hw_giV mw_757 mw_759 mw_27 mw_60 mw_760) rfl rfl rfl (by decide +kernel) ⟨Nat.le_of_ble_eq_true rfl, Nat.le_of_ble_eq_true rfl⟩) ⟨pB_blind, va_recv hK hP (ci := 7) (q0 := 0) rfl rfl, fun U hU hW => ⟨rfl, pB_go hP hK hN hU hW⟩⟩ rfl rfl hl.1 rfl (lv_room (Nat.le_of_ble_eq_true rfl)) dX7_layDay_132 ⟨Nat.zero_le _, Nat.zero_le _⟩).run (fun z_132 ez_132 => ?_)
    subst ez_132
    refine lv_iadd hx hb dX7_layDay_135 ?_
    refine lv_istore_n (lv' := [(1, .int (x2 + u_132)), (0, .ref o_t), (2, .int x2), (3, .int x3)]) hx hb dX7_layDay_136 rfl hl (by decide) rfl (fun ls hl => ?_)
    refine lv_aload_n hx hb dX7_layDay_137 rfl (lv_at hl 1 rfl) ?_
    refine lv_iload_n hx hb dX7_layDay_138 rfl (lv_at hl 3 rfl) ?_
    obtain ⟨u_139, e_139, hf⟩ := ho_b hf
    have hFc := va_free (wc := (wX7 o_t a_t cI v_t_126 h_t)) hD hS hA [0, 1, 2, 3, 4, 5, 6, 7, 8, 9, 10, 11, 12] rfl
    refine va_callv (va_runV (As := [.int x3]) (rest := []) ⟨hx, hb, hml, hown, hts⟩ (c_X7_tellSaying l dC dI cI cII o_t a_t v_t_126 h_t (x3) _ u_139 e_139) (cwV 1 hts (hw_giV mw_761 mw_763 mw_28 mw_60 mw_764) rfl rfl rfl (by decide +kernel) ⟨Nat.le_of_ble_eq_true rfl, Nat.le_of_ble_eq_true rfl⟩) ⟨qB_blind, va_recv hK hP (ci := 7) (q0 := 0) rfl rfl, fun U hU hW => ⟨rfl, qB_go hP hD hK hN hU hW⟩⟩ rfl rfl hl.1 rfl (lv_room (Nat.le_of_ble_eq_true rfl)) dX7_layDay_139 ⟨Nat.zero_le _, Nat.zero_le _⟩) hS (fun q _ h => hFc q h) hFc (fun u t H1 locs ht hvm hw hB hz1 hk1 hS => ?_)
    obtain ⟨hP1, hD1⟩ := hB
    rw [ht] at hP1
    clear hP hD
    generalize H1 = H at hP1 hS ⊢
    have hP : va_P (dC, dI) vwCl (wX7 o_t a_t cI u_139 h_t) H := hP1
    have hD : va_D A (wX7 o_t a_t cI u_139 h_t) := hD1.weaken (fun _ q _ h => hFc q.1 h)
    refine lv_iinc (v := (x2 + 1)) (lv' := [(2, .int (x2 + 1)), (1, .int (x2 + u_132)), (0, .ref o_t), (3, .int x3)]) hx hb dX7_layDay_142 hl (k := 2) rfl (hp_inc (by decide)) (by decide) rfl (fun ls hl => ?_)
    refine lv_goto (tgt := 49) hx hb dX7_layDay_145 (by decide) ?_
    exact ih49 (u_139, (x2 + u_132), (x2 + 1)) _ hf _ _ _ hP hD hS (lv_sub hl [2, 1, 0] rfl)
set_option maxHeartbeats 4000000 in
set_option maxRecDepth 100000 in
theorem w_X7_layDay_b77 {p : Program} {l : Launch} {e : Env} {s : State} {m : MethodId} {args : Array Value} {below : List Frame} {meth : Method} {c : Code} {dC : Nat → ClassId} {dI : Nat → Nat → Nat} {cI cII : ClassId} {o_t : Nat} {a_t : Nat → Nat} {A : Nat → Prop} (C0 : hC p s m args meth c dC dI cI cII RX7 cX7_layDay 4 (wd yX7_layDay cX7_layDay 4 none) none) (hA : ∀ q, s.heap.size ≤ q → A q) {h_t : Int64} {v_t : obV} {x1 : Int32} {x2 : Int32} {s0 : Int32} {k49 : obV × Int32 × Int32 → Option (obV)} (ih49 : ∀ (y : obV × Int32 × Int32) (r : obV), k49 y = some r → ∀ (H : Heap) (locs : List Loc) (ls : Array Slot), va_P (dC, dI) vwCl (wX7 o_t a_t cI y.1 h_t) H → va_D A (wX7 o_t a_t cI y.1 h_t) → va_S A s.heap H locs → lv_has ls 4 [(0, .ref o_t), (1, .int y.2.1), (2, .int y.2.2)] → W p l e ({ frames := 3, cells := 0, slots := 0, locals := 67 } : Room) s m args below meth c H locs 0 0 (MQ below (va_Qv (fun (_ : Unit) => True) (fun _ t => va_P (dC, dI) vwCl (wX7 o_t a_t cI r h_t) t.heap ∧ va_D A (wX7 o_t a_t cI r h_t)) A) args s 0 0 A) (F0 m 49 ls []))  {H : Heap} {locs : List Loc} (hP : va_P (dC, dI) vwCl (wX7 o_t a_t cI v_t h_t) H) (hD : va_D A (wX7 o_t a_t cI v_t h_t)) (hS : va_S A s.heap H locs) {r : obV} (hf : f_X7_layDay_b77  v_t x1 x2 s0 k49 = some r) {ls : Array Slot} (hl : lv_has ls 4 [(0, .ref o_t), (1, .int x1), (2, .int x2)]) :
    W p l e ({ frames := 3, cells := 0, slots := 0, locals := 67 } : Room) s m args below meth c H locs 0 0 (MQ below (va_Qv (fun (_ : Unit) => True) (fun _ t => va_P (dC, dI) vwCl (wX7 o_t a_t cI r h_t) t.heap ∧ va_D A (wX7 o_t a_t cI r h_t)) A) args s 0 0 A) (F0 m 77 ls [.int s0]) := by
  obtain ⟨hx, hb, hml, hown, hts, hr, hlocks, hK, hN⟩ := C0
  unfold f_X7_layDay_b77 at hf
  refine lv_istore_n (lv' := [(3, .int s0), (0, .ref o_t), (1, .int x1), (2, .int x2)]) hx hb dX7_layDay_77 rfl hl (by decide) rfl (fun ls hl => ?_)
  refine lv_iload_n hx hb dX7_layDay_78 rfl (lv_at hl 0 rfl) ?_
  refine lv_iconst (v := (-1)) hx hb dX7_layDay_79 (by decide) ?_
  refine lv_icmp_eq (tgt := 103) hx hb dX7_layDay_80 (by decide) (fun c_80 => ?_) (fun c_80 => ?_)
  · have hf := ho_t hf c_80
    exact w_X7_layDay_b103 ⟨hx, hb, hml, hown, hts, hr, hlocks, hK, hN⟩ hA ih49 hP hD hS hf (lv_sub hl [1, 2, 3, 0] rfl)
  · have hf := ho_f hf c_80
    refine lv_aload_n hx hb dX7_layDay_83 rfl (lv_at hl 1 rfl) ?_
    refine va_get (D := (dC, dI)) (ci := 7) (v := .int (v_t.1 13)) (C := RX7) (T := TX7) (N := 30) hx hb hts hw_X7 hown hK hP 0 rfl rfl 13 (by decide) (hts _ (List.mem_cons_of_mem _ mw_611)) (fun _ h9 => h9) rfl dX7_layDay_84 ?_
    refine lv_aload_n hx hb dX7_layDay_87 rfl (lv_at hl 1 rfl) ?_
    refine lv_iload_n hx hb dX7_layDay_88 rfl (lv_at hl 0 rfl) ?_
    obtain ⟨u_89, e_89, hf⟩ := ho_b hf
    refine vp_callSi (va_runV (As := [.int s0]) (rest := [.int (v_t.1 13)]) ⟨hx, hb, hml, hown, hts⟩ (c_X7_wearsOf l dC dI cI cII o_t a_t v_t h_t (s0) u_89 e_89) (cwV 1 hts (hw_giV mw_753 mw_755 mw_26 mw_60 mw_756) rfl rfl rfl (by decide +kernel) ⟨Nat.le_of_ble_eq_true rfl, Nat.le_of_ble_eq_true rfl⟩) ⟨pB_blind, va_recv hK hP (ci := 7) (q0 := 0) rfl rfl, fun U hU hW => ⟨rfl, pB_go hP hK hN hU hW⟩⟩ rfl rfl hl.1 rfl (lv_room (Nat.le_of_ble_eq_true rfl)) dX7_layDay_89 ⟨Nat.zero_le _, Nat.zero_le _⟩).run (fun z_89 ez_89 => ?_)
    subst ez_89
    refine lv_icmp_ge (tgt := 103) hx hb dX7_layDay_92 (by decide) (fun c_92 => ?_) (fun c_92 => ?_)
    · have hf := ho_t hf c_92
      exact w_X7_layDay_b103 ⟨hx, hb, hml, hown, hts, hr, hlocks, hK, hN⟩ hA ih49 hP hD hS hf (lv_sub hl [1, 2, 3, 0] rfl)
    · have hf := ho_f hf c_92
      refine lv_aload_n hx hb dX7_layDay_95 rfl (lv_at hl 1 rfl) ?_
      refine lv_iload_n hx hb dX7_layDay_96 rfl (lv_at hl 3 rfl) ?_
      refine va_put (D := (dC, dI)) (ci := 7) (v := .int x2) (ty := .int) (C := RX7) (T := TX7) (N := 30) hx hb hts hw_X7 tyX7 tyX7_ok nmX7 hown hK hP hD hS 0 rfl rfl 14 (by decide) (hts _ (List.mem_cons_of_mem _ mw_612)) (fun _ h9 => h9) rfl (by decide +kernel) rfl rfl (Nat.le_of_ble_eq_true rfl) dX7_layDay_97 (fun H locs hP hD hS => ?_)
      have hP : va_P (dC, dI) vwCl (wX7 o_t a_t cI (oF v_t 14 x2) h_t) H := hP
      have hD : va_D A (wX7 o_t a_t cI (oF v_t 14 x2) h_t) := hD
      obtain ⟨v_t_97, e_v_t_97⟩ : ∃ z : obV, z = (oF v_t 14 x2) := ⟨_, rfl⟩
      rw [← e_v_t_97] at hP hD
      have hf := ho_l hf v_t_97 e_v_t_97
      refine lv_goto (tgt := 142) hx hb dX7_layDay_100 (by decide) ?_
      refine lv_iinc (v := (x2 + 1)) (lv' := [(2, .int (x2 + 1)), (3, .int s0), (0, .ref o_t), (1, .int x1)]) hx hb dX7_layDay_142 hl (k := 3) rfl (hp_inc (by decide)) (by decide) rfl (fun ls hl => ?_)
      refine lv_goto (tgt := 49) hx hb dX7_layDay_145 (by decide) ?_
      exact ih49 (v_t_97, x1, (x2 + 1)) _ hf _ _ _ hP hD hS (lv_sub hl [2, 3, 0] rfl)
set_option maxHeartbeats 4000000 in
set_option maxRecDepth 100000 in
theorem w_X7_layDay_l49 {p : Program} {l : Launch} {e : Env} {s : State} {m : MethodId} {args : Array Value} {below : List Frame} {meth : Method} {c : Code} {dC : Nat → ClassId} {dI : Nat → Nat → Nat} {cI cII : ClassId} {o_t : Nat} {a_t : Nat → Nat} {A : Nat → Prop} (C0 : hC p s m args meth c dC dI cI cII RX7 cX7_layDay 4 (wd yX7_layDay cX7_layDay 4 none) none) (hA : ∀ q, s.heap.size ≤ q → A q) {h_t : Int64}     :
    ∀ (n : Nat) (y : obV × Int32 × Int32) (r : obV), f_X7_layDay_l49    n y = some r → ∀ (H : Heap) (locs : List Loc) (ls : Array Slot), va_P (dC, dI) vwCl (wX7 o_t a_t cI y.1 h_t) H → va_D A (wX7 o_t a_t cI y.1 h_t) → va_S A s.heap H locs → lv_has ls 4 [(0, .ref o_t), (1, .int y.2.1), (2, .int y.2.2)] → W p l e ({ frames := 3, cells := 0, slots := 0, locals := 67 } : Room) s m args below meth c H locs 0 0 (MQ below (va_Qv (fun (_ : Unit) => True) (fun _ t => va_P (dC, dI) vwCl (wX7 o_t a_t cI r h_t) t.heap ∧ va_D A (wX7 o_t a_t cI r h_t)) A) args s 0 0 A) (F0 m 49 ls []) := by
  obtain ⟨hx, hb, hml, hown, hts, hr, hlocks, hK, hN⟩ := C0
  refine lp_W ?_
  intro k49 ih49 y r hf H locs ls hP hD hS hl
  obtain ⟨v_t, x1, x2⟩ := y
  have hf : f_X7_layDay_b49  v_t x1 x2  k49 = some r := hf
  have hP : va_P (dC, dI) vwCl (wX7 o_t a_t cI v_t h_t) H := hP
  have hD : va_D A (wX7 o_t a_t cI v_t h_t) := hD
  have hl : lv_has ls 4 [(0, .ref o_t), (1, .int x1), (2, .int x2)] := hl
  unfold f_X7_layDay_b49 at hf
  refine lv_iload_n hx hb dX7_layDay_49 rfl (lv_at hl 2 rfl) ?_
  refine lv_bipush (v := 20) hx hb dX7_layDay_50 (by decide) ?_
  refine lv_icmp_ge (tgt := 148) hx hb dX7_layDay_52 (by decide) (fun c_52 => ?_) (fun c_52 => ?_)
  · have hf := ho_t hf c_52
    obtain rfl := Option.some.inj hf
    exact W.vret hx hb hr (fun t ht hW => ⟨⟨(), rfl, trivial, by rw [ht]; exact hP, hD⟩, hS.F ht⟩) hS.2.2 dX7_layDay_148 hlocks
  · have hf := ho_f hf c_52
    refine lv_aload_n hx hb dX7_layDay_55 rfl (lv_at hl 0 rfl) ?_
    refine va_get (D := (dC, dI)) (ci := 7) (v := .int (v_t.1 14)) (C := RX7) (T := TX7) (N := 30) hx hb hts hw_X7 hown hK hP 0 rfl rfl 14 (by decide) (hts _ (List.mem_cons_of_mem _ mw_612)) (fun _ h9 => h9) rfl dX7_layDay_56 ?_
    refine lv_iconst (v := (-1)) hx hb dX7_layDay_59 (by decide) ?_
    refine lv_icmp_ne (tgt := 148) hx hb dX7_layDay_60 (by decide) (fun c_60 => ?_) (fun c_60 => ?_)
    · have hf := ho_f hf c_60
      obtain rfl := Option.some.inj hf
      exact W.vret hx hb hr (fun t ht hW => ⟨⟨(), rfl, trivial, by rw [ht]; exact hP, hD⟩, hS.F ht⟩) hS.2.2 dX7_layDay_148 hlocks
    · have hf := ho_t hf c_60
      refine lv_iload_n hx hb dX7_layDay_63 rfl (lv_at hl 2 rfl) ?_
      refine lv_iload_n hx hb dX7_layDay_64 rfl (lv_at hl 1 rfl) ?_
      refine lv_icmp_ge (tgt := 72) hx hb dX7_layDay_65 (by decide) (fun c_65 => ?_) (fun c_65 => ?_)
      · have hf := ho_t hf c_65
        refine lv_aload_n hx hb dX7_layDay_72 rfl (lv_at hl 0 rfl) ?_
        refine lv_iload_n hx hb dX7_layDay_73 rfl (lv_at hl 2 rfl) ?_
        obtain ⟨u_74, e_74, hf⟩ := ho_b hf
        refine vp_callSi (va_runV (As := [.int x2]) (rest := []) ⟨hx, hb, hml, hown, hts⟩ (c_X7_nextAt l dC dI cI cII o_t a_t v_t h_t (x2) u_74 e_74) (cwV 1 hts (hw_giV mw_741 mw_743 mw_23 mw_60 mw_744) rfl rfl rfl (by decide +kernel) ⟨Nat.le_of_ble_eq_true rfl, Nat.le_of_ble_eq_true rfl⟩) ⟨pB_blind, va_recv hK hP (ci := 7) (q0 := 0) rfl rfl, fun U hU hW => ⟨rfl, pB_go hP hK hN hU hW⟩⟩ rfl rfl hl.1 rfl (lv_room (Nat.le_of_ble_eq_true rfl)) dX7_layDay_74 ⟨Nat.zero_le _, Nat.zero_le _⟩).run (fun z_74 ez_74 => ?_)
        subst ez_74
        exact w_X7_layDay_b77 ⟨hx, hb, hml, hown, hts, hr, hlocks, hK, hN⟩ hA ih49 hP hD hS hf (lv_sub hl [0, 1, 2] rfl)
      · have hf := ho_f hf c_65
        refine lv_iconst (v := (-1)) hx hb dX7_layDay_68 (by decide) ?_
        refine lv_goto (tgt := 77) hx hb dX7_layDay_69 (by decide) ?_
        exact w_X7_layDay_b77 ⟨hx, hb, hml, hown, hts, hr, hlocks, hK, hN⟩ hA ih49 hP hD hS hf (lv_sub hl [0, 1, 2] rfl)
set_option maxHeartbeats 4000000 in
set_option maxRecDepth 100000 in
theorem w_X7_layDay_l2 {p : Program} {l : Launch} {e : Env} {s : State} {m : MethodId} {args : Array Value} {below : List Frame} {meth : Method} {c : Code} {dC : Nat → ClassId} {dI : Nat → Nat → Nat} {cI cII : ClassId} {o_t : Nat} {a_t : Nat → Nat} {A : Nat → Prop} (C0 : hC p s m args meth c dC dI cI cII RX7 cX7_layDay 4 (wd yX7_layDay cX7_layDay 4 none) none) (hA : ∀ q, s.heap.size ≤ q → A q) {h_t : Int64}     :
    ∀ (n : Nat) (y : obV × Int32) (r : obV), f_X7_layDay_l2    n y = some r → ∀ (H : Heap) (locs : List Loc) (ls : Array Slot), va_P (dC, dI) vwCl (wX7 o_t a_t cI y.1 h_t) H → va_D A (wX7 o_t a_t cI y.1 h_t) → va_S A s.heap H locs → lv_has ls 4 [(0, .ref o_t), (1, .int y.2)] → W p l e ({ frames := 3, cells := 0, slots := 0, locals := 67 } : Room) s m args below meth c H locs 0 0 (MQ below (va_Qv (fun (_ : Unit) => True) (fun _ t => va_P (dC, dI) vwCl (wX7 o_t a_t cI r h_t) t.heap ∧ va_D A (wX7 o_t a_t cI r h_t)) A) args s 0 0 A) (F0 m 2 ls []) := by
  obtain ⟨hx, hb, hml, hown, hts, hr, hlocks, hK, hN⟩ := C0
  refine lp_W ?_
  intro k2 ih2 y r hf H locs ls hP hD hS hl
  obtain ⟨v_t, x1⟩ := y
  have hf : f_X7_layDay_b2  v_t x1  k2 = some r := hf
  have hP : va_P (dC, dI) vwCl (wX7 o_t a_t cI v_t h_t) H := hP
  have hD : va_D A (wX7 o_t a_t cI v_t h_t) := hD
  have hl : lv_has ls 4 [(0, .ref o_t), (1, .int x1)] := hl
  unfold f_X7_layDay_b2 at hf
  refine lv_iload_n hx hb dX7_layDay_2 rfl (lv_at hl 1 rfl) ?_
  refine lv_iconst (v := 5) hx hb dX7_layDay_3 (by decide) ?_
  refine lv_icmp_ge (tgt := 27) hx hb dX7_layDay_4 (by decide) (fun c_4 => ?_) (fun c_4 => ?_)
  · have hf := ho_t hf c_4
    refine lv_aload_n hx hb dX7_layDay_27 rfl (lv_at hl 0 rfl) ?_
    refine lv_aload_n hx hb dX7_layDay_28 rfl (lv_at hl 0 rfl) ?_
    refine va_get (D := (dC, dI)) (ci := 7) (v := .int (v_t.1 7)) (C := RX7) (T := TX7) (N := 30) hx hb hts hw_X7 hown hK hP 0 rfl rfl 7 (by decide) (hts _ (List.mem_cons_of_mem _ mw_605)) (fun _ h9 => h9) rfl dX7_layDay_29 ?_
    refine va_put (D := (dC, dI)) (ci := 7) (v := .int (v_t.1 7)) (ty := .int) (C := RX7) (T := TX7) (N := 30) hx hb hts hw_X7 tyX7 tyX7_ok nmX7 hown hK hP hD hS 0 rfl rfl 13 (by decide) (hts _ (List.mem_cons_of_mem _ mw_611)) (fun _ h9 => h9) rfl (by decide +kernel) rfl rfl (Nat.le_of_ble_eq_true rfl) dX7_layDay_32 (fun H locs hP hD hS => ?_)
    have hP : va_P (dC, dI) vwCl (wX7 o_t a_t cI (oF v_t 13 (v_t.1 7)) h_t) H := hP
    have hD : va_D A (wX7 o_t a_t cI (oF v_t 13 (v_t.1 7)) h_t) := hD
    obtain ⟨v_t_32, e_v_t_32⟩ : ∃ z : obV, z = (oF v_t 13 (v_t.1 7)) := ⟨_, rfl⟩
    rw [← e_v_t_32] at hP hD
    have hf := ho_l hf v_t_32 e_v_t_32
    refine lv_aload_n hx hb dX7_layDay_35 rfl (lv_at hl 0 rfl) ?_
    refine lv_iconst (v := (-1)) hx hb dX7_layDay_36 (by decide) ?_
    refine va_put (D := (dC, dI)) (ci := 7) (v := .int (-1)) (ty := .int) (C := RX7) (T := TX7) (N := 30) hx hb hts hw_X7 tyX7 tyX7_ok nmX7 hown hK hP hD hS 0 rfl rfl 14 (by decide) (hts _ (List.mem_cons_of_mem _ mw_612)) (fun _ h9 => h9) rfl (by decide +kernel) rfl rfl (Nat.le_of_ble_eq_true rfl) dX7_layDay_37 (fun H locs hP hD hS => ?_)
    have hP : va_P (dC, dI) vwCl (wX7 o_t a_t cI (oF v_t_32 14 (-1)) h_t) H := hP
    have hD : va_D A (wX7 o_t a_t cI (oF v_t_32 14 (-1)) h_t) := hD
    obtain ⟨v_t_37, e_v_t_37⟩ : ∃ z : obV, z = (oF v_t_32 14 (-1)) := ⟨_, rfl⟩
    rw [← e_v_t_37] at hP hD
    have hf := ho_l hf v_t_37 e_v_t_37
    refine lv_aload_n hx hb dX7_layDay_40 rfl (lv_at hl 0 rfl) ?_
    refine lv_iconst (v := 0) hx hb dX7_layDay_41 (by decide) ?_
    refine va_put (D := (dC, dI)) (ci := 7) (v := .int 0) (ty := .int) (C := RX7) (T := TX7) (N := 30) hx hb hts hw_X7 tyX7 tyX7_ok nmX7 hown hK hP hD hS 0 rfl rfl 15 (by decide) (hts _ (List.mem_cons_of_mem _ mw_613)) (fun _ h9 => h9) rfl (by decide +kernel) rfl rfl (Nat.le_of_ble_eq_true rfl) dX7_layDay_42 (fun H locs hP hD hS => ?_)
    have hP : va_P (dC, dI) vwCl (wX7 o_t a_t cI (oF v_t_37 15 0) h_t) H := hP
    have hD : va_D A (wX7 o_t a_t cI (oF v_t_37 15 0) h_t) := hD
    obtain ⟨v_t_42, e_v_t_42⟩ : ∃ z : obV, z = (oF v_t_37 15 0) := ⟨_, rfl⟩
    rw [← e_v_t_42] at hP hD
    have hf := ho_l hf v_t_42 e_v_t_42
    refine lv_iconst (v := 0) hx hb dX7_layDay_45 (by decide) ?_
    refine lv_istore_n (lv' := [(1, .int 0), (0, .ref o_t)]) hx hb dX7_layDay_46 rfl hl (by decide) rfl (fun ls hl => ?_)
    refine lv_iconst (v := 0) hx hb dX7_layDay_47 (by decide) ?_
    refine lv_istore_n (lv' := [(2, .int 0), (1, .int 0), (0, .ref o_t)]) hx hb dX7_layDay_48 rfl hl (by decide) rfl (fun ls hl => ?_)
    exact w_X7_layDay_l49 ⟨hx, hb, hml, hown, hts, hr, hlocks, hK, hN⟩ hA  _ _ _ hf _ _ _ hP hD hS (lv_sub hl [2, 1, 0] rfl)
  · have hf := ho_f hf c_4
    refine lv_aload_n hx hb dX7_layDay_7 rfl (lv_at hl 0 rfl) ?_
    refine va_get (D := (dC, dI)) (ci := 7) (v := .ref (a_t 11)) (C := RX7) (T := TX7) (N := 30) hx hb hts hw_X7 hown hK hP 0 rfl rfl 11 (by decide) (hts _ (List.mem_cons_of_mem _ mw_609)) (fun _ h9 => h9) rfl dX7_layDay_8 ?_
    refine lv_iload_n hx hb dX7_layDay_11 rfl (lv_at hl 1 rfl) ?_
    refine lv_iconst (v := (-1)) hx hb dX7_layDay_12 (by decide) ?_
    obtain ⟨h_13, hf⟩ := ho_g hf
    refine va_iast (n := 5) (f := (v_t.2 11)) hx hb hK hP hD hS 4 0 rfl rfl h_13 dX7_layDay_13 (fun H locs hP hD hS => ?_)
    have hP : va_P (dC, dI) vwCl (wX7 o_t a_t cI (oA v_t 11 (Int32.toNatClampNeg x1) (-1)) h_t) H := hP
    have hD : va_D A (wX7 o_t a_t cI (oA v_t 11 (Int32.toNatClampNeg x1) (-1)) h_t) := hD
    obtain ⟨v_t_13, e_v_t_13⟩ : ∃ z : obV, z = (oA v_t 11 (Int32.toNatClampNeg x1) (-1)) := ⟨_, rfl⟩
    rw [← e_v_t_13] at hP hD
    have hf := ho_l hf v_t_13 e_v_t_13
    refine lv_aload_n hx hb dX7_layDay_14 rfl (lv_at hl 0 rfl) ?_
    refine va_get (D := (dC, dI)) (ci := 7) (v := .ref (a_t 12)) (C := RX7) (T := TX7) (N := 30) hx hb hts hw_X7 hown hK hP 0 rfl rfl 12 (by decide) (hts _ (List.mem_cons_of_mem _ mw_610)) (fun _ h9 => h9) rfl dX7_layDay_15 ?_
    refine lv_iload_n hx hb dX7_layDay_18 rfl (lv_at hl 1 rfl) ?_
    refine lv_iconst (v := (-1)) hx hb dX7_layDay_19 (by decide) ?_
    obtain ⟨h_20, hf⟩ := ho_g hf
    refine va_iast (n := 5) (f := (v_t_13.2 12)) hx hb hK hP hD hS 5 0 rfl rfl h_20 dX7_layDay_20 (fun H locs hP hD hS => ?_)
    have hP : va_P (dC, dI) vwCl (wX7 o_t a_t cI (oA v_t_13 12 (Int32.toNatClampNeg x1) (-1)) h_t) H := hP
    have hD : va_D A (wX7 o_t a_t cI (oA v_t_13 12 (Int32.toNatClampNeg x1) (-1)) h_t) := hD
    obtain ⟨v_t_20, e_v_t_20⟩ : ∃ z : obV, z = (oA v_t_13 12 (Int32.toNatClampNeg x1) (-1)) := ⟨_, rfl⟩
    rw [← e_v_t_20] at hP hD
    have hf := ho_l hf v_t_20 e_v_t_20
    refine lv_iinc (v := (x1 + 1)) (lv' := [(1, .int (x1 + 1)), (0, .ref o_t)]) hx hb dX7_layDay_21 hl (k := 1) rfl (hp_inc (by decide)) (by decide) rfl (fun ls hl => ?_)
    refine lv_goto (tgt := 2) hx hb dX7_layDay_24 (by decide) ?_
    exact ih2 (v_t_20, (x1 + 1)) _ hf _ _ _ hP hD hS (lv_sub hl [1, 0] rfl)
set_option maxHeartbeats 4000000 in
set_option maxRecDepth 100000 in
theorem c_X7_layDay (l : Launch) (dC : Nat → ClassId) (dI : Nat → Nat → Nat) (cI cII : ClassId) (o_t : Nat) (a_t : Nat → Nat) (v_t : obV) (h_t : Int64)  (sz : Nat) (r : obV) (hf : f_X7_layDay  v_t  = some r) :
    Met l yX7_layDay (wd yX7_layDay cX7_layDay 4 none) ({ frames := 3, cells := 0, slots := 0, locals := 67 } : Room) (va_Pc [.ref o_t] (qB (dC, dI) vwCl (wX7 o_t a_t cI v_t h_t) (hTY cI cII) sz)) (va_Qv (fun (_ : Unit) => True) (fun _ t => va_P (dC, dI) vwCl (wX7 o_t a_t cI r h_t) t.heap ∧ va_D (va_A (wX7 o_t a_t cI v_t h_t) sz) (wX7 o_t a_t cI r h_t)) (va_A (wX7 o_t a_t cI v_t h_t) sz)) 0 0 (va_A (wX7 o_t a_t cI v_t h_t) sz) := by
  refine Met.ofW (cc := cX7_layDay) (maxL := 4) (ret := none) (by decide) rfl ?_
  intro p e s m args below meth c s₁ B hml hv
  obtain ⟨rfl, hsz, hD0, hP, hK, hN⟩ := hv
  have hx := B.exec
  have hb := B.bytes
  have hr := B.returns
  have hts := atoms_spec (ws := (wd yX7_layDay cX7_layDay 4 none)) B.pre
  have hown : s.vm.findClass RX7 = some m.cls := findClass_of_methodNamed B.named
  have hlocks := B.notSynchronized
  subst hsz
  have hD := hD0.self (sz := s.heap.size)
  generalize hAe : va_A (wX7 o_t a_t cI v_t h_t) s.heap.size = A at hD ⊢
  have hA : ∀ q : Nat, s.heap.size ≤ q → A q := fun q h => by rw [← hAe]; exact Or.inr h
  have hS : va_S A s.heap s.heap [] := va_S.rf
  have hl := lv_entry ([.ref o_t]) (n := 4) (Nat.le_of_ble_eq_true rfl)
  rw [lg_entry_eq]
  generalize (lg_sl ([.ref o_t]) ++ List.replicate (4 - (lg_sl ([.ref o_t])).length) Slot.unset).toArray = ls at hl ⊢
  have hl : lv_has ls 4 [(0, .ref o_t)] := hl
  clear hAe hD0
  unfold f_X7_layDay at hf
  refine lv_iconst (v := 0) hx hb dX7_layDay_0 (by decide) ?_
  refine lv_istore_n (lv' := [(1, .int 0), (0, .ref o_t)]) hx hb dX7_layDay_1 rfl hl (by decide) rfl (fun ls hl => ?_)
  exact w_X7_layDay_l2 ⟨hx, hb, hml, hown, hts, hr, hlocks, hK, hN⟩ hA  _ _ _ hf _ _ _ hP hD hS (lv_sub hl [1, 0] rfl)
