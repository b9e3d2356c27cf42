set_option maxHeartbeats 4000000 in
set_option maxRecDepth 100000 in
theorem whole_start {p : Program} {e : Env} {s : State} {m : MethodId} {below : List Frame} {meth : Method} {c : Code} (l : Launch) {b L : Nat} {xs : Nat → Int32} (hL : L ≤ 256) (C0 : lw_At p s m meth c b L xs) : W p l e room_1 s m #[Value.ref b] below meth c s.heap [] 0 0 (lw_Z below #[Value.ref b] s) (entryFrame m ([Value.ref b] : List Value).toArray 4) := by
  obtain ⟨hx, hb, hr, hml, hown, hts0, hX, hbl, hlocks, hgv⟩ := id C0
  have hown : s.vm.findClass RL = some m.cls := hown
  have hts : ∀ w ∈ (Cond.initialized RL :: hw_all), w.before #[Value.ref b] s = true := fun w hw => (List.mem_cons.mp hw).elim (fun e => by rw [e]; exact hts0 _ (hw_tbl mw_52)) (fun h => hts0 w (hw_tbl h))
  obtain ⟨A, hAe⟩ : ∃ A : Nat → Prop, A = fun q : Nat => s.heap.size ≤ q := ⟨_, rfl⟩
  have hA : ∀ q : Nat, s.heap.size ≤ q → A q := fun q h => by rw [hAe]; exact h
  have hbA : ¬ A b := by rw [hAe]; exact Nat.not_le.mpr hbl
  have hAn : ∀ q, A q → s.heap.size ≤ q := fun q h => by rw [hAe] at h; exact h
  have hao : (Cond.arrayOver (.array .int)).before #[Value.ref b] s = true := (hts0 _ (List.mem_of_getElem? (l := lw_tbl) (i := 197) (by decide +kernel)))
  have hN : nst s := ⟨va_Nw.of rfl (hts0 _ (List.mem_of_getElem? (l := lw_tbl) (i := 289) (by decide +kernel))), va_Nw.of rfl (hts0 _ (List.mem_of_getElem? (l := lw_tbl) (i := 290) (by decide +kernel))), va_Nw.of rfl (hts0 _ (List.mem_of_getElem? (l := lw_tbl) (i := 316) (by decide +kernel))), va_Nw.of rfl (hts0 _ (List.mem_of_getElem? (l := lw_tbl) (i := 365) (by decide +kernel))), va_Nw.of rfl (hts0 _ (List.mem_of_getElem? (l := lw_tbl) (i := 483) (by decide +kernel))), va_Nw.of rfl (hts0 _ (List.mem_of_getElem? (l := lw_tbl) (i := 74) (by decide +kernel))), va_Nw.of rfl (hts0 _ (List.mem_of_getElem? (l := lw_tbl) (i := 91) (by decide +kernel))), va_Nw.of rfl (hts0 _ (List.mem_of_getElem? (l := lw_tbl) (i := 97) (by decide +kernel))), va_Nw.of rfl (hts0 _ (List.mem_of_getElem? (l := lw_tbl) (i := 151) (by decide +kernel))), va_Nw.of rfl (hts0 _ (List.mem_of_getElem? (l := lw_tbl) (i := 190) (by decide +kernel))), va_Nw.of rfl (hts0 _ (List.mem_of_getElem? (l := lw_tbl) (i := 195) (by decide +kernel))), va_Nw.of rfl (hts0 _ (List.mem_of_getElem? (l := lw_tbl) (i := 215) (by decide +kernel)))⟩
  obtain ⟨c0, iS0, hKn0⟩ := u_known (C := RX0) (T := TX0) (N := 4) (n := 4) hts hw_X0 (hts _ (List.mem_cons_of_mem _ mw_214))
  obtain ⟨c1, iS1, hKn1⟩ := u_known (C := RX1) (T := TX1) (N := 7) (n := 7) hts hw_X1 (hts _ (List.mem_cons_of_mem _ mw_90))
  obtain ⟨c2, iS2, hKn2⟩ := u_known (C := RX2) (T := TX2) (N := 8) (n := 8) hts hw_X2 (hts _ (List.mem_cons_of_mem _ mw_150))
  obtain ⟨c3, iS3, hKn3⟩ := u_known (C := RX3) (T := TX3) (N := 2) (n := 2) hts hw_X3 (hts _ (List.mem_cons_of_mem _ mw_73))
  obtain ⟨c4, iS4, hKn4⟩ := u_known (C := RX4) (T := TX4) (N := 3) (n := 3) hts hw_X4 (hts _ (List.mem_cons_of_mem _ mw_96))
  obtain ⟨c5, iS5, hKn5⟩ := u_known (C := RX5) (T := TX5) (N := 4) (n := 4) hts hw_X5 (hts _ (List.mem_cons_of_mem _ mw_189))
  obtain ⟨c6, iS6, hKn6⟩ := u_known (C := RX6) (T := TX6) (N := 8) (n := 8) hts hw_X6 (hts _ (List.mem_cons_of_mem _ mw_65))
  obtain ⟨c7, iS7, hKn7⟩ := u_known (C := RX7) (T := TX7) (N := 30) (n := 30) hts hw_X7 (hts _ (List.mem_cons_of_mem _ mw_593))
  obtain ⟨dC, dI, hKc⟩ : ∃ (dC : Nat → ClassId) (dI : Nat → Nat → Nat), ∀ (k : Nat) (q : vw_C), vwCl[k]? = some q → u_Kn s q.1 q.2.1 q.2.2 (dC k) (dI k) := by
    refine ⟨fun k => if k = 0 then c0 else if k = 1 then c1 else if k = 2 then c2 else if k = 3 then c3 else if k = 4 then c4 else if k = 5 then c5 else if k = 6 then c6 else c7, fun k => if k = 0 then iS0 else if k = 1 then iS1 else if k = 2 then iS2 else if k = 3 then iS3 else if k = 4 then iS4 else if k = 5 then iS5 else if k = 6 then iS6 else iS7, ?_⟩
    intro k q hq
    match k, hq with
    | 0, hq => cases hq; exact hKn0
    | 1, hq => cases hq; exact hKn1
    | 2, hq => cases hq; exact hKn2
    | 3, hq => cases hq; exact hKn3
    | 4, hq => cases hq; exact hKn4
    | 5, hq => cases hq; exact hKn5
    | 6, hq => cases hq; exact hKn6
    | 7, hq => cases hq; exact hKn7
    | k + 8, hq => simp [vwCl] at hq
  obtain ⟨cI, kI, pI, fI, gI, jI⟩ := Cond.arrayClass_spec (hts _ (List.mem_cons_of_mem _ mw_88))
  obtain ⟨pII, cII, kII, fII, -, gII, jII, nII⟩ := hao_spec hao
  have hK : va_K (dC, dI) vwCl (hTY cI cII) s := ⟨hKc, fun k q hq => by
    match k, hq with
    | 0, hq => cases hq; exact ⟨fun n z => ⟨fun k h => (by cases h), kI, gI, pI, jI⟩, fI⟩
    | 1, hq => cases hq; exact ⟨fun n z => ⟨fun k h => (by cases h), kII, gII, pII, jII⟩, nII⟩
    | k + 2, hq => simp [hTY] at hq⟩
  have hS : va_S A s.heap s.heap [] := va_S.rf
  have hP : va_P (dC, dI) vwCl [] s.heap := fun k q h => by simp at h
  have hD : va_D A [] := ⟨fun i j p q h => by simp at h, fun k q h => by simp at h⟩
  have hl := lv_entry ([.ref b]) (n := 4) (Nat.le_of_ble_eq_true rfl)
  rw [lg_entry_eq]
  generalize (lg_sl ([.ref b]) ++ List.replicate (4 - (lg_sl ([.ref b])).length) Slot.unset).toArray = ls at hl ⊢
  have hl : lv_has ls 4 [(0, .ref b)] := hl
  refine va_new (ci := 6) (fs := [.null, .null, .null, .null, .null, .null, .int 0, .int 0]) (C := RX6) (T := TX6) (N := 8) hx hb hts hw_X6 tyX6 tyX6_ok hown (hts _ (List.mem_cons_of_mem _ mw_64)) (hts _ (List.mem_cons_of_mem _ mw_65)) (hts _ (List.mem_cons_of_mem _ mw_53)) hK hP hD hS hA rfl (fun j hj => match j, hj with | 0, _ => rfl | 1, _ => rfl | 2, _ => rfl | 3, _ => rfl | 4, _ => rfl | 5, _ => rfl | 6, _ => rfl | 7, _ => rfl | j + 8, h => absurd h (by omega)) (Nat.le_of_ble_eq_true rfl) (Nat.le_of_ble_eq_true rfl) dL_law_0 (fun o_x H hP hD hS => ?_)
  have hP : va_P (dC, dI) vwCl ([(o_x, .inr (6, [.null, .null, .null, .null, .null, .null, .int 0, .int 0]))]) H := hP
  have hD : va_D A ([(o_x, .inr (6, [.null, .null, .null, .null, .null, .null, .int 0, .int 0]))]) := hD
  refine W.widen (k := 1) (n := 8) (Nat.le_of_ble_eq_true rfl) (Nat.le_of_ble_eq_true rfl) ?_
  refine lv_dup hx hb dL_law_3 rfl ?_
  have hPc := hP.sub (ws' := [(o_x, .inr (6, [.null, .null, .null, .null, .null, .null, .int 0, .int 0]))]) [0] rfl
  have hDc := hD.sub (ws' := [(o_x, .inr (6, [.null, .null, .null, .null, .null, .null, .int 0, .int 0]))]) [0] (by decide) rfl
  have hFc := va_free (wc := [(o_x, .inr (6, [.null, .null, .null, .null, .null, .null, .int 0, .int 0]))]) hD hS hA [0] rfl
  refine va_callv (va_runI (As := []) (rest := [.ref o_x]) ⟨hx, hb, hml, hown, hts⟩ (k_X6_init l dC dI cI cII o_x _) (cwI 0 hts (hw_gi mw_68) rfl rfl rfl (hts _ (List.mem_cons_of_mem _ mw_53)) (hts _ (List.mem_cons_of_mem _ mw_66)) (hts _ (List.mem_cons_of_mem _ mw_67)) rfl (by decide +kernel) ⟨Nat.le_of_ble_eq_true rfl, Nat.le_of_ble_eq_true rfl⟩) ⟨kB_blind, fun U hU hW => ⟨rfl, kB_go hPc hDc hK hN hao hU hW⟩⟩ rfl rfl hl.1 rfl (lv_room (Nat.le_of_ble_eq_true rfl)) dL_law_4 ⟨Nat.le_of_ble_eq_true rfl, Nat.le_of_ble_eq_true rfl⟩) hS (fun q _ h => hFc q h) hFc (fun u t H1 locs ht hvm hw hB hz1 hk1 hS => ?_)
  obtain ⟨a_x, a_x_page, a_x_now, a_x_now_seen, a_x_kept, a_x_kept_seen, a_x_today, a_x_trials, r_x_trials, a_x_trials_day, a_x_best, hP1, hD1⟩ := hB
  rw [ht] at hP1
  obtain ⟨hP, hD⟩ := va_join (wr := []) (w1 := (wX6 o_x a_x cI v0 ++ (wX3 (a_x 0) a_x_page cI v0 ++ (wX1 (a_x 1) a_x_now cI v0 ++ (wX4 (a_x_now 3) a_x_now_seen cI v0 ++ (wX1 (a_x 2) a_x_kept cI v0 ++ (wX4 (a_x_kept 3) a_x_kept_seen cI v0 ++ (wX2 (a_x 3) a_x_today cI v0 ++ (wX5 (a_x 4) a_x_trials r_x_trials cI cII v0 w0 ++ (wX2 (a_x_trials 0) a_x_trials_day cI v0 ++ (wX0 (a_x 5) a_x_best cI v0))))))))))) hP hD [0] [] rfl rfl (by decide) (by decide) hk1 hFc hP1 hD1
  generalize H1 = H at hP hS ⊢
  have hP : va_P (dC, dI) vwCl (wX6 o_x a_x cI v0 ++ (wX3 (a_x 0) a_x_page cI v0 ++ (wX1 (a_x 1) a_x_now cI v0 ++ (wX4 (a_x_now 3) a_x_now_seen cI v0 ++ (wX1 (a_x 2) a_x_kept cI v0 ++ (wX4 (a_x_kept 3) a_x_kept_seen cI v0 ++ (wX2 (a_x 3) a_x_today cI v0 ++ (wX5 (a_x 4) a_x_trials r_x_trials cI cII v0 w0 ++ (wX2 (a_x_trials 0) a_x_trials_day cI v0 ++ (wX0 (a_x 5) a_x_best cI v0)))))))))) H := hP
  have hD : va_D A (wX6 o_x a_x cI v0 ++ (wX3 (a_x 0) a_x_page cI v0 ++ (wX1 (a_x 1) a_x_now cI v0 ++ (wX4 (a_x_now 3) a_x_now_seen cI v0 ++ (wX1 (a_x 2) a_x_kept cI v0 ++ (wX4 (a_x_kept 3) a_x_kept_seen cI v0 ++ (wX2 (a_x 3) a_x_today cI v0 ++ (wX5 (a_x 4) a_x_trials r_x_trials cI cII v0 w0 ++ (wX2 (a_x_trials 0) a_x_trials_day cI v0 ++ (wX0 (a_x 5) a_x_best cI v0)))))))))) := hD
  refine W.widen (k := 44) (n := 446) (Nat.le_of_ble_eq_true rfl) (Nat.le_of_ble_eq_true rfl) ?_
  refine lv_astore_n (lv' := [(1, .ref o_x), (0, .ref b)]) hx hb dL_law_7 rfl hl (by decide) rfl (fun ls hl => ?_)
  refine va_new (ci := 7) (fs := [.null, .int 0, .null, .int 0, .int 0, .int 0, .int 0, .int 0, .int 0, .int 0, .null, .null, .null, .int 0, .int 0, .int 0, .null, .null, .int 0, .null, .null, .int 0, .null, .int 0, .int 0, .int 0, .int 0, .null, .null, .long 0]) (C := RX7) (T := TX7) (N := 30) hx hb hts hw_X7 tyX7 tyX7_ok hown (hts _ (List.mem_cons_of_mem _ mw_592)) (hts _ (List.mem_cons_of_mem _ mw_593)) (hts _ (List.mem_cons_of_mem _ mw_60)) hK hP hD hS hA rfl (fun j hj => match j, hj with | 0, _ => rfl | 1, _ => rfl | 2, _ => rfl | 3, _ => rfl | 4, _ => rfl | 5, _ => rfl | 6, _ => rfl | 7, _ => rfl | 8, _ => rfl | 9, _ => rfl | 10, _ => rfl | 11, _ => rfl | 12, _ => rfl | 13, _ => rfl | 14, _ => rfl | 15, _ => rfl | 16, _ => rfl | 17, _ => rfl | 18, _ => rfl | 19, _ => rfl | 20, _ => rfl | 21, _ => rfl | 22, _ => rfl | 23, _ => rfl | 24, _ => rfl | 25, _ => rfl | 26, _ => rfl | 27, _ => rfl | 28, _ => rfl | 29, _ => rfl | j + 30, h => absurd h (by omega)) (Nat.le_of_ble_eq_true rfl) (Nat.le_of_ble_eq_true rfl) dL_law_8 (fun o_m H hP hD hS => ?_)
  have hP : va_P (dC, dI) vwCl (wX6 o_x a_x cI v0 ++ (wX3 (a_x 0) a_x_page cI v0 ++ (wX1 (a_x 1) a_x_now cI v0 ++ (wX4 (a_x_now 3) a_x_now_seen cI v0 ++ (wX1 (a_x 2) a_x_kept cI v0 ++ (wX4 (a_x_kept 3) a_x_kept_seen cI v0 ++ (wX2 (a_x 3) a_x_today cI v0 ++ (wX5 (a_x 4) a_x_trials r_x_trials cI cII v0 w0 ++ (wX2 (a_x_trials 0) a_x_trials_day cI v0 ++ (wX0 (a_x 5) a_x_best cI v0 ++ ([(o_m, .inr (7, [.null, .int 0, .null, .int 0, .int 0, .int 0, .int 0, .int 0, .int 0, .int 0, .null, .null, .null, .int 0, .int 0, .int 0, .null, .null, .int 0, .null, .null, .int 0, .null, .int 0, .int 0, .int 0, .int 0, .null, .null, .long 0]))]))))))))))) H := hP
  have hD : va_D A (wX6 o_x a_x cI v0 ++ (wX3 (a_x 0) a_x_page cI v0 ++ (wX1 (a_x 1) a_x_now cI v0 ++ (wX4 (a_x_now 3) a_x_now_seen cI v0 ++ (wX1 (a_x 2) a_x_kept cI v0 ++ (wX4 (a_x_kept 3) a_x_kept_seen cI v0 ++ (wX2 (a_x 3) a_x_today cI v0 ++ (wX5 (a_x 4) a_x_trials r_x_trials cI cII v0 w0 ++ (wX2 (a_x_trials 0) a_x_trials_day cI v0 ++ (wX0 (a_x 5) a_x_best cI v0 ++ ([(o_m, .inr (7, [.null, .int 0, .null, .int 0, .int 0, .int 0, .int 0, .int 0, .int 0, .int 0, .null, .null, .null, .int 0, .int 0, .int 0, .null, .null, .int 0, .null, .null, .int 0, .null, .int 0, .int 0, .int 0, .int 0, .null, .null, .long 0]))]))))))))))) := hD
  refine W.widen (k := 45) (n := 476) (Nat.le_of_ble_eq_true rfl) (Nat.le_of_ble_eq_true rfl) ?_
  refine lv_dup hx hb dL_law_11 rfl ?_
  have hPc := hP.sub (ws' := [(o_m, .inr (7, [.null, .int 0, .null, .int 0, .int 0, .int 0, .int 0, .int 0, .int 0, .int 0, .null, .null, .null, .int 0, .int 0, .int 0, .null, .null, .int 0, .null, .null, .int 0, .null, .int 0, .int 0, .int 0, .int 0, .null, .null, .long 0]))]) [44] rfl
  have hDc := hD.sub (ws' := [(o_m, .inr (7, [.null, .int 0, .null, .int 0, .int 0, .int 0, .int 0, .int 0, .int 0, .int 0, .null, .null, .null, .int 0, .int 0, .int 0, .null, .null, .int 0, .null, .null, .int 0, .null, .int 0, .int 0, .int 0, .int 0, .null, .null, .long 0]))]) [44] (by decide) rfl
  have hFc := va_free (wc := [(o_m, .inr (7, [.null, .int 0, .null, .int 0, .int 0, .int 0, .int 0, .int 0, .int 0, .int 0, .null, .null, .null, .int 0, .int 0, .int 0, .null, .null, .int 0, .null, .null, .int 0, .null, .int 0, .int 0, .int 0, .int 0, .null, .null, .long 0]))]) hD hS hA [44] rfl
  refine va_callv (va_runI (As := []) (rest := [.ref o_m]) ⟨hx, hb, hml, hown, hts⟩ (k_X7_init l dC dI cI cII o_m _) (cwI 0 hts (hw_gi mw_596) rfl rfl rfl (hts _ (List.mem_cons_of_mem _ mw_60)) (hts _ (List.mem_cons_of_mem _ mw_594)) (hts _ (List.mem_cons_of_mem _ mw_595)) rfl (by decide +kernel) ⟨Nat.le_of_ble_eq_true rfl, Nat.le_of_ble_eq_true rfl⟩) ⟨kB_blind, fun U hU hW => ⟨rfl, kB_go hPc hDc hK hN hao hU hW⟩⟩ rfl rfl hl.1 rfl (lv_room (Nat.le_of_ble_eq_true rfl)) dL_law_12 ⟨Nat.le_of_ble_eq_true rfl, Nat.le_of_ble_eq_true rfl⟩) hS (fun q _ h => hFc q h) hFc (fun u t H1 locs ht hvm hw hB hz1 hk1 hS => ?_)
  obtain ⟨a_m, hP1, hD1⟩ := hB
  rw [ht] at hP1
  obtain ⟨hP, hD⟩ := va_join (wr := (wX6 o_x a_x cI v0 ++ (wX3 (a_x 0) a_x_page cI v0 ++ (wX1 (a_x 1) a_x_now cI v0 ++ (wX4 (a_x_now 3) a_x_now_seen cI v0 ++ (wX1 (a_x 2) a_x_kept cI v0 ++ (wX4 (a_x_kept 3) a_x_kept_seen cI v0 ++ (wX2 (a_x 3) a_x_today cI v0 ++ (wX5 (a_x 4) a_x_trials r_x_trials cI cII v0 w0 ++ (wX2 (a_x_trials 0) a_x_trials_day cI v0 ++ (wX0 (a_x 5) a_x_best cI v0))))))))))) (w1 := wX7 o_m a_m cI (oF v0 23 (-1)) 0) hP hD [44] [0, 1, 2, 3, 4, 5, 6, 7, 8, 9, 10, 11, 12, 13, 14, 15, 16, 17, 18, 19, 20, 21, 22, 23, 24, 25, 26, 27, 28, 29, 30, 31, 32, 33, 34, 35, 36, 37, 38, 39, 40, 41, 42, 43] rfl rfl (by decide +kernel) (by decide +kernel) hk1 hFc hP1 hD1
  generalize H1 = H at hP hS ⊢
  have hP : va_P (dC, dI) vwCl (wX6 o_x a_x cI v0 ++ (wX3 (a_x 0) a_x_page cI v0 ++ (wX1 (a_x 1) a_x_now cI v0 ++ (wX4 (a_x_now 3) a_x_now_seen cI v0 ++ (wX1 (a_x 2) a_x_kept cI v0 ++ (wX4 (a_x_kept 3) a_x_kept_seen cI v0 ++ (wX2 (a_x 3) a_x_today cI v0 ++ (wX5 (a_x 4) a_x_trials r_x_trials cI cII v0 w0 ++ (wX2 (a_x_trials 0) a_x_trials_day cI v0 ++ (wX0 (a_x 5) a_x_best cI v0 ++ (wX7 o_m a_m cI (oF v0 23 (-1)) 0))))))))))) H := hP
  have hD : va_D A (wX6 o_x a_x cI v0 ++ (wX3 (a_x 0) a_x_page cI v0 ++ (wX1 (a_x 1) a_x_now cI v0 ++ (wX4 (a_x_now 3) a_x_now_seen cI v0 ++ (wX1 (a_x 2) a_x_kept cI v0 ++ (wX4 (a_x_kept 3) a_x_kept_seen cI v0 ++ (wX2 (a_x 3) a_x_today cI v0 ++ (wX5 (a_x 4) a_x_trials r_x_trials cI cII v0 w0 ++ (wX2 (a_x_trials 0) a_x_trials_day cI v0 ++ (wX0 (a_x 5) a_x_best cI v0 ++ (wX7 o_m a_m cI (oF v0 23 (-1)) 0))))))))))) := hD
  refine W.widen (k := 57) (n := 732) (Nat.le_of_ble_eq_true rfl) (Nat.le_of_ble_eq_true rfl) ?_
  refine lv_astore_n (lv' := [(2, .ref o_m), (1, .ref o_x), (0, .ref b)]) hx hb dL_law_15 rfl hl (by decide) rfl (fun ls hl => ?_)
  refine lv_iconst (v := 0) hx hb dL_law_16 (by decide) ?_
  refine lv_istore_n (lv' := [(3, .int 0), (2, .ref o_m), (1, .ref o_x), (0, .ref b)]) hx hb dL_law_17 rfl hl (by decide) rfl (fun ls hl => ?_)
  exact law_loop ⟨hx, hb, hml, hown, hts, hr, hlocks, hK, hN⟩ hA hX hbl hbA hAn hL 65 0 (by decide) (by decide) (v0) (v0) (v0) (v0) (v0) (v0) (v0) (v0) (w0) (v0) (v0) ((oF v0 23 (-1))) (0) H _ ls 0 nI_0.symm rel_0 hP hD hS (lv_sub hl [3, 2, 1, 0] rfl)
