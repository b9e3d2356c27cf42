/-! the two states, side by side -/
theorem q_10 : ¬ (1 : Int32) = 0 := by decide
theorem q_in (x lo hi : Int32) : f_X7_in x.toInt64 lo.toInt64 hi.toInt64 = f_X6_isWithin x lo hi := by
  unfold f_X7_in f_X6_isWithin
  have h1 : (lg_cmp x.toInt64 lo.toInt64 < 0) ↔ x < lo := by rw [lg_cmp_lt, Int64.lt_iff_toInt_lt, Int32.toInt_toInt64, Int32.toInt_toInt64, Int32.lt_iff_toInt_lt]
  have h2 : ((0 : Int32) < lg_cmp x.toInt64 hi.toInt64) ↔ hi < x := by rw [lg_cmp_gt, Int64.lt_iff_toInt_lt, Int32.toInt_toInt64, Int32.toInt_toInt64, Int32.lt_iff_toInt_lt]
  simp only [h1, h2]
theorem w_case (x : Int32) {lo hi : Int32} (a b : Nat) (ha : lo = nI a) (hb : hi = nI b) (hab : a < 2 ^ 31) (hb2 : b < 2 ^ 31) : f_X6_isWithin x lo hi = some 0 ∨ ∃ k, a ≤ k ∧ k ≤ b ∧ x = nI k ∧ f_X6_isWithin x lo hi = some 1 := by
  unfold f_X6_isWithin
  by_cases h1 : x < lo
  · left; rw [if_pos h1]
  · rw [if_neg h1]
    by_cases h2 : hi < x
    · left; rw [if_pos h2]
    · right
      rw [if_neg h2]
      have h3 : lo.toInt ≤ x.toInt := by rw [Int32.lt_iff_toInt_lt] at h1; omega
      have h4 : x.toInt ≤ hi.toInt := by rw [Int32.lt_iff_toInt_lt] at h2; omega
      rw [ha, nI_toInt hab] at h3
      rw [hb, nI_toInt hb2] at h4
      refine ⟨x.toInt.toNat, by omega, by omega, ?_, rfl⟩
      rw [← Int32.toInt_inj, nI_toInt (by omega)]
      omega
theorem x_has {v : obV} {n : Nat} (x : Int32) (hn : n ≤ 5) (hv : v.1 4 = nI n) : f_X1_has v x = some 0 ∨ ∃ p, p < n ∧ x = nI p ∧ f_X1_has v x = some 1 := by
  unfold f_X1_has
  by_cases h1 : x < 0
  · left; rw [if_pos h1]
  · rw [if_neg h1, hv]
    by_cases h2 : nI n ≤ x
    · left; rw [if_pos h2]
    · right
      rw [if_neg h2]
      obtain ⟨j, hj, e⟩ := nI_of h1
      subst e
      refine ⟨j, ?_, rfl, rfl⟩
      rw [nI_leI (by omega) hj] at h2
      omega
theorem m_isPilgrim {v vx : obV} {n : Nat} (x : Int32) (hn : n ≤ 5) (hv : v.1 6 = nI n) (hx : vx.1 4 = nI n) : f_X7_isPilgrim v x = f_X1_has vx x := by
  unfold f_X7_isPilgrim f_X1_has
  rw [show (0 : Int64) = (0 : Int32).toInt64 from rfl, q_in, hv, hx]
  unfold f_X6_isWithin
  by_cases h1 : x < 0
  · rw [if_pos h1, if_pos h1]; rfl
  · rw [if_neg h1, if_neg h1]
    have h3 : (nI n - 1 < x) ↔ nI n ≤ x := by
      rw [Int32.lt_iff_toInt_lt, Int32.le_iff_toInt_le, q_l1, pk_sub_toInt (by omega) (by decide), nI_toInt (by omega)]
      omega
    by_cases h2 : nI n ≤ x
    · rw [if_pos (h3.mpr h2), if_pos h2]; rfl
    · rw [if_neg (fun q => h2 (h3.mp q)), if_neg h2]; rfl
theorem x_isNone {v : obV} {n : Nat} (hn : n ≤ 5) (hv : v.1 4 = nI n) : f_X1_isNone v = some (nI (if n = 0 then 1 else 0)) := by
  unfold f_X1_isNone
  rw [hv]
  by_cases h : n = 0
  · rw [h, if_pos nI_0, if_pos rfl]; rfl
  · rw [if_neg (nI_ne0 (by omega) (by omega)), if_neg h]; rfl
theorem m_lacks {v : obV} {n : Nat} (hn : n ≤ 5) (hv : v.1 6 = nI n) : f_X7_lacks v = some (nI (if n = 0 then 1 else 0)) := by
  unfold f_X7_lacks
  rw [hv]
  by_cases h : n = 0
  · rw [h, if_pos nI_0, if_pos rfl]; rfl
  · rw [if_neg (nI_ne0 (by omega) (by omega)), if_neg h]; rfl
/-- what the reference keeps -/
def kpM (v : obV) (n : Nat) (K T C : Nat → Nat) (P : Nat) (ch : Int32) (k : Nat) (sl sm : Nat → Nat) : Prop := v.1 24 = nI P ∧ v.1 25 = ch ∧ v.1 26 = nI k ∧ (∀ p, p < n → v.2 27 (3 * p) = nI (K p) ∧ v.2 27 (3 * p + 1) = nI (T p) ∧ v.2 27 (3 * p + 2) = nI (C p)) ∧ ∀ j, j < k → v.2 28 (2 * j) = nI (sl j) ∧ v.2 28 (2 * j + 1) = nI (sm j)
def kpR (n : Nat) (vk vks vm : obV) : Prop := ∃ K T C P ch k sl sm, cvX vk n K T C P ch ∧ snX vks k sl sm ∧ okC n K T C P ∧ okS k sl sm ∧ kpM vm n K T C P ch k sl sm
def rdR (n rd : Nat) (vx vk vks vm : obV) : Prop := (vx.1 6 = 0 ∧ (vm.1 23 = NO ∨ ∃ q, q < rd ∧ vm.1 23 = nI q)) ∨ (vx.1 6 = 1 ∧ vm.1 23 = nI rd ∧ kpR n vk vks vm)
def pgR (vp vm : obV) : Prop := ∃ L c, pgX vp L c ∧ pgM vm L c ∧ okP L c
def snR (vs vm : obV) : Prop := ∃ k sl sm, snX vs k sl sm ∧ snM vm k sl sm ∧ okS k sl sm
def cvR (n : Nat) (vn vm : obV) : Prop := ∃ K T C P ch, cvX vn n K T C P ch ∧ cvM vm n K T C P ch ∧ okC n K T C P
def Rel (t : Nat) (vx vp vn vs vk vks vm : obV) : Prop := pgR vp vm ∧ snR vs vm ∧ ∃ n rd, cvR n vn vm ∧ rd ≤ t ∧ vx.1 7 = nI rd ∧ vm.1 9 = nI rd ∧ rdR n rd vx vk vks vm
/-- only what does not last has changed -/
def chS (v v' : obV) : Prop := (∀ k, k ∈ [1, 6, 7, 8, 9, 18, 23, 24, 25, 26] → v'.1 k = v.1 k) ∧ ∀ k, k ∈ [0, 10, 19, 27, 28] → v'.2 k = v.2 k
theorem chM.s {Is As : List Nat} {v v' : obV} (h : chM Is As v v') (h1 : ∀ k, k ∈ [1, 6, 7, 8, 9, 18, 23, 24, 25, 26] → k ∉ Is) (h2 : ∀ k, k ∈ [0, 10, 19, 27, 28] → k ∉ As) : chS v v' := ⟨fun k hk => h.1 k (h1 k hk), fun k hk => h.2 k (h2 k hk)⟩
theorem chS.tr {u v w : obV} (h1 : chS u v) (h2 : chS v w) : chS u w := ⟨fun k hk => (h2.1 k hk).trans (h1.1 k hk), fun k hk => (h2.2 k hk).trans (h1.2 k hk)⟩
theorem chS.rf {v : obV} : chS v v := ⟨fun _ _ => rfl, fun _ _ => rfl⟩
theorem pgR.w {vp vm vm' : obV} (h : pgR vp vm) (h1 : vm'.1 1 = vm.1 1) (h2 : vm'.2 0 = vm.2 0) : pgR vp vm' := by
  obtain ⟨L, c, a, b, d⟩ := h
  exact ⟨L, c, a, ⟨h1.trans b.1, by rw [h2]; exact b.2⟩, d⟩
theorem snR.w {vs vm vm' : obV} (h : snR vs vm) (h1 : vm'.1 18 = vm.1 18) (h2 : vm'.2 19 = vm.2 19) : snR vs vm' := by
  obtain ⟨L, c, e, a, b, d⟩ := h
  exact ⟨L, c, e, a, ⟨h1.trans b.1, by rw [h2]; exact b.2⟩, d⟩
theorem cvM.w {vm vm' : obV} {n : Nat} {K T C : Nat → Nat} {P : Nat} {ch : Int32} (h : cvM vm n K T C P ch) (h1 : vm'.1 6 = vm.1 6) (h2 : vm'.1 7 = vm.1 7) (h3 : vm'.1 8 = vm.1 8) (h4 : vm'.2 10 = vm.2 10) : cvM vm' n K T C P ch := ⟨h1.trans h.1, h2.trans h.2.1, h3.trans h.2.2.1, by unfold rwM; rw [h4]; exact h.2.2.2⟩
theorem cvR.w {vn vm vm' : obV} {n : Nat} (h : cvR n vn vm) (h1 : vm'.1 6 = vm.1 6) (h2 : vm'.1 7 = vm.1 7) (h3 : vm'.1 8 = vm.1 8) (h4 : vm'.2 10 = vm.2 10) : cvR n vn vm' := by
  obtain ⟨K, T, C, P, ch, a, b, d⟩ := h
  exact ⟨K, T, C, P, ch, a, b.w h1 h2 h3 h4, d⟩
theorem rdR.w {n rd : Nat} {vx vk vks vm vx' vm' : obV} (h : rdR n rd vx vk vks vm) (h0 : vx'.1 6 = vx.1 6) (h1 : vm'.1 23 = vm.1 23) (h2 : vm'.1 24 = vm.1 24) (h3 : vm'.1 25 = vm.1 25) (h4 : vm'.1 26 = vm.1 26) (h5 : vm'.2 27 = vm.2 27) (h6 : vm'.2 28 = vm.2 28) : rdR n rd vx' vk vks vm' := by
  unfold rdR kpR kpM at h ⊢
  rw [h0, h1, h2, h3, h4, h5, h6]
  exact h
theorem Rel.s {t : Nat} {vx vp vn vs vk vks vm vm' : obV} (h : Rel t vx vp vn vs vk vks vm) (hs : chS vm vm') : Rel (t + 1) vx vp vn vs vk vks vm' := by
  obtain ⟨a, b, n, rd, c, d, e, f, g⟩ := h
  exact ⟨a.w (hs.1 1 (by decide)) (hs.2 0 (by decide)), b.w (hs.1 18 (by decide)) (hs.2 19 (by decide)), n, rd, c.w (hs.1 6 (by decide)) (hs.1 7 (by decide)) (hs.1 8 (by decide)) (hs.2 10 (by decide)), Nat.le_succ_of_le d, e, (hs.1 9 (by decide)).trans f, g.w rfl (hs.1 23 (by decide)) (hs.1 24 (by decide)) (hs.1 25 (by decide)) (hs.1 26 (by decide)) (hs.2 27 (by decide)) (hs.2 28 (by decide))⟩
theorem Rel.up {t : Nat} {vx vp vn vs vk vks vm : obV} (h : Rel t vx vp vn vs vk vks vm) : Rel (t + 1) vx vp vn vs vk vks vm := h.s chS.rf
/-! LETTER, BLANK, FAULT -/
theorem op_letter {t : Nat} {v_x v_x_page v_x_now v_x_now_seen v_x_kept v_x_kept_seen v_m : obV} (hR : Rel t v_x v_x_page v_x_now v_x_now_seen v_x_kept v_x_kept_seen v_m) (x1 : Int32) : ∃ (ux : Int32 × obV) (um : Int32 × obV), f_X6_letter v_x_page x1 = some ux ∧ f_X7_letter v_m x1 = some um ∧ ux.1 = um.1 ∧ Rel (t + 1) (v_x) (ux.2) (v_x_now) (v_x_now_seen) (v_x_kept) (v_x_kept_seen) (um.2) := by
  unfold f_X6_letter f_X7_letter
  rw [show (1 : Int64) = (1 : Int32).toInt64 from rfl, show (126 : Int64) = (126 : Int32).toInt64 from rfl, q_in]
  rcases w_case x1 (lo := 1) (hi := 126) 1 126 (by decide) (by decide) (by decide) (by decide) with h | ⟨k, h1, h2, rfl, h⟩
  · rw [h, bind_e, bind_e, if_pos rfl, if_pos rfl]
    exact ⟨_, _, rfl, rfl, rfl, hR.up⟩
  · rw [h, bind_e, bind_e, if_neg q_10, if_neg q_10]
    obtain ⟨⟨L, c, a1, a2, a3⟩, b, n, rd, c1, d, e, f, g⟩ := id hR
    have hL := a3.1
    rw [a1.1, a2.1]
    by_cases h24 : L = 24
    · rw [h24, if_neg (by decide), if_pos (by decide)]
      exact ⟨_, _, rfl, rfl, rfl, hR.up⟩
    · rw [if_pos (by rw [q_l24]; exact nI_lt (by omega) (by decide)), if_neg (fun q => h24 ((nI_eq (by omega) (by decide)).mp (q.trans q_l24))), if_neg (nI_in (show L < 24 by omega) (by decide)), nI_clamp (by omega), hlet_e, hlet_e]
      unfold f_X3_write
      rw [a1.1, if_neg (by rw [q_l24]; exact nI_ge (by omega) (by decide)), if_neg (nI_in (show L < 24 by omega) (by decide)), nI_clamp (by omega), hlet_e, hlet_e, bind_e]
      refine ⟨_, _, rfl, rfl, ?_, ⟨L + 1, fun j => if j = L then k else c j, ⟨?_, fun j hj => ?_⟩, ⟨?_, fun j hj => ?_⟩, ⟨by omega, fun j hj => ?_⟩⟩, b.w rfl rfl, n, rd, c1.w rfl rfl rfl rfl, Nat.le_succ_of_le d, e, f, g.w rfl rfl rfl rfl rfl rfl rfl⟩
      · show v_x_page.1 1 + 1 = v_m.1 1 + 1
        rw [a1.1, a2.1]
      · show v_x_page.1 1 + 1 = _
        rw [a1.1, nI_1]
      · show upd (v_x_page.2 0) L (nI k) j = nI (if j = L then k else c j)
        rw [q_upd]
        by_cases e : j = L
        · rw [if_pos e, if_pos e]
        · rw [if_neg e, if_neg e]; exact a1.2 j (by omega)
      · show v_m.1 1 + 1 = _
        rw [a2.1, nI_1]
      · show upd (v_m.2 0) L (nI k) j = nI (if j = L then k else c j)
        rw [q_upd]
        by_cases e : j = L
        · rw [if_pos e, if_pos e]
        · rw [if_neg e, if_neg e]; exact a2.2 j (by omega)
      · show (if j = L then k else c j) < 127
        by_cases e : j = L
        · rw [if_pos e]; omega
        · rw [if_neg e]; exact a3.2 j (by omega)
theorem op_blank {t : Nat} {v_x v_x_page v_x_now v_x_now_seen v_x_kept v_x_kept_seen v_m : obV} (hR : Rel t v_x v_x_page v_x_now v_x_now_seen v_x_kept v_x_kept_seen v_m) : ∃ (ux : Int32 × obV) (um : Int32 × obV), f_X6_blank v_x_page = some ux ∧ f_X7_blank v_m = some um ∧ ux.1 = um.1 ∧ Rel (t + 1) (v_x) (ux.2) (v_x_now) (v_x_now_seen) (v_x_kept) (v_x_kept_seen) (um.2) := by
  unfold f_X6_blank f_X7_blank
  rw [hlet_e, hlet_e]
  obtain ⟨⟨L, c, a1, a2, a3⟩, b, n, rd, c1, d, e, f, g⟩ := hR
  refine ⟨_, _, rfl, rfl, ?_, ⟨0, c, ⟨rfl, fun j hj => absurd hj (Nat.not_lt_zero _)⟩, ⟨rfl, fun j hj => absurd hj (Nat.not_lt_zero _)⟩, ⟨by decide, fun j hj => absurd hj (Nat.not_lt_zero _)⟩⟩, b.w rfl rfl, n, rd, c1.w rfl rfl rfl rfl, Nat.le_succ_of_le d, e, f, g.w rfl rfl rfl rfl rfl rfl rfl⟩
  show v_x_page.1 1 = v_m.1 1
  rw [a1.1, a2.1]
theorem op_fault {t : Nat} {v_x v_x_page v_x_now v_x_now_seen v_x_kept v_x_kept_seen v_m : obV} (hR : Rel t v_x v_x_page v_x_now v_x_now_seen v_x_kept v_x_kept_seen v_m) : ∃ (ux : Int32) (um : Int32 × obV), f_X6_fault v_x_page = some ux ∧ f_X7_fault v_m = some um ∧ ux = um.1 ∧ Rel (t + 1) (v_x) (v_x_page) (v_x_now) (v_x_now_seen) (v_x_kept) (v_x_kept_seen) (um.2) := by
  obtain ⟨L, c, a1, a2, a3⟩ := hR.1
  obtain ⟨r, h1, h2⟩ := x_firstWrong a1 a3
  obtain ⟨r', v', sm, k1, k2, k3, _⟩ := m_faultOf a2 a3
  have e := fwP_one h2 k2
  subst e
  unfold f_X6_fault f_X7_fault
  rw [h1, k1, bind_e, bind_e]
  exact ⟨_, _, rfl, rfl, rfl, hR.s (k3.s (by decide) (by decide))⟩
