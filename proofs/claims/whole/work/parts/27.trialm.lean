/-! FIT, WHEN and LOOK of the reference -/
theorem upd_upd (f : Nat → Int32) (i : Nat) (x y : Int32) : upd (upd f i x) i y = upd f i y := by
  funext j
  rw [q_upd, q_upd, q_upd]
  split <;> rfl
theorem upd_self (f : Nat → Int32) (i : Nat) : upd f i (f i) = f := by
  funext j
  rw [q_upd]
  split
  · rename_i h; rw [h]
  · rfl
/-- a row's coming is another one, for now -/
def rowM (v0' v : obV) (p : Nat) : Prop := chM [13, 14, 15] [10, 11, 12, 20] v0' v ∧ ∃ x, v.2 10 = upd (v0'.2 10) (3 * p + 2) x
theorem rowM.rf {v : obV} {p : Nat} : rowM v v p := ⟨chM.rf, _, (upd_self _ _).symm⟩
theorem rowM.back {v0' v : obV} {p : Nat} (h : rowM v0' v p) : chM [13, 14, 15] [11, 12, 20] v0' (oA v 10 (3 * p + 2) (v0'.2 10 (3 * p + 2))) := by
  obtain ⟨hc, x, hx⟩ := h
  refine ⟨hc.1, fun k hk => ?_⟩
  show (if k = 10 then upd (v.2 10) (3 * p + 2) (v0'.2 10 (3 * p + 2)) else v.2 k) = v0'.2 k
  by_cases e : k = 10
  · rw [if_pos e, e, hx, upd_upd, upd_self]
  · rw [if_neg e]
    exact hc.2 k (fun q => by
      simp only [List.mem_cons, List.not_mem_nil, or_false] at q hk
      omega)
theorem rowM.rows {v0' v : obV} {n : Nat} {K T C : Nat → Nat} {p c : Nat} (h : rowM v0' v p) (hw : rwM v0' n K T C) (hp : p < n) : rwM (oA v 10 (3 * p + 2) (nI c)) n K T (Cu C p c) := by
  obtain ⟨-, x, hx⟩ := h
  intro q hq
  show upd (v.2 10) (3 * p + 2) (nI c) (3 * q) = _ ∧ upd (v.2 10) (3 * p + 2) (nI c) (3 * q + 1) = _ ∧ upd (v.2 10) (3 * p + 2) (nI c) (3 * q + 2) = nI (if q = p then c else C q)
  rw [hx, upd_upd, q_upd, q_upd, q_upd, if_neg (by omega), if_neg (by omega)]
  refine ⟨(hw q hq).1, (hw q hq).2.1, ?_⟩
  by_cases e : q = p
  · rw [if_pos (by omega), if_pos e]
  · rw [if_neg (by omega), if_neg e]; exact (hw q hq).2.2
/-- the reference's object on the day on which p comes at c -/
def atM (v0' v : obV) (n : Nat) (K T C : Nat → Nat) (P p c : Nat) : Prop := rowM v0' v p ∧ v.1 6 = nI n ∧ rwM v n K T (Cu C p c) ∧ dyM v n (dRn n K T (Cu C p c) P 20) ∧ dOK n 20 (Cu C p c) (dRn n K T (Cu C p c) P 20)
theorem m_layAt {v0' v : obV} {n : Nat} {K T C : Nat → Nat} {P p c : Nat} {ch : Int32} (hc : cvM v0' n K T C P ch) (ho : okC n K T C P) (hp : p < n) (hcc : c ≤ 9) (hr : rowM v0' v p) : ∃ v', f_X7_layDay (oA v 10 (3 * p + 2) (nI c)) = some v' ∧ atM v0' v' n K T C P p c := by
  have hch := hr.1
  obtain ⟨x, hx⟩ := hr.2
  have hcv : cvM (oA v 10 (3 * p + 2) (nI c)) n K T (Cu C p c) P ch := ⟨(hch.1 6 (by decide)).trans hc.1, (hch.1 7 (by decide)).trans hc.2.1, (hch.1 8 (by decide)).trans hc.2.2.1, hr.rows hc.2.2.2 hp⟩
  have hok : okC n K T (Cu C p c) P := ⟨ho.1, ho.2.1, fun q hq => ⟨(ho.2.2 q hq).1, (ho.2.2 q hq).2.1, Cu_ok ho.c hcc q hq⟩⟩
  obtain ⟨v', r1, r2, r3⟩ := m_layDay hcv hok
  refine ⟨v', r1, ⟨((hch.A (by decide)).tr (r3.mono (by decide) (by decide))), nI c, ?_⟩, (r3.1 6 (by decide)).trans hcv.1, ?_, r2, dRn_ok hok.k hok.2.1 20⟩
  · rw [r3.2 10 (by decide)]
    show upd (v.2 10) (3 * p + 2) (nI c) = _
    rw [hx, upd_upd]
  · unfold rwM; rw [r3.2 10 (by decide)]; exact hcv.2.2.2
theorem atM.waiting {v0' v : obV} {n : Nat} {K T C : Nat → Nat} {P p c j : Nat} (h : atM v0' v n K T C P p c) (ho : okC n K T C P) (hcc : c ≤ 9) (hj : j < 20) : f_X7_waitingAt v (nI j) = some (nI (sW n K T (Cu C p c) P j)) := m_waitingAt ho.1 h.2.1 h.2.2.1 (Cu_ok ho.c hcc) h.2.2.2.1 h.2.2.2.2 hj
theorem e_32 (p : Nat) : 3 * nI p + 2 = nI (3 * p + 2) := by rw [q_l3, q_l2, pk_mul, nI_add]
theorem m_fit {v0' : obV} {n : Nat} {K T C : Nat → Nat} {P p : Nat} {ch x2 : Int32} (hc : cvM v0' n K T C P ch) (ho : okC n K T C P) (hp : p < n) : ∃ v', f_X7_fitOf v0' (nI p) x2 = some (if x2 = 0 then nI (sLm (sMM n K T C P p) 10) else nI (sMM n K T C P p (sLm (sMM n K T C P p) 10)), v') ∧ chM [13, 14, 15] [11, 12, 20] v0' v' := by
  have hn := ho.1
  have hg15 : ¬ (nI (3 * p + 2) < 0 ∨ 15 ≤ Int32.toNatClampNeg (nI (3 * p + 2))) := nI_in (by omega) (by decide)
  have hcl : Int32.toNatClampNeg (nI (3 * p + 2)) = 3 * p + 2 := nI_clamp (by omega)
  have gl : ∀ c, sMM n K T C P p c ≤ 200 := fun c => sMM_le hn
  have key : ∃ v' : obV, f_X7_fitOf_l22 (nI p) x2 (v0'.2 10 (3 * p + 2)) fu (v0', -1, 9999, 0) = some (if x2 = 0 then nI (sLm (sMM n K T C P p) 10) else nI (sMM n K T C P p (sLm (sMM n K T C P p) 10)), v') ∧ chM [13, 14, 15] [11, 12, 20] v0' v' := by
    generalize hgd : sMM n K T C P p = g at gl
    refine lp_up (σ := obV × Int32 × Int32) (fun i s => (s.1, s.2.1, s.2.2, nI i)) 10 (fun i s => rowM v0' s.1 p ∧ s.2.1 = (if i = 0 then NO else nI (sLm g i)) ∧ s.2.2 = nI (if i = 0 then 9999 else g (sLm g i))) (fun z => ∃ v' : obV, z = some (if x2 = 0 then nI (sLm g 10) else nI (g (sLm g 10)), v') ∧ chM [13, 14, 15] [11, 12, 20] v0' v') ?_ ?_ fu 0 (v0', -1, 9999) ⟨rowM.rf, rfl, rfl⟩ (Nat.zero_le _) (q_fu (by decide))
    · rintro i ⟨v, x, y⟩ hi ⟨hr, hx, hy⟩
      have hr : rowM v0' v p := hr
      have hx : x = (if i = 0 then NO else nI (sLm g i)) := hx
      have hy : y = nI (if i = 0 then 9999 else g (sLm g i)) := hy
      obtain ⟨v', r1, r2⟩ := m_layAt hc ho hp (show i ≤ 9 by omega) hr
      have r3 : f_X7_meetings v' = some (nI (g i)) := by
        rw [← hgd]
        exact m_meetings hn r2.2.1 r2.2.2.1 (Cu_ok ho.c (by omega)) r2.2.2.2.1 r2.2.2.2.2
      have e1 : sLm g (i + 1) = if g (sLm g i) ≤ g i then sLm g i else i := rfl
      refine ⟨(v', nI (sLm g (i + 1)), nI (g (sLm g (i + 1)))), ⟨r2.1, rfl, rfl⟩, fun k => ?_⟩
      show f_X7_fitOf_b22 v (nI p) x2 (v0'.2 10 (3 * p + 2)) x y (nI i) k = k (v', nI (sLm g (i + 1)), nI (g (sLm g (i + 1))), nI (i + 1))
      unfold f_X7_fitOf_b22 f_X7_fitOf_b65
      simp only [hlet]
      rw [if_neg (show ¬ (10 : Int32) ≤ nI i from nI_ge hi (by decide)), e_32, if_neg hg15, hcl, r1]
      simp only [Option.bind]
      rw [r3]
      simp only []
      rw [hy, hx, nI_1, e1]
      have g1 := gl i
      have g2 := gl (sLm g i)
      by_cases hi0 : i = 0
      · subst hi0
        have e0 : sLm g 0 = 0 := rfl
        have hf : ¬ nI 9999 ≤ nI (g 0) := nI_ge (show g 0 < 9999 by omega) (by decide)
        rw [if_pos rfl, if_neg hf, if_neg hf, e0, if_pos (Nat.le_refl _)]
      · rw [if_neg hi0, if_neg hi0]
        by_cases hl : g (sLm g i) ≤ g i
        · have hl' := (nI_leI (a := g (sLm g i)) (b := g i) (by omega) (by omega)).mpr hl
          rw [if_pos hl, if_pos hl', if_pos hl']
        · have hl' : ¬ nI (g (sLm g i)) ≤ nI (g i) := fun q => hl ((nI_leI (by omega) (by omega)).mp q)
          rw [if_neg hl, if_neg hl', if_neg hl']
    · rintro ⟨v, x, y⟩ ⟨hr, hx, hy⟩
      have hr : rowM v0' v p := hr
      have hx : x = nI (sLm g 10) := hx
      have hy : y = nI (g (sLm g 10)) := hy
      refine ⟨_, ⟨_, rfl, hr.back⟩, fun k => ?_⟩
      show f_X7_fitOf_b22 v (nI p) x2 (v0'.2 10 (3 * p + 2)) x y (nI 10) k = _
      unfold f_X7_fitOf_b22
      simp only [hlet]
      rw [if_pos (by decide), e_32, if_neg hg15, hcl, hx, hy]
      split <;> rfl
  unfold f_X7_fitOf
  rw [e_32, if_neg hg15, hcl]
  exact key
def snM (v : obV) (k : Nat) (sl sm : Nat → Nat) : Prop := v.1 18 = nI k ∧ ∀ j, j < k → v.2 19 (2 * j) = nI (sl j) ∧ v.2 19 (2 * j + 1) = nI (sm j)
theorem m_when45 {v0' v : obV} {n : Nat} {K T C : Nat → Nat} {P p c k b : Nat} {sl sm : Nat → Nat} {was : Int32} {k16 : obV × Int32 × Int32 → Option (Int32 × obV)} (h : atM v0' v n K T C P p c) (ho : okC n K T C P) (hcc : c ≤ 9) (hs : snM v k sl sm) (hso : okS k sl sm) : f_X7_whenOf_l45 v (nI p) was (nI b) (nI c) k16 fu (1, 0) = k16 (v, nI (if sWh n K T C P p k sl sm c = true then b ||| 2 ^ c else b), nI (c + 1)) := by
  have hk := hso.1
  rw [show f_X7_whenOf_l45 v (nI p) was (nI b) (nI c) k16 fu (1, 0) = lp (fun kk y => f_X7_whenOf_b45 v (nI p) was (nI b) (nI c) y.1 y.2 k16 kk) fu (nI (if sAl (fun i => decide (sW n K T (Cu C p c) P (sl i) = sm i)) 0 = true then 1 else 0), nI 0) from rfl]
  refine lp_sum (σ := Int32) (fun i s => (s, nI i)) k (fun i => nI (if sAl (fun i => decide (sW n K T (Cu C p c) P (sl i) = sm i)) i = true then 1 else 0)) _ ?_ ?_ fu 0 (Nat.zero_le _) (q_fu (by omega))
  · intro i hi kk
    have h1 := hs.2 i hi
    have h2 := hso.2 i hi
    have wl : sW n K T (Cu C p c) P (sl i) ≤ 5 := Nat.le_trans sW_le ho.1
    have e2 : 2 * nI i = nI (2 * i) := by rw [q_l2, pk_mul]
    have e21 : nI (2 * i) + 1 = nI (2 * i + 1) := by rw [q_l1, nI_add]
    show f_X7_whenOf_b45 v (nI p) was (nI b) (nI c) (nI (if sAl (fun i => decide (sW n K T (Cu C p c) P (sl i) = sm i)) i = true then 1 else 0)) (nI i) k16 kk = kk (nI (if (sAl (fun i => decide (sW n K T (Cu C p c) P (sl i) = sm i)) i && decide (sW n K T (Cu C p c) P (sl i) = sm i)) = true then 1 else 0), nI (i + 1))
    unfold f_X7_whenOf_b45
    rw [hs.1, if_neg (nI_ge hi (by omega)), e2, e21, nI_1]
    cases ha : sAl (fun i => decide (sW n K T (Cu C p c) P (sl i) = sm i)) i with
    | false => rw [if_pos (show nI (if false = true then 1 else 0) = 0 by decide)]; rfl
    | true =>
      rw [if_pos rfl, if_neg (by decide), if_neg (nI_in (show 2 * i < 16 by omega) (by decide)), nI_clamp (by omega), h1.1, h.waiting ho hcc (by omega)]
      simp only [Option.bind]
      rw [if_neg (nI_in (show 2 * i + 1 < 16 by omega) (by decide)), nI_clamp (by omega), h1.2]
      by_cases hw : sW n K T (Cu C p c) P (sl i) = sm i
      · rw [if_pos (by rw [hw])]; simp [hw]; rfl
      · rw [if_neg (fun q => hw ((nI_eq (by omega) (by omega)).mp q))]; simp [hw]; rfl
  · intro kk
    show f_X7_whenOf_b45 v (nI p) was (nI b) (nI c) (nI (if sWh n K T C P p k sl sm c = true then 1 else 0)) (nI k) k16 kk = _
    unfold f_X7_whenOf_b45 f_X7_whenOf_b113
    rw [hs.1, if_pos (Int32.le_refl _), t_sh c (by omega), q_l0, q_l1, fa_or, fa_or, nI_add]
    cases hb : sWh n K T C P p k sl sm c with
    | false => rw [if_pos (show nI (if false = true then 1 else 0) = nI 0 by decide), Nat.or_zero]; rfl
    | true => rw [if_pos rfl, if_neg (by decide), if_pos rfl]
theorem m_when {v0' : obV} {n : Nat} {K T C : Nat → Nat} {P p k : Nat} {sl sm : Nat → Nat} {ch : Int32} (hc : cvM v0' n K T C P ch) (ho : okC n K T C P) (hp : p < n) (hs : snM v0' k sl sm) (hso : okS k sl sm) : ∃ v', f_X7_whenOf v0' (nI p) = some (nI (sBi (sWh n K T C P p k sl sm) 10), v') ∧ chM [13, 14, 15] [11, 12, 20] v0' v' := by
  have hn := ho.1
  have hg15 : ¬ (nI (3 * p + 2) < 0 ∨ 15 ≤ Int32.toNatClampNeg (nI (3 * p + 2))) := nI_in (by omega) (by decide)
  have hcl : Int32.toNatClampNeg (nI (3 * p + 2)) = 3 * p + 2 := nI_clamp (by omega)
  have key : ∃ v' : obV, f_X7_whenOf_l16 (nI p) (v0'.2 10 (3 * p + 2)) fu (v0', 0, 0) = some (nI (sBi (sWh n K T C P p k sl sm) 10), v') ∧ chM [13, 14, 15] [11, 12, 20] v0' v' := by
    refine lp_up (σ := obV × Int32) (fun i s => (s.1, s.2, nI i)) 10 (fun i s => rowM v0' s.1 p ∧ s.2 = nI (sBi (sWh n K T C P p k sl sm) i)) (fun z => ∃ v' : obV, z = some (nI (sBi (sWh n K T C P p k sl sm) 10), v') ∧ chM [13, 14, 15] [11, 12, 20] v0' v') ?_ ?_ fu 0 (v0', 0) ⟨rowM.rf, rfl⟩ (Nat.zero_le _) (q_fu (by decide))
    · rintro i ⟨v, x⟩ hi ⟨hr, hx⟩
      have hr : rowM v0' v p := hr
      have hx : x = nI (sBi (sWh n K T C P p k sl sm) i) := hx
      obtain ⟨v', r1, r2⟩ := m_layAt hc ho hp (show i ≤ 9 by omega) hr
      have hs' : snM v' k sl sm := ⟨(r2.1.1.1 18 (by decide)).trans hs.1, by rw [r2.1.1.2 19 (by decide)]; exact hs.2⟩
      refine ⟨(v', nI (sBi (sWh n K T C P p k sl sm) (i + 1))), ⟨r2.1, rfl⟩, fun kk => ?_⟩
      show f_X7_whenOf_b16 v (nI p) (v0'.2 10 (3 * p + 2)) x (nI i) kk = _
      unfold f_X7_whenOf_b16
      simp only [hlet]
      rw [if_neg (show ¬ (10 : Int32) ≤ nI i from nI_ge hi (by decide)), e_32, if_neg hg15, hcl, r1]
      simp only [Option.bind]
      rw [hx, m_when45 r2 ho (by omega) hs' hso]
      rfl
    · rintro ⟨v, x⟩ ⟨hr, hx⟩
      have hr : rowM v0' v p := hr
      have hx : x = nI (sBi (sWh n K T C P p k sl sm) 10) := hx
      refine ⟨_, ⟨_, rfl, hr.back⟩, fun kk => ?_⟩
      show f_X7_whenOf_b16 v (nI p) (v0'.2 10 (3 * p + 2)) x (nI 10) kk = _
      unfold f_X7_whenOf_b16
      simp only [hlet]
      rw [if_pos (by decide), e_32, if_neg hg15, hcl, hx]
  unfold f_X7_whenOf
  rw [e_32, if_neg hg15, hcl]
  exact key
theorem t_shr {b c : Nat} (hb : b < 1024) (hc : c < 10) : (nI b >>> (nI c &&& 31)) &&& 1 = nI (if b.testBit c = true then 1 else 0) := by
  have t1 : ∀ c, c < 10 → nI c &&& 31 = nI c ∧ ((nI c).toBitVec.smod 32).toNat = c := by decide
  rw [(t1 c hc).1, pk_shrN (by omega) (nI c) c (t1 c hc).2, pk_andN (by have := Nat.div_le_self b (2 ^ c); omega) 1 (by decide)]
  congr 1
  have h := Nat.testBit_eq_decide_div_mod_eq (x := b) (i := c)
  rw [h]
  have : b / 2 ^ c % 2 ^ 1 < 2 := Nat.mod_lt _ (by decide)
  by_cases h1 : b / 2 ^ c % 2 = 1
  · simp [h1]
  · have : b / 2 ^ c % 2 = 0 := by omega
    simp [this]
/-- the counts by slot, with the comings below c done, of c those up to slot a -/
def ptM (v : obV) (n : Nat) (K T C : Nat → Nat) (P p b c at_ : Nat) : Prop := ∀ a, a < 20 → ∀ m, m < 6 → v.2 20 (6 * a + m) = nI (sG b (fun c => sW n K T (Cu C p c) P a) m (if a < at_ then c + 1 else c))
theorem m_look70 {v0' v : obV} {n : Nat} {K T C : Nat → Nat} {P p b c : Nat} {was : Int32} (h : atM v0' v n K T C P p c) (ho : okC n K T C P) (hcc : c < 10) (hb : b < 1024) (hpt : ptM v n K T C P p b c 0) : ∃ y : obV × Int32, (y.2 = nI (c + 1) ∧ rowM v0' y.1 p ∧ ptM y.1 n K T C P p b (c + 1) 0) ∧ ∀ k44, f_X7_lookOf_l70 (nI p) (nI b) was (nI c) k44 fu (v, 0) = k44 y := by
  refine lp_upK (σ := obV) (body := fun k44 k y => f_X7_lookOf_b70 y.1 (nI p) (nI b) was (nI c) y.2 k44 k) (fun i s => (s, nI i)) 20 (fun i s => atM v0' s n K T C P p c ∧ ptM s n K T C P p b c i) (fun y => y.2 = nI (c + 1) ∧ rowM v0' y.1 p ∧ ptM y.1 n K T C P p b (c + 1) 0) ?_ ?_ fu 0 v ⟨h, hpt⟩ (Nat.zero_le _) (q_fu (by decide))
  · rintro i s hi ⟨ha, hq⟩
    have wl : sW n K T (Cu C p c) P i ≤ 5 := Nat.le_trans sW_le ho.1
    have e6 : 6 * nI i + nI (sW n K T (Cu C p c) P i) = nI (6 * i + sW n K T (Cu C p c) P i) := by rw [q_l6, pk_mul, nI_add]
    have gl := sG_le b (fun c => sW n K T (Cu C p c) P i) (sW n K T (Cu C p c) P i) c
    have hold := hq i hi (sW n K T (Cu C p c) P i) (by omega)
    rw [if_neg (by omega)] at hold
    refine ⟨oA s 20 (6 * i + sW n K T (Cu C p c) P i) (nI (sG b (fun c => sW n K T (Cu C p c) P i) (sW n K T (Cu C p c) P i) (c + 1))), ⟨⟨⟨ha.1.1.A (by decide), ha.1.2⟩, ha.2.1, ha.2.2.1, ha.2.2.2.1, ha.2.2.2.2⟩, fun a hal m hm => ?_⟩, fun k44 kk => ?_⟩
    · show upd (s.2 20) (6 * i + sW n K T (Cu C p c) P i) _ (6 * a + m) = _
      rw [q_upd]
      by_cases e : 6 * a + m = 6 * i + sW n K T (Cu C p c) P i
      · have ea : a = i := by omega
        have em : m = sW n K T (Cu C p c) P i := by omega
        rw [if_pos e, if_pos (by omega), em, ea]
      · rw [if_neg e, hq a hal m hm]
        by_cases ea : a = i
        · have em : ¬ sW n K T (Cu C p c) P a = m := by rw [ea]; omega
          rw [if_neg (by omega), if_pos (by omega), sG_s]
          simp [em]
        · by_cases hlt : a < i
          · rw [if_pos hlt, if_pos (by omega)]
          · rw [if_neg hlt, if_neg (by omega)]
    · show f_X7_lookOf_b70 s (nI p) (nI b) was (nI c) (nI i) k44 kk = _
      unfold f_X7_lookOf_b70
      simp only [hlet]
      rw [if_neg (show ¬ (20 : Int32) ≤ nI i from nI_ge hi (by decide)), ha.waiting ho (by omega) hi]
      simp only [Option.bind]
      rw [e6, if_neg (nI_in (show 6 * i + sW n K T (Cu C p c) P i < 120 by omega) (by decide)), if_neg (nI_in (show 6 * i + sW n K T (Cu C p c) P i < 120 by omega) (by decide)), nI_clamp (by omega), hold, t_shr hb hcc, nI_add, nI_1, sG_s]
      simp
  · rintro s ⟨ha, hq⟩
    refine ⟨(s, nI (c + 1)), ⟨rfl, ha.1, fun a hal m hm => ?_⟩, fun k44 kk => ?_⟩
    · rw [hq a hal m hm, if_pos hal, if_neg (Nat.not_lt_zero _)]
    · show f_X7_lookOf_b70 s (nI p) (nI b) was (nI c) (nI 20) k44 kk = _
      unfold f_X7_lookOf_b70
      rw [if_pos (by decide), nI_1]
theorem m_look153 {v : obV} {n : Nat} {K T C : Nat → Nat} {P p b i : Nat} {x2 x4 : Int32} {y : Nat} {k136 : Int32 × Int32 × Int32 → Option (Int32 × obV)} (hpt : ptM v n K T C P p b 10 0) (hi : i < 20) (hy : y < 2 ^ 31) : f_X7_lookOf_l153 v x2 x4 (nI y) (nI i) k136 fu (0, 0) = k136 (if y ≤ sML b (fun c => sW n K T (Cu C p c) P i) then x4 else nI i, nI (if y ≤ sML b (fun c => sW n K T (Cu C p c) P i) then y else sML b (fun c => sW n K T (Cu C p c) P i)), nI (i + 1)) := by
  have hmx : ∀ j, sMx (fun m => sG b (fun c => sW n K T (Cu C p c) P i) m 10) j ≤ 10 := fun j => by
    rcases sMx_at (fun m => sG b (fun c => sW n K T (Cu C p c) P i) m 10) j with h | ⟨m, -, h⟩
    · omega
    · rw [h]; exact sG_le _ _ _ _
  rw [show f_X7_lookOf_l153 v x2 x4 (nI y) (nI i) k136 fu (0, 0) = lp (fun kk z => f_X7_lookOf_b153 v x2 x4 (nI y) (nI i) z.1 z.2 k136 kk) fu (nI (sMx (fun m => sG b (fun c => sW n K T (Cu C p c) P i) m 10) 0), nI 0) from rfl]
  refine lp_sum (σ := Int32) (fun i s => (s, nI i)) 6 (fun j => nI (sMx (fun m => sG b (fun c => sW n K T (Cu C p c) P i) m 10) j)) _ ?_ ?_ fu 0 (Nat.zero_le _) (q_fu (by decide))
  · intro j hj kk
    have e6 : 6 * nI i + nI j = nI (6 * i + j) := by rw [q_l6, pk_mul, nI_add]
    have hold := hpt i hi j hj
    rw [if_neg (Nat.not_lt_zero _)] at hold
    have gl := sG_le b (fun c => sW n K T (Cu C p c) P i) j 10
    have ml := hmx j
    have hg : ¬ (nI (6 * i + j) < 0 ∨ 120 ≤ Int32.toNatClampNeg (nI (6 * i + j))) := nI_in (by omega) (by decide)
    show f_X7_lookOf_b153 v x2 x4 (nI y) (nI i) (nI (sMx (fun m => sG b (fun c => sW n K T (Cu C p c) P i) m 10) j)) (nI j) k136 kk = kk (nI (if sG b (fun c => sW n K T (Cu C p c) P i) j 10 ≤ sMx (fun m => sG b (fun c => sW n K T (Cu C p c) P i) m 10) j then sMx (fun m => sG b (fun c => sW n K T (Cu C p c) P i) m 10) j else sG b (fun c => sW n K T (Cu C p c) P i) j 10), nI (j + 1))
    unfold f_X7_lookOf_b153
    rw [if_neg (show ¬ (6 : Int32) ≤ nI j from nI_ge hj (by decide)), e6, if_neg hg, if_neg hg, nI_clamp (by omega), hold, nI_1]
    by_cases hl : sG b (fun c => sW n K T (Cu C p c) P i) j 10 ≤ sMx (fun m => sG b (fun c => sW n K T (Cu C p c) P i) m 10) j
    · rw [if_pos hl, if_pos ((nI_leI (by omega) (by omega)).mpr hl)]
    · rw [if_neg hl, if_neg (fun q => hl ((nI_leI (by omega) (by omega)).mp q))]
  · intro kk
    have ml : sML b (fun c => sW n K T (Cu C p c) P i) ≤ 10 := sML_le _ _
    show f_X7_lookOf_b153 v x2 x4 (nI y) (nI i) (nI (sML b (fun c => sW n K T (Cu C p c) P i))) (nI 6) k136 kk = _
    unfold f_X7_lookOf_b153 f_X7_lookOf_b218
    rw [if_pos (show (6 : Int32) ≤ nI 6 by decide), nI_1]
    by_cases hl : y ≤ sML b (fun c => sW n K T (Cu C p c) P i)
    · have hl' : nI y ≤ nI (sML b (fun c => sW n K T (Cu C p c) P i)) := (nI_leI hy (by omega)).mpr hl
      rw [if_pos hl', if_pos hl', if_pos hl, if_pos hl]
    · have hl' : ¬ nI y ≤ nI (sML b (fun c => sW n K T (Cu C p c) P i)) := fun q => hl ((nI_leI hy (by omega)).mp q)
      rw [if_neg hl', if_neg hl', if_neg hl, if_neg hl]
/-- LOOK, when b can be -/
def sLk (n : Nat) (K T C : Nat → Nat) (P p b : Nat) : Option Nat := if b = 0 then none else some (sLm (fun at_ => sML b (fun c => sW n K T (Cu C p c) P at_)) 20)
theorem m_look136 {v : obV} {n : Nat} {K T C : Nat → Nat} {P p b : Nat} (hb : b < 1024) (hpt : ptM v n K T C P p b 10 0) : f_X7_lookOf_l136 v (nI b) fu (-1, 11, 0) = some (en (sLk n K T C P p b), v) := by
  by_cases hb0 : b = 0
  · subst hb0
    have e : f_X7_lookOf_l136 v (nI 0) fu (-1, 11, 0) = f_X7_lookOf_b136 v (nI 0) (-1) 11 0 (lp (fun k y => f_X7_lookOf_b136 v (nI 0) y.1 y.2.1 y.2.2 k) 3999) := rfl
    rw [e]
    unfold f_X7_lookOf_b136
    rw [if_neg (by decide), if_pos (by decide)]
    rfl
  · have hbn : ¬ nI b = 0 := fun q => hb0 ((nI_eq (by omega) (by decide)).mp (q : nI b = nI 0))
    have e0 : sLk n K T C P p b = some (sLm (fun at_ => sML b (fun c => sW n K T (Cu C p c) P at_)) 20) := if_neg hb0
    rw [e0]
    generalize hgd : (fun at_ => sML b (fun c => sW n K T (Cu C p c) P at_)) = g
    have hgi : ∀ j, g j = sML b (fun c => sW n K T (Cu C p c) P j) := fun j => by rw [← hgd]
    have gl : ∀ j, g j ≤ 10 := fun j => by rw [hgi]; exact sML_le _ _
    rw [show f_X7_lookOf_l136 v (nI b) fu (-1, 11, 0) = lp (fun k y => f_X7_lookOf_b136 v (nI b) y.1 y.2.1 y.2.2 k) fu ((if (0 : Nat) = 0 then NO else nI (sLm g 0)), nI (if (0 : Nat) = 0 then 11 else g (sLm g 0)), nI 0) from rfl]
    refine lp_sum (σ := Int32 × Int32) (fun i s => (s.1, s.2, nI i)) 20 (fun i => ((if i = 0 then NO else nI (sLm g i)), nI (if i = 0 then 11 else g (sLm g i)))) _ ?_ ?_ fu 0 (Nat.zero_le _) (q_fu (by decide))
    · intro i hi k
      show f_X7_lookOf_b136 v (nI b) (if i = 0 then NO else nI (sLm g i)) (nI (if i = 0 then 11 else g (sLm g i))) (nI i) k = k (nI (if g (sLm g i) ≤ g i then sLm g i else i), nI (g (if g (sLm g i) ≤ g i then sLm g i else i)), nI (i + 1))
      unfold f_X7_lookOf_b136
      have g2 := gl (sLm g i)
      have g1 := gl i
      rw [if_neg (show ¬ (20 : Int32) ≤ nI i from nI_ge hi (by decide)), if_neg hbn, m_look153 hpt hi (by split <;> omega), ← hgi i]
      by_cases hi0 : i = 0
      · subst hi0
        have e0 : sLm g 0 = 0 := rfl
        rw [if_pos rfl, if_neg (show ¬ 11 ≤ g 0 by omega), if_neg (show ¬ 11 ≤ g 0 by omega), e0, if_pos (Nat.le_refl _)]
      · rw [if_neg hi0, if_neg hi0]
        by_cases hl : g (sLm g i) ≤ g i
        · rw [if_pos hl, if_pos hl, if_pos hl]
        · rw [if_neg hl, if_neg hl, if_neg hl]
    · intro k
      show f_X7_lookOf_b136 v (nI b) (nI (sLm g 20)) _ (nI 20) k = _
      unfold f_X7_lookOf_b136
      rw [if_pos (by decide)]
      rfl
theorem m_look {v0' : obV} {n : Nat} {K T C : Nat → Nat} {P p k : Nat} {sl sm : Nat → Nat} {ch : Int32} (hc : cvM v0' n K T C P ch) (ho : okC n K T C P) (hp : p < n) (hs : snM v0' k sl sm) (hso : okS k sl sm) : ∃ v', f_X7_lookOf v0' (nI p) = some (en (sLk n K T C P p (sBi (sWh n K T C P p k sl sm) 10)), v') ∧ chM [13, 14, 15] [11, 12, 20] v0' v' := by
  have hn := ho.1
  obtain ⟨v1, r1, r2⟩ := m_when hc ho hp hs hso
  have hb : sBi (sWh n K T C P p k sl sm) 10 < 1024 := sBi_lt _ 10
  generalize sBi (sWh n K T C P p k sl sm) 10 = b at r1 hb ⊢
  have hg15 : ¬ (nI (3 * p + 2) < 0 ∨ 15 ≤ Int32.toNatClampNeg (nI (3 * p + 2))) := nI_in (by omega) (by decide)
  have hcl : Int32.toNatClampNeg (nI (3 * p + 2)) = 3 * p + 2 := nI_clamp (by omega)
  have hc1 : cvM v1 n K T C P ch := ⟨(r2.1 6 (by decide)).trans hc.1, (r2.1 7 (by decide)).trans hc.2.1, (r2.1 8 (by decide)).trans hc.2.2.1, by unfold rwM; rw [r2.2 10 (by decide)]; exact hc.2.2.2⟩
  -- the ten comings
  have step44 : ∀ w0 : obV, chM [13, 14, 15] [11, 12, 20] v1 w0 → (∀ j, j < 120 → w0.2 20 j = 0) → ∃ v', f_X7_lookOf_l44 (nI p) (nI b) (v1.2 10 (3 * p + 2)) fu (w0, 0) = some (en (sLk n K T C P p b), v') ∧ chM [13, 14, 15] [11, 12, 20] v0' v' := by
    intro w0 hw0 hz
    have hrow0 : rowM v1 w0 p := ⟨hw0.mono (by decide) (by decide), v1.2 10 (3 * p + 2), by rw [hw0.2 10 (by decide), upd_self]⟩
    refine lp_up (σ := obV) (fun i s => (s, nI i)) 10 (fun i s => rowM v1 s p ∧ ptM s n K T C P p b i 0) (fun z => ∃ v', z = some (en (sLk n K T C P p b), v') ∧ chM [13, 14, 15] [11, 12, 20] v0' v') ?_ ?_ fu 0 w0 ⟨hrow0, fun a ha m hm => ?_⟩ (Nat.zero_le _) (q_fu (by decide))
    · rintro i s hi ⟨hr, hq⟩
      obtain ⟨v', l1, l2⟩ := m_layAt hc1 ho hp (show i ≤ 9 by omega) hr
      have hq' : ptM v' n K T C P p b i 0 := by
        obtain ⟨v'', e1, -, e3⟩ := m_layDay (v := oA s 10 (3 * p + 2) (nI i)) (n := n) (K := K) (T := T) (C := Cu C p i) (P := P) (ch := ch) ⟨(hr.1.1 6 (by decide)).trans hc1.1, (hr.1.1 7 (by decide)).trans hc1.2.1, (hr.1.1 8 (by decide)).trans hc1.2.2.1, hr.rows hc1.2.2.2 hp⟩ ⟨ho.1, ho.2.1, fun q hq => ⟨(ho.2.2 q hq).1, (ho.2.2 q hq).2.1, Cu_ok ho.c (by omega) q hq⟩⟩
        have ev : v'' = v' := Option.some.inj (e1.symm.trans l1)
        rw [ev] at e3
        intro a ha m hm
        rw [e3.2 20 (by decide)]
        exact hq a ha m hm
      obtain ⟨⟨v2, z⟩, ⟨q1, q2, q3⟩, q4⟩ := m_look70 (was := v1.2 10 (3 * p + 2)) l2 ho hi hb hq'
      have q1 : z = nI (i + 1) := q1
      subst q1
      refine ⟨v2, ⟨q2, q3⟩, fun kk => ?_⟩
      show f_X7_lookOf_b44 s (nI p) (nI b) (v1.2 10 (3 * p + 2)) (nI i) kk = _
      unfold f_X7_lookOf_b44
      simp only [hlet]
      rw [if_neg (show ¬ (10 : Int32) ≤ nI i from nI_ge hi (by decide)), e_32, if_neg hg15, hcl, l1]
      exact q4 kk
    · rintro s ⟨hr, hq⟩
      have hch := hr.back
      refine ⟨_, ⟨_, rfl, (r2.tr hch)⟩, fun kk => ?_⟩
      show f_X7_lookOf_b44 s (nI p) (nI b) (v1.2 10 (3 * p + 2)) (nI 10) kk = _
      unfold f_X7_lookOf_b44
      simp only [hlet]
      rw [if_pos (by decide), e_32, if_neg hg15, hcl]
      exact m_look136 hb hq
    · rw [hz (6 * a + m) (by omega), if_neg (Nat.not_lt_zero _)]
      rfl
  unfold f_X7_lookOf
  rw [r1]
  simp only [Option.bind]
  rw [e_32, if_neg hg15, hcl]
  refine lp_up (σ := obV) (fun i s => (s, nI i)) 120 (fun i s => chM [13, 14, 15] [11, 12, 20] v1 s ∧ ∀ j, j < i → s.2 20 j = 0) (fun z => ∃ v', z = some (en (sLk n K T C P p b), v') ∧ chM [13, 14, 15] [11, 12, 20] v0' v') ?_ ?_ fu 0 v1 ⟨chM.rf, fun j h => absurd h (Nat.not_lt_zero _)⟩ (Nat.zero_le _) (q_fu (by decide))
  · rintro i s hi ⟨h1, h2⟩
    refine ⟨oA s 20 i 0, ⟨h1.A (by decide), fun j hj => ?_⟩, fun kk => ?_⟩
    · show upd (s.2 20) i 0 j = 0
      rw [q_upd]
      by_cases e : j = i
      · rw [if_pos e]
      · rw [if_neg e]; exact h2 j (by omega)
    · show f_X7_lookOf_b20 s (nI p) (nI b) (v1.2 10 (3 * p + 2)) (nI i) kk = _
      unfold f_X7_lookOf_b20
      simp only [hlet]
      rw [if_neg (show ¬ (120 : Int32) ≤ nI i from nI_ge hi (by decide)), if_neg (nI_in hi (by decide)), nI_clamp (by omega), nI_1]
  · rintro s ⟨h1, h2⟩
    obtain ⟨v', q1, q2⟩ := step44 s h1 h2
    refine ⟨_, ⟨v', rfl, q2⟩, fun kk => ?_⟩
    show f_X7_lookOf_b20 s (nI p) (nI b) (v1.2 10 (3 * p + 2)) (nI 120) kk = _
    unfold f_X7_lookOf_b20
    rw [if_pos (by decide)]
    exact q1
