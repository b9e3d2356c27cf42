/-! DIGEST -/
def dg (g : Nat → Int32) (h : Int64) : Nat → Int64
  | 0 => h
  | i + 1 => 31 * dg g h i + (g i).toInt64
def sMp (n : Nat) (K T C : Nat → Nat) (P k : Nat) (sl sm : Nat → Nat) (p : Nat) (h : Int64) : Int64 := 31 * (31 * dg (sPl n K T C P k sl sm p) h 10 + (sFt n K T C P p 0).toInt64) + (sFt n K T C P p 1).toInt64
def sDp (n : Nat) (K T C : Nat → Nat) (P k : Nat) (sl sm : Nat → Nat) (h : Int64) : Nat → Int64
  | 0 => h
  | i + 1 => sMp n K T C P k sl sm i (sDp n K T C P k sl sm h i)
def sM3 (n : Nat) (K T : Nat → Nat) (P : Nat) (h : Int64) : Int64 := dg (fun j => sOr n K T P (10 + j)) h 5
def sM2 (n : Nat) (K T C : Nat → Nat) (P : Nat) (h : Int64) : Int64 := sM3 n K T P (31 * dg (fun j => nI (sW n K T C P j)) h 20 + (sOr n K T P 0).toInt64)
def sM1 (n : Nat) (K T C : Nat → Nat) (P : Nat) (h : Int64) : Int64 := sM2 n K T C P (dg (sDy n K T C P) h 5)
def sE2 (g : Int32 → Int32) (h : Int64) : Int64 := dg (fun j => g (nI j)) h 8
def sE1 (g : Int32 → Int32) (L : Nat) (c : Nat → Nat) (h : Int64) : Int64 := sE2 g (dg (fun j => nI (c j)) h L)
def sE0 (n : Nat) (K T C : Nat → Nat) (P k : Nat) (sl sm : Nat → Nat) (g : Int32 → Int32) (L : Nat) (c : Nat → Nat) : Int64 := sE1 g L c (if n = 0 then sDp n K T C P k sl sm 991 n else sM1 n K T C P (sDp n K T C P k sl sm 991 n))
theorem x_mixPilgrim {vt vn vd0 vs vd : obV} {wt : Nat → Nat → Int32} {n : Nat} {K T C : Nat → Nat} {P : Nat} {ch : Int32} {k : Nat} {sl sm : Nat → Nat} {p : Nat} (hc : cvX vn n K T C P ch) (ho : okC n K T C P) (hs : snX vs k sl sm) (hso : okS k sl sm) (hp : p < n) (hd : dzX vd n K T C P 20) (h : Int64) : ∃ u, f_X6_mixPilgrim vt wt vn vd0 vs vd h (nI p) = some u ∧ u.1 = sMp n K T C P k sl sm p h := by
  have hn := ho.1
  obtain ⟨q, t1, t2⟩ := x_tpass (v := vt) (w := wt) (vd := vd0) hc ho hp
  unfold f_X6_mixPilgrim
  rw [t1, bind_e]
  have key := lp_up (body := fun kk (y : obV × Int64 × Int32) => f_X6_mixPilgrim_b15 y.1 q.2.1 vn q.2.2 vs vd y.2.1 (nI p) y.2.2 kk) (σ := obV) (fun i s => (s, dg (sPl n K T C P k sl sm p) h i, nI i)) 10 (fun _ s => trX s q.2.1 n K T C P p) (fun z => ∃ u : Int64 × obV × (Nat → Nat → Int32) × obV, z = some u ∧ u.1 = sMp n K T C P k sl sm p h) ?_ ?_ fu 0 q.1 t2 (Nat.zero_le _) (q_fu (by omega))
  · have e : ((q.1, dg (sPl n K T C P k sl sm p) h 0, nI 0) : obV × Int64 × Int32) = (q.1, h, 0) := rfl
    rw [e] at key
    exact key
  · intro i s hi hs1
    obtain ⟨v', r1, r2⟩ := x_tellPilgrim (vt := s) (wt := q.2.1) (w := i) hc ho hs hso hp (by omega) (fun _ _ => hd) (fun _ => hs1)
    refine ⟨v', fun c hcc => ⟨(hs1 c hcc).1, by rw [r2]; exact (hs1 c hcc).2⟩, fun kk => ?_⟩
    show f_X6_mixPilgrim_b15 s q.2.1 vn q.2.2 vs vd (dg (sPl n K T C P k sl sm p) h i) (nI p) (nI i) kk = kk (v', dg (sPl n K T C P k sl sm p) h (i + 1), nI (i + 1))
    unfold f_X6_mixPilgrim_b15 f_X6_mix
    rw [q_l9, if_neg (nI_nlt (show i ≤ 9 by omega) (by decide)), r1, bind_e, bind_e, nI_1]
    rfl
  · intro s hs1
    refine ⟨some (sMp n K T C P k sl sm p h, s, q.2.1, q.2.2), ⟨_, rfl, rfl⟩, fun kk => ?_⟩
    have f0 : f_X6_tellFit s 0 = some (sFt n K T C P p 0) := by rw [q_l0]; exact x_tellFit hn hs1 (by decide)
    have f1 : f_X6_tellFit s 1 = some (sFt n K T C P p 1) := by rw [q_l1]; exact x_tellFit hn hs1 (by decide)
    show f_X6_mixPilgrim_b15 s q.2.1 vn q.2.2 vs vd (dg (sPl n K T C P k sl sm p) h 10) (nI p) (nI 10) kk = _
    unfold f_X6_mixPilgrim_b15 f_X6_mix
    rw [q_l9, if_pos (nI_lt (by decide) (by decide)), f0, bind_e, bind_e, f1, bind_e, bind_e]
    rfl
theorem m_sayPilgrim {v : obV} {n : Nat} {K T C : Nat → Nat} {P : Nat} {ch : Int32} {k : Nat} {sl sm : Nat → Nat} {p : Nat} (hc : cvM v n K T C P ch) (ho : okC n K T C P) (hs : snM v k sl sm) (hso : okS k sl sm) (hp : p < n) (h : Int64) : ∃ v', f_X7_sayPilgrim v h (nI p) = some (v', sMp n K T C P k sl sm p h) ∧ chM [13, 14, 15] [11, 12, 20] v v' := by
  have hC : ∀ s, chM [13, 14, 15] [11, 12, 20] v s → cvM s n K T C P ch := fun s l3 => hc.w (l3.1 6 (by decide)) (l3.1 7 (by decide)) (l3.1 8 (by decide)) (l3.2 10 (by decide))
  have hS : ∀ s, chM [13, 14, 15] [11, 12, 20] v s → snM s k sl sm := fun s l3 => ⟨(l3.1 18 (by decide)).trans hs.1, by rw [l3.2 19 (by decide)]; exact hs.2⟩
  unfold f_X7_sayPilgrim
  have key := lp_up (body := fun kk (y : obV × Int64 × Int32) => f_X7_sayPilgrim_b2 y.1 y.2.1 (nI p) y.2.2 kk) (σ := obV) (fun i s => (s, dg (sPl n K T C P k sl sm p) h i, nI i)) 10 (fun _ s => chM [13, 14, 15] [11, 12, 20] v s) (fun z => ∃ v', z = some (v', sMp n K T C P k sl sm p h) ∧ chM [13, 14, 15] [11, 12, 20] v v') ?_ ?_ fu 0 v chM.rf (Nat.zero_le _) (q_fu (by omega))
  · have e : ((v, dg (sPl n K T C P k sl sm p) h 0, nI 0) : obV × Int64 × Int32) = (v, h, 0) := rfl
    rw [e] at key
    exact key
  · intro i s hi hs1
    obtain ⟨v', r1, r2⟩ := m_tell (w := i) (hC s hs1) ho (hS s hs1) hso hp (by omega)
    refine ⟨v', hs1.tr r2, fun kk => ?_⟩
    show f_X7_sayPilgrim_b2 s (dg (sPl n K T C P k sl sm p) h i) (nI p) (nI i) kk = kk (v', dg (sPl n K T C P k sl sm p) h (i + 1), nI (i + 1))
    unfold f_X7_sayPilgrim_b2 f_X7_say
    rw [q_l10, if_neg (nI_ge hi (by decide)), r1, bind_e, bind_e, nI_1]
    rfl
  · intro s hs1
    obtain ⟨v1, r1, r2⟩ := m_fit' (w := 0) (hC s hs1) ho hp (by decide)
    have r3 := hs1.tr r2
    obtain ⟨v2, r4, r5⟩ := m_fit' (w := 1) (hC v1 r3) ho hp (by decide)
    refine ⟨some (v2, sMp n K T C P k sl sm p h), ⟨_, rfl, r3.tr r5⟩, fun kk => ?_⟩
    have f0 : f_X7_fitOf s (nI p) 0 = _ := r1
    have f1 : f_X7_fitOf v1 (nI p) 1 = _ := r4
    show f_X7_sayPilgrim_b2 s (dg (sPl n K T C P k sl sm p) h 10) (nI p) (nI 10) kk = _
    unfold f_X7_sayPilgrim_b2 f_X7_say
    rw [q_l10, if_pos (Int32.le_refl _), f0, bind_e, bind_e, f1, bind_e, bind_e]
    rfl
theorem x_mixCave3 {vd vb vn : obV} {n : Nat} {K T : Nat → Nat} {P : Nat} (hn : n ≤ 5) (hz : vb.1 2 = nI n) (hb : bsX vb (sOF n K T P)) (h : Int64) : f_X6_mixCave_l78 vd vb vn fu (h, 10) = some (sM3 n K T P h, vb) := by
  have key := lp_sum (body := fun kk (y : Int64 × Int32) => f_X6_mixCave_b78 vd vb vn y.1 y.2 kk) (σ := Int64) (fun i s => (s, nI (10 + i))) 5 (fun i => dg (fun j => sOr n K T P (10 + j)) h i) (some (sM3 n K T P h, vb)) ?_ ?_ fu 0 (Nat.zero_le _) (q_fu (by omega))
  · have e : ((dg (fun j => sOr n K T P (10 + j)) h 0, nI (10 + 0)) : Int64 × Int32) = (h, 10) := rfl
    rw [e] at key
    exact key
  · intro i hi kk
    show f_X6_mixCave_b78 vd vb vn (dg (fun j => sOr n K T P (10 + j)) h i) (nI (10 + i)) kk = kk (dg (fun j => sOr n K T P (10 + j)) h (i + 1), nI (10 + (i + 1)))
    unfold f_X6_mixCave_b78 f_X6_mix
    rw [q_l14, if_neg (nI_nlt (show 10 + i ≤ 14 by omega) (by decide)), x_tellOrder hn hz hb (Or.inr (by omega)) (by omega), bind_e, bind_e, nI_1]
    rfl
  · intro kk
    show f_X6_mixCave_b78 vd vb vn (dg (fun j => sOr n K T P (10 + j)) h 5) (nI (10 + 5)) kk = _
    unfold f_X6_mixCave_b78
    rw [q_l14, if_pos (nI_lt (by decide) (by decide))]
    rfl
theorem x_mixCave2 {vd vb vn : obV} {n : Nat} {K T C : Nat → Nat} {P : Nat} {ch : Int32} (h1 : 1 ≤ n) (hc : cvX vn n K T C P ch) (ho : okC n K T C P) (hd : dzX vd n K T C P 20) (h : Int64) : ∃ v', f_X6_mixCave_l26 vd vb vn fu (h, 0) = some (sM2 n K T C P h, v') := by
  have hn := ho.1
  obtain ⟨v', d1, d2, d3⟩ := x_find' (vb := vb) h1 hc ho
  refine ⟨v', ?_⟩
  have key := lp_sum (body := fun kk (y : Int64 × Int32) => f_X6_mixCave_b26 vd vb vn y.1 y.2 kk) (σ := Int64) (fun i s => (s, nI i)) 20 (fun i => dg (fun j => nI (sW n K T C P j)) h i) (some (sM2 n K T C P h, v')) ?_ ?_ fu 0 (Nat.zero_le _) (q_fu (by omega))
  · have e : ((dg (fun j => nI (sW n K T C P j)) h 0, nI 0) : Int64 × Int32) = (h, 0) := rfl
    rw [e] at key
    exact key
  · intro i hi kk
    show f_X6_mixCave_b26 vd vb vn (dg (fun j => nI (sW n K T C P j)) h i) (nI i) kk = kk (dg (fun j => nI (sW n K T C P j)) h (i + 1), nI (i + 1))
    unfold f_X6_mixCave_b26 f_X6_mix
    rw [q_l20, if_neg (nI_ge hi (by decide)), if_neg (nI_in (show i < 20 by omega) (by decide)), nI_clamp (by omega), x_row hd hi, bind_e, nI_1]
    rfl
  · intro kk
    have f0 : f_X6_tellOrder v' 0 = some (sOr n K T P 0) := by rw [q_l0]; exact x_tellOrder hn d2 d3 (Or.inl rfl) (by decide)
    show f_X6_mixCave_b26 vd vb vn (dg (fun j => nI (sW n K T C P j)) h 20) (nI 20) kk = _
    unfold f_X6_mixCave_b26 f_X6_mix
    rw [q_l20, if_pos (Int32.le_refl _), d1, bind_e, f0, bind_e, bind_e, x_mixCave3 hn d2 d3]
    rfl
theorem x_mixCave {vd vb vn : obV} {n : Nat} {K T C : Nat → Nat} {P : Nat} {ch : Int32} (h1 : 1 ≤ n) (hc : cvX vn n K T C P ch) (ho : okC n K T C P) (hd : dzX vd n K T C P 20) (h : Int64) : ∃ v', f_X6_mixCave vd vb vn h = some (sM1 n K T C P h, v') := by
  have hn := ho.1
  obtain ⟨v', d1⟩ := x_mixCave2 (vb := vb) h1 hc ho hd (dg (sDy n K T C P) h 5)
  refine ⟨v', ?_⟩
  unfold f_X6_mixCave
  have key := lp_sum (body := fun kk (y : Int64 × Int32) => f_X6_mixCave_b2 vd vb vn y.1 y.2 kk) (σ := Int64) (fun i s => (s, nI i)) 5 (fun i => dg (sDy n K T C P) h i) (some (sM1 n K T C P h, v')) ?_ ?_ fu 0 (Nat.zero_le _) (q_fu (by omega))
  · have e : ((dg (sDy n K T C P) h 0, nI 0) : Int64 × Int32) = (h, 0) := rfl
    rw [e] at key
    exact key
  · intro i hi kk
    show f_X6_mixCave_b2 vd vb vn (dg (sDy n K T C P) h i) (nI i) kk = kk (dg (sDy n K T C P) h (i + 1), nI (i + 1))
    unfold f_X6_mixCave_b2 f_X6_mix
    rw [q_l4, if_neg (nI_nlt (show i ≤ 4 by omega) (by decide)), x_tellDay ho (by omega) hd, bind_e, bind_e, nI_1]
    rfl
  · intro kk
    show f_X6_mixCave_b2 vd vb vn (dg (sDy n K T C P) h 5) (nI 5) kk = _
    unfold f_X6_mixCave_b2
    rw [q_l4, if_pos (nI_lt (by decide) (by decide)), d1]
    rfl
theorem m_sayDay3 {v : obV} {n : Nat} {K T C : Nat → Nat} {P : Nat} {ch : Int32} (h1 : 1 ≤ n) (hc : cvM v n K T C P ch) (ho : okC n K T C P) (h : Int64) : ∃ v', f_X7_sayDay_l60 fu (v, h, 10) = some (v', sM3 n K T P h) ∧ chM [13, 14, 15] [11, 12, 16, 17] v v' := by
  have hC : ∀ s, chM [13, 14, 15] [11, 12, 16, 17] v s → cvM s n K T C P ch := fun s l3 => hc.w (l3.1 6 (by decide)) (l3.1 7 (by decide)) (l3.1 8 (by decide)) (l3.2 10 (by decide))
  have key := lp_up (body := fun kk (y : obV × Int64 × Int32) => f_X7_sayDay_b60 y.1 y.2.1 y.2.2 kk) (σ := obV) (fun i s => (s, dg (fun j => sOr n K T P (10 + j)) h i, nI (10 + i))) 5 (fun _ s => chM [13, 14, 15] [11, 12, 16, 17] v s) (fun z => ∃ v', z = some (v', sM3 n K T P h) ∧ chM [13, 14, 15] [11, 12, 16, 17] v v') ?_ ?_ fu 0 v chM.rf (Nat.zero_le _) (q_fu (by omega))
  · have e : ((v, dg (fun j => sOr n K T P (10 + j)) h 0, nI (10 + 0)) : obV × Int64 × Int32) = (v, h, 10) := rfl
    rw [e] at key
    exact key
  · intro i s hi hs1
    obtain ⟨v', r1, r2⟩ := m_orderOf (x := 10 + i) h1 (hC s hs1) ho (Or.inr (by omega)) (by omega)
    refine ⟨v', hs1.tr (r2.mono (by decide) (by decide)), fun kk => ?_⟩
    show f_X7_sayDay_b60 s (dg (fun j => sOr n K T P (10 + j)) h i) (nI (10 + i)) kk = kk (v', dg (fun j => sOr n K T P (10 + j)) h (i + 1), nI (10 + (i + 1)))
    unfold f_X7_sayDay_b60 f_X7_say
    rw [q_l15, if_neg (nI_ge (show 10 + i < 15 by omega) (by decide)), r1, bind_e, bind_e, nI_1]
    rfl
  · intro s hs1
    refine ⟨some (s, sM3 n K T P h), ⟨_, rfl, hs1⟩, fun kk => ?_⟩
    show f_X7_sayDay_b60 s (dg (fun j => sOr n K T P (10 + j)) h 5) (nI (10 + 5)) kk = _
    unfold f_X7_sayDay_b60
    rw [q_l15, if_pos (nI_le (by decide) (by decide))]
    rfl
theorem m_sayDay2 {v : obV} {n : Nat} {K T C : Nat → Nat} {P : Nat} {ch : Int32} (h1 : 1 ≤ n) (hc : cvM v n K T C P ch) (ho : okC n K T C P) (h : Int64) : ∃ v', f_X7_sayDay_l25 fu (v, h, 0) = some (v', sM2 n K T C P h) ∧ chM [13, 14, 15] [11, 12, 16, 17] v v' := by
  have hC : ∀ s, chM [13, 14, 15] [11, 12, 16, 17] v s → cvM s n K T C P ch := fun s l3 => hc.w (l3.1 6 (by decide)) (l3.1 7 (by decide)) (l3.1 8 (by decide)) (l3.2 10 (by decide))
  have key := lp_up (body := fun kk (y : obV × Int64 × Int32) => f_X7_sayDay_b25 y.1 y.2.1 y.2.2 kk) (σ := obV) (fun i s => (s, dg (fun j => nI (sW n K T C P j)) h i, nI i)) 20 (fun _ s => chM [13, 14, 15] [11, 12, 16, 17] v s) (fun z => ∃ v', z = some (v', sM2 n K T C P h) ∧ chM [13, 14, 15] [11, 12, 16, 17] v v') ?_ ?_ fu 0 v chM.rf (Nat.zero_le _) (q_fu (by omega))
  · have e : ((v, dg (fun j => nI (sW n K T C P j)) h 0, nI 0) : obV × Int64 × Int32) = (v, h, 0) := rfl
    rw [e] at key
    exact key
  · intro i s hi hs1
    obtain ⟨v', r1, r2⟩ := m_waitingOf (j := i) (hC s hs1) ho hi
    refine ⟨v', hs1.tr (r2.mono (by decide) (by decide)), fun kk => ?_⟩
    show f_X7_sayDay_b25 s (dg (fun j => nI (sW n K T C P j)) h i) (nI i) kk = kk (v', dg (fun j => nI (sW n K T C P j)) h (i + 1), nI (i + 1))
    unfold f_X7_sayDay_b25 f_X7_say
    rw [q_l20, if_neg (nI_ge hi (by decide)), r1, bind_e, bind_e, nI_1]
    rfl
  · intro s hs1
    obtain ⟨v1, r1, r2⟩ := m_orderOf (x := 0) h1 (hC s hs1) ho (Or.inl rfl) (by decide)
    have r3 : chM [13, 14, 15] [11, 12, 16, 17] v v1 := hs1.tr (r2.mono (by decide) (by decide))
    obtain ⟨v2, r4, r5⟩ := m_sayDay3 h1 (hC v1 r3) ho (31 * dg (fun j => nI (sW n K T C P j)) h 20 + (sOr n K T P 0).toInt64)
    refine ⟨some (v2, sM2 n K T C P h), ⟨_, rfl, r3.tr r5⟩, fun kk => ?_⟩
    have f0 : f_X7_orderOf s 0 = some (sOr n K T P 0, v1) := by rw [q_l0]; exact r1
    show f_X7_sayDay_b25 s (dg (fun j => nI (sW n K T C P j)) h 20) (nI 20) kk = _
    unfold f_X7_sayDay_b25 f_X7_say
    rw [q_l20, if_pos (Int32.le_refl _), f0, bind_e, bind_e]
    exact r4
theorem m_sayDay {v : obV} {n : Nat} {K T C : Nat → Nat} {P : Nat} {ch : Int32} (h1 : 1 ≤ n) (hc : cvM v n K T C P ch) (ho : okC n K T C P) (h : Int64) : ∃ v', f_X7_sayDay v h = some (v', sM1 n K T C P h) ∧ chM [13, 14, 15] [11, 12, 16, 17] v v' := by
  have hC : ∀ s, chM [13, 14, 15] [11, 12, 16, 17] v s → cvM s n K T C P ch := fun s l3 => hc.w (l3.1 6 (by decide)) (l3.1 7 (by decide)) (l3.1 8 (by decide)) (l3.2 10 (by decide))
  unfold f_X7_sayDay
  have key := lp_up (body := fun kk (y : obV × Int64 × Int32) => f_X7_sayDay_b2 y.1 y.2.1 y.2.2 kk) (σ := obV) (fun i s => (s, dg (sDy n K T C P) h i, nI i)) 5 (fun _ s => chM [13, 14, 15] [11, 12, 16, 17] v s) (fun z => ∃ v', z = some (v', sM1 n K T C P h) ∧ chM [13, 14, 15] [11, 12, 16, 17] v v') ?_ ?_ fu 0 v chM.rf (Nat.zero_le _) (q_fu (by omega))
  · have e : ((v, dg (sDy n K T C P) h 0, nI 0) : obV × Int64 × Int32) = (v, h, 0) := rfl
    rw [e] at key
    exact key
  · intro i s hi hs1
    obtain ⟨v', r1, r2⟩ := m_dayOf (w := i) (hC s hs1) ho (by omega)
    refine ⟨v', hs1.tr (r2.mono (by decide) (by decide)), fun kk => ?_⟩
    show f_X7_sayDay_b2 s (dg (sDy n K T C P) h i) (nI i) kk = kk (v', dg (sDy n K T C P) h (i + 1), nI (i + 1))
    unfold f_X7_sayDay_b2 f_X7_say
    rw [q_l5, if_neg (nI_ge hi (by decide)), r1, bind_e, bind_e, nI_1]
    rfl
  · intro s hs1
    obtain ⟨v2, r4, r5⟩ := m_sayDay2 h1 (hC s hs1) ho (dg (sDy n K T C P) h 5)
    refine ⟨some (v2, sM1 n K T C P h), ⟨_, rfl, hs1.tr r5⟩, fun kk => ?_⟩
    show f_X7_sayDay_b2 s (dg (sDy n K T C P) h 5) (nI 5) kk = _
    unfold f_X7_sayDay_b2
    rw [q_l5, if_pos (Int32.le_refl _)]
    exact r4
theorem x_dig2 {v vd vn vt va vs vb vp : obV} {wt : Nat → Nat → Int32} {g : Int32 → Int32} (hg : ∀ x, f_X6_count v vp vn vs x = some (g x)) (h : Int64) : f_X6_digest_l93 v vd vn vt wt va vs vb vp fu (h, 0) = some (sE2 g h, vd, vt, wt, va, vb) := by
  have key := lp_sum (body := fun kk (y : Int64 × Int32) => f_X6_digest_b93 v vd vn vt wt va vs vb vp y.1 y.2 kk) (σ := Int64) (fun i s => (s, nI i)) 8 (fun i => dg (fun j => g (nI j)) h i) (some (sE2 g h, vd, vt, wt, va, vb)) ?_ ?_ fu 0 (Nat.zero_le _) (q_fu (by omega))
  · have e : ((dg (fun j => g (nI j)) h 0, nI 0) : Int64 × Int32) = (h, 0) := rfl
    rw [e] at key
    exact key
  · intro i hi kk
    show f_X6_digest_b93 v vd vn vt wt va vs vb vp (dg (fun j => g (nI j)) h i) (nI i) kk = kk (dg (fun j => g (nI j)) h (i + 1), nI (i + 1))
    unfold f_X6_digest_b93 f_X6_mix
    rw [q_l7, if_neg (nI_nlt (show i ≤ 7 by omega) (by decide)), hg, bind_e, bind_e, nI_1]
    rfl
  · intro kk
    show f_X6_digest_b93 v vd vn vt wt va vs vb vp (dg (fun j => g (nI j)) h 8) (nI 8) kk = _
    unfold f_X6_digest_b93
    rw [q_l7, if_pos (nI_lt (by decide) (by decide))]
    rfl
theorem m_dig2 {v : obV} {g : Int32 → Int32} (hg : ∀ x, f_X7_countOf v x = some (g x)) (h : Int64) : f_X7_digest_l68 v fu (h, 0) = some (sE2 g h, v, sE2 g h) := by
  have key := lp_sum (body := fun kk (y : Int64 × Int32) => f_X7_digest_b68 v y.1 y.2 kk) (σ := Int64) (fun i s => (s, nI i)) 8 (fun i => dg (fun j => g (nI j)) h i) (some (sE2 g h, v, sE2 g h)) ?_ ?_ fu 0 (Nat.zero_le _) (q_fu (by omega))
  · have e : ((dg (fun j => g (nI j)) h 0, nI 0) : Int64 × Int32) = (h, 0) := rfl
    rw [e] at key
    exact key
  · intro i hi kk
    show f_X7_digest_b68 v (dg (fun j => g (nI j)) h i) (nI i) kk = kk (dg (fun j => g (nI j)) h (i + 1), nI (i + 1))
    unfold f_X7_digest_b68 f_X7_say
    rw [q_l8, if_neg (nI_ge hi (by decide)), hg, bind_e, bind_e, nI_1]
    rfl
  · intro kk
    show f_X7_digest_b68 v (dg (fun j => g (nI j)) h 8) (nI 8) kk = _
    unfold f_X7_digest_b68
    rw [q_l8, if_pos (Int32.le_refl _)]
    rfl
theorem x_dig1 {v vd vn vt va vs vb vp : obV} {wt : Nat → Nat → Int32} {g : Int32 → Int32} {L : Nat} {c : Nat → Nat} (hg : ∀ x, f_X6_count v vp vn vs x = some (g x)) (hp : pgX vp L c) (hL : L ≤ 24) (h : Int64) : f_X6_digest_l59 v vd vn vt wt va vs vb vp fu (h, 0) = some (sE1 g L c h, vd, vt, wt, va, vb) := by
  have key := lp_sum (body := fun kk (y : Int64 × Int32) => f_X6_digest_b59 v vd vn vt wt va vs vb vp y.1 y.2 kk) (σ := Int64) (fun i s => (s, nI i)) L (fun i => dg (fun j => nI (c j)) h i) (some (sE1 g L c h, vd, vt, wt, va, vb)) ?_ ?_ fu 0 (Nat.zero_le _) (q_fu (by omega))
  · have e : ((dg (fun j => nI (c j)) h 0, nI 0) : Int64 × Int32) = (h, 0) := rfl
    rw [e] at key
    exact key
  · intro i hi kk
    show f_X6_digest_b59 v vd vn vt wt va vs vb vp (dg (fun j => nI (c j)) h i) (nI i) kk = kk (dg (fun j => nI (c j)) h (i + 1), nI (i + 1))
    unfold f_X6_digest_b59 f_X6_mix
    rw [hp.1, if_neg (nI_ge hi (by omega)), if_neg (nI_in (show i < 24 by omega) (by decide)), nI_clamp (by omega), hp.2 i hi, bind_e, nI_1]
    rfl
  · intro kk
    show f_X6_digest_b59 v vd vn vt wt va vs vb vp (dg (fun j => nI (c j)) h L) (nI L) kk = _
    unfold f_X6_digest_b59
    rw [hp.1, if_pos (Int32.le_refl _), x_dig2 hg]
    rfl
theorem m_dig1 {v : obV} {g : Int32 → Int32} {L : Nat} {c : Nat → Nat} (hg : ∀ x, f_X7_countOf v x = some (g x)) (hp : pgM v L c) (hL : L ≤ 24) (h : Int64) : f_X7_digest_l41 v fu (h, 0) = some (sE1 g L c h, v, sE1 g L c h) := by
  have key := lp_sum (body := fun kk (y : Int64 × Int32) => f_X7_digest_b41 v y.1 y.2 kk) (σ := Int64) (fun i s => (s, nI i)) L (fun i => dg (fun j => nI (c j)) h i) (some (sE1 g L c h, v, sE1 g L c h)) ?_ ?_ fu 0 (Nat.zero_le _) (q_fu (by omega))
  · have e : ((dg (fun j => nI (c j)) h 0, nI 0) : Int64 × Int32) = (h, 0) := rfl
    rw [e] at key
    exact key
  · intro i hi kk
    show f_X7_digest_b41 v (dg (fun j => nI (c j)) h i) (nI i) kk = kk (dg (fun j => nI (c j)) h (i + 1), nI (i + 1))
    unfold f_X7_digest_b41 f_X7_say
    rw [hp.1, if_neg (nI_ge hi (by omega)), if_neg (nI_in (show i < 24 by omega) (by decide)), nI_clamp (by omega), hp.2 i hi, bind_e, nI_1]
    rfl
  · intro kk
    show f_X7_digest_b41 v (dg (fun j => nI (c j)) h L) (nI L) kk = _
    unfold f_X7_digest_b41
    rw [hp.1, if_pos (Int32.le_refl _), m_dig2 hg]
    rfl
theorem x_digest {v vd vn vt va vs vb vp : obV} {wt : Nat → Nat → Int32} {n : Nat} {K T C : Nat → Nat} {P : Nat} {ch : Int32} {k : Nat} {sl sm : Nat → Nat} {g : Int32 → Int32} {L : Nat} {c : Nat → Nat} (hc : cvX vn n K T C P ch) (ho : okC n K T C P) (hs : snX vs k sl sm) (hso : okS k sl sm) (hg : ∀ x, f_X6_count v vp vn vs x = some (g x)) (hp : pgX vp L c) (hL : L ≤ 24) : ∃ u, f_X6_digest v vd vn vt wt va vs vb vp = some u ∧ u.1 = sE0 n K T C P k sl sm g L c := by
  have hn := ho.1
  obtain ⟨vd', d1, d2⟩ := x_pass (v := vd) hc ho
  unfold f_X6_digest
  rw [d1, bind_e]
  have key := lp_up (body := fun kk (y : obV × (Nat → Nat → Int32) × obV × Int64 × Int32) => f_X6_digest_b17 v vd' vn y.1 y.2.1 y.2.2.1 vs vb vp y.2.2.2.1 y.2.2.2.2 kk) (σ := obV × (Nat → Nat → Int32) × obV) (fun i s => (s.1, s.2.1, s.2.2, sDp n K T C P k sl sm 991 i, nI i)) n (fun _ _ => True) (fun z => ∃ u : Int64 × obV × obV × (Nat → Nat → Int32) × obV × obV, z = some u ∧ u.1 = sE0 n K T C P k sl sm g L c) ?_ ?_ fu 0 (vt, wt, va) trivial (Nat.zero_le _) (q_fu (by omega))
  · have e : ((vt, wt, va, sDp n K T C P k sl sm 991 0, nI 0) : obV × (Nat → Nat → Int32) × obV × Int64 × Int32) = (vt, wt, va, 991, 0) := rfl
    rw [e] at key
    exact key
  · intro i s hi _
    obtain ⟨u, r1, r2⟩ := x_mixPilgrim (vt := s.1) (wt := s.2.1) (vd0 := s.2.2) hc ho hs hso hi d2 (sDp n K T C P k sl sm 991 i)
    refine ⟨(u.2.1, u.2.2.1, u.2.2.2), trivial, fun kk => ?_⟩
    show f_X6_digest_b17 v vd' vn s.1 s.2.1 s.2.2 vs vb vp (sDp n K T C P k sl sm 991 i) (nI i) kk = kk (u.2.1, u.2.2.1, u.2.2.2, sMp n K T C P k sl sm i (sDp n K T C P k sl sm 991 i), nI (i + 1))
    unfold f_X6_digest_b17
    rw [hc.1, if_neg (nI_ge hi (by omega)), r1, bind_e, nI_1, r2]
  · intro s _
    by_cases h0 : n = 0
    · refine ⟨some (sE0 n K T C P k sl sm g L c, vd', s.1, s.2.1, s.2.2, vb), ⟨_, rfl, rfl⟩, fun kk => ?_⟩
      show f_X6_digest_b17 v vd' vn s.1 s.2.1 s.2.2 vs vb vp (sDp n K T C P k sl sm 991 n) (nI n) kk = _
      unfold f_X6_digest_b17 sE0
      rw [x_isNone hn hc.1, hc.1, if_pos (Int32.le_refl _), bind_e, if_pos h0, if_neg (show ¬ nI 1 = 0 by decide), if_pos h0, x_dig1 hg hp hL]
    · obtain ⟨vb', b1⟩ := x_mixCave (vb := vb) (by omega) hc ho d2 (sDp n K T C P k sl sm 991 n)
      refine ⟨some (sE0 n K T C P k sl sm g L c, vd', s.1, s.2.1, s.2.2, vb'), ⟨_, rfl, rfl⟩, fun kk => ?_⟩
      show f_X6_digest_b17 v vd' vn s.1 s.2.1 s.2.2 vs vb vp (sDp n K T C P k sl sm 991 n) (nI n) kk = _
      unfold f_X6_digest_b17 sE0
      rw [x_isNone hn hc.1, hc.1, if_pos (Int32.le_refl _), bind_e, if_neg h0, if_pos nI_0, if_neg h0, b1, bind_e, x_dig1 hg hp hL]
theorem m_digest {v : obV} {h : Int64} {n : Nat} {K T C : Nat → Nat} {P : Nat} {ch : Int32} {k : Nat} {sl sm : Nat → Nat} {g : Int32 → Int32} {L : Nat} {c : Nat → Nat} (hc : cvM v n K T C P ch) (ho : okC n K T C P) (hs : snM v k sl sm) (hso : okS k sl sm) (hg : ∀ v', chS v v' → ∀ x, f_X7_countOf v' x = some (g x)) (hp : pgM v L c) (hL : L ≤ 24) : ∃ v', f_X7_digest v h = some (sE0 n K T C P k sl sm g L c, v', sE0 n K T C P k sl sm g L c) ∧ chS v v' := by
  have hn := ho.1
  have hC : ∀ s, chS v s → cvM s n K T C P ch := fun s l3 => hc.w (l3.1 6 (by decide)) (l3.1 7 (by decide)) (l3.1 8 (by decide)) (l3.2 10 (by decide))
  have hS : ∀ s, chS v s → snM s k sl sm := fun s l3 => ⟨(l3.1 18 (by decide)).trans hs.1, by rw [l3.2 19 (by decide)]; exact hs.2⟩
  have hP : ∀ s, chS v s → pgM s L c := fun s l3 => ⟨(l3.1 1 (by decide)).trans hp.1, by rw [l3.2 0 (by decide)]; exact hp.2⟩
  unfold f_X7_digest
  have key := lp_up (body := fun kk (y : obV × Int64 × Int32) => f_X7_digest_b9 y.1 y.2.1 y.2.2 kk) (σ := obV) (fun i s => (s, sDp n K T C P k sl sm 991 i, nI i)) n (fun _ s => chS v s) (fun z => ∃ v', z = some (sE0 n K T C P k sl sm g L c, v', sE0 n K T C P k sl sm g L c) ∧ chS v v') ?_ ?_ fu 0 v chS.rf (Nat.zero_le _) (q_fu (by omega))
  · have e : ((v, sDp n K T C P k sl sm 991 0, nI 0) : obV × Int64 × Int32) = (v, 991, 0) := rfl
    rw [e] at key
    exact key
  · intro i s hi hs1
    obtain ⟨v', r1, r2⟩ := m_sayPilgrim (hC s hs1) ho (hS s hs1) hso hi (sDp n K T C P k sl sm 991 i)
    refine ⟨v', hs1.tr (r2.s (by decide) (by decide)), fun kk => ?_⟩
    show f_X7_digest_b9 s (sDp n K T C P k sl sm 991 i) (nI i) kk = kk (v', sMp n K T C P k sl sm i (sDp n K T C P k sl sm 991 i), nI (i + 1))
    unfold f_X7_digest_b9
    rw [(hC s hs1).1, if_neg (nI_ge hi (by omega)), r1, bind_e, nI_1]
  · intro s hs1
    by_cases h0 : n = 0
    · refine ⟨some (sE0 n K T C P k sl sm g L c, s, sE0 n K T C P k sl sm g L c), ⟨_, rfl, hs1⟩, fun kk => ?_⟩
      show f_X7_digest_b9 s (sDp n K T C P k sl sm 991 n) (nI n) kk = _
      unfold f_X7_digest_b9 sE0
      rw [m_lacks hn (hC s hs1).1, (hC s hs1).1, if_pos (Int32.le_refl _), bind_e, if_pos h0, if_neg (show ¬ nI 1 = 0 by decide), if_pos h0, m_dig1 (hg s hs1) (hP s hs1) hL]
    · obtain ⟨v', b1, b2⟩ := m_sayDay (by omega) (hC s hs1) ho (sDp n K T C P k sl sm 991 n)
      have b3 := hs1.tr (b2.s (by decide) (by decide))
      refine ⟨some (sE0 n K T C P k sl sm g L c, v', sE0 n K T C P k sl sm g L c), ⟨_, rfl, b3⟩, fun kk => ?_⟩
      show f_X7_digest_b9 s (sDp n K T C P k sl sm 991 n) (nI n) kk = _
      unfold f_X7_digest_b9 sE0
      rw [m_lacks hn (hC s hs1).1, (hC s hs1).1, if_pos (Int32.le_refl _), bind_e, if_neg h0, if_pos nI_0, if_neg h0, b1, bind_e, m_dig1 (hg v' b3) (hP v' b3) hL]
theorem op_digest {t : Nat} {v_x : obV} {v_x_page : obV} {v_x_now : obV} {v_x_now_seen : obV} {v_x_kept : obV} {v_x_kept_seen : obV} {v_x_today : obV} {v_x_trials : obV} {w_x_trials : Nat → Nat → Int32} {v_x_trials_day : obV} {v_x_best : obV} {v_m : obV} {h_m : Int64} (hR : Rel t v_x v_x_page v_x_now v_x_now_seen v_x_kept v_x_kept_seen v_m)  : ∃ (ux : Int64 × obV × obV × (Nat → Nat → Int32) × obV × obV) (um : Int64 × obV × Int64), f_X6_digest v_x v_x_today v_x_now v_x_trials w_x_trials v_x_trials_day v_x_now_seen v_x_best v_x_page  = some ux ∧ f_X7_digest v_m h_m  = some um ∧ ux.1 = um.1 ∧ Rel (t + 1) (v_x) (v_x_page) (v_x_now) (v_x_now_seen) (v_x_kept) (v_x_kept_seen) (um.2.1) := by
  obtain ⟨pg, sn, n, rd, cv, d, e, f, g⟩ := id hR
  obtain ⟨gg, hgg⟩ := Classical.skolem.mp (fun x => count_eq pg sn cv e f x)
  have hm : ∀ v', chS v_m v' → ∀ x, f_X7_countOf v' x = some (gg x) := fun v' l3 x => by
    obtain ⟨r, r1, r2⟩ := count_eq (v_x := v_x) (pg.w (l3.1 1 (by decide)) (l3.2 0 (by decide))) (sn.w (l3.1 18 (by decide)) (l3.2 19 (by decide))) (cv.w (l3.1 6 (by decide)) (l3.1 7 (by decide)) (l3.1 8 (by decide)) (l3.2 10 (by decide))) e ((l3.1 9 (by decide)).trans f) x
    rw [r2, ← r1]
    exact (hgg x).1
  obtain ⟨L, c, p1, p2, p3⟩ := pg
  obtain ⟨k, sl, sm, s1, s2, s3⟩ := sn
  obtain ⟨K, T, C, P, ch, a, b, ho⟩ := cv
  obtain ⟨u, x1, x2⟩ := x_digest (vd := v_x_today) (vt := v_x_trials) (va := v_x_trials_day) (vb := v_x_best) (wt := w_x_trials) a ho s1 s3 (fun x => (hgg x).1) p1 p3.1
  obtain ⟨v', m1, m2⟩ := m_digest (h := h_m) b ho s2 s3 hm p2 p3.1
  exact ⟨u, _, x1, m1, x2, hR.s m2⟩
