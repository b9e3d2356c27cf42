/-! the page of the reference -/
/-- what a right page says of its letters so far -/
def wkI (c : Nat → Nat) (i : Nat) (sm : Option Nat) : Prop := match sm with
  | none => i ≤ 19 ∧ ∀ j, j < i → (j % 4 = 0 → (kd (c j)).isSome = true) ∧ (j % 4 = 1 → dgt 5 (c j) = true) ∧ (j % 4 = 2 → dgt 9 (c j) = true)
  | some s => s % 4 = 3 ∧ s ≤ 19 ∧ c s = 59 ∧ (i = s + 1 ∨ (i = s + 2 ∧ dgt 9 (c (s + 1)) = true)) ∧ ∀ j, j < s → (j % 4 = 0 → (kd (c j)).isSome = true) ∧ (j % 4 = 1 → dgt 5 (c j) = true) ∧ (j % 4 = 2 → dgt 9 (c j) = true)
theorem dgt_59 (m : Nat) (h : m ≤ 9) : dgt m 59 = false := by unfold dgt; exact decide_eq_false (by omega)
theorem wk_ok {c : Nat → Nat} : ∀ i sm, wk c i = some sm → wkI c i sm := by
  intro i
  induction i with
  | zero => intro sm h; cases h; exact ⟨by decide, fun j hj => absurd hj (Nat.not_lt_zero _)⟩
  | succ i ih =>
    intro sm' h
    rw [wk_s] at h
    cases hw : wk c i with
    | none => rw [hw] at h; cases h
    | some sm =>
      rw [hw] at h
      have h : (if rt c sm i = true then some (wkS c sm i) else none) = some sm' := h
      have ih := ih sm hw
      by_cases hr : rt c sm i = true
      · rw [if_pos hr] at h
        have h : wkS c sm i = sm' := Option.some.inj h
        subst h
        cases sm with
        | some s =>
          have hr : (decide (i = s + 1) && dgt 9 (c i)) = true := hr
          rw [Bool.and_eq_true] at hr
          have e := of_decide_eq_true hr.1
          obtain ⟨a1, a2, a3, a4, a5⟩ := ih
          have hne : ¬ c i = 59 := fun q => by have h2 := hr.2; rw [q, dgt_59 9 (by decide)] at h2; cases h2
          unfold wkS
          rw [if_neg hne]
          exact ⟨a1, a2, a3, Or.inr ⟨by omega, by rw [← e]; exact hr.2⟩, a5⟩
        | none =>
          obtain ⟨a1, a2⟩ := ih
          have hr : (if i % 4 = 0 then (kd (c i)).isSome else if i % 4 = 1 then dgt 5 (c i) else if i % 4 = 2 then dgt 9 (c i) else (decide (c i = 44) && decide ((i + 1) / 4 < 5)) || (decide (c i = 59) && decide (2 ≤ (i + 1) / 4))) = true := hr
          by_cases h59 : c i = 59
          · unfold wkS
            rw [if_pos h59]
            have h3 : i % 4 = 3 := by
              rw [h59, dgt_59 5 (by decide), dgt_59 9 (by decide)] at hr
              by_cases q0 : i % 4 = 0
              · rw [if_pos q0] at hr; cases hr
              · by_cases q1 : i % 4 = 1
                · rw [if_neg q0, if_pos q1] at hr; cases hr
                · by_cases q2 : i % 4 = 2
                  · rw [if_neg q0, if_neg q1, if_pos q2] at hr; cases hr
                  · have := Nat.mod_lt i (show 4 > 0 by decide); omega
            exact ⟨h3, by omega, h59, Or.inl rfl, a2⟩
          · unfold wkS
            rw [if_neg h59]
            refine ⟨?_, fun j hj => ?_⟩
            · by_cases q : i = 19
              · exfalso
                rw [q] at hr h59
                simp [h59] at hr
              · omega
            · by_cases e : j = i
              · subst e
                refine ⟨fun q => ?_, fun q => ?_, fun q => ?_⟩
                · rw [if_pos q] at hr; exact hr
                · rw [if_neg (by omega), if_pos q] at hr; exact hr
                · rw [if_neg (by omega), if_neg (by omega), if_pos q] at hr; exact hr
              · exact a2 j (by omega)
      · rw [if_neg hr] at h; cases h
/-- how far the letters of pilgrims reach -/
def upT (i : Nat) : Option Nat → Nat
  | none => i
  | some s => s
def tbM (v : obV) (c : Nat → Nat) (u : Nat) : Prop := ∀ j, j < u → (j % 4 = 0 → v.2 2 (3 * (j / 4)) = en (kd (c j))) ∧ (j % 4 = 1 → v.2 2 (3 * (j / 4) + 1) = nI (c j) - 48) ∧ (j % 4 = 2 → v.2 2 (3 * (j / 4) + 2) = nI (c j) - 48)
def goM (v : obV) (c : Nat → Nat) (i : Nat) (sm : Option Nat) : Prop := match sm with
  | none => v.1 5 = nI (i % 4) ∧ v.1 3 = nI ((i + 1) / 4) ∧ tbM v c i
  | some s => v.1 5 = nI (i - s + 3) ∧ v.1 3 = nI ((s + 1) / 4) ∧ (i = s + 2 → v.1 4 = nI (c (s + 1)) - 48) ∧ tbM v c s
theorem m_go {v : obV} {c : Nat → Nat} {i : Nat} {sm : Option Nat} (hc : c i < 127) (hg : goM v c i sm) (hw : wkI c i sm) : ∃ v', f_X7_go v (nI (c i)) = some (nI (if rt c sm i = true then 1 else 0), v') ∧ chM [3, 4, 5] [2] v v' ∧ (rt c sm i = true → goM v' c (i + 1) (wkS c sm i)) := by
  unfold f_X7_go
  rw [hlet_e]
  cases sm with
  | some s =>
    obtain ⟨g1, g2, g3, g4⟩ := hg
    obtain ⟨a1, a2, a3, a4, a5⟩ := hw
    rw [g1]
    rcases a4 with e | ⟨e, hd⟩
    · have e4 : i - s + 3 = 4 := by omega
      rw [e4, if_neg (by decide), if_neg (by decide), if_neg (by decide), if_neg (by decide), if_pos (by decide), hlet_e, t_9m _ hc, bind_e, if_neg (q_01 _)]
      have hrt : rt c (some s) i = dgt 9 (c i) := by show (decide (i = s + 1) && dgt 9 (c i)) = _; rw [e, decide_eq_true rfl, Bool.true_and]
      refine ⟨_, by rw [hrt], (chM.rf.F (by decide)).F (by decide), fun q => ?_⟩
      rw [hrt] at q
      have hne : ¬ c i = 59 := fun z => by rw [z, dgt_59 9 (by decide)] at q; cases q
      unfold wkS
      rw [if_neg hne]
      refine ⟨?_, g2, fun _ => ?_, g4⟩
      · show nI 4 + 1 = _
        rw [nI_1, show i + 1 - s + 3 = 5 by omega]
      · show nI (c i) - 48 = _
        rw [e]
    · have e4 : i - s + 3 = 5 := by omega
      rw [e4, if_neg (by decide), if_neg (by decide), if_neg (by decide), if_neg (by decide), if_neg (by decide)]
      have hrt : rt c (some s) i = false := by show (decide (i = s + 1) && dgt 9 (c i)) = _; rw [decide_eq_false (by omega), Bool.false_and]
      refine ⟨_, by rw [hrt]; rfl, chM.rf.F (by decide), fun q => ?_⟩
      rw [hrt] at q; cases q
  | none =>
    obtain ⟨g1, g2, g3⟩ := hg
    obtain ⟨a1, a2⟩ := hw
    have hl := Nat.mod_lt i (show 4 > 0 by decide)
    have hrt : rt c none i = (if i % 4 = 0 then (kd (c i)).isSome else if i % 4 = 1 then dgt 5 (c i) else if i % 4 = 2 then dgt 9 (c i) else (decide (c i = 44) && decide ((i + 1) / 4 < 5)) || (decide (c i = 59) && decide (2 ≤ (i + 1) / 4))) := rfl
    rw [g1]
    have hw3 : (oF v 5 (nI (i % 4) + 1)).1 3 = nI ((i + 1) / 4) := g2
    by_cases h0 : i % 4 = 0
    · rw [if_pos h0] at hrt
      have hi4 : (i + 1) / 4 = i / 4 := by omega
      rw [if_pos (by rw [h0, nI_0]), t_km _ hc, bind_e, hw3, hi4, q_l3, pk_mul, if_neg (nI_in (show 3 * (i / 4) < 15 by omega) (by decide)), nI_clamp (by omega), hlet_e, bind_e]
      refine ⟨oA (oF v 5 (nI (i % 4) + 1)) 2 (3 * (i / 4)) (en (kd (c i))), ?_, (chM.rf.F (by decide)).A (by decide), fun q => ?_⟩
      · rw [hrt]
        cases hk : kd (c i) with
        | none => rw [en_none, q_m1, if_pos rfl]; rfl
        | some k =>
          have hk5 : k < 5 := by
            unfold kd at hk
            repeat' split at hk
            all_goals first | (cases hk; omega) | cases hk
          rw [en_some, q_m1, if_neg (q_no (by omega))]; rfl
      · rw [hrt] at q
        have hne : ¬ c i = 59 := fun z => by rw [z] at q; cases q
        unfold wkS
        rw [if_neg hne]
        refine ⟨?_, ?_, fun j hj => ?_⟩
        · show nI (i % 4) + 1 = _
          rw [nI_1, show i % 4 + 1 = (i + 1) % 4 by omega]
        · show v.1 3 = _
          rw [g2, show (i + 1) / 4 = (i + 1 + 1) / 4 by omega]
        · show (j % 4 = 0 → upd (v.2 2) (3 * (i / 4)) (en (kd (c i))) _ = _) ∧ (j % 4 = 1 → upd (v.2 2) (3 * (i / 4)) (en (kd (c i))) _ = _) ∧ (j % 4 = 2 → upd (v.2 2) (3 * (i / 4)) (en (kd (c i))) _ = _)
          simp only [q_upd]
          by_cases e : j = i
          · subst e
            exact ⟨fun _ => if_pos rfl, fun q => by omega, fun q => by omega⟩
          · obtain ⟨t1, t2, t3⟩ := g3 j (by omega)
            exact ⟨fun q => by rw [if_neg (by omega)]; exact t1 q, fun q => by rw [if_neg (by omega)]; exact t2 q, fun q => by rw [if_neg (by omega)]; exact t3 q⟩
    · rw [if_neg h0] at hrt
      rw [if_neg (nI_ne0 (by omega) (by omega))]
      by_cases h1 : i % 4 = 1
      · rw [if_pos h1] at hrt
        have hi4 : (i + 1) / 4 = i / 4 := by omega
        rw [if_pos (by rw [h1]; rfl), hw3, hi4, q_l3, pk_mul, nI_1, if_neg (nI_in (show 3 * (i / 4) + 1 < 15 by omega) (by decide)), nI_clamp (by omega), hlet_e, t_5m _ hc, bind_e, if_neg (q_01 _)]
        refine ⟨_, by rw [hrt], (chM.rf.F (by decide)).A (by decide), fun q => ?_⟩
        rw [hrt] at q
        have hne : ¬ c i = 59 := fun z => by rw [z, dgt_59 5 (by decide)] at q; cases q
        unfold wkS
        rw [if_neg hne]
        refine ⟨?_, ?_, fun j hj => ?_⟩
        · show nI (i % 4) + 1 = _
          rw [nI_1, show i % 4 + 1 = (i + 1) % 4 by omega]
        · show v.1 3 = _
          rw [g2, show (i + 1) / 4 = (i + 1 + 1) / 4 by omega]
        · show (j % 4 = 0 → upd (v.2 2) (3 * (i / 4) + 1) (nI (c i) - 48) _ = _) ∧ (j % 4 = 1 → upd (v.2 2) (3 * (i / 4) + 1) (nI (c i) - 48) _ = _) ∧ (j % 4 = 2 → upd (v.2 2) (3 * (i / 4) + 1) (nI (c i) - 48) _ = _)
          simp only [q_upd]
          by_cases e : j = i
          · subst e
            exact ⟨fun q => by omega, fun _ => if_pos rfl, fun q => by omega⟩
          · obtain ⟨t1, t2, t3⟩ := g3 j (by omega)
            exact ⟨fun q => by rw [if_neg (by omega)]; exact t1 q, fun q => by rw [if_neg (by omega)]; exact t2 q, fun q => by rw [if_neg (by omega)]; exact t3 q⟩
      · rw [if_neg h1] at hrt
        rw [if_neg (fun q => h1 ((nI_eq (by omega) (by decide)).mp (q.trans q_l1)))]
        by_cases h2 : i % 4 = 2
        · rw [if_pos h2] at hrt
          have hi4 : (i + 1) / 4 = i / 4 := by omega
          rw [if_pos (by rw [h2]; rfl), hw3, hi4, q_l3, pk_mul, q_l2, nI_add, if_neg (nI_in (show 3 * (i / 4) + 2 < 15 by omega) (by decide)), nI_clamp (by omega), hlet_e, hlet_e, t_9m _ hc, bind_e, if_neg (q_01 _)]
          refine ⟨_, by rw [hrt], ((chM.rf.F (by decide)).A (by decide)).F (by decide), fun q => ?_⟩
          rw [hrt] at q
          have hne : ¬ c i = 59 := fun z => by rw [z, dgt_59 9 (by decide)] at q; cases q
          unfold wkS
          rw [if_neg hne]
          refine ⟨?_, ?_, fun j hj => ?_⟩
          · show nI (i % 4) + 1 = _
            rw [nI_1, show i % 4 + 1 = (i + 1) % 4 by omega]
          · show v.1 3 + 1 = _
            rw [g2, nI_1, show (i + 1) / 4 + 1 = (i + 1 + 1) / 4 by omega]
          · show (j % 4 = 0 → upd (v.2 2) (3 * (i / 4) + 2) (nI (c i) - 48) _ = _) ∧ (j % 4 = 1 → upd (v.2 2) (3 * (i / 4) + 2) (nI (c i) - 48) _ = _) ∧ (j % 4 = 2 → upd (v.2 2) (3 * (i / 4) + 2) (nI (c i) - 48) _ = _)
            simp only [q_upd]
            by_cases e : j = i
            · subst e
              exact ⟨fun q => by omega, fun q => by omega, fun _ => if_pos rfl⟩
            · obtain ⟨t1, t2, t3⟩ := g3 j (by omega)
              exact ⟨fun q => by rw [if_neg (by omega)]; exact t1 q, fun q => by rw [if_neg (by omega)]; exact t2 q, fun q => by rw [if_neg (by omega)]; exact t3 q⟩
        · rw [if_neg h2] at hrt
          have h3 : i % 4 = 3 := by omega
          rw [if_neg (fun q => h2 ((nI_eq (by omega) (by decide)).mp (q.trans q_l2))), if_pos (by rw [h3]; rfl)]
          have hj4 : ∀ j, j < i + 1 → j ≠ i → j < i := fun j h1 h2 => by omega
          by_cases h44 : c i = 44
          · rw [if_pos (by rw [h44]; rfl)]
            unfold f_X7_go_b155
            rw [hlet_e, if_pos (by rw [h44]; rfl)]
            have hw3' : (oF (oF v 5 (nI (i % 4) + 1)) 5 0).1 3 = nI ((i + 1) / 4) := g2
            rw [hw3', q_l5]
            by_cases h5 : 5 ≤ (i + 1) / 4
            · have hb : rt c none i = false := by rw [hrt, h44]; simp only [decide_eq_false (show ¬ (i + 1) / 4 < 5 by omega)]; rfl
              rw [if_pos (nI_le h5 (by omega))]
              exact ⟨_, by rw [hb]; rfl, (chM.rf.F (by decide)).F (by decide), fun q => by rw [hb] at q; cases q⟩
            · have hb : rt c none i = true := by rw [hrt, h44]; simp only [decide_eq_true (show (i + 1) / 4 < 5 by omega)]; rfl
              rw [if_neg (nI_ge (by omega) (by omega))]
              refine ⟨_, by rw [hb]; rfl, (chM.rf.F (by decide)).F (by decide), fun _ => ?_⟩
              unfold wkS
              rw [if_neg (by omega)]
              refine ⟨?_, ?_, fun j hj => ?_⟩
              · show 0 = _
                rw [show (i + 1) % 4 = 0 by omega, nI_0]
              · show v.1 3 = _
                rw [g2, show (i + 1) / 4 = (i + 1 + 1) / 4 by omega]
              · by_cases e : j = i
                · exact ⟨fun q => by omega, fun q => by omega, fun q => by omega⟩
                · exact g3 j (by omega)
          · have hn44 : ¬ nI (c i) = 44 := fun q => h44 ((nI_eq (by omega) (by decide)).mp (q.trans q_l44))
            rw [if_neg hn44]
            unfold f_X7_go_b155
            rw [hlet_e, if_neg hn44]
            have hw3' : (oF (oF v 5 (nI (i % 4) + 1)) 5 4).1 3 = nI ((i + 1) / 4) := g2
            by_cases h59 : c i = 59
            · rw [if_pos (by rw [h59]; rfl), hw3', q_l1]
              by_cases h5 : (i + 1) / 4 ≤ 1
              · have hb : rt c none i = false := by rw [hrt, h59]; simp only [decide_eq_false (show ¬ 2 ≤ (i + 1) / 4 by omega)]; rfl
                rw [if_pos (nI_le h5 (by omega))]
                exact ⟨_, by rw [hb]; rfl, (chM.rf.F (by decide)).F (by decide), fun q => by rw [hb] at q; cases q⟩
              · have hb : rt c none i = true := by rw [hrt, h59]; simp only [decide_eq_true (show 2 ≤ (i + 1) / 4 by omega)]; rfl
                rw [if_neg (nI_ge (by omega) (by omega))]
                refine ⟨_, by rw [hb]; rfl, (chM.rf.F (by decide)).F (by decide), fun _ => ?_⟩
                unfold wkS
                rw [if_pos h59]
                refine ⟨?_, ?_, fun q => by omega, g3⟩
                · show 4 = _
                  rw [show i + 1 - i + 3 = 4 by omega]; rfl
                · exact g2
            · have hn59 : ¬ nI (c i) = 59 := fun q => h59 ((nI_eq (by omega) (by decide)).mp (q.trans q_l59))
              have hb : rt c none i = false := by rw [hrt]; simp only [decide_eq_false h44, decide_eq_false h59]; rfl
              rw [if_neg hn59]
              exact ⟨_, by rw [hb]; rfl, (chM.rf.F (by decide)).F (by decide), fun q => by rw [hb] at q; cases q⟩
theorem m_faultOf {v : obV} {L : Nat} {c : Nat → Nat} (hp : pgM v L c) (ho : okP L c) : ∃ r v' sm, f_X7_faultOf v = some (nI r, v') ∧ fwP c L r ∧ chM [3, 4, 5] [2] v v' ∧ (r = L → wk c r = some sm ∧ goM v' c r sm) := by
  have hL := ho.1
  have key : ∃ r v' sm, f_X7_faultOf_l12 fu (oF (oF v 3 0) 5 0, 0) = some (nI r, v') ∧ fwP c L r ∧ chM [3, 4, 5] [2] v v' ∧ (r = L → wk c r = some sm ∧ goM v' c r sm) := by
    refine lp_any (fun y : obV × Int32 => ∃ i sm, i ≤ L ∧ wk c i = some sm ∧ chM [3, 4, 5] [2] v y.1 ∧ goM y.1 c i sm ∧ y.2 = nI i) (fun y => 24 - y.2.toNatClampNeg) (fun z => ∃ r v' sm, z = some (nI r, v') ∧ fwP c L r ∧ chM [3, 4, 5] [2] v v' ∧ (r = L → wk c r = some sm ∧ goM v' c r sm)) ?_ fu (oF (oF v 3 0) 5 0, 0) ⟨0, none, Nat.zero_le _, rfl, (chM.rf.F (by decide)).F (by decide), ⟨rfl, rfl, fun j hj => absurd hj (Nat.not_lt_zero _)⟩, rfl⟩ (Nat.lt_of_le_of_lt (Nat.sub_le _ _) (q_fu (by decide)))
    rintro ⟨s, y⟩ ⟨i, sm, hi, hw, hch, hg, hy⟩
    have hy : y = nI i := hy
    subst hy
    have hch : chM [3, 4, 5] [2] v s := hch
    have hg : goM s c i sm := hg
    have hs1 : s.1 1 = nI L := (hch.1 1 (by decide)).trans hp.1
    by_cases e : i = L
    · right
      refine ⟨_, ⟨i, s, sm, rfl, ⟨hi, by rw [hw]; exact Option.some_ne_none _, fun q => by omega⟩, hch, fun _ => ⟨hw, hg⟩⟩, fun k => ?_⟩
      show f_X7_faultOf_b12 s (nI i) k = _
      unfold f_X7_faultOf_b12
      rw [hs1, e, if_pos (Int32.le_refl _)]
    · have hi : i < L := by omega
      obtain ⟨s', b1, b2, b3⟩ := m_go (v := s) (ho.2 i hi) hg (wk_ok i sm hw)
      have hs0 : s.2 0 i = nI (c i) := by rw [hch.2 0 (by decide)]; exact hp.2 i hi
      by_cases hrt : rt c sm i = true
      · left
        refine ⟨(s', nI (i + 1)), ⟨i + 1, _, hi, by rw [wk_s, hw]; exact if_pos hrt, hch.tr b2, b3 hrt, rfl⟩, by show 24 - Int32.toNatClampNeg (nI (i + 1)) < 24 - Int32.toNatClampNeg (nI i); rw [nI_clamp (by omega), nI_clamp (by omega)]; omega, fun k => ?_⟩
        show f_X7_faultOf_b12 s (nI i) k = _
        unfold f_X7_faultOf_b12
        rw [hs1, if_neg (nI_ge hi (by omega)), if_neg (nI_in (show i < 24 by omega) (by decide)), nI_clamp (by omega), hs0, b1, bind_e, if_neg (fun q => (q_b0 _).mp q hrt), nI_1]
      · right
        refine ⟨_, ⟨i, s', none, rfl, ⟨by omega, by rw [hw]; exact Option.some_ne_none _, fun _ => by rw [wk_s, hw]; exact if_neg hrt⟩, hch.tr b2, fun q => absurd q e⟩, fun k => ?_⟩
        show f_X7_faultOf_b12 s (nI i) k = _
        unfold f_X7_faultOf_b12
        rw [hs1, if_neg (nI_ge hi (by omega)), if_neg (nI_in (show i < 24 by omega) (by decide)), nI_clamp (by omega), hs0, b1, bind_e, if_pos ((q_b0 _).mpr hrt)]
  unfold f_X7_faultOf
  rw [hlet_e, hlet_e]
  exact key
