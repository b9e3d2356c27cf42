def f_X0_begin_b12  (v_t : obV) (x2 : Int32)  (k12 : obV × Int32 → Option (obV)) : Option (obV) :=
  (if (5 : Int32) ≤ x2 then some v_t else if x2 < 0 ∨ 5 ≤ Int32.toNatClampNeg x2 then none else hlet ((oA v_t 0 (Int32.toNatClampNeg x2) x2) : obV) (fun v_t_23 => k12 (v_t_23, (x2 + 1))))
def f_X0_begin_l12    (n : Nat) : obV × Int32 → Option (obV) :=
  lp (fun k y => f_X0_begin_b12  y.1 y.2  k) n
def f_X0_begin  (v_t : obV) (x1 : Int32) : Option (obV) :=
  hlet ((oF v_t 2 x1) : obV) (fun v_t_2 => hlet ((oF v_t_2 3 (-1)) : obV) (fun v_t_7 => f_X0_begin_l12    fu (v_t_7, 0)))
def f_X1_wears  (v_t : obV) (x1 : Int32) : Option (Int32) :=
  if x1 < 0 ∨ 5 ≤ Int32.toNatClampNeg x1 then none else (if ((v_t.2 0) (Int32.toNatClampNeg x1)) = 3 then some 3 else some 1)
def f_X6_leastSaying   (x0 : Int32) (x1 : Int32) : Option (Int32) :=
  hlet ((if ((x0 + 1) - (x0 + 1) / 6 * 6) < x0 then ((x0 + 1) - (x0 + 1) / 6 * 6) else x0) : Int32) (fun z_12 => hlet ((if x0 < ((x0 + 1) - (x0 + 1) / 6 * 6) then ((x0 + 1) - (x0 + 1) / 6 * 6) else x0) : Int32) (fun z_18 => (if (x1 &&& (1 <<< (z_12 &&& 31))) = 0 then some z_12 else (if (x1 &&& (1 <<< (z_18 &&& 31))) = 0 then some z_18 else some (-1)))))
def f_J6_bitCount_0f7a4   (x0 : Int32) : Option (Int32) :=
  hlet ((((x0 - ((ushr x0 1) &&& 1431655765)) &&& 858993459) + ((ushr (x0 - ((ushr x0 1) &&& 1431655765)) 2) &&& 858993459)) : Int32) (fun z_23 => hlet ((((z_23 + (ushr z_23 4)) &&& 252645135) + (ushr ((z_23 + (ushr z_23 4)) &&& 252645135) 8)) : Int32) (fun z_40 => some ((z_40 + (ushr z_40 16)) &&& 63)))
def f_X0_helpedWhenTried_b10  (v_t : obV) (v_a1 : obV) (x2 : Int32) (x3 : Int32) (x4 : Int32)  (k10 : Int32 × Int32 × Int32 → Option (Int32)) : Option (Int32) :=
  (if (v_t.1 2) ≤ x4 then Option.bind (f_J6_bitCount_0f7a4 x3) (fun u_77 => some u_77) else if x4 < 0 ∨ 5 ≤ Int32.toNatClampNeg x4 then none else Option.bind (f_X1_wears v_a1 ((v_t.2 0) (Int32.toNatClampNeg x4))) (fun u_32 => (if (0 : Int32) ≤ (x2 - u_32) then if ((v_t.2 0) (Int32.toNatClampNeg x4)) < 0 ∨ 5 ≤ Int32.toNatClampNeg ((v_t.2 0) (Int32.toNatClampNeg x4)) then none else Option.bind (f_X6_leastSaying ((v_a1.2 1) (Int32.toNatClampNeg ((v_t.2 0) (Int32.toNatClampNeg x4)))) x3) (fun u_52 => (if u_52 = (-1) then k10 ((x2 - u_32), x3, (x4 + 1)) else k10 ((x2 - u_32), (x3 ||| (1 <<< (u_52 &&& 31))), (x4 + 1)))) else Option.bind (f_J6_bitCount_0f7a4 x3) (fun u_77 => some u_77))))
def f_X0_helpedWhenTried_l10  (v_t : obV) (v_a1 : obV)  (n : Nat) : Int32 × Int32 × Int32 → Option (Int32) :=
  lp (fun k y => f_X0_helpedWhenTried_b10  v_t v_a1 y.1 y.2.1 y.2.2  k) n
def f_X0_helpedWhenTried  (v_t : obV) (v_a1 : obV)  : Option (Int32) :=
  f_X0_helpedWhenTried_l10  v_t v_a1  fu ((v_a1.1 5), 0, 0)
def f_X0_swap  (v_t : obV) (x1 : Int32) (x2 : Int32) : Option (obV) :=
  if x1 < 0 ∨ 5 ≤ Int32.toNatClampNeg x1 then none else if x2 < 0 ∨ 5 ≤ Int32.toNatClampNeg x2 then none else if x1 < 0 ∨ 5 ≤ Int32.toNatClampNeg x1 then none else hlet ((oA v_t 0 (Int32.toNatClampNeg x1) ((v_t.2 0) (Int32.toNatClampNeg x2))) : obV) (fun v_t_18 => if x2 < 0 ∨ 5 ≤ Int32.toNatClampNeg x2 then none else hlet ((oA v_t_18 0 (Int32.toNatClampNeg x2) ((v_t.2 0) (Int32.toNatClampNeg x1))) : obV) (fun v_t_25 => some v_t_25))
def f_X0_turnToNext_b91  (v_t : obV) (x3 : Int32) (x4 : Int32)  (k91 : obV × Int32 × Int32 → Option (Int32 × obV)) : Option (Int32 × obV) :=
  (if x4 ≤ x3 then some (1, v_t) else Option.bind (f_X0_swap v_t x3 x4) (fun u_101 => k91 (u_101, (x3 + 1), (x4 + (-1)))))
def f_X0_turnToNext_l91    (n : Nat) : obV × Int32 × Int32 → Option (Int32 × obV) :=
  lp (fun k y => f_X0_turnToNext_b91  y.1 y.2.1 y.2.2  k) n
def f_X0_turnToNext_b73  (v_t : obV) (x1 : Int32) (x2 : Int32)  : Option (Int32 × obV) :=
  Option.bind (f_X0_swap v_t x1 x2) (fun u_76 => f_X0_turnToNext_l91    fu (u_76, (x1 + 1), ((u_76.1 2) - 1)))
def f_X0_turnToNext_b47  (v_t : obV) (x1 : Int32) (x2 : Int32)  (k47 : Int32 → Option (Int32 × obV)) : Option (Int32 × obV) :=
  (if x2 ≤ x1 then f_X0_turnToNext_b73  v_t x1 x2  else if x2 < 0 ∨ 5 ≤ Int32.toNatClampNeg x2 then none else if x1 < 0 ∨ 5 ≤ Int32.toNatClampNeg x1 then none else (if ((v_t.2 0) (Int32.toNatClampNeg x1)) ≤ ((v_t.2 0) (Int32.toNatClampNeg x2)) then f_X0_turnToNext_b73  v_t x1 x2  else k47 (x2 + (-1))))
def f_X0_turnToNext_l47  (v_t : obV) (x1 : Int32)  (n : Nat) : Int32 → Option (Int32 × obV) :=
  lp (fun k y => f_X0_turnToNext_b47  v_t x1 y  k) n
def f_X0_turnToNext_b34  (v_t : obV) (x1 : Int32)  : Option (Int32 × obV) :=
  (if (0 : Int32) ≤ x1 then f_X0_turnToNext_l47  v_t x1  fu ((v_t.1 2) - 1) else some (0, v_t))
def f_X0_turnToNext_b7  (v_t : obV) (x1 : Int32)  (k7 : Int32 → Option (Int32 × obV)) : Option (Int32 × obV) :=
  (if x1 < 0 then f_X0_turnToNext_b34  v_t x1  else if x1 < 0 ∨ 5 ≤ Int32.toNatClampNeg x1 then none else if (x1 + 1) < 0 ∨ 5 ≤ Int32.toNatClampNeg (x1 + 1) then none else (if ((v_t.2 0) (Int32.toNatClampNeg x1)) ≤ ((v_t.2 0) (Int32.toNatClampNeg (x1 + 1))) then f_X0_turnToNext_b34  v_t x1  else k7 (x1 + (-1))))
def f_X0_turnToNext_l7  (v_t : obV)  (n : Nat) : Int32 → Option (Int32 × obV) :=
  lp (fun k y => f_X0_turnToNext_b7  v_t y  k) n
def f_X0_turnToNext  (v_t : obV)  : Option (Int32 × obV) :=
  f_X0_turnToNext_l7  v_t  fu ((v_t.1 2) - 2)
def f_X0_find_b58  (v_t : obV) (v_a1 : obV) (x3 : Int32) (k12 : obV × Int32 × Int32 → Option (obV)) : Option (obV) :=
  Option.bind (f_X0_turnToNext v_t) (fun u_59 => k12 (u_59.2, u_59.1, (x3 + 1)))
def f_X0_find_b12  (v_t : obV) (v_a1 : obV) (x2 : Int32) (x3 : Int32)  (k12 : obV × Int32 × Int32 → Option (obV)) : Option (obV) :=
  (if (120 : Int32) ≤ x3 then some v_t else (if x2 = 0 then some v_t else Option.bind (f_X0_helpedWhenTried v_t v_a1) (fun u_24 => (if u_24 ≤ (v_t.1 3) then f_X0_find_b58  v_t v_a1 x3 k12 else hlet ((oF v_t 3 u_24) : obV) (fun v_t_41 => hlet ((oC v_t_41 1 (va_cpy (v_t_41.2 0) (v_t_41.2 1) 0 0 5)) : obV) (fun v_t_55 => f_X0_find_b58  v_t_55 v_a1 x3 k12))))))
def f_X0_find_l12  (v_a1 : obV)  (n : Nat) : obV × Int32 × Int32 → Option (obV) :=
  lp (fun k y => f_X0_find_b12  y.1 v_a1 y.2.1 y.2.2  k) n
def f_X0_find  (v_t : obV) (v_a1 : obV)  : Option (obV) :=
  Option.bind (f_X0_begin v_t (v_a1.1 4)) (fun u_5 => f_X0_find_l12  v_a1  fu (u_5, 1, 0))
def f_X0_at  (v_t : obV) (x1 : Int32) : Option (Int32) :=
  (if x1 < 0 then some (-1) else (if (v_t.1 2) ≤ x1 then some (-1) else if x1 < 0 ∨ 5 ≤ Int32.toNatClampNeg x1 then none else some ((v_t.2 1) (Int32.toNatClampNeg x1))))
def f_X3_pilgrims  (v_t : obV)  : Option (Int32) :=
  some ((v_t.1 1) / 4)
def f_X6_kindByLetter   (x0 : Int32) : Option (Int32) :=
  (if x0 = 98 then some 4 else (if x0 = 101 then some 2 else (if x0 = 112 then some 0 else (if x0 = 115 then some 3 else (if x0 = 116 then some 1 else some (-1))))))
def f_X3_digit  (v_t : obV) (x1 : Int32) : Option (Int32) :=
  if x1 < 0 ∨ 24 ≤ Int32.toNatClampNeg x1 then none else some (((v_t.2 0) (Int32.toNatClampNeg x1)) - 48)
def f_X1_read_b14  (v_t : obV) (v_a1 : obV) (v_t_seen : obV) (x2 : Int32)  (k14 : obV × Int32 → Option (obV × obV)) : Option (obV × obV) :=
  (if (v_t.1 4) ≤ x2 then Option.bind (f_X3_digit v_a1 (4 * (v_t.1 4))) (fun u_83 => hlet ((oF v_t 5 u_83) : obV) (fun v_t_86 => hlet ((oF v_t_86 6 0) : obV) (fun v_t_91 => hlet ((oF v_t_seen 2 0) : obV) (fun v_t_seen_99 => some (v_t_91, v_t_seen_99))))) else if (4 * x2) < 0 ∨ 24 ≤ Int32.toNatClampNeg (4 * x2) then none else Option.bind (f_X6_kindByLetter ((v_a1.2 0) (Int32.toNatClampNeg (4 * x2)))) (fun u_35 => if x2 < 0 ∨ 5 ≤ Int32.toNatClampNeg x2 then none else hlet ((oA v_t 0 (Int32.toNatClampNeg x2) u_35) : obV) (fun v_t_38 => Option.bind (f_X3_digit v_a1 ((4 * x2) + 1)) (fun u_50 => if x2 < 0 ∨ 5 ≤ Int32.toNatClampNeg x2 then none else hlet ((oA v_t_38 1 (Int32.toNatClampNeg x2) u_50) : obV) (fun v_t_53 => Option.bind (f_X3_digit v_a1 ((4 * x2) + 2)) (fun u_65 => if x2 < 0 ∨ 5 ≤ Int32.toNatClampNeg x2 then none else hlet ((oA v_t_53 2 (Int32.toNatClampNeg x2) u_65) : obV) (fun v_t_68 => k14 (v_t_68, (x2 + 1)))))))))
def f_X1_read_l14  (v_a1 : obV) (v_t_seen : obV)  (n : Nat) : obV × Int32 → Option (obV × obV) :=
  lp (fun k y => f_X1_read_b14  y.1 v_a1 v_t_seen y.2  k) n
def f_X1_read  (v_t : obV) (v_a1 : obV) (v_t_seen : obV)  : Option (obV × obV) :=
  Option.bind (f_X3_pilgrims v_a1) (fun u_2 => hlet ((oF v_t 4 (if 5 < u_2 then 5 else u_2)) : obV) (fun v_t_9 => f_X1_read_l14  v_a1 v_t_seen  fu (v_t_9, 0)))
def f_X4_copy  (v_t : obV) (v_a1 : obV)  : Option (obV) :=
  hlet ((oC v_t 0 (va_cpy (v_a1.2 0) (v_t.2 0) 0 0 8)) : obV) (fun v_t_12 => hlet ((oC v_t_12 1 (va_cpy (v_a1.2 1) (v_t_12.2 1) 0 0 8)) : obV) (fun v_t_27 => hlet ((oF v_t_27 2 (v_a1.1 2)) : obV) (fun v_t_35 => some v_t_35)))
def f_X1_copy  (v_t : obV) (v_a1 : obV) (v_t_seen : obV) (v_a1_seen : obV)  : Option (obV × obV) :=
  hlet ((oC v_t 0 (va_cpy (v_a1.2 0) (v_t.2 0) 0 0 5)) : obV) (fun v_t_11 => hlet ((oC v_t_11 1 (va_cpy (v_a1.2 1) (v_t_11.2 1) 0 0 5)) : obV) (fun v_t_25 => hlet ((oC v_t_25 2 (va_cpy (v_a1.2 2) (v_t_25.2 2) 0 0 5)) : obV) (fun v_t_39 => Option.bind (f_X4_copy v_t_seen v_a1_seen) (fun u_50 => hlet ((oF v_t_39 4 (v_a1.1 4)) : obV) (fun v_t_58 => hlet ((oF v_t_58 5 (v_a1.1 5)) : obV) (fun v_t_66 => hlet ((oF v_t_66 6 (v_a1.1 6)) : obV) (fun v_t_74 => some (v_t_74, u_50))))))))
def f_X1_isNone  (v_t : obV)  : Option (Int32) :=
  (if (v_t.1 4) = 0 then some 1 else some 0)
def f_X1_has  (v_t : obV) (x1 : Int32) : Option (Int32) :=
  (if x1 < 0 then some 0 else (if (v_t.1 4) ≤ x1 then some 0 else some 1))
def f_X1_isKind  (v_t : obV) (x1 : Int32) (x2 : Int32) : Option (Int32) :=
  if x1 < 0 ∨ 5 ≤ Int32.toNatClampNeg x1 then none else (if x2 = 0 then some 1 else (if x2 = ((v_t.2 0) (Int32.toNatClampNeg x1)) then some 1 else (if x2 = 2 then (if ((v_t.2 0) (Int32.toNatClampNeg x1)) = 4 then some 1 else some 0) else some 0)))
def f_X1_stays  (v_t : obV) (x1 : Int32) : Option (Int32) :=
  if x1 < 0 ∨ 5 ≤ Int32.toNatClampNeg x1 then none else (if ((v_t.2 0) (Int32.toNatClampNeg x1)) = 1 then some 2 else if x1 < 0 ∨ 5 ≤ Int32.toNatClampNeg x1 then none else (if ((v_t.2 0) (Int32.toNatClampNeg x1)) = 4 then some 2 else some 1))
def f_X1_allStay_b4  (v_t : obV) (x1 : Int32) (x2 : Int32)  (k4 : Int32 × Int32 → Option (Int32)) : Option (Int32) :=
  (if (v_t.1 4) ≤ x2 then some x1 else Option.bind (f_X1_stays v_t x2) (fun u_15 => k4 ((x1 + u_15), (x2 + 1))))
def f_X1_allStay_l4  (v_t : obV)  (n : Nat) : Int32 × Int32 → Option (Int32) :=
  lp (fun k y => f_X1_allStay_b4  v_t y.1 y.2  k) n
def f_X1_allStay  (v_t : obV)  : Option (Int32) :=
  f_X1_allStay_l4  v_t  fu (0, 0)
def f_X1_unlikeTroubles_b4  (v_t : obV) (x1 : Int32) (x2 : Int32)  (k4 : Int32 × Int32 → Option (Int32)) : Option (Int32) :=
  (if (v_t.1 4) ≤ x2 then Option.bind (f_J6_bitCount_0f7a4 x1) (fun u_30 => some u_30) else if x2 < 0 ∨ 5 ≤ Int32.toNatClampNeg x2 then none else hlet ((x1 ||| (1 <<< (((v_t.2 1) (Int32.toNatClampNeg x2)) &&& 31))) : Int32) (fun z_22 => k4 (z_22, (x2 + 1))))
def f_X1_unlikeTroubles_l4  (v_t : obV)  (n : Nat) : Int32 × Int32 → Option (Int32) :=
  lp (fun k y => f_X1_unlikeTroubles_b4  v_t y.1 y.2  k) n
def f_X1_unlikeTroubles  (v_t : obV)  : Option (Int32) :=
  f_X1_unlikeTroubles_l4  v_t  fu (0, 0)
def f_X2_takeComings  (v_t : obV) (v_a1 : obV)  : Option (obV) :=
  hlet ((oC v_t 0 (va_cpy (v_a1.2 2) (v_t.2 0) 0 0 5)) : obV) (fun v_t_11 => some v_t_11)
def f_X2_begin_b28  (v_t : obV) (v_a1 : obV) (x2 : Int32)  (k28 : obV × Int32 → Option (obV)) : Option (obV) :=
  (if (v_t.1 4) ≤ x2 then some v_t else if x2 < 0 ∨ 5 ≤ Int32.toNatClampNeg x2 then none else hlet ((oA v_t 1 (Int32.toNatClampNeg x2) (-1)) : obV) (fun v_t_42 => if x2 < 0 ∨ 5 ≤ Int32.toNatClampNeg x2 then none else hlet ((oA v_t_42 2 (Int32.toNatClampNeg x2) (-1)) : obV) (fun v_t_49 => k28 (v_t_49, (x2 + 1)))))
def f_X2_begin_l28  (v_a1 : obV)  (n : Nat) : obV × Int32 → Option (obV) :=
  lp (fun k y => f_X2_begin_b28  y.1 v_a1 y.2  k) n
def f_X2_begin  (v_t : obV) (v_a1 : obV)  : Option (obV) :=
  hlet ((oF v_t 4 (v_a1.1 4)) : obV) (fun v_t_5 => hlet ((oF v_t_5 5 (v_a1.1 5)) : obV) (fun v_t_13 => hlet ((oF v_t_13 6 0) : obV) (fun v_t_18 => hlet ((oF v_t_18 7 (-1)) : obV) (fun v_t_23 => f_X2_begin_l28  v_a1  fu (v_t_23, 0)))))
def f_X2_isAhead  (v_t : obV) (v_a1 : obV) (x2 : Int32) (x3 : Int32) : Option (Int32) :=
  Option.bind (f_X1_isKind v_a1 x2 (2 : Int32)) (fun u_3 => Option.bind (f_X1_isKind v_a1 x3 (2 : Int32)) (fun u_13 => (if u_3 = u_13 then if x2 < 0 ∨ 5 ≤ Int32.toNatClampNeg x2 then none else if x3 < 0 ∨ 5 ≤ Int32.toNatClampNeg x3 then none else (if ((v_t.2 0) (Int32.toNatClampNeg x3)) ≤ ((v_t.2 0) (Int32.toNatClampNeg x2)) then some 0 else some 1) else if ¬ (u_3 = 0 ∨ u_3 = 1) then none else some u_3)))
def f_X2_firstInLine_b41  (v_t : obV) (v_a1 : obV) (x2 : Int32) (x3 : Int32) (x4 : Int32) (s0 : Int32) (k5 : Int32 × Int32 → Option (Int32)) : Option (Int32) :=
  (if s0 = 0 then k5 (x3, (x4 + 1)) else (if x3 = (-1) then k5 (x4, (x4 + 1)) else Option.bind (f_X2_isAhead v_t v_a1 x4 x3) (fun u_58 => (if u_58 = 0 then k5 (x3, (x4 + 1)) else k5 (x4, (x4 + 1))))))
def f_X2_firstInLine_b5  (v_t : obV) (v_a1 : obV) (x2 : Int32) (x3 : Int32) (x4 : Int32)  (k5 : Int32 × Int32 → Option (Int32)) : Option (Int32) :=
  (if (v_t.1 4) ≤ x4 then some x3 else if x4 < 0 ∨ 5 ≤ Int32.toNatClampNeg x4 then none else (if x2 < ((v_t.2 0) (Int32.toNatClampNeg x4)) then f_X2_firstInLine_b41  v_t v_a1 x2 x3 x4 0 k5 else if x4 < 0 ∨ 5 ≤ Int32.toNatClampNeg x4 then none else (if ((v_t.2 1) (Int32.toNatClampNeg x4)) = (-1) then f_X2_firstInLine_b41  v_t v_a1 x2 x3 x4 1 k5 else f_X2_firstInLine_b41  v_t v_a1 x2 x3 x4 0 k5)))
def f_X2_firstInLine_l5  (v_t : obV) (v_a1 : obV) (x2 : Int32)  (n : Nat) : Int32 × Int32 → Option (Int32) :=
  lp (fun k y => f_X2_firstInLine_b5  v_t v_a1 x2 y.1 y.2  k) n
def f_X2_firstInLine  (v_t : obV) (v_a1 : obV) (x2 : Int32) : Option (Int32) :=
  f_X2_firstInLine_l5  v_t v_a1 x2  fu ((-1), 0)
def f_X2_receive  (v_t : obV) (v_a1 : obV) (x2 : Int32) (x3 : Int32) : Option (obV) :=
  if x2 < 0 ∨ 5 ≤ Int32.toNatClampNeg x2 then none else hlet ((oA v_t 1 (Int32.toNatClampNeg x2) x3) : obV) (fun v_t_6 => Option.bind (f_X1_wears v_a1 x2) (fun u_14 => hlet ((oF v_t_6 5 ((v_t_6.1 5) - u_14)) : obV) (fun v_t_18 => if x2 < 0 ∨ 5 ≤ Int32.toNatClampNeg x2 then none else Option.bind (f_X6_leastSaying ((v_a1.2 1) (Int32.toNatClampNeg x2)) (v_t_18.1 6)) (fun u_31 => if x2 < 0 ∨ 5 ≤ Int32.toNatClampNeg x2 then none else hlet ((oA v_t_18 2 (Int32.toNatClampNeg x2) u_31) : obV) (fun v_t_43 => (if u_31 = (-1) then some v_t_43 else hlet ((oF v_t_43 6 ((v_t_43.1 6) ||| (1 <<< (u_31 &&& 31)))) : obV) (fun v_t_60 => some v_t_60)))))))
def f_X2_notReceivedBy_b4  (v_t : obV) (x1 : Int32) (x2 : Int32) (x3 : Int32)  (k4 : Int32 × Int32 → Option (Int32)) : Option (Int32) :=
  (if (v_t.1 4) ≤ x3 then some x2 else if x3 < 0 ∨ 5 ≤ Int32.toNatClampNeg x3 then none else (if x1 < ((v_t.2 0) (Int32.toNatClampNeg x3)) then k4 (x2, (x3 + 1)) else if x3 < 0 ∨ 5 ≤ Int32.toNatClampNeg x3 then none else (if ((v_t.2 1) (Int32.toNatClampNeg x3)) = (-1) then k4 ((x2 + 1), (x3 + 1)) else k4 (x2, (x3 + 1)))))
def f_X2_notReceivedBy_l4  (v_t : obV) (x1 : Int32)  (n : Nat) : Int32 × Int32 → Option (Int32) :=
  lp (fun k y => f_X2_notReceivedBy_b4  v_t x1 y.1 y.2  k) n
def f_X2_notReceivedBy  (v_t : obV) (x1 : Int32) : Option (Int32) :=
  f_X2_notReceivedBy_l4  v_t x1  fu (0, 0)
def f_X2_passAsComing_b90  (v_t : obV) (v_a1 : obV) (x2 : Int32) (x3 : Int32) (k9 : obV × Int32 × Int32 → Option (obV)) : Option (obV) :=
  Option.bind (f_X2_notReceivedBy v_t x3) (fun u_97 => if x3 < 0 ∨ 20 ≤ Int32.toNatClampNeg x3 then none else hlet ((oA v_t 3 (Int32.toNatClampNeg x3) u_97) : obV) (fun v_t_100 => k9 (v_t_100, x2, (x3 + 1))))
def f_X2_passAsComing_b67  (v_t : obV) (v_a1 : obV) (x2 : Int32) (x3 : Int32) (x4 : Int32) (k9 : obV × Int32 × Int32 → Option (obV)) : Option (obV) :=
  (if x4 = (-1) then f_X2_passAsComing_b90  v_t v_a1 x2 x3 k9 else Option.bind (f_X2_receive v_t v_a1 x4 x3) (fun u_78 => Option.bind (f_X1_stays v_a1 x4) (fun u_85 => f_X2_passAsComing_b90  u_78 v_a1 (x3 + u_85) x3 k9)))
def f_X2_passAsComing_b38  (v_t : obV) (v_a1 : obV) (x2 : Int32) (x3 : Int32) (s0 : Int32) (k9 : obV × Int32 × Int32 → Option (obV)) : Option (obV) :=
  (if s0 = (-1) then f_X2_passAsComing_b67  v_t v_a1 x2 x3 s0 k9 else Option.bind (f_X1_wears v_a1 s0) (fun u_49 => (if u_49 ≤ (v_t.1 5) then f_X2_passAsComing_b67  v_t v_a1 x2 x3 s0 k9 else hlet ((oF v_t 7 x3) : obV) (fun v_t_61 => f_X2_passAsComing_b90  v_t_61 v_a1 x2 x3 k9))))
def f_X2_passAsComing_b9  (v_t : obV) (v_a1 : obV) (x2 : Int32) (x3 : Int32)  (k9 : obV × Int32 × Int32 → Option (obV)) : Option (obV) :=
  (if (20 : Int32) ≤ x3 then some v_t else (if x3 < x2 then f_X2_passAsComing_b38  v_t v_a1 x2 x3 (-1) k9 else (if (v_t.1 7) = (-1) then Option.bind (f_X2_firstInLine v_t v_a1 x3) (fun u_31 => f_X2_passAsComing_b38  v_t v_a1 x2 x3 u_31 k9) else f_X2_passAsComing_b38  v_t v_a1 x2 x3 (-1) k9)))
def f_X2_passAsComing_l9  (v_a1 : obV)  (n : Nat) : obV × Int32 × Int32 → Option (obV) :=
  lp (fun k y => f_X2_passAsComing_b9  y.1 v_a1 y.2.1 y.2.2  k) n
def f_X2_passAsComing  (v_t : obV) (v_a1 : obV)  : Option (obV) :=
  Option.bind (f_X2_begin v_t v_a1) (fun u_2 => f_X2_passAsComing_l9  v_a1  fu (u_2, 0, 0))
def f_X2_pass  (v_t : obV) (v_a1 : obV)  : Option (obV) :=
  Option.bind (f_X2_takeComings v_t v_a1) (fun u_2 => Option.bind (f_X2_passAsComing u_2 v_a1) (fun u_7 => some u_7))
def f_X2_slotsWaited_b21  (v_t : obV) (x1 : Int32) (s0 : Int32)  : Option (Int32) :=
  if x1 < 0 ∨ 5 ≤ Int32.toNatClampNeg x1 then none else some (s0 - ((v_t.2 0) (Int32.toNatClampNeg x1)))
def f_X2_slotsWaited  (v_t : obV) (x1 : Int32) : Option (Int32) :=
  if x1 < 0 ∨ 5 ≤ Int32.toNatClampNeg x1 then none else (if ((v_t.2 1) (Int32.toNatClampNeg x1)) = (-1) then f_X2_slotsWaited_b21  v_t x1 20  else if x1 < 0 ∨ 5 ≤ Int32.toNatClampNeg x1 then none else f_X2_slotsWaited_b21  v_t x1 ((v_t.2 1) (Int32.toNatClampNeg x1)) )
def f_X2_received  (v_t : obV)  : Option (Int32) :=
  Option.bind (f_X2_notReceivedBy v_t (19 : Int32)) (fun u_7 => some ((v_t.1 4) - u_7))
def f_X2_helped  (v_t : obV)  : Option (Int32) :=
  Option.bind (f_J6_bitCount_0f7a4 (v_t.1 6)) (fun u_4 => some u_4)
def f_X2_meetings_b4  (v_t : obV) (x1 : Int32) (x2 : Int32)  (k4 : Int32 × Int32 → Option (Int32)) : Option (Int32) :=
  (if (20 : Int32) ≤ x2 then some x1 else if x2 < 0 ∨ 20 ≤ Int32.toNatClampNeg x2 then none else if x2 < 0 ∨ 20 ≤ Int32.toNatClampNeg x2 then none else hlet ((x1 + ((((v_t.2 3) (Int32.toNatClampNeg x2)) * (((v_t.2 3) (Int32.toNatClampNeg x2)) - 1)) / 2)) : Int32) (fun z_29 => k4 (z_29, (x2 + 1))))
def f_X2_meetings_l4  (v_t : obV)  (n : Nat) : Int32 × Int32 → Option (Int32) :=
  lp (fun k y => f_X2_meetings_b4  v_t y.1 y.2  k) n
def f_X2_meetings  (v_t : obV)  : Option (Int32) :=
  f_X2_meetings_l4  v_t  fu (0, 0)
def f_X3_write  (v_t : obV) (x1 : Int32) : Option (obV) :=
  (if (24 : Int32) ≤ (v_t.1 1) then some v_t else if (v_t.1 1) < 0 ∨ 24 ≤ Int32.toNatClampNeg (v_t.1 1) then none else hlet ((oA v_t 0 (Int32.toNatClampNeg (v_t.1 1)) x1) : obV) (fun v_t_18 => hlet ((oF v_t_18 1 ((v_t_18.1 1) + 1)) : obV) (fun v_t_26 => some v_t_26)))
def f_X6_isWithin   (x0 : Int32) (x1 : Int32) (x2 : Int32) : Option (Int32) :=
  (if x0 < x1 then some 0 else (if x2 < x0 then some 0 else some 1))
def f_X3_isRightBehind_b11  (x0 : Int32) (x1 : Int32)  : Option (Int32) :=
  (if x1 = 59 then (if x0 < 2 then some 0 else some 1) else some 0)
def f_X3_isRightBehind   (x0 : Int32) (x1 : Int32) : Option (Int32) :=
  (if x1 = 44 then (if x0 < 5 then some 1 else f_X3_isRightBehind_b11  x0 x1 ) else f_X3_isRightBehind_b11  x0 x1 )
def f_X3_isRight  (v_t : obV) (x1 : Int32) (x2 : Int32) : Option (Int32) :=
  (if x2 = (-1) then (if (x1 - x1 / 4 * 4) = 0 then if x1 < 0 ∨ 24 ≤ Int32.toNatClampNeg x1 then none else Option.bind (f_X6_kindByLetter ((v_t.2 0) (Int32.toNatClampNeg x1))) (fun u_66 => (if u_66 = (-1) then some 0 else some 1)) else (if (x1 - x1 / 4 * 4) = 1 then Option.bind (f_X3_digit v_t x1) (fun u_81 => Option.bind (f_X6_isWithin u_81 (0 : Int32) (5 : Int32)) (fun u_86 => if ¬ (u_86 = 0 ∨ u_86 = 1) then none else some u_86)) else (if (x1 - x1 / 4 * 4) = 2 then Option.bind (f_X3_digit v_t x1) (fun u_92 => Option.bind (f_X6_isWithin u_92 (0 : Int32) (9 : Int32)) (fun u_98 => if ¬ (u_98 = 0 ∨ u_98 = 1) then none else some u_98)) else if x1 < 0 ∨ 24 ≤ Int32.toNatClampNeg x1 then none else Option.bind (f_X3_isRightBehind ((x1 + 1) / 4) ((v_t.2 0) (Int32.toNatClampNeg x1))) (fun u_113 => if ¬ (u_113 = 0 ∨ u_113 = 1) then none else some u_113)))) else (if x1 = (x2 + 1) then Option.bind (f_X3_digit v_t x1) (fun u_14 => Option.bind (f_X6_isWithin u_14 (0 : Int32) (9 : Int32)) (fun u_20 => (if u_20 = 0 then some 0 else some 1))) else some 0))
def f_X3_firstWrong_b4  (v_t : obV) (x1 : Int32) (x2 : Int32)  (k4 : Int32 × Int32 → Option (Int32)) : Option (Int32) :=
  (if (v_t.1 1) ≤ x2 then some (v_t.1 1) else Option.bind (f_X3_isRight v_t x2 x1) (fun u_15 => (if u_15 = 0 then some x2 else if x2 < 0 ∨ 24 ≤ Int32.toNatClampNeg x2 then none else (if ((v_t.2 0) (Int32.toNatClampNeg x2)) = 59 then k4 (x2, (x2 + 1)) else k4 (x1, (x2 + 1))))))
def f_X3_firstWrong_l4  (v_t : obV)  (n : Nat) : Int32 × Int32 → Option (Int32) :=
  lp (fun k y => f_X3_firstWrong_b4  v_t y.1 y.2  k) n
def f_X3_firstWrong  (v_t : obV)  : Option (Int32) :=
  f_X3_firstWrong_l4  v_t  fu ((-1), 0)
def f_X3_isCave  (v_t : obV)  : Option (Int32) :=
  (if (v_t.1 1) < 2 then some 0 else if ((v_t.1 1) - 2) < 0 ∨ 24 ≤ Int32.toNatClampNeg ((v_t.1 1) - 2) then none else (if ((v_t.2 0) (Int32.toNatClampNeg ((v_t.1 1) - 2))) = 59 then Option.bind (f_X3_firstWrong v_t) (fun u_25 => (if u_25 = (v_t.1 1) then some 1 else some 0)) else some 0))
def f_X4_add  (v_t : obV) (x1 : Int32) (x2 : Int32) : Option (obV) :=
  (if (8 : Int32) ≤ (v_t.1 2) then some v_t else if (v_t.1 2) < 0 ∨ 8 ≤ Int32.toNatClampNeg (v_t.1 2) then none else hlet ((oA v_t 0 (Int32.toNatClampNeg (v_t.1 2)) x1) : obV) (fun v_t_18 => if (v_t_18.1 2) < 0 ∨ 8 ≤ Int32.toNatClampNeg (v_t_18.1 2) then none else hlet ((oA v_t_18 1 (Int32.toNatClampNeg (v_t_18.1 2)) x2) : obV) (fun v_t_28 => hlet ((oF v_t_28 2 ((v_t_28.1 2) + 1)) : obV) (fun v_t_36 => some v_t_36))))
def f_X4_agreeWith_b2 (n_a1 : Nat) (v_t : obV) (f_a1 : Nat → Int32) (x2 : Int32)  (k2 : Int32 → Option (Int32)) : Option (Int32) :=
  (if (v_t.1 2) ≤ x2 then some 1 else if x2 < 0 ∨ 8 ≤ Int32.toNatClampNeg x2 then none else if ((v_t.2 0) (Int32.toNatClampNeg x2)) < 0 ∨ n_a1 ≤ Int32.toNatClampNeg ((v_t.2 0) (Int32.toNatClampNeg x2)) then none else if x2 < 0 ∨ 8 ≤ Int32.toNatClampNeg x2 then none else (if (f_a1 (Int32.toNatClampNeg ((v_t.2 0) (Int32.toNatClampNeg x2)))) = ((v_t.2 1) (Int32.toNatClampNeg x2)) then k2 (x2 + 1) else some 0))
def f_X4_agreeWith_l2 (n_a1 : Nat) (v_t : obV) (f_a1 : Nat → Int32)  (n : Nat) : Int32 → Option (Int32) :=
  lp (fun k y => f_X4_agreeWith_b2 n_a1 v_t f_a1 y  k) n
def f_X4_agreeWith (n_a1 : Nat) (v_t : obV) (f_a1 : Nat → Int32)  : Option (Int32) :=
  f_X4_agreeWith_l2 n_a1 v_t f_a1  fu 0
def f_X5_pass_b10  (v_t : obV) (w_t : Nat → Nat → Int32) (v_a1 : obV) (v_t_day : obV) (x2 : Int32) (x3 : Int32)  (k10 : obV × (Nat → Nat → Int32) × obV × Int32 → Option (obV × (Nat → Nat → Int32) × obV)) : Option (obV × (Nat → Nat → Int32) × obV) :=
  (if (10 : Int32) ≤ x3 then some (v_t, w_t, v_t_day) else if x2 < 0 ∨ 5 ≤ Int32.toNatClampNeg x2 then none else hlet ((oA v_t_day 0 (Int32.toNatClampNeg x2) x3) : obV) (fun v_t_day_25 => Option.bind (f_X2_passAsComing v_t_day_25 v_a1) (fun u_31 => if x3 < 0 ∨ 10 ≤ Int32.toNatClampNeg x3 then none else hlet ((va_up w_t (Int32.toNatClampNeg x3) (va_cpy (u_31.2 3) (w_t (Int32.toNatClampNeg x3)) 0 0 20)) : Nat → Nat → Int32) (fun w_t_51 => Option.bind (f_X2_meetings u_31) (fun u_63 => if x3 < 0 ∨ 10 ≤ Int32.toNatClampNeg x3 then none else hlet ((oA v_t 2 (Int32.toNatClampNeg x3) u_63) : obV) (fun v_t_66 => k10 (v_t_66, w_t_51, u_31, (x3 + 1))))))))
def f_X5_pass_l10  (v_a1 : obV) (x2 : Int32)  (n : Nat) : obV × (Nat → Nat → Int32) × obV × Int32 → Option (obV × (Nat → Nat → Int32) × obV) :=
  lp (fun k y => f_X5_pass_b10  y.1 y.2.1 v_a1 y.2.2.1 x2 y.2.2.2  k) n
def f_X5_pass  (v_t : obV) (w_t : Nat → Nat → Int32) (v_a1 : obV) (v_t_day : obV) (x2 : Int32) : Option (obV × (Nat → Nat → Int32) × obV) :=
  Option.bind (f_X2_takeComings v_t_day v_a1) (fun u_5 => f_X5_pass_l10  v_a1 x2  fu (v_t, w_t, u_5, 0))
def f_X5_leastMeetings_b4  (v_t : obV) (x1 : Int32) (x2 : Int32)  (k4 : Int32 × Int32 → Option (Int32)) : Option (Int32) :=
  (if (10 : Int32) ≤ x2 then some x1 else if x2 < 0 ∨ 10 ≤ Int32.toNatClampNeg x2 then none else if x1 < 0 ∨ 10 ≤ Int32.toNatClampNeg x1 then none else (if ((v_t.2 2) (Int32.toNatClampNeg x1)) ≤ ((v_t.2 2) (Int32.toNatClampNeg x2)) then k4 (x1, (x2 + 1)) else k4 (x2, (x2 + 1))))
def f_X5_leastMeetings_l4  (v_t : obV)  (n : Nat) : Int32 × Int32 → Option (Int32) :=
  lp (fun k y => f_X5_leastMeetings_b4  v_t y.1 y.2  k) n
def f_X5_leastMeetings  (v_t : obV)  : Option (Int32) :=
  f_X5_leastMeetings_l4  v_t  fu (0, 1)
def f_X5_possible_b4  (w_t : Nat → Nat → Int32) (v_a1 : obV) (x2 : Int32) (x3 : Int32)  (k4 : Int32 × Int32 → Option (Int32)) : Option (Int32) :=
  (if (10 : Int32) ≤ x3 then some x2 else if x3 < 0 ∨ 10 ≤ Int32.toNatClampNeg x3 then none else Option.bind (f_X4_agreeWith 20 v_a1 (w_t (Int32.toNatClampNeg x3))) (fun u_17 => (if u_17 = 0 then k4 (x2, (x3 + 1)) else k4 ((x2 ||| (1 <<< (x3 &&& 31))), (x3 + 1)))))
def f_X5_possible_l4  (w_t : Nat → Nat → Int32) (v_a1 : obV)  (n : Nat) : Int32 × Int32 → Option (Int32) :=
  lp (fun k y => f_X5_possible_b4  w_t v_a1 y.1 y.2  k) n
def f_X5_possible  (w_t : Nat → Nat → Int32) (v_a1 : obV)  : Option (Int32) :=
  f_X5_possible_l4  w_t v_a1  fu (0, 0)
def f_X5_mostLeft_b25  (v_t : obV) (w_t : Nat → Nat → Int32) (x1 : Int32) (x2 : Int32) (x3 : Int32) (x4 : Int32)  (k25 : obV × Int32 × Int32 → Option (Int32 × obV)) : Option (Int32 × obV) :=
  (if (10 : Int32) ≤ x4 then some (x3, v_t) else (if (x1 &&& (1 <<< (x4 &&& 31))) = 0 then k25 (v_t, x3, (x4 + 1)) else if x4 < 0 ∨ 10 ≤ Int32.toNatClampNeg x4 then none else if x2 < 0 ∨ 20 ≤ Int32.toNatClampNeg x2 then none else if ((w_t (Int32.toNatClampNeg x4)) (Int32.toNatClampNeg x2)) < 0 ∨ 6 ≤ Int32.toNatClampNeg ((w_t (Int32.toNatClampNeg x4)) (Int32.toNatClampNeg x2)) then none else if ((w_t (Int32.toNatClampNeg x4)) (Int32.toNatClampNeg x2)) < 0 ∨ 6 ≤ Int32.toNatClampNeg ((w_t (Int32.toNatClampNeg x4)) (Int32.toNatClampNeg x2)) then none else hlet ((oA v_t 3 (Int32.toNatClampNeg ((w_t (Int32.toNatClampNeg x4)) (Int32.toNatClampNeg x2))) (((v_t.2 3) (Int32.toNatClampNeg ((w_t (Int32.toNatClampNeg x4)) (Int32.toNatClampNeg x2)))) + 1)) : obV) (fun v_t_62 => if ((w_t (Int32.toNatClampNeg x4)) (Int32.toNatClampNeg x2)) < 0 ∨ 6 ≤ Int32.toNatClampNeg ((w_t (Int32.toNatClampNeg x4)) (Int32.toNatClampNeg x2)) then none else hlet ((if x3 < ((v_t_62.2 3) (Int32.toNatClampNeg ((w_t (Int32.toNatClampNeg x4)) (Int32.toNatClampNeg x2)))) then ((v_t_62.2 3) (Int32.toNatClampNeg ((w_t (Int32.toNatClampNeg x4)) (Int32.toNatClampNeg x2)))) else x3) : Int32) (fun z_74 => k25 (v_t_62, z_74, (x4 + 1))))))
def f_X5_mostLeft_l25  (w_t : Nat → Nat → Int32) (x1 : Int32) (x2 : Int32)  (n : Nat) : obV × Int32 × Int32 → Option (Int32 × obV) :=
  lp (fun k y => f_X5_mostLeft_b25  y.1 w_t x1 x2 y.2.1 y.2.2  k) n
def f_X5_mostLeft_b2  (v_t : obV) (w_t : Nat → Nat → Int32) (x1 : Int32) (x2 : Int32) (x3 : Int32)  (k2 : obV × Int32 → Option (Int32 × obV)) : Option (Int32 × obV) :=
  (if (5 : Int32) < x3 then f_X5_mostLeft_l25  w_t x1 x2  fu (v_t, 0, 0) else if x3 < 0 ∨ 6 ≤ Int32.toNatClampNeg x3 then none else hlet ((oA v_t 3 (Int32.toNatClampNeg x3) 0) : obV) (fun v_t_13 => k2 (v_t_13, (x3 + 1))))
def f_X5_mostLeft_l2  (w_t : Nat → Nat → Int32) (x1 : Int32) (x2 : Int32)  (n : Nat) : obV × Int32 → Option (Int32 × obV) :=
  lp (fun k y => f_X5_mostLeft_b2  y.1 w_t x1 x2 y.2  k) n
def f_X5_mostLeft  (v_t : obV) (w_t : Nat → Nat → Int32) (x1 : Int32) (x2 : Int32) : Option (Int32 × obV) :=
  f_X5_mostLeft_l2  w_t x1 x2  fu (v_t, 0)
def f_X5_bestLook_b14  (v_t : obV) (w_t : Nat → Nat → Int32) (x1 : Int32) (x2 : Int32) (x3 : Int32) (x4 : Int32)  (k14 : obV × Int32 × Int32 × Int32 → Option (Int32 × obV)) : Option (Int32 × obV) :=
  (if (20 : Int32) ≤ x4 then some (x2, v_t) else Option.bind (f_X5_mostLeft v_t w_t x1 x4) (fun u_25 => (if x3 ≤ u_25.1 then k14 (u_25.2, x2, x3, (x4 + 1)) else k14 (u_25.2, x4, u_25.1, (x4 + 1)))))
def f_X5_bestLook_l14  (w_t : Nat → Nat → Int32) (x1 : Int32)  (n : Nat) : obV × Int32 × Int32 × Int32 → Option (Int32 × obV) :=
  lp (fun k y => f_X5_bestLook_b14  y.1 w_t x1 y.2.1 y.2.2.1 y.2.2.2  k) n
def f_X5_bestLook  (v_t : obV) (w_t : Nat → Nat → Int32) (x1 : Int32) : Option (Int32 × obV) :=
  (if x1 = 0 then some ((-1), v_t) else f_X5_bestLook_l14  w_t x1  fu (v_t, 0, 11, 0))
def f_X6_letter  (v_t_page : obV) (x1 : Int32) : Option (Int32 × obV) :=
  Option.bind (f_X6_isWithin x1 (1 : Int32) (126 : Int32)) (fun u_4 => (if u_4 = 0 then some ((-102), v_t_page) else (if (v_t_page.1 1) < 24 then Option.bind (f_X3_write v_t_page x1) (fun u_33 => some ((u_33.1 1), u_33)) else some ((-104), v_t_page))))
def f_X6_blank  (v_t_page : obV)  : Option (Int32 × obV) :=
  hlet ((oF v_t_page 1 0) : obV) (fun v_t_page_13 => some ((v_t_page.1 1), v_t_page_13))
def f_X6_fault  (v_t_page : obV)  : Option (Int32) :=
  Option.bind (f_X3_firstWrong v_t_page) (fun u_4 => some u_4)
def f_X6_cave  (v_t : obV) (v_t_page : obV) (v_t_now : obV) (v_t_now_seen : obV)  : Option (Int32 × obV × obV × obV × obV) :=
  Option.bind (f_X3_isCave v_t_page) (fun u_4 => (if u_4 = 0 then some ((-103), v_t, v_t_page, v_t_now, v_t_now_seen) else Option.bind (f_X1_read v_t_now v_t_page v_t_now_seen) (fun u_21 => hlet ((oF v_t_page 1 0) : obV) (fun v_t_page_29 => hlet ((oF v_t 6 0) : obV) (fun v_t_34 => hlet ((oF v_t_34 7 ((v_t_34.1 7) + 1)) : obV) (fun v_t_44 => some ((u_21.1.1 4), v_t_44, v_t_page_29, u_21.1, u_21.2)))))))
def f_X6_tellPilgrim  (v_t_trials : obV) (w_t_trials : Nat → Nat → Int32) (v_t_now : obV) (v_t_now_seen : obV) (v_t_today : obV) (x1 : Int32) (x2 : Int32) : Option (Int32 × obV) :=
  (if x2 = 0 then if x1 < 0 ∨ 5 ≤ Int32.toNatClampNeg x1 then none else some (((v_t_now.2 0) (Int32.toNatClampNeg x1)), v_t_trials) else (if x2 = 1 then if x1 < 0 ∨ 5 ≤ Int32.toNatClampNeg x1 then none else some (((v_t_now.2 1) (Int32.toNatClampNeg x1)), v_t_trials) else (if x2 = 2 then if x1 < 0 ∨ 5 ≤ Int32.toNatClampNeg x1 then none else some (((v_t_now.2 2) (Int32.toNatClampNeg x1)), v_t_trials) else (if x2 = 3 then Option.bind (f_X1_stays v_t_now x1) (fun u_87 => some (u_87, v_t_trials)) else (if x2 = 4 then Option.bind (f_X1_wears v_t_now x1) (fun u_96 => some (u_96, v_t_trials)) else (if x2 = 5 then if x1 < 0 ∨ 5 ≤ Int32.toNatClampNeg x1 then none else some (((v_t_today.2 1) (Int32.toNatClampNeg x1)), v_t_trials) else (if x2 = 6 then Option.bind (f_X2_slotsWaited v_t_today x1) (fun u_115 => some (u_115, v_t_trials)) else (if x2 = 7 then if x1 < 0 ∨ 5 ≤ Int32.toNatClampNeg x1 then none else some (((v_t_today.2 2) (Int32.toNatClampNeg x1)), v_t_trials) else (if x2 = 8 then Option.bind (f_X5_possible w_t_trials v_t_now_seen) (fun u_140 => some (u_140, v_t_trials)) else Option.bind (f_X5_possible w_t_trials v_t_now_seen) (fun u_159 => Option.bind (f_X5_bestLook v_t_trials w_t_trials u_159) (fun u_162 => some (u_162.1, u_162.2))))))))))))
def f_X6_pilgrim_b66  (v_t_now : obV) (v_t_today : obV) (v_t_trials : obV) (w_t_trials : Nat → Nat → Int32) (v_t_trials_day : obV) (v_t_now_seen : obV) (x1 : Int32) (x2 : Int32)  : Option (Int32 × obV × obV × (Nat → Nat → Int32) × obV) :=
  Option.bind (f_X6_tellPilgrim v_t_trials w_t_trials v_t_now v_t_now_seen v_t_today x1 x2) (fun u_69 => some (u_69.1, v_t_today, u_69.2, w_t_trials, v_t_trials_day))
def f_X6_pilgrim_b48  (v_t_now : obV) (v_t_today : obV) (v_t_trials : obV) (w_t_trials : Nat → Nat → Int32) (v_t_trials_day : obV) (v_t_now_seen : obV) (x1 : Int32) (x2 : Int32)  : Option (Int32 × obV × obV × (Nat → Nat → Int32) × obV) :=
  (if x2 < 8 then f_X6_pilgrim_b66  v_t_now v_t_today v_t_trials w_t_trials v_t_trials_day v_t_now_seen x1 x2  else Option.bind (f_X5_pass v_t_trials w_t_trials v_t_now v_t_trials_day x1) (fun u_63 => f_X6_pilgrim_b66  v_t_now v_t_today u_63.1 u_63.2.1 u_63.2.2 v_t_now_seen x1 x2 ))
def f_X6_pilgrim  (v_t_now : obV) (v_t_today : obV) (v_t_trials : obV) (w_t_trials : Nat → Nat → Int32) (v_t_trials_day : obV) (v_t_now_seen : obV) (x1 : Int32) (x2 : Int32) : Option (Int32 × obV × obV × (Nat → Nat → Int32) × obV) :=
  Option.bind (f_X1_has v_t_now x1) (fun u_5 => (if u_5 = 0 then some ((-101), v_t_today, v_t_trials, w_t_trials, v_t_trials_day) else Option.bind (f_X6_isWithin x2 (0 : Int32) (9 : Int32)) (fun u_18 => (if u_18 = 0 then some ((-102), v_t_today, v_t_trials, w_t_trials, v_t_trials_day) else Option.bind (f_X6_isWithin x2 (5 : Int32) (7 : Int32)) (fun u_31 => (if u_31 = 0 then f_X6_pilgrim_b48  v_t_now v_t_today v_t_trials w_t_trials v_t_trials_day v_t_now_seen x1 x2  else Option.bind (f_X2_pass v_t_today v_t_now) (fun u_45 => f_X6_pilgrim_b48  v_t_now u_45 v_t_trials w_t_trials v_t_trials_day v_t_now_seen x1 x2 )))))))
def f_X6_as  (v_t_now : obV) (x1 : Int32) (x2 : Int32) : Option (Int32) :=
  Option.bind (f_X1_has v_t_now x1) (fun u_5 => (if u_5 = 0 then some (-101) else Option.bind (f_X6_isWithin x2 (0 : Int32) (4 : Int32)) (fun u_17 => (if u_17 = 0 then some (-102) else Option.bind (f_X1_isKind v_t_now x1 x2) (fun u_32 => (if u_32 = 0 then some (-1) else some x1))))))
def f_X6_come  (v_t_now : obV) (x1 : Int32) (x2 : Int32) : Option (Int32 × obV) :=
  Option.bind (f_X1_has v_t_now x1) (fun u_5 => (if u_5 = 0 then some ((-101), v_t_now) else Option.bind (f_X6_isWithin x2 (0 : Int32) (9 : Int32)) (fun u_18 => (if u_18 = 0 then some ((-102), v_t_now) else if x1 < 0 ∨ 5 ≤ Int32.toNatClampNeg x1 then none else if x1 < 0 ∨ 5 ≤ Int32.toNatClampNeg x1 then none else hlet ((oA v_t_now 2 (Int32.toNatClampNeg x1) x2) : obV) (fun v_t_now_46 => hlet ((oF v_t_now_46 6 ((v_t_now_46.1 6) + 1)) : obV) (fun v_t_now_57 => some (((v_t_now.2 2) (Int32.toNatClampNeg x1)), v_t_now_57)))))))
def f_X6_trouble  (v_t_now : obV) (x1 : Int32) (x2 : Int32) : Option (Int32 × obV) :=
  Option.bind (f_X1_has v_t_now x1) (fun u_5 => (if u_5 = 0 then some ((-101), v_t_now) else Option.bind (f_X6_isWithin x2 (0 : Int32) (5 : Int32)) (fun u_17 => (if u_17 = 0 then some ((-102), v_t_now) else if x1 < 0 ∨ 5 ≤ Int32.toNatClampNeg x1 then none else if x1 < 0 ∨ 5 ≤ Int32.toNatClampNeg x1 then none else hlet ((oA v_t_now 1 (Int32.toNatClampNeg x1) x2) : obV) (fun v_t_now_45 => hlet ((oF v_t_now_45 6 ((v_t_now_45.1 6) + 1)) : obV) (fun v_t_now_56 => some (((v_t_now.2 1) (Int32.toNatClampNeg x1)), v_t_now_56)))))))
def f_X6_patience  (v_t_now : obV) (x1 : Int32) : Option (Int32 × obV) :=
  Option.bind (f_X6_isWithin x1 (0 : Int32) (20 : Int32)) (fun u_4 => (if u_4 = 0 then some ((-102), v_t_now) else Option.bind (f_X1_isNone v_t_now) (fun u_17 => (if u_17 = 0 then hlet ((oF v_t_now 5 x1) : obV) (fun v_t_now_39 => hlet ((oF v_t_now_39 6 ((v_t_now_39.1 6) + 1)) : obV) (fun v_t_now_52 => some ((v_t_now.1 5), v_t_now_52))) else some ((-103), v_t_now)))))
def f_X6_tellDay  (v_t_today : obV) (x1 : Int32) : Option (Int32) :=
  (if x1 = 0 then Option.bind (f_X2_received v_t_today) (fun u_36 => some u_36) else (if x1 = 1 then Option.bind (f_X2_helped v_t_today) (fun u_44 => some u_44) else (if x1 = 2 then Option.bind (f_X2_meetings v_t_today) (fun u_52 => some u_52) else (if x1 = 3 then some (v_t_today.1 5) else some (v_t_today.1 7)))))
def f_X6_day  (v_t_now : obV) (v_t_today : obV) (x1 : Int32) : Option (Int32 × obV) :=
  Option.bind (f_X6_isWithin x1 (0 : Int32) (4 : Int32)) (fun u_3 => (if u_3 = 0 then some ((-102), v_t_today) else Option.bind (f_X1_isNone v_t_now) (fun u_16 => (if u_16 = 0 then Option.bind (f_X2_pass v_t_today v_t_now) (fun u_33 => Option.bind (f_X6_tellDay u_33 x1) (fun u_38 => some (u_38, u_33))) else some ((-103), v_t_today)))))
def f_X6_waiting  (v_t_now : obV) (v_t_today : obV) (x1 : Int32) : Option (Int32 × obV) :=
  Option.bind (f_X6_isWithin x1 (0 : Int32) (19 : Int32)) (fun u_4 => (if u_4 = 0 then some ((-102), v_t_today) else Option.bind (f_X1_isNone v_t_now) (fun u_17 => (if u_17 = 0 then Option.bind (f_X2_pass v_t_today v_t_now) (fun u_34 => if x1 < 0 ∨ 20 ≤ Int32.toNatClampNeg x1 then none else some (((u_34.2 3) (Int32.toNatClampNeg x1)), u_34)) else some ((-103), v_t_today)))))
def f_X6_tellOrder  (v_t_best : obV) (x1 : Int32) : Option (Int32) :=
  (if x1 = 0 then some (v_t_best.1 3) else Option.bind (f_X0_at v_t_best (x1 - 10)) (fun u_22 => some u_22))
def f_X6_order_b18  (v_t_now : obV) (v_t_best : obV) (x1 : Int32)  : Option (Int32 × obV) :=
  Option.bind (f_X1_isNone v_t_now) (fun u_22 => (if u_22 = 0 then Option.bind (f_X0_find v_t_best v_t_now) (fun u_39 => Option.bind (f_X6_tellOrder u_39 x1) (fun u_44 => some (u_44, u_39))) else some ((-103), v_t_best)))
def f_X6_order  (v_t_now : obV) (v_t_best : obV) (x1 : Int32) : Option (Int32 × obV) :=
  (if x1 = 0 then f_X6_order_b18  v_t_now v_t_best x1  else Option.bind (f_X6_isWithin x1 (10 : Int32) (14 : Int32)) (fun u_9 => (if u_9 = 0 then some ((-102), v_t_best) else f_X6_order_b18  v_t_now v_t_best x1 )))
def f_X6_tellFit  (v_t_trials : obV) (x1 : Int32) : Option (Int32) :=
  Option.bind (f_X5_leastMeetings v_t_trials) (fun u_4 => (if x1 = 0 then some u_4 else if u_4 < 0 ∨ 10 ≤ Int32.toNatClampNeg u_4 then none else some ((v_t_trials.2 2) (Int32.toNatClampNeg u_4))))
def f_X6_fit  (v_t_now : obV) (v_t_trials : obV) (w_t_trials : Nat → Nat → Int32) (v_t_trials_day : obV) (x1 : Int32) (x2 : Int32) : Option (Int32 × obV × (Nat → Nat → Int32) × obV) :=
  Option.bind (f_X1_has v_t_now x1) (fun u_5 => (if u_5 = 0 then some ((-101), v_t_trials, w_t_trials, v_t_trials_day) else Option.bind (f_X6_isWithin x2 (0 : Int32) (1 : Int32)) (fun u_17 => (if u_17 = 0 then some ((-102), v_t_trials, w_t_trials, v_t_trials_day) else Option.bind (f_X5_pass v_t_trials w_t_trials v_t_now v_t_trials_day x1) (fun u_35 => Option.bind (f_X6_tellFit u_35.1 x2) (fun u_40 => some (u_40, u_35.1, u_35.2.1, u_35.2.2)))))))
def f_X6_see  (v_t_now_seen : obV) (x1 : Int32) (x2 : Int32) : Option (Int32 × obV) :=
  Option.bind (f_X6_isWithin x1 (0 : Int32) (19 : Int32)) (fun u_4 => (if u_4 = 0 then some ((-102), v_t_now_seen) else Option.bind (f_X6_isWithin x2 (0 : Int32) (5 : Int32)) (fun u_13 => (if u_13 = 0 then some ((-102), v_t_now_seen) else (if (v_t_now_seen.1 2) < 8 then Option.bind (f_X4_add v_t_now_seen x1 x2) (fun u_49 => some ((u_49.1 2), u_49)) else some ((-104), v_t_now_seen))))))
def f_X6_forget  (v_t_now_seen : obV)  : Option (Int32 × obV) :=
  hlet ((oF v_t_now_seen 2 0) : obV) (fun v_t_now_seen_19 => some ((v_t_now_seen.1 2), v_t_now_seen_19))
def f_X6_nextSeed   (x0 : Int32) : Option (Int32) :=
  some (Int64.toInt32 (((1103515245 * (Int32.toInt64 x0)) + 12345) - ((1103515245 * (Int32.toInt64 x0)) + 12345) / 2147483648 * 2147483648))
def f_X6_drawComings_b5  (v_a1 : obV) (v_t_now : obV) (x3 : Int32) (x4 : Int32)  (k5 : obV × Int32 × Int32 → Option (Int32 × obV)) : Option (Int32 × obV) :=
  (if (v_t_now.1 4) ≤ x4 then some (x3, v_a1) else Option.bind (f_X6_nextSeed x3) (fun u_18 => if x4 < 0 ∨ 5 ≤ Int32.toNatClampNeg x4 then none else hlet ((oA v_a1 0 (Int32.toNatClampNeg x4) ((u_18 / 65536) - (u_18 / 65536) / 10 * 10)) : obV) (fun v_a1_35 => k5 (v_a1_35, u_18, (x4 + 1)))))
def f_X6_drawComings_l5  (v_t_now : obV)  (n : Nat) : obV × Int32 × Int32 → Option (Int32 × obV) :=
  lp (fun k y => f_X6_drawComings_b5  y.1 v_t_now y.2.1 y.2.2  k) n
def f_X6_drawComings  (v_a1 : obV) (v_t_now : obV) (x2 : Int32) : Option (Int32 × obV) :=
  f_X6_drawComings_l5  v_t_now  fu (v_a1, x2, 0)
def f_X6_seasons_b60  (v_t_now : obV) (v_t_trials_day : obV) (x1 : Int32) (x3 : Int32) (x5 : Int32) (x6 : Int32) (x7 : Int32) (x8 : Int32)  (k60 : obV × Int32 × Int32 × Int32 × Int32 → Option (Int32 × obV)) : Option (Int32 × obV) :=
  (if x1 ≤ x8 then (if x3 = 0 then some (x6, v_t_trials_day) else (if x3 = 1 then some (x7, v_t_trials_day) else some (x5, v_t_trials_day))) else Option.bind (f_X6_drawComings v_t_trials_day v_t_now x5) (fun u_71 => Option.bind (f_X2_passAsComing u_71.2 v_t_now) (fun u_82 => Option.bind (f_X2_helped u_82) (fun u_89 => Option.bind (f_X2_meetings u_82) (fun u_99 => k60 (u_82, u_71.1, (x6 + u_89), (x7 + u_99), (x8 + 1)))))))
def f_X6_seasons_l60  (v_t_now : obV) (x1 : Int32) (x3 : Int32)  (n : Nat) : obV × Int32 × Int32 × Int32 × Int32 → Option (Int32 × obV) :=
  lp (fun k y => f_X6_seasons_b60  v_t_now y.1 x1 x3 y.2.1 y.2.2.1 y.2.2.2.1 y.2.2.2.2  k) n
def f_X6_seasons  (v_t_now : obV) (v_t_trials_day : obV) (x1 : Int32) (x2 : Int32) (x3 : Int32) : Option (Int32 × obV) :=
  Option.bind (f_X6_isWithin x1 (1 : Int32) (30 : Int32)) (fun u_4 => (if u_4 = 0 then some ((-102), v_t_trials_day) else (if x2 < 0 then some ((-102), v_t_trials_day) else Option.bind (f_X6_isWithin x3 (0 : Int32) (2 : Int32)) (fun u_17 => (if u_17 = 0 then some ((-102), v_t_trials_day) else Option.bind (f_X1_isNone v_t_now) (fun u_30 => (if u_30 = 0 then f_X6_seasons_l60  v_t_now x1 x3  fu (v_t_trials_day, x2, 0, 0, 0) else some ((-103), v_t_trials_day))))))))
def f_X6_image  (v_t : obV) (v_t_now : obV) (v_t_kept : obV) (v_t_kept_seen : obV) (v_t_now_seen : obV)  : Option (Int32 × obV × obV × obV) :=
  Option.bind (f_X1_isNone v_t_now) (fun u_4 => (if u_4 = 0 then Option.bind (f_X1_copy v_t_kept v_t_now v_t_kept_seen v_t_now_seen) (fun u_21 => hlet ((oF v_t 6 1) : obV) (fun v_t_26 => some ((v_t_now.1 6), v_t_26, u_21.1, u_21.2))) else some ((-103), v_t, v_t_kept, v_t_kept_seen)))
def f_X6_restore  (v_t : obV) (v_t_now : obV) (v_t_kept : obV) (v_t_now_seen : obV) (v_t_kept_seen : obV)  : Option (Int32 × obV × obV) :=
  (if (v_t.1 6) = 0 then some ((-103), v_t_now, v_t_now_seen) else Option.bind (f_X1_copy v_t_now v_t_kept v_t_now_seen v_t_kept_seen) (fun u_18 => some ((u_18.1.1 6), u_18.1, u_18.2)))
def f_X6_count  (v_t : obV) (v_t_page : obV) (v_t_now : obV) (v_t_now_seen : obV) (x1 : Int32) : Option (Int32) :=
  (if x1 = 0 then some (v_t_now.1 4) else (if x1 = 1 then some (v_t_now.1 5) else (if x1 = 2 then Option.bind (f_X1_allStay v_t_now) (fun u_68 => some u_68) else (if x1 = 3 then Option.bind (f_X1_unlikeTroubles v_t_now) (fun u_76 => some u_76) else (if x1 = 4 then some (v_t_now.1 6) else (if x1 = 5 then some (v_t_now_seen.1 2) else (if x1 = 6 then some (v_t_page.1 1) else (if x1 = 7 then some (v_t.1 7) else some (-102)))))))))
def f_X6_mix   (x0 : Int64) (x2 : Int64) : Option (Int64) :=
  some ((31 * x0) + x2)
def f_X6_mixPilgrim_b15  (v_t_trials : obV) (w_t_trials : Nat → Nat → Int32) (v_t_now : obV) (v_t_trials_day : obV) (v_t_now_seen : obV) (v_t_today : obV) (x1 : Int64) (x3 : Int32) (x4 : Int32)  (k15 : obV × Int64 × Int32 → Option (Int64 × obV × (Nat → Nat → Int32) × obV)) : Option (Int64 × obV × (Nat → Nat → Int32) × obV) :=
  (if (9 : Int32) < x4 then Option.bind (f_X6_tellFit v_t_trials (0 : Int32)) (fun u_44 => Option.bind (f_X6_mix x1 (Int32.toInt64 u_44)) (fun u_48 => Option.bind (f_X6_tellFit v_t_trials (1 : Int32)) (fun u_55 => Option.bind (f_X6_mix u_48 (Int32.toInt64 u_55)) (fun u_59 => some (u_59, v_t_trials, w_t_trials, v_t_trials_day))))) else Option.bind (f_X6_tellPilgrim v_t_trials w_t_trials v_t_now v_t_now_seen v_t_today x3 x4) (fun u_27 => Option.bind (f_X6_mix x1 (Int32.toInt64 u_27.1)) (fun u_31 => k15 (u_27.2, u_31, (x4 + 1)))))
def f_X6_mixPilgrim_l15  (w_t_trials : Nat → Nat → Int32) (v_t_now : obV) (v_t_trials_day : obV) (v_t_now_seen : obV) (v_t_today : obV) (x3 : Int32)  (n : Nat) : obV × Int64 × Int32 → Option (Int64 × obV × (Nat → Nat → Int32) × obV) :=
  lp (fun k y => f_X6_mixPilgrim_b15  y.1 w_t_trials v_t_now v_t_trials_day v_t_now_seen v_t_today y.2.1 x3 y.2.2  k) n
def f_X6_mixPilgrim  (v_t_trials : obV) (w_t_trials : Nat → Nat → Int32) (v_t_now : obV) (v_t_trials_day : obV) (v_t_now_seen : obV) (v_t_today : obV) (x1 : Int64) (x3 : Int32) : Option (Int64 × obV × (Nat → Nat → Int32) × obV) :=
  Option.bind (f_X5_pass v_t_trials w_t_trials v_t_now v_t_trials_day x3) (fun u_9 => f_X6_mixPilgrim_l15  u_9.2.1 v_t_now u_9.2.2 v_t_now_seen v_t_today x3  fu (u_9.1, x1, 0))
def f_X6_mixCave_b78  (v_t_today : obV) (v_t_best : obV) (v_t_now : obV) (x1 : Int64) (x3 : Int32)  (k78 : Int64 × Int32 → Option (Int64 × obV)) : Option (Int64 × obV) :=
  (if (14 : Int32) < x3 then some (x1, v_t_best) else Option.bind (f_X6_tellOrder v_t_best x3) (fun u_87 => Option.bind (f_X6_mix x1 (Int32.toInt64 u_87)) (fun u_91 => k78 (u_91, (x3 + 1)))))
def f_X6_mixCave_l78  (v_t_today : obV) (v_t_best : obV) (v_t_now : obV)  (n : Nat) : Int64 × Int32 → Option (Int64 × obV) :=
  lp (fun k y => f_X6_mixCave_b78  v_t_today v_t_best v_t_now y.1 y.2  k) n
def f_X6_mixCave_b26  (v_t_today : obV) (v_t_best : obV) (v_t_now : obV) (x1 : Int64) (x3 : Int32)  (k26 : Int64 × Int32 → Option (Int64 × obV)) : Option (Int64 × obV) :=
  (if (20 : Int32) ≤ x3 then Option.bind (f_X0_find v_t_best v_t_now) (fun u_61 => Option.bind (f_X6_tellOrder u_61 (0 : Int32)) (fun u_67 => Option.bind (f_X6_mix x1 (Int32.toInt64 u_67)) (fun u_71 => f_X6_mixCave_l78  v_t_today u_61 v_t_now  fu (u_71, 10)))) else if x3 < 0 ∨ 20 ≤ Int32.toNatClampNeg x3 then none else Option.bind (f_X6_mix x1 (Int32.toInt64 ((v_t_today.2 3) (Int32.toNatClampNeg x3)))) (fun u_43 => k26 (u_43, (x3 + 1))))
def f_X6_mixCave_l26  (v_t_today : obV) (v_t_best : obV) (v_t_now : obV)  (n : Nat) : Int64 × Int32 → Option (Int64 × obV) :=
  lp (fun k y => f_X6_mixCave_b26  v_t_today v_t_best v_t_now y.1 y.2  k) n
def f_X6_mixCave_b2  (v_t_today : obV) (v_t_best : obV) (v_t_now : obV) (x1 : Int64) (x3 : Int32)  (k2 : Int64 × Int32 → Option (Int64 × obV)) : Option (Int64 × obV) :=
  (if (4 : Int32) < x3 then f_X6_mixCave_l26  v_t_today v_t_best v_t_now  fu (x1, 0) else Option.bind (f_X6_tellDay v_t_today x3) (fun u_10 => Option.bind (f_X6_mix x1 (Int32.toInt64 u_10)) (fun u_14 => k2 (u_14, (x3 + 1)))))
def f_X6_mixCave_l2  (v_t_today : obV) (v_t_best : obV) (v_t_now : obV)  (n : Nat) : Int64 × Int32 → Option (Int64 × obV) :=
  lp (fun k y => f_X6_mixCave_b2  v_t_today v_t_best v_t_now y.1 y.2  k) n
def f_X6_mixCave  (v_t_today : obV) (v_t_best : obV) (v_t_now : obV) (x1 : Int64) : Option (Int64 × obV) :=
  f_X6_mixCave_l2  v_t_today v_t_best v_t_now  fu (x1, 0)
def f_X6_digest_b93  (v_t : obV) (v_t_today : obV) (v_t_now : obV) (v_t_trials : obV) (w_t_trials : Nat → Nat → Int32) (v_t_trials_day : obV) (v_t_now_seen : obV) (v_t_best : obV) (v_t_page : obV) (x1 : Int64) (x3 : Int32)  (k93 : Int64 × Int32 → Option (Int64 × obV × obV × (Nat → Nat → Int32) × obV × obV)) : Option (Int64 × obV × obV × (Nat → Nat → Int32) × obV × obV) :=
  (if (7 : Int32) < x3 then some (x1, v_t_today, v_t_trials, w_t_trials, v_t_trials_day, v_t_best) else Option.bind (f_X6_count v_t v_t_page v_t_now v_t_now_seen x3) (fun u_102 => Option.bind (f_X6_mix x1 (Int32.toInt64 u_102)) (fun u_106 => k93 (u_106, (x3 + 1)))))
def f_X6_digest_l93  (v_t : obV) (v_t_today : obV) (v_t_now : obV) (v_t_trials : obV) (w_t_trials : Nat → Nat → Int32) (v_t_trials_day : obV) (v_t_now_seen : obV) (v_t_best : obV) (v_t_page : obV)  (n : Nat) : Int64 × Int32 → Option (Int64 × obV × obV × (Nat → Nat → Int32) × obV × obV) :=
  lp (fun k y => f_X6_digest_b93  v_t v_t_today v_t_now v_t_trials w_t_trials v_t_trials_day v_t_now_seen v_t_best v_t_page y.1 y.2  k) n
def f_X6_digest_b59  (v_t : obV) (v_t_today : obV) (v_t_now : obV) (v_t_trials : obV) (w_t_trials : Nat → Nat → Int32) (v_t_trials_day : obV) (v_t_now_seen : obV) (v_t_best : obV) (v_t_page : obV) (x1 : Int64) (x3 : Int32)  (k59 : Int64 × Int32 → Option (Int64 × obV × obV × (Nat → Nat → Int32) × obV × obV)) : Option (Int64 × obV × obV × (Nat → Nat → Int32) × obV × obV) :=
  (if (v_t_page.1 1) ≤ x3 then f_X6_digest_l93  v_t v_t_today v_t_now v_t_trials w_t_trials v_t_trials_day v_t_now_seen v_t_best v_t_page  fu (x1, 0) else if x3 < 0 ∨ 24 ≤ Int32.toNatClampNeg x3 then none else Option.bind (f_X6_mix x1 (Int32.toInt64 ((v_t_page.2 0) (Int32.toNatClampNeg x3)))) (fun u_81 => k59 (u_81, (x3 + 1))))
def f_X6_digest_l59  (v_t : obV) (v_t_today : obV) (v_t_now : obV) (v_t_trials : obV) (w_t_trials : Nat → Nat → Int32) (v_t_trials_day : obV) (v_t_now_seen : obV) (v_t_best : obV) (v_t_page : obV)  (n : Nat) : Int64 × Int32 → Option (Int64 × obV × obV × (Nat → Nat → Int32) × obV × obV) :=
  lp (fun k y => f_X6_digest_b59  v_t v_t_today v_t_now v_t_trials w_t_trials v_t_trials_day v_t_now_seen v_t_best v_t_page y.1 y.2  k) n
def f_X6_digest_b17  (v_t : obV) (v_t_today : obV) (v_t_now : obV) (v_t_trials : obV) (w_t_trials : Nat → Nat → Int32) (v_t_trials_day : obV) (v_t_now_seen : obV) (v_t_best : obV) (v_t_page : obV) (x1 : Int64) (x3 : Int32)  (k17 : obV × (Nat → Nat → Int32) × obV × Int64 × Int32 → Option (Int64 × obV × obV × (Nat → Nat → Int32) × obV × obV)) : Option (Int64 × obV × obV × (Nat → Nat → Int32) × obV × obV) :=
  (if (v_t_now.1 4) ≤ x3 then Option.bind (f_X1_isNone v_t_now) (fun u_45 => (if u_45 = 0 then Option.bind (f_X6_mixCave v_t_today v_t_best v_t_now x1) (fun u_53 => f_X6_digest_l59  v_t v_t_today v_t_now v_t_trials w_t_trials v_t_trials_day v_t_now_seen u_53.2 v_t_page  fu (u_53.1, 0)) else f_X6_digest_l59  v_t v_t_today v_t_now v_t_trials w_t_trials v_t_trials_day v_t_now_seen v_t_best v_t_page  fu (x1, 0))) else Option.bind (f_X6_mixPilgrim v_t_trials w_t_trials v_t_now v_t_trials_day v_t_now_seen v_t_today x1 x3) (fun u_31 => k17 (u_31.2.1, u_31.2.2.1, u_31.2.2.2, u_31.1, (x3 + 1))))
def f_X6_digest_l17  (v_t : obV) (v_t_today : obV) (v_t_now : obV) (v_t_now_seen : obV) (v_t_best : obV) (v_t_page : obV)  (n : Nat) : obV × (Nat → Nat → Int32) × obV × Int64 × Int32 → Option (Int64 × obV × obV × (Nat → Nat → Int32) × obV × obV) :=
  lp (fun k y => f_X6_digest_b17  v_t v_t_today v_t_now y.1 y.2.1 y.2.2.1 v_t_now_seen v_t_best v_t_page y.2.2.2.1 y.2.2.2.2  k) n
def f_X6_digest  (v_t : obV) (v_t_today : obV) (v_t_now : obV) (v_t_trials : obV) (w_t_trials : Nat → Nat → Int32) (v_t_trials_day : obV) (v_t_now_seen : obV) (v_t_best : obV) (v_t_page : obV)  : Option (Int64 × obV × obV × (Nat → Nat → Int32) × obV × obV) :=
  Option.bind (f_X2_pass v_t_today v_t_now) (fun u_12 => f_X6_digest_l17  v_t u_12 v_t_now v_t_now_seen v_t_best v_t_page  fu (v_t_trials, w_t_trials, v_t_trials_day, 991, 0))
