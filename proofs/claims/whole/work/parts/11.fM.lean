def f_X7_in   (x0 : Int64) (x2 : Int64) (x4 : Int64) : Option (Int32) :=
  (if (lg_cmp x0 x2) < 0 then some 0 else (if (0 : Int32) < (lg_cmp x0 x4) then some 0 else some 1))
def f_X7_copy_b2 (n_a0 : Nat) (n_a1 : Nat) (f_a0 : Nat → Int32) (f_a1 : Nat → Int32) (x2 : Int32)  (k2 : (Nat → Int32) × Int32 → Option ((Nat → Int32))) : Option ((Nat → Int32)) :=
  (if (nI n_a0) ≤ x2 then some f_a1 else if x2 < 0 ∨ n_a0 ≤ Int32.toNatClampNeg x2 then none else if x2 < 0 ∨ n_a1 ≤ Int32.toNatClampNeg x2 then none else hlet ((upd f_a1 (Int32.toNatClampNeg x2) (f_a0 (Int32.toNatClampNeg x2))) : Nat → Int32) (fun f_a1_13 => k2 (f_a1_13, (x2 + 1))))
def f_X7_copy_l2 (n_a0 : Nat) (n_a1 : Nat) (f_a0 : Nat → Int32)  (n : Nat) : (Nat → Int32) × Int32 → Option ((Nat → Int32)) :=
  lp (fun k y => f_X7_copy_b2 n_a0 n_a1 f_a0 y.1 y.2  k) n
def f_X7_copy (n_a0 : Nat) (n_a1 : Nat) (f_a0 : Nat → Int32) (f_a1 : Nat → Int32)  : Option ((Nat → Int32)) :=
  f_X7_copy_l2 n_a0 n_a1 f_a0  fu (f_a1, 0)
def f_X7_letter  (v_t : obV) (x1 : Int32) : Option (Int32 × obV) :=
  Option.bind (f_X7_in (Int32.toInt64 x1) (1 : Int64) (126 : Int64)) (fun u_6 => (if u_6 = 0 then some ((-102), v_t) else (if (v_t.1 1) = 24 then some ((-104), v_t) else if (v_t.1 1) < 0 ∨ 24 ≤ Int32.toNatClampNeg (v_t.1 1) then none else hlet ((oA v_t 0 (Int32.toNatClampNeg (v_t.1 1)) x1) : obV) (fun v_t_36 => hlet ((oF v_t_36 1 ((v_t_36.1 1) + 1)) : obV) (fun v_t_44 => some ((v_t_44.1 1), v_t_44))))))
def f_X7_blank  (v_t : obV)  : Option (Int32 × obV) :=
  hlet ((oF v_t 1 0) : obV) (fun v_t_7 => some ((v_t.1 1), v_t_7))
def f_X7_kindBy   (x0 : Int32) : Option (Int32) :=
  (if x0 = 112 then some 0 else (if x0 = 116 then some 1 else (if x0 = 101 then some 2 else (if x0 = 115 then some 3 else (if x0 = 98 then some 4 else some (-1))))))
def f_X7_go_b155  (v_t : obV) (x1 : Int32) (s1 : Int32)  : Option (Int32 × obV) :=
  hlet ((oF v_t 5 s1) : obV) (fun v_t_155 => (if x1 = 44 then (if (5 : Int32) ≤ (v_t_155.1 3) then some (0, v_t_155) else some (1, v_t_155)) else (if x1 = 59 then (if (v_t_155.1 3) ≤ 1 then some (0, v_t_155) else some (1, v_t_155)) else some (0, v_t_155))))
def f_X7_go  (v_t : obV) (x1 : Int32) : Option (Int32 × obV) :=
  hlet ((oF v_t 5 ((v_t.1 5) + 1)) : obV) (fun v_t_17 => (if (v_t.1 5) = 0 then Option.bind (f_X7_kindBy x1) (fun u_67 => if (3 * (v_t_17.1 3)) < 0 ∨ 15 ≤ Int32.toNatClampNeg (3 * (v_t_17.1 3)) then none else hlet ((oA v_t_17 2 (Int32.toNatClampNeg (3 * (v_t_17.1 3))) u_67) : obV) (fun v_t_70 => Option.bind (f_X7_kindBy x1) (fun u_72 => (if u_72 = (-1) then some (0, v_t_70) else some (1, v_t_70))))) else (if (v_t.1 5) = 1 then if ((3 * (v_t_17.1 3)) + 1) < 0 ∨ 15 ≤ Int32.toNatClampNeg ((3 * (v_t_17.1 3)) + 1) then none else hlet ((oA v_t_17 2 (Int32.toNatClampNeg ((3 * (v_t_17.1 3)) + 1)) (x1 - 48)) : obV) (fun v_t_98 => Option.bind (f_X7_in (Int32.toInt64 (x1 - 48)) (0 : Int64) (5 : Int64)) (fun u_105 => if ¬ (u_105 = 0 ∨ u_105 = 1) then none else some (u_105, v_t_98))) else (if (v_t.1 5) = 2 then if ((3 * (v_t_17.1 3)) + 2) < 0 ∨ 15 ≤ Int32.toNatClampNeg ((3 * (v_t_17.1 3)) + 2) then none else hlet ((oA v_t_17 2 (Int32.toNatClampNeg ((3 * (v_t_17.1 3)) + 2)) (x1 - 48)) : obV) (fun v_t_122 => hlet ((oF v_t_122 3 ((v_t_122.1 3) + 1)) : obV) (fun v_t_130 => Option.bind (f_X7_in (Int32.toInt64 (x1 - 48)) (0 : Int64) (9 : Int64)) (fun u_139 => if ¬ (u_139 = 0 ∨ u_139 = 1) then none else some (u_139, v_t_130)))) else (if (v_t.1 5) = 3 then (if x1 = 44 then f_X7_go_b155  v_t_17 x1 0  else f_X7_go_b155  v_t_17 x1 4 ) else (if (v_t.1 5) = 4 then hlet ((oF v_t_17 4 (x1 - 48)) : obV) (fun v_t_202 => Option.bind (f_X7_in (Int32.toInt64 (x1 - 48)) (0 : Int64) (9 : Int64)) (fun u_211 => if ¬ (u_211 = 0 ∨ u_211 = 1) then none else some (u_211, v_t_202))) else some (0, v_t_17)))))))
def f_X7_faultOf_b12  (v_t : obV) (x1 : Int32)  (k12 : obV × Int32 → Option (Int32 × obV)) : Option (Int32 × obV) :=
  (if (v_t.1 1) ≤ x1 then some (x1, v_t) else if x1 < 0 ∨ 24 ≤ Int32.toNatClampNeg x1 then none else Option.bind (f_X7_go v_t ((v_t.2 0) (Int32.toNatClampNeg x1))) (fun u_27 => (if u_27.1 = 0 then some (x1, u_27.2) else k12 (u_27.2, (x1 + 1)))))
def f_X7_faultOf_l12    (n : Nat) : obV × Int32 → Option (Int32 × obV) :=
  lp (fun k y => f_X7_faultOf_b12  y.1 y.2  k) n
def f_X7_faultOf  (v_t : obV)  : Option (Int32 × obV) :=
  hlet ((oF v_t 3 0) : obV) (fun v_t_2 => hlet ((oF v_t_2 5 0) : obV) (fun v_t_7 => f_X7_faultOf_l12    fu (v_t_7, 0)))
def f_X7_fault  (v_t : obV)  : Option (Int32 × obV) :=
  Option.bind (f_X7_faultOf v_t) (fun u_1 => some (u_1.1, u_1.2))
def f_X7_cave  (v_t : obV)  : Option (Int32 × obV) :=
  Option.bind (f_X7_faultOf v_t) (fun u_1 => (if u_1.1 < (u_1.2.1 1) then some ((-103), u_1.2) else (if (u_1.2.1 5) = 5 then hlet ((oF u_1.2 6 (u_1.2.1 3)) : obV) (fun v_t_27 => Option.bind (f_X7_copy 15 15 (v_t_27.2 2) (v_t_27.2 10)) (fun u_38 => hlet ((oF (oC v_t_27 10 u_38) 7 (v_t_27.1 4)) : obV) (fun v_t_46 => hlet ((oF v_t_46 8 0) : obV) (fun v_t_51 => hlet ((oF v_t_51 18 0) : obV) (fun v_t_56 => hlet ((oF v_t_56 9 ((v_t_56.1 9) + 1)) : obV) (fun v_t_66 => hlet ((oF v_t_66 1 0) : obV) (fun v_t_71 => some ((v_t_71.1 6), v_t_71)))))))) else some ((-103), u_1.2))))
def f_X7_lacks  (v_t : obV)  : Option (Int32) :=
  (if (v_t.1 6) = 0 then some 1 else some 0)
def f_X7_isPilgrim  (v_t : obV) (x1 : Int32) : Option (Int32) :=
  Option.bind (f_X7_in (Int32.toInt64 x1) (0 : Int64) (Int32.toInt64 ((v_t.1 6) - 1))) (fun u_10 => if ¬ (u_10 = 0 ∨ u_10 = 1) then none else some u_10)
def f_X7_staysOf  (v_t : obV) (x1 : Int32) : Option (Int32) :=
  if (3 * x1) < 0 ∨ 15 ≤ Int32.toNatClampNeg (3 * x1) then none else (if ((v_t.2 10) (Int32.toNatClampNeg (3 * x1))) = 1 then some 2 else if (3 * x1) < 0 ∨ 15 ≤ Int32.toNatClampNeg (3 * x1) then none else (if ((v_t.2 10) (Int32.toNatClampNeg (3 * x1))) = 4 then some 2 else some 1))
def f_X7_wearsOf  (v_t : obV) (x1 : Int32) : Option (Int32) :=
  if (3 * x1) < 0 ∨ 15 ≤ Int32.toNatClampNeg (3 * x1) then none else (if ((v_t.2 10) (Int32.toNatClampNeg (3 * x1))) = 3 then some 3 else some 1)
def f_X7_isPeer  (v_t : obV) (x1 : Int32) : Option (Int32) :=
  if (3 * x1) < 0 ∨ 15 ≤ Int32.toNatClampNeg (3 * x1) then none else (if ((v_t.2 10) (Int32.toNatClampNeg (3 * x1))) = 2 then some 1 else if (3 * x1) < 0 ∨ 15 ≤ Int32.toNatClampNeg (3 * x1) then none else (if ((v_t.2 10) (Int32.toNatClampNeg (3 * x1))) = 4 then some 1 else some 0))
def f_X7_sayingFor_b31  (v_t : obV) (x4 : Int32) (s0 : Int32)  : Option (Int32) :=
  (if (((v_t.1 15) >>> (x4 &&& 31)) &&& 1) = 0 then some x4 else (if (((v_t.1 15) >>> (s0 &&& 31)) &&& 1) = 0 then some s0 else some (-1)))
def f_X7_sayingFor_b19  (v_t : obV) (x2 : Int32) (x3 : Int32) (s0 : Int32)  : Option (Int32) :=
  (if x3 ≤ x2 then f_X7_sayingFor_b31  v_t s0 x2  else f_X7_sayingFor_b31  v_t s0 x3 )
def f_X7_sayingFor  (v_t : obV) (x1 : Int32) : Option (Int32) :=
  (if ((x1 + 1) - (x1 + 1) / 6 * 6) ≤ x1 then f_X7_sayingFor_b19  v_t x1 ((x1 + 1) - (x1 + 1) / 6 * 6) ((x1 + 1) - (x1 + 1) / 6 * 6)  else f_X7_sayingFor_b19  v_t x1 ((x1 + 1) - (x1 + 1) / 6 * 6) x1 )
def f_X7_tellSaying  (v_t : obV) (x1 : Int32) : Option (obV) :=
  if ((3 * x1) + 1) < 0 ∨ 15 ≤ Int32.toNatClampNeg ((3 * x1) + 1) then none else Option.bind (f_X7_sayingFor v_t ((v_t.2 10) (Int32.toNatClampNeg ((3 * x1) + 1)))) (fun u_16 => if x1 < 0 ∨ 5 ≤ Int32.toNatClampNeg x1 then none else hlet ((oA v_t 12 (Int32.toNatClampNeg x1) u_16) : obV) (fun v_t_19 => if x1 < 0 ∨ 5 ≤ Int32.toNatClampNeg x1 then none else (if ((v_t_19.2 12) (Int32.toNatClampNeg x1)) = (-1) then hlet ((oF v_t_19 15 ((v_t_19.1 15) ||| 0)) : obV) (fun v_t_48 => some v_t_48) else if x1 < 0 ∨ 5 ≤ Int32.toNatClampNeg x1 then none else hlet ((oF v_t_19 15 ((v_t_19.1 15) ||| (1 <<< (((v_t_19.2 12) (Int32.toNatClampNeg x1)) &&& 31)))) : obV) (fun v_t_48 => some v_t_48))))
def f_X7_isAhead  (v_t : obV) (x1 : Int32) (x2 : Int32) : Option (Int32) :=
  Option.bind (f_X7_isPeer v_t x1) (fun u_2 => Option.bind (f_X7_isPeer v_t x2) (fun u_7 => (if u_2 = u_7 then if ((3 * x1) + 2) < 0 ∨ 15 ≤ Int32.toNatClampNeg ((3 * x1) + 2) then none else if ((3 * x2) + 2) < 0 ∨ 15 ≤ Int32.toNatClampNeg ((3 * x2) + 2) then none else (if ((v_t.2 10) (Int32.toNatClampNeg ((3 * x1) + 2))) = ((v_t.2 10) (Int32.toNatClampNeg ((3 * x2) + 2))) then (if x2 ≤ x1 then some 0 else some 1) else if ((3 * x1) + 2) < 0 ∨ 15 ≤ Int32.toNatClampNeg ((3 * x1) + 2) then none else if ((3 * x2) + 2) < 0 ∨ 15 ≤ Int32.toNatClampNeg ((3 * x2) + 2) then none else (if ((v_t.2 10) (Int32.toNatClampNeg ((3 * x2) + 2))) ≤ ((v_t.2 10) (Int32.toNatClampNeg ((3 * x1) + 2))) then some 0 else some 1)) else Option.bind (f_X7_isPeer v_t x1) (fun u_15 => if ¬ (u_15 = 0 ∨ u_15 = 1) then none else some u_15))))
def f_X7_nextAt_b41  (v_t : obV) (x1 : Int32) (x2 : Int32) (x3 : Int32) (s0 : Int32) (k4 : Int32 × Int32 → Option (Int32)) : Option (Int32) :=
  (if s0 = 0 then k4 (x2, (x3 + 1)) else (if x2 = (-1) then k4 (x3, (x3 + 1)) else Option.bind (f_X7_isAhead v_t x3 x2) (fun u_56 => (if u_56 = 0 then k4 (x2, (x3 + 1)) else k4 (x3, (x3 + 1))))))
def f_X7_nextAt_b4  (v_t : obV) (x1 : Int32) (x2 : Int32) (x3 : Int32)  (k4 : Int32 × Int32 → Option (Int32)) : Option (Int32) :=
  (if (v_t.1 6) ≤ x3 then some x2 else if x3 < 0 ∨ 5 ≤ Int32.toNatClampNeg x3 then none else (if ((v_t.2 11) (Int32.toNatClampNeg x3)) = (-1) then if ((3 * x3) + 2) < 0 ∨ 15 ≤ Int32.toNatClampNeg ((3 * x3) + 2) then none else (if x1 < ((v_t.2 10) (Int32.toNatClampNeg ((3 * x3) + 2))) then f_X7_nextAt_b41  v_t x1 x2 x3 0 k4 else f_X7_nextAt_b41  v_t x1 x2 x3 1 k4) else f_X7_nextAt_b41  v_t x1 x2 x3 0 k4))
def f_X7_nextAt_l4  (v_t : obV) (x1 : Int32)  (n : Nat) : Int32 × Int32 → Option (Int32) :=
  lp (fun k y => f_X7_nextAt_b4  v_t x1 y.1 y.2  k) n
def f_X7_nextAt  (v_t : obV) (x1 : Int32) : Option (Int32) :=
  f_X7_nextAt_l4  v_t x1  fu ((-1), 0)
def f_X7_layDay_b103  (v_t : obV) (x1 : Int32) (x2 : Int32) (x3 : Int32) (k49 : obV × Int32 × Int32 → Option (obV)) : Option (obV) :=
  (if x3 = (-1) then k49 (v_t, x1, (x2 + 1)) else if x3 < 0 ∨ 5 ≤ Int32.toNatClampNeg x3 then none else hlet ((oA v_t 11 (Int32.toNatClampNeg x3) x2) : obV) (fun v_t_114 => Option.bind (f_X7_wearsOf v_t_114 x3) (fun u_122 => hlet ((oF v_t_114 13 ((v_t_114.1 13) - u_122)) : obV) (fun v_t_126 => Option.bind (f_X7_staysOf v_t_126 x3) (fun u_132 => Option.bind (f_X7_tellSaying v_t_126 x3) (fun u_139 => k49 (u_139, (x2 + u_132), (x2 + 1))))))))
def f_X7_layDay_b77  (v_t : obV) (x1 : Int32) (x2 : Int32) (s0 : Int32) (k49 : obV × Int32 × Int32 → Option (obV)) : Option (obV) :=
  (if s0 = (-1) then f_X7_layDay_b103  v_t x1 x2 s0 k49 else Option.bind (f_X7_wearsOf v_t s0) (fun u_89 => (if u_89 ≤ (v_t.1 13) then f_X7_layDay_b103  v_t x1 x2 s0 k49 else hlet ((oF v_t 14 x2) : obV) (fun v_t_97 => k49 (v_t_97, x1, (x2 + 1))))))
def f_X7_layDay_b49  (v_t : obV) (x1 : Int32) (x2 : Int32)  (k49 : obV × Int32 × Int32 → Option (obV)) : Option (obV) :=
  (if (20 : Int32) ≤ x2 then some v_t else (if (v_t.1 14) = (-1) then (if x1 ≤ x2 then Option.bind (f_X7_nextAt v_t x2) (fun u_74 => f_X7_layDay_b77  v_t x1 x2 u_74 k49) else f_X7_layDay_b77  v_t x1 x2 (-1) k49) else some v_t))
def f_X7_layDay_l49    (n : Nat) : obV × Int32 × Int32 → Option (obV) :=
  lp (fun k y => f_X7_layDay_b49  y.1 y.2.1 y.2.2  k) n
def f_X7_layDay_b2  (v_t : obV) (x1 : Int32)  (k2 : obV × Int32 → Option (obV)) : Option (obV) :=
  (if (5 : Int32) ≤ x1 then hlet ((oF v_t 13 (v_t.1 7)) : obV) (fun v_t_32 => hlet ((oF v_t_32 14 (-1)) : obV) (fun v_t_37 => hlet ((oF v_t_37 15 0) : obV) (fun v_t_42 => f_X7_layDay_l49    fu (v_t_42, 0, 0)))) else if x1 < 0 ∨ 5 ≤ Int32.toNatClampNeg x1 then none else hlet ((oA v_t 11 (Int32.toNatClampNeg x1) (-1)) : obV) (fun v_t_13 => if x1 < 0 ∨ 5 ≤ Int32.toNatClampNeg x1 then none else hlet ((oA v_t_13 12 (Int32.toNatClampNeg x1) (-1)) : obV) (fun v_t_20 => k2 (v_t_20, (x1 + 1)))))
def f_X7_layDay_l2    (n : Nat) : obV × Int32 → Option (obV) :=
  lp (fun k y => f_X7_layDay_b2  y.1 y.2  k) n
def f_X7_layDay  (v_t : obV)  : Option (obV) :=
  f_X7_layDay_l2    fu (v_t, 0)
def f_X7_waitsAt  (v_t : obV) (x1 : Int32) (x2 : Int32) : Option (Int32) :=
  if ((3 * x1) + 2) < 0 ∨ 15 ≤ Int32.toNatClampNeg ((3 * x1) + 2) then none else (if x2 < ((v_t.2 10) (Int32.toNatClampNeg ((3 * x1) + 2))) then some 0 else if x1 < 0 ∨ 5 ≤ Int32.toNatClampNeg x1 then none else (if ((v_t.2 11) (Int32.toNatClampNeg x1)) = (-1) then some 1 else if x1 < 0 ∨ 5 ≤ Int32.toNatClampNeg x1 then none else (if ((v_t.2 11) (Int32.toNatClampNeg x1)) ≤ x2 then some 0 else some 1)))
def f_X7_waitingAt_b27  (v_t : obV) (x1 : Int32) (x3 : Int32) (s0 : Int32) (s1 : Int32) (k4 : Int32 × Int32 → Option (Int32)) : Option (Int32) :=
  k4 ((s0 + s1), (x3 + 1))
def f_X7_waitingAt_b4  (v_t : obV) (x1 : Int32) (x2 : Int32) (x3 : Int32)  (k4 : Int32 × Int32 → Option (Int32)) : Option (Int32) :=
  (if (v_t.1 6) ≤ x3 then some x2 else Option.bind (f_X7_waitsAt v_t x3 x1) (fun u_16 => (if u_16 = 0 then f_X7_waitingAt_b27  v_t x1 x3 x2 0 k4 else f_X7_waitingAt_b27  v_t x1 x3 x2 1 k4)))
def f_X7_waitingAt_l4  (v_t : obV) (x1 : Int32)  (n : Nat) : Int32 × Int32 → Option (Int32) :=
  lp (fun k y => f_X7_waitingAt_b4  v_t x1 y.1 y.2  k) n
def f_X7_waitingAt  (v_t : obV) (x1 : Int32) : Option (Int32) :=
  f_X7_waitingAt_l4  v_t x1  fu (0, 0)
def f_X7_waitsOf_b25  (v_t : obV) (x1 : Int32) (x3 : Int32) (s0 : Int32) (s1 : Int32) (k4 : Int32 × Int32 → Option (Int32)) : Option (Int32) :=
  k4 ((s0 + s1), (x3 + 1))
def f_X7_waitsOf_b4  (v_t : obV) (x1 : Int32) (x2 : Int32) (x3 : Int32)  (k4 : Int32 × Int32 → Option (Int32)) : Option (Int32) :=
  (if (20 : Int32) ≤ x3 then some x2 else Option.bind (f_X7_waitsAt v_t x1 x3) (fun u_14 => (if u_14 = 0 then f_X7_waitsOf_b25  v_t x1 x3 x2 0 k4 else f_X7_waitsOf_b25  v_t x1 x3 x2 1 k4)))
def f_X7_waitsOf_l4  (v_t : obV) (x1 : Int32)  (n : Nat) : Int32 × Int32 → Option (Int32) :=
  lp (fun k y => f_X7_waitsOf_b4  v_t x1 y.1 y.2  k) n
def f_X7_waitsOf  (v_t : obV) (x1 : Int32) : Option (Int32) :=
  f_X7_waitsOf_l4  v_t x1  fu (0, 0)
def f_X7_meetings_b4  (v_t : obV) (x1 : Int32) (x2 : Int32)  (k4 : Int32 × Int32 → Option (Int32)) : Option (Int32) :=
  (if (20 : Int32) ≤ x2 then some x1 else Option.bind (f_X7_waitingAt v_t x2) (fun u_13 => Option.bind (f_X7_waitingAt v_t x2) (fun u_18 => k4 ((x1 + ((u_13 * (u_18 - 1)) / 2)), (x2 + 1)))))
def f_X7_meetings_l4  (v_t : obV)  (n : Nat) : Int32 × Int32 → Option (Int32) :=
  lp (fun k y => f_X7_meetings_b4  v_t y.1 y.2  k) n
def f_X7_meetings  (v_t : obV)  : Option (Int32) :=
  f_X7_meetings_l4  v_t  fu (0, 0)
def f_X7_receivedMany_b28  (v_t : obV) (x2 : Int32) (s0 : Int32) (s1 : Int32) (k4 : Int32 × Int32 → Option (Int32)) : Option (Int32) :=
  k4 ((s0 + s1), (x2 + 1))
def f_X7_receivedMany_b4  (v_t : obV) (x1 : Int32) (x2 : Int32)  (k4 : Int32 × Int32 → Option (Int32)) : Option (Int32) :=
  (if (v_t.1 6) ≤ x2 then some x1 else if x2 < 0 ∨ 5 ≤ Int32.toNatClampNeg x2 then none else (if ((v_t.2 11) (Int32.toNatClampNeg x2)) = (-1) then f_X7_receivedMany_b28  v_t x2 x1 0 k4 else f_X7_receivedMany_b28  v_t x2 x1 1 k4))
def f_X7_receivedMany_l4  (v_t : obV)  (n : Nat) : Int32 × Int32 → Option (Int32) :=
  lp (fun k y => f_X7_receivedMany_b4  v_t y.1 y.2  k) n
def f_X7_receivedMany  (v_t : obV)  : Option (Int32) :=
  f_X7_receivedMany_l4  v_t  fu (0, 0)
def f_X7_helpedMany_b28  (v_t : obV) (x2 : Int32) (s0 : Int32) (s1 : Int32) (k4 : Int32 × Int32 → Option (Int32)) : Option (Int32) :=
  k4 ((s0 + s1), (x2 + 1))
def f_X7_helpedMany_b4  (v_t : obV) (x1 : Int32) (x2 : Int32)  (k4 : Int32 × Int32 → Option (Int32)) : Option (Int32) :=
  (if (v_t.1 6) ≤ x2 then some x1 else if x2 < 0 ∨ 5 ≤ Int32.toNatClampNeg x2 then none else (if ((v_t.2 12) (Int32.toNatClampNeg x2)) = (-1) then f_X7_helpedMany_b28  v_t x2 x1 0 k4 else f_X7_helpedMany_b28  v_t x2 x1 1 k4))
def f_X7_helpedMany_l4  (v_t : obV)  (n : Nat) : Int32 × Int32 → Option (Int32) :=
  lp (fun k y => f_X7_helpedMany_b4  v_t y.1 y.2  k) n
def f_X7_helpedMany  (v_t : obV)  : Option (Int32) :=
  f_X7_helpedMany_l4  v_t  fu (0, 0)
def f_X7_whenOf_b113  (v_t : obV) (x1 : Int32) (x2 : Int32) (x4 : Int32) (s0 : Int32) (s1 : Int32) (k16 : obV × Int32 × Int32 → Option (Int32 × obV)) : Option (Int32 × obV) :=
  k16 (v_t, (s0 ||| s1), (x4 + 1))
def f_X7_whenOf_b45  (v_t : obV) (x1 : Int32) (x2 : Int32) (x3 : Int32) (x4 : Int32) (x5 : Int32) (x6 : Int32) (k16 : obV × Int32 × Int32 → Option (Int32 × obV)) (k45 : Int32 × Int32 → Option (Int32 × obV)) : Option (Int32 × obV) :=
  (if (v_t.1 18) ≤ x6 then (if x5 = 0 then f_X7_whenOf_b113  v_t x1 x2 x4 x3 0 k16 else f_X7_whenOf_b113  v_t x1 x2 x4 x3 (1 <<< (x4 &&& 31)) k16) else (if x5 = 0 then k45 (0, (x6 + 1)) else if (2 * x6) < 0 ∨ 16 ≤ Int32.toNatClampNeg (2 * x6) then none else Option.bind (f_X7_waitingAt v_t ((v_t.2 19) (Int32.toNatClampNeg (2 * x6)))) (fun u_69 => if ((2 * x6) + 1) < 0 ∨ 16 ≤ Int32.toNatClampNeg ((2 * x6) + 1) then none else (if u_69 = ((v_t.2 19) (Int32.toNatClampNeg ((2 * x6) + 1))) then k45 (1, (x6 + 1)) else k45 (0, (x6 + 1))))))
def f_X7_whenOf_l45  (v_t : obV) (x1 : Int32) (x2 : Int32) (x3 : Int32) (x4 : Int32) (k16 : obV × Int32 × Int32 → Option (Int32 × obV)) (n : Nat) : Int32 × Int32 → Option (Int32 × obV) :=
  lp (fun k y => f_X7_whenOf_b45  v_t x1 x2 x3 x4 y.1 y.2 k16 k) n
def f_X7_whenOf_b16  (v_t : obV) (x1 : Int32) (x2 : Int32) (x3 : Int32) (x4 : Int32)  (k16 : obV × Int32 × Int32 → Option (Int32 × obV)) : Option (Int32 × obV) :=
  (if (10 : Int32) ≤ x4 then if ((3 * x1) + 2) < 0 ∨ 15 ≤ Int32.toNatClampNeg ((3 * x1) + 2) then none else hlet ((oA v_t 10 (Int32.toNatClampNeg ((3 * x1) + 2)) x2) : obV) (fun v_t_131 => some (x3, v_t_131)) else if ((3 * x1) + 2) < 0 ∨ 15 ≤ Int32.toNatClampNeg ((3 * x1) + 2) then none else hlet ((oA v_t 10 (Int32.toNatClampNeg ((3 * x1) + 2)) x4) : obV) (fun v_t_34 => Option.bind (f_X7_layDay v_t_34) (fun u_36 => f_X7_whenOf_l45  u_36 x1 x2 x3 x4 k16 fu (1, 0))))
def f_X7_whenOf_l16  (x1 : Int32) (x2 : Int32)  (n : Nat) : obV × Int32 × Int32 → Option (Int32 × obV) :=
  lp (fun k y => f_X7_whenOf_b16  y.1 x1 x2 y.2.1 y.2.2  k) n
def f_X7_whenOf  (v_t : obV) (x1 : Int32) : Option (Int32 × obV) :=
  if ((3 * x1) + 2) < 0 ∨ 15 ≤ Int32.toNatClampNeg ((3 * x1) + 2) then none else f_X7_whenOf_l16  x1 ((v_t.2 10) (Int32.toNatClampNeg ((3 * x1) + 2)))  fu (v_t, 0, 0)
def f_X7_lookOf_b218  (v_t : obV) (x2 : Int32) (x5 : Int32) (x6 : Int32) (x7 : Int32) (s0 : Int32) (k136 : Int32 × Int32 × Int32 → Option (Int32 × obV)) : Option (Int32 × obV) :=
  (if x5 ≤ x7 then k136 (s0, x5, (x6 + 1)) else k136 (s0, x7, (x6 + 1)))
def f_X7_lookOf_b153  (v_t : obV) (x2 : Int32) (x4 : Int32) (x5 : Int32) (x6 : Int32) (x7 : Int32) (x8 : Int32) (k136 : Int32 × Int32 × Int32 → Option (Int32 × obV)) (k153 : Int32 × Int32 → Option (Int32 × obV)) : Option (Int32 × obV) :=
  (if (6 : Int32) ≤ x8 then (if x5 ≤ x7 then f_X7_lookOf_b218  v_t x2 x5 x6 x7 x4 k136 else f_X7_lookOf_b218  v_t x2 x5 x6 x7 x6 k136) else if ((6 * x6) + x8) < 0 ∨ 120 ≤ Int32.toNatClampNeg ((6 * x6) + x8) then none else (if ((v_t.2 20) (Int32.toNatClampNeg ((6 * x6) + x8))) ≤ x7 then k153 (x7, (x8 + 1)) else if ((6 * x6) + x8) < 0 ∨ 120 ≤ Int32.toNatClampNeg ((6 * x6) + x8) then none else k153 (((v_t.2 20) (Int32.toNatClampNeg ((6 * x6) + x8))), (x8 + 1))))
def f_X7_lookOf_l153  (v_t : obV) (x2 : Int32) (x4 : Int32) (x5 : Int32) (x6 : Int32) (k136 : Int32 × Int32 × Int32 → Option (Int32 × obV)) (n : Nat) : Int32 × Int32 → Option (Int32 × obV) :=
  lp (fun k y => f_X7_lookOf_b153  v_t x2 x4 x5 x6 y.1 y.2 k136 k) n
def f_X7_lookOf_b136  (v_t : obV) (x2 : Int32) (x4 : Int32) (x5 : Int32) (x6 : Int32)  (k136 : Int32 × Int32 × Int32 → Option (Int32 × obV)) : Option (Int32 × obV) :=
  (if (20 : Int32) ≤ x6 then some (x4, v_t) else (if x2 = 0 then some (x4, v_t) else f_X7_lookOf_l153  v_t x2 x4 x5 x6 k136 fu (0, 0)))
def f_X7_lookOf_l136  (v_t : obV) (x2 : Int32)  (n : Nat) : Int32 × Int32 × Int32 → Option (Int32 × obV) :=
  lp (fun k y => f_X7_lookOf_b136  v_t x2 y.1 y.2.1 y.2.2  k) n
def f_X7_lookOf_b70  (v_t : obV) (x1 : Int32) (x2 : Int32) (x3 : Int32) (x4 : Int32) (x5 : Int32) (k44 : obV × Int32 → Option (Int32 × obV)) (k70 : obV × Int32 → Option (Int32 × obV)) : Option (Int32 × obV) :=
  (if (20 : Int32) ≤ x5 then k44 (v_t, (x4 + 1)) else Option.bind (f_X7_waitingAt v_t x5) (fun u_89 => if ((6 * x5) + u_89) < 0 ∨ 120 ≤ Int32.toNatClampNeg ((6 * x5) + u_89) then none else if ((6 * x5) + u_89) < 0 ∨ 120 ≤ Int32.toNatClampNeg ((6 * x5) + u_89) then none else hlet ((oA v_t 20 (Int32.toNatClampNeg ((6 * x5) + u_89)) (((v_t.2 20) (Int32.toNatClampNeg ((6 * x5) + u_89))) + ((x2 >>> (x4 &&& 31)) &&& 1))) : obV) (fun v_t_102 => k70 (v_t_102, (x5 + 1)))))
def f_X7_lookOf_l70  (x1 : Int32) (x2 : Int32) (x3 : Int32) (x4 : Int32) (k44 : obV × Int32 → Option (Int32 × obV)) (n : Nat) : obV × Int32 → Option (Int32 × obV) :=
  lp (fun k y => f_X7_lookOf_b70  y.1 x1 x2 x3 x4 y.2 k44 k) n
def f_X7_lookOf_b44  (v_t : obV) (x1 : Int32) (x2 : Int32) (x3 : Int32) (x4 : Int32)  (k44 : obV × Int32 → Option (Int32 × obV)) : Option (Int32 × obV) :=
  (if (10 : Int32) ≤ x4 then if ((3 * x1) + 2) < 0 ∨ 15 ≤ Int32.toNatClampNeg ((3 * x1) + 2) then none else hlet ((oA v_t 10 (Int32.toNatClampNeg ((3 * x1) + 2)) x3) : obV) (fun v_t_125 => f_X7_lookOf_l136  v_t_125 x2  fu ((-1), 11, 0)) else if ((3 * x1) + 2) < 0 ∨ 15 ≤ Int32.toNatClampNeg ((3 * x1) + 2) then none else hlet ((oA v_t 10 (Int32.toNatClampNeg ((3 * x1) + 2)) x4) : obV) (fun v_t_62 => Option.bind (f_X7_layDay v_t_62) (fun u_64 => f_X7_lookOf_l70  x1 x2 x3 x4 k44 fu (u_64, 0))))
def f_X7_lookOf_l44  (x1 : Int32) (x2 : Int32) (x3 : Int32)  (n : Nat) : obV × Int32 → Option (Int32 × obV) :=
  lp (fun k y => f_X7_lookOf_b44  y.1 x1 x2 x3 y.2  k) n
def f_X7_lookOf_b20  (v_t : obV) (x1 : Int32) (x2 : Int32) (x3 : Int32) (x4 : Int32)  (k20 : obV × Int32 → Option (Int32 × obV)) : Option (Int32 × obV) :=
  (if (120 : Int32) ≤ x4 then f_X7_lookOf_l44  x1 x2 x3  fu (v_t, 0) else if x4 < 0 ∨ 120 ≤ Int32.toNatClampNeg x4 then none else hlet ((oA v_t 20 (Int32.toNatClampNeg x4) 0) : obV) (fun v_t_34 => k20 (v_t_34, (x4 + 1))))
def f_X7_lookOf_l20  (x1 : Int32) (x2 : Int32) (x3 : Int32)  (n : Nat) : obV × Int32 → Option (Int32 × obV) :=
  lp (fun k y => f_X7_lookOf_b20  y.1 x1 x2 x3 y.2  k) n
def f_X7_lookOf  (v_t : obV) (x1 : Int32) : Option (Int32 × obV) :=
  Option.bind (f_X7_whenOf v_t x1) (fun u_2 => if ((3 * x1) + 2) < 0 ∨ 15 ≤ Int32.toNatClampNeg ((3 * x1) + 2) then none else f_X7_lookOf_l20  x1 u_2.1 ((u_2.2.2 10) (Int32.toNatClampNeg ((3 * x1) + 2)))  fu (u_2.2, 0))
def f_X7_tell  (v_t : obV) (x1 : Int32) (x2 : Int32) : Option (Int32 × obV) :=
  Option.bind (f_X7_layDay v_t) (fun u_1 => (if x2 = 0 then if ((3 * x1) + x2) < 0 ∨ 15 ≤ Int32.toNatClampNeg ((3 * x1) + x2) then none else some (((u_1.2 10) (Int32.toNatClampNeg ((3 * x1) + x2))), u_1) else (if x2 = 1 then if ((3 * x1) + x2) < 0 ∨ 15 ≤ Int32.toNatClampNeg ((3 * x1) + x2) then none else some (((u_1.2 10) (Int32.toNatClampNeg ((3 * x1) + x2))), u_1) else (if x2 = 2 then if ((3 * x1) + x2) < 0 ∨ 15 ≤ Int32.toNatClampNeg ((3 * x1) + x2) then none else some (((u_1.2 10) (Int32.toNatClampNeg ((3 * x1) + x2))), u_1) else (if x2 = 3 then Option.bind (f_X7_staysOf u_1 x1) (fun u_73 => some (u_73, u_1)) else (if x2 = 4 then Option.bind (f_X7_wearsOf u_1 x1) (fun u_79 => some (u_79, u_1)) else (if x2 = 5 then if x1 < 0 ∨ 5 ≤ Int32.toNatClampNeg x1 then none else some (((u_1.2 11) (Int32.toNatClampNeg x1)), u_1) else (if x2 = 6 then Option.bind (f_X7_waitsOf u_1 x1) (fun u_92 => some (u_92, u_1)) else (if x2 = 7 then if x1 < 0 ∨ 5 ≤ Int32.toNatClampNeg x1 then none else some (((u_1.2 12) (Int32.toNatClampNeg x1)), u_1) else (if x2 = 8 then Option.bind (f_X7_whenOf u_1 x1) (fun u_105 => some (u_105.1, u_105.2)) else (if x2 = 9 then Option.bind (f_X7_lookOf u_1 x1) (fun u_111 => some (u_111.1, u_111.2)) else some ((-102), u_1))))))))))))
def f_X7_pilgrim  (v_t : obV) (x1 : Int32) (x2 : Int32) : Option (Int32 × obV) :=
  Option.bind (f_X7_isPilgrim v_t x1) (fun u_2 => (if u_2 = 0 then some ((-101), v_t) else Option.bind (f_X7_tell v_t x1 x2) (fun u_11 => some (u_11.1, u_11.2))))
def f_X7_as_b59  (v_t : obV) (x1 : Int32) (s0 : Int32)  : Option (Int32) :=
  (if s0 = 0 then some (-1) else some x1)
def f_X7_as  (v_t : obV) (x1 : Int32) (x2 : Int32) : Option (Int32) :=
  Option.bind (f_X7_isPilgrim v_t x1) (fun u_2 => (if u_2 = 0 then some (-101) else Option.bind (f_X7_in (Int32.toInt64 x2) (0 : Int64) (4 : Int64)) (fun u_17 => (if u_17 = 0 then some (-102) else if (3 * x1) < 0 ∨ 15 ≤ Int32.toNatClampNeg (3 * x1) then none else (if x2 = 0 then f_X7_as_b59  v_t x1 1  else (if x2 = ((v_t.2 10) (Int32.toNatClampNeg (3 * x1))) then f_X7_as_b59  v_t x1 1  else (if x2 = 2 then (if ((v_t.2 10) (Int32.toNatClampNeg (3 * x1))) = 4 then f_X7_as_b59  v_t x1 1  else f_X7_as_b59  v_t x1 0 ) else f_X7_as_b59  v_t x1 0 )))))))
def f_X7_come  (v_t : obV) (x1 : Int32) (x2 : Int32) : Option (Int32 × obV) :=
  Option.bind (f_X7_isPilgrim v_t x1) (fun u_2 => (if u_2 = 0 then some ((-101), v_t) else Option.bind (f_X7_in (Int32.toInt64 x2) (0 : Int64) (9 : Int64)) (fun u_17 => (if u_17 = 0 then some ((-102), v_t) else if ((3 * x1) + 2) < 0 ∨ 15 ≤ Int32.toNatClampNeg ((3 * x1) + 2) then none else if ((3 * x1) + 2) < 0 ∨ 15 ≤ Int32.toNatClampNeg ((3 * x1) + 2) then none else hlet ((oA v_t 10 (Int32.toNatClampNeg ((3 * x1) + 2)) x2) : obV) (fun v_t_47 => hlet ((oF v_t_47 8 ((v_t_47.1 8) + 1)) : obV) (fun v_t_55 => some (((v_t.2 10) (Int32.toNatClampNeg ((3 * x1) + 2))), v_t_55)))))))
def f_X7_trouble  (v_t : obV) (x1 : Int32) (x2 : Int32) : Option (Int32 × obV) :=
  Option.bind (f_X7_isPilgrim v_t x1) (fun u_2 => (if u_2 = 0 then some ((-101), v_t) else Option.bind (f_X7_in (Int32.toInt64 x2) (0 : Int64) (5 : Int64)) (fun u_17 => (if u_17 = 0 then some ((-102), v_t) else if ((3 * x1) + 1) < 0 ∨ 15 ≤ Int32.toNatClampNeg ((3 * x1) + 1) then none else if ((3 * x1) + 1) < 0 ∨ 15 ≤ Int32.toNatClampNeg ((3 * x1) + 1) then none else hlet ((oA v_t 10 (Int32.toNatClampNeg ((3 * x1) + 1)) x2) : obV) (fun v_t_47 => hlet ((oF v_t_47 8 ((v_t_47.1 8) + 1)) : obV) (fun v_t_55 => some (((v_t.2 10) (Int32.toNatClampNeg ((3 * x1) + 1))), v_t_55)))))))
def f_X7_patience  (v_t : obV) (x1 : Int32) : Option (Int32 × obV) :=
  Option.bind (f_X7_in (Int32.toInt64 x1) (0 : Int64) (20 : Int64)) (fun u_6 => (if u_6 = 0 then some ((-102), v_t) else Option.bind (f_X7_lacks v_t) (fun u_16 => (if u_16 = 0 then hlet ((oF v_t 7 x1) : obV) (fun v_t_32 => hlet ((oF v_t_32 8 ((v_t_32.1 8) + 1)) : obV) (fun v_t_42 => some ((v_t.1 7), v_t_42))) else some ((-103), v_t)))))
def f_X7_dayOf  (v_t : obV) (x1 : Int32) : Option (Int32 × obV) :=
  Option.bind (f_X7_layDay v_t) (fun u_1 => (if x1 = 0 then Option.bind (f_X7_receivedMany u_1) (fun u_9 => some (u_9, u_1)) else (if x1 = 1 then Option.bind (f_X7_helpedMany u_1) (fun u_21 => some (u_21, u_1)) else (if x1 = 2 then Option.bind (f_X7_meetings u_1) (fun u_33 => some (u_33, u_1)) else (if x1 = 3 then some ((u_1.1 13), u_1) else some ((u_1.1 14), u_1))))))
def f_X7_day  (v_t : obV) (x1 : Int32) : Option (Int32 × obV) :=
  Option.bind (f_X7_in (Int32.toInt64 x1) (0 : Int64) (4 : Int64)) (fun u_6 => (if u_6 = 0 then some ((-102), v_t) else Option.bind (f_X7_lacks v_t) (fun u_16 => (if u_16 = 0 then Option.bind (f_X7_dayOf v_t x1) (fun u_29 => some (u_29.1, u_29.2)) else some ((-103), v_t)))))
def f_X7_waitingOf  (v_t : obV) (x1 : Int32) : Option (Int32 × obV) :=
  Option.bind (f_X7_layDay v_t) (fun u_1 => Option.bind (f_X7_waitingAt u_1 x1) (fun u_6 => some (u_6, u_1)))
def f_X7_waiting  (v_t : obV) (x1 : Int32) : Option (Int32 × obV) :=
  Option.bind (f_X7_in (Int32.toInt64 x1) (0 : Int64) (19 : Int64)) (fun u_6 => (if u_6 = 0 then some ((-102), v_t) else Option.bind (f_X7_lacks v_t) (fun u_16 => (if u_16 = 0 then Option.bind (f_X7_waitingOf v_t x1) (fun u_29 => some (u_29.1, u_29.2)) else some ((-103), v_t)))))
def f_X7_layOrder_b12  (v_t : obV) (x2 : Int32) (x3 : Int32) (x4 : Int32)  (k12 : obV × Int32 × Int32 × Int32 → Option (Int32 × obV)) : Option (Int32 × obV) :=
  (if x4 < 0 then (if x3 = ((1 <<< ((v_t.1 6) &&& 31)) - 1) then some (1, v_t) else some (0, v_t)) else if (v_t.1 6) = 0 then none else if x4 < 0 ∨ 5 ≤ Int32.toNatClampNeg x4 then none else hlet ((oA v_t 16 (Int32.toNatClampNeg x4) (x2 - x2 / (v_t.1 6) * (v_t.1 6))) : obV) (fun v_t_29 => if x4 < 0 ∨ 5 ≤ Int32.toNatClampNeg x4 then none else hlet ((x3 ||| (1 <<< (((v_t_29.2 16) (Int32.toNatClampNeg x4)) &&& 31))) : Int32) (fun z_41 => if (v_t_29.1 6) = 0 then none else k12 (v_t_29, (x2 / (v_t_29.1 6)), z_41, (x4 + (-1))))))
def f_X7_layOrder_l12    (n : Nat) : obV × Int32 × Int32 × Int32 → Option (Int32 × obV) :=
  lp (fun k y => f_X7_layOrder_b12  y.1 y.2.1 y.2.2.1 y.2.2.2  k) n
def f_X7_layOrder  (v_t : obV) (x1 : Int32) : Option (Int32 × obV) :=
  f_X7_layOrder_l12    fu (v_t, x1, 0, ((v_t.1 6) - 1))
def f_X7_helpedBy_b50  (v_t : obV) (x1 : Int32) (x2 : Int32) (x4 : Int32) (s0 : Int32) (k17 : obV × Int32 × Int32 × Int32 × Int32 → Option (Int32 × obV)) : Option (Int32 × obV) :=
  (if s0 = 0 then if x4 < 0 ∨ 5 ≤ Int32.toNatClampNeg x4 then none else Option.bind (f_X7_wearsOf v_t ((v_t.2 16) (Int32.toNatClampNeg x4))) (fun u_64 => if x4 < 0 ∨ 5 ≤ Int32.toNatClampNeg x4 then none else Option.bind (f_X7_tellSaying v_t ((v_t.2 16) (Int32.toNatClampNeg x4))) (fun u_77 => if x4 < 0 ∨ 5 ≤ Int32.toNatClampNeg x4 then none else if ((u_77.2 16) (Int32.toNatClampNeg x4)) < 0 ∨ 5 ≤ Int32.toNatClampNeg ((u_77.2 16) (Int32.toNatClampNeg x4)) then none else (if ((u_77.2 12) (Int32.toNatClampNeg ((u_77.2 16) (Int32.toNatClampNeg x4)))) = (-1) then k17 (u_77, (x1 - u_64), (x2 + 0), s0, (x4 + 1)) else k17 (u_77, (x1 - u_64), (x2 + 1), s0, (x4 + 1))))) else k17 (v_t, x1, x2, s0, (x4 + 1)))
def f_X7_helpedBy_b17  (v_t : obV) (x1 : Int32) (x2 : Int32) (x3 : Int32) (x4 : Int32)  (k17 : obV × Int32 × Int32 × Int32 × Int32 → Option (Int32 × obV)) : Option (Int32 × obV) :=
  (if (v_t.1 6) ≤ x4 then some (x2, v_t) else (if x3 = 0 then if x4 < 0 ∨ 5 ≤ Int32.toNatClampNeg x4 then none else Option.bind (f_X7_wearsOf v_t ((v_t.2 16) (Int32.toNatClampNeg x4))) (fun u_39 => (if u_39 ≤ x1 then f_X7_helpedBy_b50  v_t x1 x2 x4 0 k17 else f_X7_helpedBy_b50  v_t x1 x2 x4 1 k17)) else f_X7_helpedBy_b50  v_t x1 x2 x4 1 k17))
def f_X7_helpedBy_l17    (n : Nat) : obV × Int32 × Int32 × Int32 × Int32 → Option (Int32 × obV) :=
  lp (fun k y => f_X7_helpedBy_b17  y.1 y.2.1 y.2.2.1 y.2.2.2.1 y.2.2.2.2  k) n
def f_X7_helpedBy  (v_t : obV)  : Option (Int32 × obV) :=
  hlet ((oF v_t 15 0) : obV) (fun v_t_2 => f_X7_helpedBy_l17    fu (v_t_2, (v_t_2.1 7), 0, 0, 0))
def f_X7_orderOf_b30  (v_t : obV) (x1 : Int32) (x2 : Int32) (x3 : Int32) (x4 : Int32)  (k30 : obV × Int32 × Int32 → Option (Int32 × obV)) : Option (Int32 × obV) :=
  (if x2 ≤ x4 then (if x1 = 0 then some (x3, v_t) else (if (v_t.1 6) ≤ (x1 - 10) then some ((-1), v_t) else if (x1 - 10) < 0 ∨ 5 ≤ Int32.toNatClampNeg (x1 - 10) then none else some (((v_t.2 17) (Int32.toNatClampNeg (x1 - 10))), v_t))) else Option.bind (f_X7_layOrder v_t x4) (fun u_39 => (if u_39.1 = 0 then k30 (u_39.2, x3, (x4 + 1)) else Option.bind (f_X7_helpedBy u_39.2) (fun u_46 => (if u_46.1 ≤ x3 then k30 (u_46.2, x3, (x4 + 1)) else Option.bind (f_X7_copy 5 5 (u_46.2.2 16) (u_46.2.2 17)) (fun u_68 => k30 ((oC u_46.2 17 u_68), u_46.1, (x4 + 1))))))))
def f_X7_orderOf_l30  (x1 : Int32) (x2 : Int32)  (n : Nat) : obV × Int32 × Int32 → Option (Int32 × obV) :=
  lp (fun k y => f_X7_orderOf_b30  y.1 x1 x2 y.2.1 y.2.2  k) n
def f_X7_orderOf_b4  (v_t : obV) (x1 : Int32) (x2 : Int32) (x3 : Int32)  (k4 : Int32 × Int32 → Option (Int32 × obV)) : Option (Int32 × obV) :=
  (if (v_t.1 6) ≤ x3 then f_X7_orderOf_l30  x1 x2  fu (v_t, (-1), 0) else k4 ((x2 * (v_t.1 6)), (x3 + 1)))
def f_X7_orderOf_l4  (v_t : obV) (x1 : Int32)  (n : Nat) : Int32 × Int32 → Option (Int32 × obV) :=
  lp (fun k y => f_X7_orderOf_b4  v_t x1 y.1 y.2  k) n
def f_X7_orderOf  (v_t : obV) (x1 : Int32) : Option (Int32 × obV) :=
  f_X7_orderOf_l4  v_t x1  fu (1, 0)
def f_X7_order_b21  (v_t : obV) (x1 : Int32)  : Option (Int32 × obV) :=
  Option.bind (f_X7_lacks v_t) (fun u_22 => (if u_22 = 0 then Option.bind (f_X7_orderOf v_t x1) (fun u_35 => some (u_35.1, u_35.2)) else some ((-103), v_t)))
def f_X7_order  (v_t : obV) (x1 : Int32) : Option (Int32 × obV) :=
  (if x1 = 0 then f_X7_order_b21  v_t x1  else Option.bind (f_X7_in (Int32.toInt64 x1) (10 : Int64) (14 : Int64)) (fun u_12 => (if u_12 = 0 then some ((-102), v_t) else f_X7_order_b21  v_t x1 )))
def f_X7_fitOf_b65  (v_t : obV) (x1 : Int32) (x2 : Int32) (x3 : Int32) (x5 : Int32) (x6 : Int32) (x7 : Int32) (s0 : Int32) (k22 : obV × Int32 × Int32 × Int32 → Option (Int32 × obV)) : Option (Int32 × obV) :=
  (if x5 ≤ x7 then k22 (v_t, s0, x5, (x6 + 1)) else k22 (v_t, s0, x7, (x6 + 1)))
def f_X7_fitOf_b22  (v_t : obV) (x1 : Int32) (x2 : Int32) (x3 : Int32) (x4 : Int32) (x5 : Int32) (x6 : Int32)  (k22 : obV × Int32 × Int32 × Int32 → Option (Int32 × obV)) : Option (Int32 × obV) :=
  (if (10 : Int32) ≤ x6 then if ((3 * x1) + 2) < 0 ∨ 15 ≤ Int32.toNatClampNeg ((3 * x1) + 2) then none else hlet ((oA v_t 10 (Int32.toNatClampNeg ((3 * x1) + 2)) x3) : obV) (fun v_t_99 => (if x2 = 0 then some (x4, v_t_99) else some (x5, v_t_99))) else if ((3 * x1) + 2) < 0 ∨ 15 ≤ Int32.toNatClampNeg ((3 * x1) + 2) then none else hlet ((oA v_t 10 (Int32.toNatClampNeg ((3 * x1) + 2)) x6) : obV) (fun v_t_40 => Option.bind (f_X7_layDay v_t_40) (fun u_42 => Option.bind (f_X7_meetings u_42) (fun u_46 => (if x5 ≤ u_46 then f_X7_fitOf_b65  u_42 x1 x2 x3 x5 x6 u_46 x4 k22 else f_X7_fitOf_b65  u_42 x1 x2 x3 x5 x6 u_46 x6 k22)))))
def f_X7_fitOf_l22  (x1 : Int32) (x2 : Int32) (x3 : Int32)  (n : Nat) : obV × Int32 × Int32 × Int32 → Option (Int32 × obV) :=
  lp (fun k y => f_X7_fitOf_b22  y.1 x1 x2 x3 y.2.1 y.2.2.1 y.2.2.2  k) n
def f_X7_fitOf  (v_t : obV) (x1 : Int32) (x2 : Int32) : Option (Int32 × obV) :=
  if ((3 * x1) + 2) < 0 ∨ 15 ≤ Int32.toNatClampNeg ((3 * x1) + 2) then none else f_X7_fitOf_l22  x1 x2 ((v_t.2 10) (Int32.toNatClampNeg ((3 * x1) + 2)))  fu (v_t, (-1), 9999, 0)
def f_X7_fit  (v_t : obV) (x1 : Int32) (x2 : Int32) : Option (Int32 × obV) :=
  Option.bind (f_X7_isPilgrim v_t x1) (fun u_2 => (if u_2 = 0 then some ((-101), v_t) else Option.bind (f_X7_in (Int32.toInt64 x2) (0 : Int64) (1 : Int64)) (fun u_15 => (if u_15 = 0 then some ((-102), v_t) else Option.bind (f_X7_fitOf v_t x1 x2) (fun u_24 => some (u_24.1, u_24.2))))))
def f_X7_see  (v_t : obV) (x1 : Int32) (x2 : Int32) : Option (Int32 × obV) :=
  Option.bind (f_X7_in (Int32.toInt64 x1) (0 : Int64) (19 : Int64)) (fun u_6 => (if u_6 = 0 then some ((-102), v_t) else Option.bind (f_X7_in (Int32.toInt64 x2) (0 : Int64) (5 : Int64)) (fun u_18 => (if u_18 = 0 then some ((-102), v_t) else (if (v_t.1 18) = 8 then some ((-104), v_t) else if (2 * (v_t.1 18)) < 0 ∨ 16 ≤ Int32.toNatClampNeg (2 * (v_t.1 18)) then none else hlet ((oA v_t 19 (Int32.toNatClampNeg (2 * (v_t.1 18))) x1) : obV) (fun v_t_50 => if ((2 * (v_t_50.1 18)) + 1) < 0 ∨ 16 ≤ Int32.toNatClampNeg ((2 * (v_t_50.1 18)) + 1) then none else hlet ((oA v_t_50 19 (Int32.toNatClampNeg ((2 * (v_t_50.1 18)) + 1)) x2) : obV) (fun v_t_64 => hlet ((oF v_t_64 18 ((v_t_64.1 18) + 1)) : obV) (fun v_t_72 => some ((v_t_72.1 18), v_t_72)))))))))
def f_X7_forget  (v_t : obV)  : Option (Int32 × obV) :=
  hlet ((oF v_t 18 0) : obV) (fun v_t_7 => some ((v_t.1 18), v_t_7))
def f_X7_draw  (v_t : obV) (x1 : Int32) : Option (Int32 × obV) :=
  hlet ((oF v_t 21 (Int64.toInt32 (((1103515245 * (Int32.toInt64 (v_t.1 21))) + 12345) &&& 2147483647))) : obV) (fun v_t_19 => if x1 = 0 then none else some ((((v_t_19.1 21) / 65536) - ((v_t_19.1 21) / 65536) / x1 * x1), v_t_19))
def f_X7_seasons_b75  (v_t : obV) (x1 : Int32) (x3 : Int32) (x4 : Int32) (x5 : Int32) (x6 : Int32) (x7 : Int32) (k66 : obV × Int32 × Int32 × Int32 → Option (Int32 × obV)) (k75 : obV × Int32 → Option (Int32 × obV)) : Option (Int32 × obV) :=
  (if (v_t.1 6) ≤ x7 then Option.bind (f_X7_layDay v_t) (fun u_108 => Option.bind (f_X7_helpedMany u_108) (fun u_114 => Option.bind (f_X7_meetings u_108) (fun u_123 => k66 (u_108, (x4 + u_114), (x5 + u_123), (x6 + 1))))) else Option.bind (f_X7_draw v_t (10 : Int32)) (fun u_97 => if ((3 * x7) + 2) < 0 ∨ 15 ≤ Int32.toNatClampNeg ((3 * x7) + 2) then none else hlet ((oA u_97.2 10 (Int32.toNatClampNeg ((3 * x7) + 2)) u_97.1) : obV) (fun v_t_100 => k75 (v_t_100, (x7 + 1)))))
def f_X7_seasons_l75  (x1 : Int32) (x3 : Int32) (x4 : Int32) (x5 : Int32) (x6 : Int32) (k66 : obV × Int32 × Int32 × Int32 → Option (Int32 × obV)) (n : Nat) : obV × Int32 → Option (Int32 × obV) :=
  lp (fun k y => f_X7_seasons_b75  y.1 x1 x3 x4 x5 x6 y.2 k66 k) n
def f_X7_seasons_b66  (v_t : obV) (x1 : Int32) (x3 : Int32) (x4 : Int32) (x5 : Int32) (x6 : Int32)  (k66 : obV × Int32 × Int32 × Int32 → Option (Int32 × obV)) : Option (Int32 × obV) :=
  (if x1 ≤ x6 then Option.bind (f_X7_copy 15 15 (v_t.2 22) (v_t.2 10)) (fun u_143 => (if x3 = 0 then some (x4, (oC v_t 10 u_143)) else (if x3 = 1 then some (x5, (oC v_t 10 u_143)) else some ((v_t.1 21), (oC v_t 10 u_143))))) else f_X7_seasons_l75  x1 x3 x4 x5 x6 k66 fu (v_t, 0))
def f_X7_seasons_l66  (x1 : Int32) (x3 : Int32)  (n : Nat) : obV × Int32 × Int32 × Int32 → Option (Int32 × obV) :=
  lp (fun k y => f_X7_seasons_b66  y.1 x1 x3 y.2.1 y.2.2.1 y.2.2.2  k) n
def f_X7_seasons  (v_t : obV) (x1 : Int32) (x2 : Int32) (x3 : Int32) : Option (Int32 × obV) :=
  Option.bind (f_X7_in (Int32.toInt64 x1) (1 : Int64) (30 : Int64)) (fun u_6 => (if u_6 = 0 then some ((-102), v_t) else (if x2 < 0 then some ((-102), v_t) else Option.bind (f_X7_in (Int32.toInt64 x3) (0 : Int64) (2 : Int64)) (fun u_22 => (if u_22 = 0 then some ((-102), v_t) else Option.bind (f_X7_lacks v_t) (fun u_32 => (if u_32 = 0 then Option.bind (f_X7_copy 15 15 (v_t.2 10) (v_t.2 22)) (fun u_49 => hlet ((oF (oC v_t 22 u_49) 21 x2) : obV) (fun v_t_54 => f_X7_seasons_l66  x1 x3  fu (v_t_54, 0, 0, 0))) else some ((-103), v_t))))))))
def f_X7_image  (v_t : obV)  : Option (Int32 × obV) :=
  Option.bind (f_X7_lacks v_t) (fun u_1 => (if u_1 = 0 then Option.bind (f_X7_copy 15 15 (v_t.2 10) (v_t.2 27)) (fun u_18 => Option.bind (f_X7_copy 16 16 (v_t.2 19) (v_t.2 28)) (fun u_29 => hlet ((oF (oC (oC v_t 27 u_18) 28 u_29) 24 (v_t.1 7)) : obV) (fun v_t_37 => hlet ((oF v_t_37 25 (v_t_37.1 8)) : obV) (fun v_t_45 => hlet ((oF v_t_45 26 (v_t_45.1 18)) : obV) (fun v_t_53 => hlet ((oF v_t_53 23 (v_t_53.1 9)) : obV) (fun v_t_61 => some ((v_t_61.1 8), v_t_61))))))) else some ((-103), v_t)))
def f_X7_restore  (v_t : obV)  : Option (Int32 × obV) :=
  (if (v_t.1 23) = (v_t.1 9) then Option.bind (f_X7_copy 15 15 (v_t.2 27) (v_t.2 10)) (fun u_22 => Option.bind (f_X7_copy 16 16 (v_t.2 28) (v_t.2 19)) (fun u_33 => hlet ((oF (oC (oC v_t 10 u_22) 19 u_33) 7 (v_t.1 24)) : obV) (fun v_t_41 => hlet ((oF v_t_41 8 (v_t_41.1 25)) : obV) (fun v_t_49 => hlet ((oF v_t_49 18 (v_t_49.1 26)) : obV) (fun v_t_57 => some ((v_t_57.1 8), v_t_57)))))) else some ((-103), v_t))
def f_X7_staysAll_b4  (v_t : obV) (x1 : Int32) (x2 : Int32)  (k4 : Int32 × Int32 → Option (Int32)) : Option (Int32) :=
  (if (v_t.1 6) ≤ x2 then some x1 else Option.bind (f_X7_staysOf v_t x2) (fun u_15 => k4 ((x1 + u_15), (x2 + 1))))
def f_X7_staysAll_l4  (v_t : obV)  (n : Nat) : Int32 × Int32 → Option (Int32) :=
  lp (fun k y => f_X7_staysAll_b4  v_t y.1 y.2  k) n
def f_X7_staysAll  (v_t : obV)  : Option (Int32) :=
  f_X7_staysAll_l4  v_t  fu (0, 0)
def f_X7_unlike_b6  (v_t : obV) (x1 : Int32) (x2 : Int32) (x3 : Int32)  (k6 : Int32 × Int32 × Int32 → Option (Int32)) : Option (Int32) :=
  (if (v_t.1 6) ≤ x3 then some x2 else if ((3 * x3) + 1) < 0 ∨ 15 ≤ Int32.toNatClampNeg ((3 * x3) + 1) then none else hlet ((x2 + (1 - ((x1 >>> (((v_t.2 10) (Int32.toNatClampNeg ((3 * x3) + 1))) &&& 31)) &&& 1))) : Int32) (fun z_32 => if ((3 * x3) + 1) < 0 ∨ 15 ≤ Int32.toNatClampNeg ((3 * x3) + 1) then none else hlet ((x1 ||| (1 <<< (((v_t.2 10) (Int32.toNatClampNeg ((3 * x3) + 1))) &&& 31))) : Int32) (fun z_47 => k6 (z_47, z_32, (x3 + 1)))))
def f_X7_unlike_l6  (v_t : obV)  (n : Nat) : Int32 × Int32 × Int32 → Option (Int32) :=
  lp (fun k y => f_X7_unlike_b6  v_t y.1 y.2.1 y.2.2  k) n
def f_X7_unlike  (v_t : obV)  : Option (Int32) :=
  f_X7_unlike_l6  v_t  fu (0, 0, 0)
def f_X7_countOf  (v_t : obV) (x1 : Int32) : Option (Int32) :=
  (if x1 = 0 then some (v_t.1 6) else (if x1 = 1 then some (v_t.1 7) else (if x1 = 2 then Option.bind (f_X7_staysAll v_t) (fun u_59 => some u_59) else (if x1 = 3 then Option.bind (f_X7_unlike v_t) (fun u_64 => some u_64) else (if x1 = 4 then some (v_t.1 8) else (if x1 = 5 then some (v_t.1 18) else (if x1 = 6 then some (v_t.1 1) else (if x1 = 7 then some (v_t.1 9) else some (-102)))))))))
def f_X7_count  (v_t : obV) (x1 : Int32) : Option (Int32) :=
  Option.bind (f_X7_countOf v_t x1) (fun u_2 => some u_2)
def f_X7_say  (h_t : Int64) (x1 : Int64) : Option (Int64) :=
  some ((31 * h_t) + x1)
def f_X7_sayPilgrim_b2  (v_t : obV) (h_t : Int64) (x1 : Int32) (x2 : Int32)  (k2 : obV × Int64 × Int32 → Option (obV × Int64)) : Option (obV × Int64) :=
  (if (10 : Int32) ≤ x2 then Option.bind (f_X7_fitOf v_t x1 (0 : Int32)) (fun u_29 => Option.bind (f_X7_say h_t (Int32.toInt64 u_29.1)) (fun u_33 => Option.bind (f_X7_fitOf u_29.2 x1 (1 : Int32)) (fun u_40 => Option.bind (f_X7_say u_33 (Int32.toInt64 u_40.1)) (fun u_44 => some (u_40.2, u_44))))) else Option.bind (f_X7_tell v_t x1 x2) (fun u_12 => Option.bind (f_X7_say h_t (Int32.toInt64 u_12.1)) (fun u_16 => k2 (u_12.2, u_16, (x2 + 1)))))
def f_X7_sayPilgrim_l2  (x1 : Int32)  (n : Nat) : obV × Int64 × Int32 → Option (obV × Int64) :=
  lp (fun k y => f_X7_sayPilgrim_b2  y.1 y.2.1 x1 y.2.2  k) n
def f_X7_sayPilgrim  (v_t : obV) (h_t : Int64) (x1 : Int32) : Option (obV × Int64) :=
  f_X7_sayPilgrim_l2  x1  fu (v_t, h_t, 0)
def f_X7_sayDay_b60  (v_t : obV) (h_t : Int64) (x1 : Int32)  (k60 : obV × Int64 × Int32 → Option (obV × Int64)) : Option (obV × Int64) :=
  (if (15 : Int32) ≤ x1 then some (v_t, h_t) else Option.bind (f_X7_orderOf v_t x1) (fun u_69 => Option.bind (f_X7_say h_t (Int32.toInt64 u_69.1)) (fun u_73 => k60 (u_69.2, u_73, (x1 + 1)))))
def f_X7_sayDay_l60    (n : Nat) : obV × Int64 × Int32 → Option (obV × Int64) :=
  lp (fun k y => f_X7_sayDay_b60  y.1 y.2.1 y.2.2  k) n
def f_X7_sayDay_b25  (v_t : obV) (h_t : Int64) (x1 : Int32)  (k25 : obV × Int64 × Int32 → Option (obV × Int64)) : Option (obV × Int64) :=
  (if (20 : Int32) ≤ x1 then Option.bind (f_X7_orderOf v_t (0 : Int32)) (fun u_50 => Option.bind (f_X7_say h_t (Int32.toInt64 u_50.1)) (fun u_54 => f_X7_sayDay_l60    fu (u_50.2, u_54, 10))) else Option.bind (f_X7_waitingOf v_t x1) (fun u_34 => Option.bind (f_X7_say h_t (Int32.toInt64 u_34.1)) (fun u_38 => k25 (u_34.2, u_38, (x1 + 1)))))
def f_X7_sayDay_l25    (n : Nat) : obV × Int64 × Int32 → Option (obV × Int64) :=
  lp (fun k y => f_X7_sayDay_b25  y.1 y.2.1 y.2.2  k) n
def f_X7_sayDay_b2  (v_t : obV) (h_t : Int64) (x1 : Int32)  (k2 : obV × Int64 × Int32 → Option (obV × Int64)) : Option (obV × Int64) :=
  (if (5 : Int32) ≤ x1 then f_X7_sayDay_l25    fu (v_t, h_t, 0) else Option.bind (f_X7_dayOf v_t x1) (fun u_10 => Option.bind (f_X7_say h_t (Int32.toInt64 u_10.1)) (fun u_14 => k2 (u_10.2, u_14, (x1 + 1)))))
def f_X7_sayDay_l2    (n : Nat) : obV × Int64 × Int32 → Option (obV × Int64) :=
  lp (fun k y => f_X7_sayDay_b2  y.1 y.2.1 y.2.2  k) n
def f_X7_sayDay  (v_t : obV) (h_t : Int64)  : Option (obV × Int64) :=
  f_X7_sayDay_l2    fu (v_t, h_t, 0)
def f_X7_digest_b68  (v_t : obV) (h_t : Int64) (x1 : Int32)  (k68 : Int64 × Int32 → Option (Int64 × obV × Int64)) : Option (Int64 × obV × Int64) :=
  (if (8 : Int32) ≤ x1 then some (h_t, v_t, h_t) else Option.bind (f_X7_countOf v_t x1) (fun u_77 => Option.bind (f_X7_say h_t (Int32.toInt64 u_77)) (fun u_81 => k68 (u_81, (x1 + 1)))))
def f_X7_digest_l68  (v_t : obV)  (n : Nat) : Int64 × Int32 → Option (Int64 × obV × Int64) :=
  lp (fun k y => f_X7_digest_b68  v_t y.1 y.2  k) n
def f_X7_digest_b41  (v_t : obV) (h_t : Int64) (x1 : Int32)  (k41 : Int64 × Int32 → Option (Int64 × obV × Int64)) : Option (Int64 × obV × Int64) :=
  (if (v_t.1 1) ≤ x1 then f_X7_digest_l68  v_t  fu (h_t, 0) else if x1 < 0 ∨ 24 ≤ Int32.toNatClampNeg x1 then none else Option.bind (f_X7_say h_t (Int32.toInt64 ((v_t.2 0) (Int32.toNatClampNeg x1)))) (fun u_57 => k41 (u_57, (x1 + 1))))
def f_X7_digest_l41  (v_t : obV)  (n : Nat) : Int64 × Int32 → Option (Int64 × obV × Int64) :=
  lp (fun k y => f_X7_digest_b41  v_t y.1 y.2  k) n
def f_X7_digest_b9  (v_t : obV) (h_t : Int64) (x1 : Int32)  (k9 : obV × Int64 × Int32 → Option (Int64 × obV × Int64)) : Option (Int64 × obV × Int64) :=
  (if (v_t.1 6) ≤ x1 then Option.bind (f_X7_lacks v_t) (fun u_29 => (if u_29 = 0 then Option.bind (f_X7_sayDay v_t h_t) (fun u_36 => f_X7_digest_l41  u_36.1  fu (u_36.2, 0)) else f_X7_digest_l41  v_t  fu (h_t, 0))) else Option.bind (f_X7_sayPilgrim v_t h_t x1) (fun u_19 => k9 (u_19.1, u_19.2, (x1 + 1))))
def f_X7_digest_l9    (n : Nat) : obV × Int64 × Int32 → Option (Int64 × obV × Int64) :=
  lp (fun k y => f_X7_digest_b9  y.1 y.2.1 y.2.2  k) n
def f_X7_digest  (v_t : obV) (h_t : Int64)  : Option (Int64 × obV × Int64) :=
  f_X7_digest_l9    fu (v_t, 991, 0)
