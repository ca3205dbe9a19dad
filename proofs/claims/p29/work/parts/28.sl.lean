theorem mapF_sh {u v : Nat → Nat} {b : Nat} (e : ∀ j, j < 13 → u (b + j) = v j) : mapF u b = mapF v 0 := by
  have e0 : u (b + 1) = v 1 := e 1 (by decide)
  have e1 : u (b + 2) = v 2 := e 2 (by decide)
  have e2 : u (b + 3) = v 3 := e 3 (by decide)
  have e3 : u (b + 4) = v 4 := e 4 (by decide)
  have e4 : u (b + 5) = v 5 := e 5 (by decide)
  have e5 : u (b + 6) = v 6 := e 6 (by decide)
  have e6 : u (b + 7) = v 7 := e 7 (by decide)
  have e7 : u (b + 8) = v 8 := e 8 (by decide)
  have e8 : u (b + 9) = v 9 := e 9 (by decide)
  have e9 : u (b + 10) = v 10 := e 10 (by decide)
  have e10 : u (b + 11) = v 11 := e 11 (by decide)
  have e11 : u (b + 12) = v 12 := e 12 (by decide)
  simp only [mapF, e0, e1, e2, e3, e4, e5, e6, e7, e8, e9, e10, e11]
  all_goals rfl
theorem mapA_sh {X : XI} {u v : Nat → Nat} {b : Nat} (e : ∀ j, j < 13 → u (b + j) = v j) : mapA X u b = mapA X v 0 := by
  have e0 : u (b + 1) = v 1 := e 1 (by decide)
  have e1 : u (b + 2) = v 2 := e 2 (by decide)
  have e2 : u (b + 3) = v 3 := e 3 (by decide)
  have e3 : u (b + 4) = v 4 := e 4 (by decide)
  have e4 : u (b + 5) = v 5 := e 5 (by decide)
  have e5 : u (b + 6) = v 6 := e 6 (by decide)
  have e6 : u (b + 7) = v 7 := e 7 (by decide)
  have e7 : u (b + 8) = v 8 := e 8 (by decide)
  have e8 : u (b + 9) = v 9 := e 9 (by decide)
  have e9 : u (b + 10) = v 10 := e 10 (by decide)
  have e10 : u (b + 11) = v 11 := e 11 (by decide)
  have e11 : u (b + 12) = v 12 := e 12 (by decide)
  simp only [mapA, e0, e1, e2, e3, e4, e5, e6, e7, e8, e9, e10, e11]
  all_goals rfl
theorem legF_sh {u v : Nat → Nat} {b : Nat} (e : ∀ j, j < 33 → u (b + j) = v j) : legF u b = legF v 0 := by
  have e0 : u (b + 1) = v 1 := e 1 (by decide)
  have e1 : u (b + 2) = v 2 := e 2 (by decide)
  have e2 : u (b + 3) = v 3 := e 3 (by decide)
  have e3 : u (b + 10) = v 10 := e 10 (by decide)
  have e4 : u (b + 21) = v 21 := e 21 (by decide)
  have e5 : u (b + 32) = v 32 := e 32 (by decide)
  simp only [legF, e0, e1, e2, e3, e4, e5]
  all_goals rfl
theorem legA_sh {X : XI} {u v : Nat → Nat} {b : Nat} (e : ∀ j, j < 33 → u (b + j) = v j) : legA X u b = legA X v 0 := by
  have e0 : u (b + 1) = v 1 := e 1 (by decide)
  have e1 : u (b + 2) = v 2 := e 2 (by decide)
  have e2 : u (b + 3) = v 3 := e 3 (by decide)
  have e3 : u (b + 10) = v 10 := e 10 (by decide)
  have e4 : u (b + 21) = v 21 := e 21 (by decide)
  have e5 : u (b + 32) = v 32 := e 32 (by decide)
  have e6 : u (b + 3 + 1) = v 4 := e 4 (by decide)
  have e7 : u (b + 3 + 2) = v 5 := e 5 (by decide)
  have e8 : u (b + 3 + 3) = v 6 := e 6 (by decide)
  have e9 : u (b + 3 + 4) = v 7 := e 7 (by decide)
  have e10 : u (b + 3 + 5) = v 8 := e 8 (by decide)
  have e11 : u (b + 3 + 6) = v 9 := e 9 (by decide)
  have e12 : u (b + 10 + 1) = v 11 := e 11 (by decide)
  have e13 : u (b + 10 + 2) = v 12 := e 12 (by decide)
  have e14 : u (b + 10 + 3) = v 13 := e 13 (by decide)
  have e15 : u (b + 10 + 4) = v 14 := e 14 (by decide)
  have e16 : u (b + 10 + 5) = v 15 := e 15 (by decide)
  have e17 : u (b + 10 + 6) = v 16 := e 16 (by decide)
  have e18 : u (b + 10 + 7) = v 17 := e 17 (by decide)
  have e19 : u (b + 10 + 8) = v 18 := e 18 (by decide)
  have e20 : u (b + 10 + 9) = v 19 := e 19 (by decide)
  have e21 : u (b + 10 + 10) = v 20 := e 20 (by decide)
  have e22 : u (b + 21 + 1) = v 22 := e 22 (by decide)
  have e23 : u (b + 21 + 2) = v 23 := e 23 (by decide)
  have e24 : u (b + 21 + 3) = v 24 := e 24 (by decide)
  have e25 : u (b + 21 + 4) = v 25 := e 25 (by decide)
  have e26 : u (b + 21 + 5) = v 26 := e 26 (by decide)
  have e27 : u (b + 21 + 6) = v 27 := e 27 (by decide)
  have e28 : u (b + 21 + 7) = v 28 := e 28 (by decide)
  have e29 : u (b + 21 + 8) = v 29 := e 29 (by decide)
  have e30 : u (b + 21 + 9) = v 30 := e 30 (by decide)
  have e31 : u (b + 21 + 10) = v 31 := e 31 (by decide)
  simp only [legA, rngF, rngA, linF, linA, boxF, boxA, e0, e1, e2, e3, e4, e5, e6, e7, e8, e9, e10, e11, e12, e13, e14, e15, e16, e17, e18, e19, e20, e21, e22, e23, e24, e25, e26, e27, e28, e29, e30, e31]
  all_goals rfl
theorem txtF_sh {u v : Nat → Nat} {b : Nat} (e : ∀ j, j < 15 → u (b + j) = v j) : txtF u b = txtF v 0 := by
  have e0 : u (b + 1) = v 1 := e 1 (by decide)
  have e1 : u (b + 2) = v 2 := e 2 (by decide)
  simp only [txtF, e0, e1]
  all_goals rfl
theorem txtA_sh {X : XI} {u v : Nat → Nat} {b : Nat} (e : ∀ j, j < 15 → u (b + j) = v j) : txtA X u b = txtA X v 0 := by
  have e0 : u (b + 1) = v 1 := e 1 (by decide)
  have e1 : u (b + 2) = v 2 := e 2 (by decide)
  have e2 : u (b + 2 + 1) = v 3 := e 3 (by decide)
  have e3 : u (b + 2 + 2) = v 4 := e 4 (by decide)
  have e4 : u (b + 2 + 3) = v 5 := e 5 (by decide)
  have e5 : u (b + 2 + 4) = v 6 := e 6 (by decide)
  have e6 : u (b + 2 + 5) = v 7 := e 7 (by decide)
  have e7 : u (b + 2 + 6) = v 8 := e 8 (by decide)
  have e8 : u (b + 2 + 7) = v 9 := e 9 (by decide)
  have e9 : u (b + 2 + 8) = v 10 := e 10 (by decide)
  have e10 : u (b + 2 + 9) = v 11 := e 11 (by decide)
  have e11 : u (b + 2 + 10) = v 12 := e 12 (by decide)
  have e12 : u (b + 2 + 11) = v 13 := e 13 (by decide)
  have e13 : u (b + 2 + 12) = v 14 := e 14 (by decide)
  simp only [txtA, mapF, mapA, e0, e1, e2, e3, e4, e5, e6, e7, e8, e9, e10, e11, e12, e13]
  all_goals rfl
def wz6 (q1 q3 q5 q7 q9 q11 q12 q14 q16 q18 : Nat) (u2 u4 u6 u8 u10 u13 u15 u17 u19 : Nat → Nat) : Nat → Nat := fun k => if k < 14 then uu q1 u2 (k - 1) else if k < 47 then uu q3 u4 (k - 14) else if k < 60 then uu q5 u6 (k - 47) else if k < 93 then uu q7 u8 (k - 60) else if k < 108 then uu q9 u10 (k - 93) else if k < 109 then q11 else if k < 122 then uu q12 u13 (k - 109) else if k < 135 then uu q14 u15 (k - 122) else if k < 148 then uu q16 u17 (k - 135) else uu q18 u19 (k - 148)
theorem uu_pos {h k : Nat} {w : Nat → Nat} (hk : 0 < k) : uu h w k = w k := by
  cases k with
  | zero => exact absurd hk (Nat.lt_irrefl 0)
  | succ k => rfl
section W6
variable {h q1 q3 q5 q7 q9 q11 q12 q14 q16 q18 : Nat} {u2 u4 u6 u8 u10 u13 u15 u17 u19 : Nat → Nat}
theorem w6_0 : ∀ j, j < 13 → uu h (wz6 q1 q3 q5 q7 q9 q11 q12 q14 q16 q18 u2 u4 u6 u8 u10 u13 u15 u17 u19) (1 + j) = uu q1 u2 j := fun j hj => by
  rw [uu_pos (by omega)]
  unfold wz6
  rw [if_pos (by omega), Nat.add_sub_cancel_left]
theorem w6_1 : ∀ j, j < 33 → uu h (wz6 q1 q3 q5 q7 q9 q11 q12 q14 q16 q18 u2 u4 u6 u8 u10 u13 u15 u17 u19) (14 + j) = uu q3 u4 j := fun j hj => by
  rw [uu_pos (by omega)]
  unfold wz6
  rw [if_neg (by omega), if_pos (by omega), Nat.add_sub_cancel_left]
theorem w6_2 : ∀ j, j < 13 → uu h (wz6 q1 q3 q5 q7 q9 q11 q12 q14 q16 q18 u2 u4 u6 u8 u10 u13 u15 u17 u19) (47 + j) = uu q5 u6 j := fun j hj => by
  rw [uu_pos (by omega)]
  unfold wz6
  rw [if_neg (by omega), if_neg (by omega), if_pos (by omega), Nat.add_sub_cancel_left]
theorem w6_3 : ∀ j, j < 33 → uu h (wz6 q1 q3 q5 q7 q9 q11 q12 q14 q16 q18 u2 u4 u6 u8 u10 u13 u15 u17 u19) (60 + j) = uu q7 u8 j := fun j hj => by
  rw [uu_pos (by omega)]
  unfold wz6
  rw [if_neg (by omega), if_neg (by omega), if_neg (by omega), if_pos (by omega), Nat.add_sub_cancel_left]
theorem w6_4 : ∀ j, j < 15 → uu h (wz6 q1 q3 q5 q7 q9 q11 q12 q14 q16 q18 u2 u4 u6 u8 u10 u13 u15 u17 u19) (93 + j) = uu q9 u10 j := fun j hj => by
  rw [uu_pos (by omega)]
  unfold wz6
  rw [if_neg (by omega), if_neg (by omega), if_neg (by omega), if_neg (by omega), if_pos (by omega), Nat.add_sub_cancel_left]
theorem w6_5 : ∀ j, j < 13 → uu h (wz6 q1 q3 q5 q7 q9 q11 q12 q14 q16 q18 u2 u4 u6 u8 u10 u13 u15 u17 u19) (109 + j) = uu q12 u13 j := fun j hj => by
  rw [uu_pos (by omega)]
  unfold wz6
  rw [if_neg (by omega), if_neg (by omega), if_neg (by omega), if_neg (by omega), if_neg (by omega), if_neg (by omega), if_pos (by omega), Nat.add_sub_cancel_left]
theorem w6_6 : ∀ j, j < 13 → uu h (wz6 q1 q3 q5 q7 q9 q11 q12 q14 q16 q18 u2 u4 u6 u8 u10 u13 u15 u17 u19) (122 + j) = uu q14 u15 j := fun j hj => by
  rw [uu_pos (by omega)]
  unfold wz6
  rw [if_neg (by omega), if_neg (by omega), if_neg (by omega), if_neg (by omega), if_neg (by omega), if_neg (by omega), if_neg (by omega), if_pos (by omega), Nat.add_sub_cancel_left]
theorem w6_7 : ∀ j, j < 13 → uu h (wz6 q1 q3 q5 q7 q9 q11 q12 q14 q16 q18 u2 u4 u6 u8 u10 u13 u15 u17 u19) (135 + j) = uu q16 u17 j := fun j hj => by
  rw [uu_pos (by omega)]
  unfold wz6
  rw [if_neg (by omega), if_neg (by omega), if_neg (by omega), if_neg (by omega), if_neg (by omega), if_neg (by omega), if_neg (by omega), if_neg (by omega), if_pos (by omega), Nat.add_sub_cancel_left]
theorem w6_8 : ∀ j, j < 13 → uu h (wz6 q1 q3 q5 q7 q9 q11 q12 q14 q16 q18 u2 u4 u6 u8 u10 u13 u15 u17 u19) (148 + j) = uu q18 u19 j := fun j hj => by
  rw [uu_pos (by omega)]
  unfold wz6
  rw [if_neg (by omega), if_neg (by omega), if_neg (by omega), if_neg (by omega), if_neg (by omega), if_neg (by omega), if_neg (by omega), if_neg (by omega), if_neg (by omega), Nat.add_sub_cancel_left]
theorem w6_q : uu h (wz6 q1 q3 q5 q7 q9 q11 q12 q14 q16 q18 u2 u4 u6 u8 u10 u13 u15 u17 u19) 108 = q11 := rfl
theorem slF_eq : slF (uu h (wz6 q1 q3 q5 q7 q9 q11 q12 q14 q16 q18 u2 u4 u6 u8 u10 u13 u15 u17 u19)) 0 = [.ref q1, .ref q3, .ref q5, .ref q7, .ref q9, .ref q11, vI 0, vI 0] := rfl
theorem slA_eq {X : XI} : slA X (uu h (wz6 q1 q3 q5 q7 q9 q11 q12 q14 q16 q18 u2 u4 u6 u8 u10 u13 u15 u17 u19)) 0 = (((((((((((((((((([(q1, .inr (3, mapF (uu q1 u2) 0))] ++ mapA X (uu q1 u2) 0) ++ [(q3, .inr (1, legF (uu q3 u4) 0))]) ++ legA X (uu q3 u4) 0) ++ [(q5, .inr (3, mapF (uu q5 u6) 0))]) ++ mapA X (uu q5 u6) 0) ++ [(q7, .inr (1, legF (uu q7 u8) 0))]) ++ legA X (uu q7 u8) 0) ++ [(q9, .inr (5, txtF (uu q9 u10) 0))]) ++ txtA X (uu q9 u10) 0) ++ [(q11, .inl (X.2.2, 4, .inr (.inr (.inr (.inr (va_up (va_up (va_up (va_up (fun _ => none) 0 (some q12)) 1 (some q14)) 2 (some q16)) 3 (some q18)))))))]) ++ [(q12, .inr (3, mapF (uu q12 u13) 0))]) ++ mapA X (uu q12 u13) 0) ++ [(q14, .inr (3, mapF (uu q14 u15) 0))]) ++ mapA X (uu q14 u15) 0) ++ [(q16, .inr (3, mapF (uu q16 u17) 0))]) ++ mapA X (uu q16 u17) 0) ++ [(q18, .inr (3, mapF (uu q18 u19) 0))]) ++ mapA X (uu q18 u19) 0) := by
  unfold slA
  have f0 : mapF (uu h (wz6 q1 q3 q5 q7 q9 q11 q12 q14 q16 q18 u2 u4 u6 u8 u10 u13 u15 u17 u19)) (0 + 1) = mapF (uu q1 u2) 0 := mapF_sh w6_0
  have g0 : mapA X (uu h (wz6 q1 q3 q5 q7 q9 q11 q12 q14 q16 q18 u2 u4 u6 u8 u10 u13 u15 u17 u19)) (0 + 1) = mapA X (uu q1 u2) 0 := mapA_sh w6_0
  have k0 : uu h (wz6 q1 q3 q5 q7 q9 q11 q12 q14 q16 q18 u2 u4 u6 u8 u10 u13 u15 u17 u19) (0 + 1) = q1 := w6_0 0 (by decide)
  have f1 : legF (uu h (wz6 q1 q3 q5 q7 q9 q11 q12 q14 q16 q18 u2 u4 u6 u8 u10 u13 u15 u17 u19)) (0 + 14) = legF (uu q3 u4) 0 := legF_sh w6_1
  have g1 : legA X (uu h (wz6 q1 q3 q5 q7 q9 q11 q12 q14 q16 q18 u2 u4 u6 u8 u10 u13 u15 u17 u19)) (0 + 14) = legA X (uu q3 u4) 0 := legA_sh w6_1
  have k1 : uu h (wz6 q1 q3 q5 q7 q9 q11 q12 q14 q16 q18 u2 u4 u6 u8 u10 u13 u15 u17 u19) (0 + 14) = q3 := w6_1 0 (by decide)
  have f2 : mapF (uu h (wz6 q1 q3 q5 q7 q9 q11 q12 q14 q16 q18 u2 u4 u6 u8 u10 u13 u15 u17 u19)) (0 + 47) = mapF (uu q5 u6) 0 := mapF_sh w6_2
  have g2 : mapA X (uu h (wz6 q1 q3 q5 q7 q9 q11 q12 q14 q16 q18 u2 u4 u6 u8 u10 u13 u15 u17 u19)) (0 + 47) = mapA X (uu q5 u6) 0 := mapA_sh w6_2
  have k2 : uu h (wz6 q1 q3 q5 q7 q9 q11 q12 q14 q16 q18 u2 u4 u6 u8 u10 u13 u15 u17 u19) (0 + 47) = q5 := w6_2 0 (by decide)
  have f3 : legF (uu h (wz6 q1 q3 q5 q7 q9 q11 q12 q14 q16 q18 u2 u4 u6 u8 u10 u13 u15 u17 u19)) (0 + 60) = legF (uu q7 u8) 0 := legF_sh w6_3
  have g3 : legA X (uu h (wz6 q1 q3 q5 q7 q9 q11 q12 q14 q16 q18 u2 u4 u6 u8 u10 u13 u15 u17 u19)) (0 + 60) = legA X (uu q7 u8) 0 := legA_sh w6_3
  have k3 : uu h (wz6 q1 q3 q5 q7 q9 q11 q12 q14 q16 q18 u2 u4 u6 u8 u10 u13 u15 u17 u19) (0 + 60) = q7 := w6_3 0 (by decide)
  have f4 : txtF (uu h (wz6 q1 q3 q5 q7 q9 q11 q12 q14 q16 q18 u2 u4 u6 u8 u10 u13 u15 u17 u19)) (0 + 93) = txtF (uu q9 u10) 0 := txtF_sh w6_4
  have g4 : txtA X (uu h (wz6 q1 q3 q5 q7 q9 q11 q12 q14 q16 q18 u2 u4 u6 u8 u10 u13 u15 u17 u19)) (0 + 93) = txtA X (uu q9 u10) 0 := txtA_sh w6_4
  have k4 : uu h (wz6 q1 q3 q5 q7 q9 q11 q12 q14 q16 q18 u2 u4 u6 u8 u10 u13 u15 u17 u19) (0 + 93) = q9 := w6_4 0 (by decide)
  have f5 : mapF (uu h (wz6 q1 q3 q5 q7 q9 q11 q12 q14 q16 q18 u2 u4 u6 u8 u10 u13 u15 u17 u19)) (0 + 109) = mapF (uu q12 u13) 0 := mapF_sh w6_5
  have g5 : mapA X (uu h (wz6 q1 q3 q5 q7 q9 q11 q12 q14 q16 q18 u2 u4 u6 u8 u10 u13 u15 u17 u19)) (0 + 109) = mapA X (uu q12 u13) 0 := mapA_sh w6_5
  have k5 : uu h (wz6 q1 q3 q5 q7 q9 q11 q12 q14 q16 q18 u2 u4 u6 u8 u10 u13 u15 u17 u19) (0 + 109) = q12 := w6_5 0 (by decide)
  have f6 : mapF (uu h (wz6 q1 q3 q5 q7 q9 q11 q12 q14 q16 q18 u2 u4 u6 u8 u10 u13 u15 u17 u19)) (0 + 122) = mapF (uu q14 u15) 0 := mapF_sh w6_6
  have g6 : mapA X (uu h (wz6 q1 q3 q5 q7 q9 q11 q12 q14 q16 q18 u2 u4 u6 u8 u10 u13 u15 u17 u19)) (0 + 122) = mapA X (uu q14 u15) 0 := mapA_sh w6_6
  have k6 : uu h (wz6 q1 q3 q5 q7 q9 q11 q12 q14 q16 q18 u2 u4 u6 u8 u10 u13 u15 u17 u19) (0 + 122) = q14 := w6_6 0 (by decide)
  have f7 : mapF (uu h (wz6 q1 q3 q5 q7 q9 q11 q12 q14 q16 q18 u2 u4 u6 u8 u10 u13 u15 u17 u19)) (0 + 135) = mapF (uu q16 u17) 0 := mapF_sh w6_7
  have g7 : mapA X (uu h (wz6 q1 q3 q5 q7 q9 q11 q12 q14 q16 q18 u2 u4 u6 u8 u10 u13 u15 u17 u19)) (0 + 135) = mapA X (uu q16 u17) 0 := mapA_sh w6_7
  have k7 : uu h (wz6 q1 q3 q5 q7 q9 q11 q12 q14 q16 q18 u2 u4 u6 u8 u10 u13 u15 u17 u19) (0 + 135) = q16 := w6_7 0 (by decide)
  have f8 : mapF (uu h (wz6 q1 q3 q5 q7 q9 q11 q12 q14 q16 q18 u2 u4 u6 u8 u10 u13 u15 u17 u19)) (0 + 148) = mapF (uu q18 u19) 0 := mapF_sh w6_8
  have g8 : mapA X (uu h (wz6 q1 q3 q5 q7 q9 q11 q12 q14 q16 q18 u2 u4 u6 u8 u10 u13 u15 u17 u19)) (0 + 148) = mapA X (uu q18 u19) 0 := mapA_sh w6_8
  have k8 : uu h (wz6 q1 q3 q5 q7 q9 q11 q12 q14 q16 q18 u2 u4 u6 u8 u10 u13 u15 u17 u19) (0 + 148) = q18 := w6_8 0 (by decide)
  have k9 : uu h (wz6 q1 q3 q5 q7 q9 q11 q12 q14 q16 q18 u2 u4 u6 u8 u10 u13 u15 u17 u19) (0 + 108) = q11 := rfl
  rw [f0, g0, k0, f1, g1, k1, f2, g2, k2, f3, g3, k3, f4, g4, k4, f5, g5, k5, f6, g6, k6, f7, g7, k7, f8, g8, k8, k9]
end W6
