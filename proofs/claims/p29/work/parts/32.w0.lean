def vRank : Int → Int := fun i => if 0 ≤ i ∧ i < 12 then i else 0
def vGroup : Int → Int := fun i => if 0 ≤ i ∧ i < 12 then -1 else 0
def vWin : Int → Int := fun i => if i = 2 then 100 else if i = 3 then 100 else if i = 4 then 5 else 0
def vSet : Int → Int := fun i => if i = 0 then 3 else if i = 1 then 1 else if i = 2 then 20 else if i = 3 then 5 else 0
/-- the cells' contents behind the constructors -/
def σ0 : St := fun k => if k = 7 ∨ k = 53 ∨ k = 101 ∨ k = 115 ∨ k = 128 ∨ k = 141 ∨ k = 154 then vRank else if k = 8 ∨ k = 54 ∨ k = 102 ∨ k = 116 ∨ k = 129 ∨ k = 142 ∨ k = 155 then vGroup else if k = 12 ∨ k = 58 ∨ k = 106 ∨ k = 120 ∨ k = 133 ∨ k = 146 ∨ k = 159 then vWin else if k = 13 ∨ k = 59 ∨ k = 107 ∨ k = 121 ∨ k = 134 ∨ k = 147 ∨ k = 160 then vSet else fun _ => 0
def ad0 (q1 q2 q3 q4 q5 : Nat) (u1 : Nat → Nat) : Nat → Nat := fun k => if k < 161 then uu q1 u1 k else if k = 161 then q2 else if k = 162 then q3 else if k = 163 then q4 else if k = 164 then q5 else if k = 1000 then 165 else 0
set_option maxRecDepth 20000 in
theorem eRank : kRank = fun j : Nat => iI (vRank j) := by
  funext j
  by_cases hj : j < 12
  · exact (by decide +kernel : ∀ j : Nat, j < 12 → kRank j = iI (vRank j)) j hj
  · have e : vRank (j : Int) = 0 := by
      unfold vRank
      repeat rw [if_neg (by omega)]
    rw [e]
    simp only [kRank, upd, zI]
    repeat rw [if_neg (by omega)]
set_option maxRecDepth 20000 in
theorem eGroup : kGroup = fun j : Nat => iI (vGroup j) := by
  funext j
  by_cases hj : j < 12
  · exact (by decide +kernel : ∀ j : Nat, j < 12 → kGroup j = iI (vGroup j)) j hj
  · have e : vGroup (j : Int) = 0 := by
      unfold vGroup
      repeat rw [if_neg (by omega)]
    rw [e]
    simp only [kGroup, upd, zI]
    repeat rw [if_neg (by omega)]
set_option maxRecDepth 20000 in
theorem eWin : kWin = fun j : Nat => iI (vWin j) := by
  funext j
  by_cases hj : j < 5
  · exact (by decide +kernel : ∀ j : Nat, j < 5 → kWin j = iI (vWin j)) j hj
  · have e : vWin (j : Int) = 0 := by
      unfold vWin
      repeat rw [if_neg (by omega)]
    rw [e]
    simp only [kWin, upd, zI]
    repeat rw [if_neg (by omega)]
set_option maxRecDepth 20000 in
theorem eSet : kSet = fun j : Nat => iI (vSet j) := by
  funext j
  by_cases hj : j < 4
  · exact (by decide +kernel : ∀ j : Nat, j < 4 → kSet j = iI (vSet j)) j hj
  · have e : vSet (j : Int) = 0 := by
      unfold vSet
      repeat rw [if_neg (by omega)]
    rw [e]
    simp only [kSet, upd, zI]
    repeat rw [if_neg (by omega)]
section W0
variable {X : XI} {q1 q2 q3 q4 q5 : Nat} {u1 : Nat → Nat}
theorem E0_0 : ((ad0 q1 q2 q3 q4 q5 u1) 0, cel X (ad0 q1 q2 q3 q4 q5 u1) 0 (σ0 0)) = (((uu q1 u1) 0, .inr (6, slF (uu q1 u1) 0)) : Nat × va_E) := rfl
theorem E0_1 : ((ad0 q1 q2 q3 q4 q5 u1) 1, cel X (ad0 q1 q2 q3 q4 q5 u1) 1 (σ0 1)) = (((uu q1 u1) 1, .inr (3, mapF (uu q1 u1) 1)) : Nat × va_E) := rfl
theorem E0_2 : ((ad0 q1 q2 q3 q4 q5 u1) 2, cel X (ad0 q1 q2 q3 q4 q5 u1) 2 (σ0 2)) = (((uu q1 u1) 2, .inl (X.1, 40, .inl zI)) : Nat × va_E) := rfl
theorem E0_3 : ((ad0 q1 q2 q3 q4 q5 u1) 3, cel X (ad0 q1 q2 q3 q4 q5 u1) 3 (σ0 3)) = (((uu q1 u1) 3, .inl (X.1, 40, .inl zI)) : Nat × va_E) := rfl
theorem E0_4 : ((ad0 q1 q2 q3 q4 q5 u1) 4, cel X (ad0 q1 q2 q3 q4 q5 u1) 4 (σ0 4)) = (((uu q1 u1) 4, .inl (X.1, 40, .inl zI)) : Nat × va_E) := rfl
theorem E0_5 : ((ad0 q1 q2 q3 q4 q5 u1) 5, cel X (ad0 q1 q2 q3 q4 q5 u1) 5 (σ0 5)) = (((uu q1 u1) 5, .inl (X.1, 40, .inl zI)) : Nat × va_E) := rfl
theorem E0_6 : ((ad0 q1 q2 q3 q4 q5 u1) 6, cel X (ad0 q1 q2 q3 q4 q5 u1) 6 (σ0 6)) = (((uu q1 u1) 6, .inl (X.1, 40, .inl zI)) : Nat × va_E) := rfl
theorem E0_7 : ((ad0 q1 q2 q3 q4 q5 u1) 7, cel X (ad0 q1 q2 q3 q4 q5 u1) 7 (σ0 7)) = (((uu q1 u1) 7, .inl (X.1, 12, .inl (fun j : Nat => iI (vRank j)))) : Nat × va_E) := rfl
theorem E0_8 : ((ad0 q1 q2 q3 q4 q5 u1) 8, cel X (ad0 q1 q2 q3 q4 q5 u1) 8 (σ0 8)) = (((uu q1 u1) 8, .inl (X.1, 12, .inl (fun j : Nat => iI (vGroup j)))) : Nat × va_E) := rfl
theorem E0_9 : ((ad0 q1 q2 q3 q4 q5 u1) 9, cel X (ad0 q1 q2 q3 q4 q5 u1) 9 (σ0 9)) = (((uu q1 u1) 9, .inl (X.1, 12, .inl zI)) : Nat × va_E) := rfl
theorem E0_10 : ((ad0 q1 q2 q3 q4 q5 u1) 10, cel X (ad0 q1 q2 q3 q4 q5 u1) 10 (σ0 10)) = (((uu q1 u1) 10, .inl (X.1, 60, .inl zI)) : Nat × va_E) := rfl
theorem E0_11 : ((ad0 q1 q2 q3 q4 q5 u1) 11, cel X (ad0 q1 q2 q3 q4 q5 u1) 11 (σ0 11)) = (((uu q1 u1) 11, .inl (X.1, 5, .inl zI)) : Nat × va_E) := rfl
theorem E0_12 : ((ad0 q1 q2 q3 q4 q5 u1) 12, cel X (ad0 q1 q2 q3 q4 q5 u1) 12 (σ0 12)) = (((uu q1 u1) 12, .inl (X.1, 5, .inl (fun j : Nat => iI (vWin j)))) : Nat × va_E) := rfl
theorem E0_13 : ((ad0 q1 q2 q3 q4 q5 u1) 13, cel X (ad0 q1 q2 q3 q4 q5 u1) 13 (σ0 13)) = (((uu q1 u1) 13, .inl (X.1, 4, .inl (fun j : Nat => iI (vSet j)))) : Nat × va_E) := rfl
theorem E0_14 : ((ad0 q1 q2 q3 q4 q5 u1) 14, cel X (ad0 q1 q2 q3 q4 q5 u1) 14 (σ0 14)) = (((uu q1 u1) 14, .inr (1, legF (uu q1 u1) 14)) : Nat × va_E) := rfl
theorem E0_15 : ((ad0 q1 q2 q3 q4 q5 u1) 15, cel X (ad0 q1 q2 q3 q4 q5 u1) 15 (σ0 15)) = (((uu q1 u1) 15, .inl (X.2.1, 40, .inl zI)) : Nat × va_E) := rfl
theorem E0_16 : ((ad0 q1 q2 q3 q4 q5 u1) 16, cel X (ad0 q1 q2 q3 q4 q5 u1) 16 (σ0 16)) = (((uu q1 u1) 16, .inl (X.2.1, 40, .inl zI)) : Nat × va_E) := rfl
theorem E0_17 : ((ad0 q1 q2 q3 q4 q5 u1) 17, cel X (ad0 q1 q2 q3 q4 q5 u1) 17 (σ0 17)) = (((uu q1 u1) 17, .inr (4, rngF (uu q1 u1) 17)) : Nat × va_E) := rfl
theorem E0_18 : ((ad0 q1 q2 q3 q4 q5 u1) 18, cel X (ad0 q1 q2 q3 q4 q5 u1) 18 (σ0 18)) = (((uu q1 u1) 18, .inl (X.1, 12, .inl zI)) : Nat × va_E) := rfl
theorem E0_19 : ((ad0 q1 q2 q3 q4 q5 u1) 19, cel X (ad0 q1 q2 q3 q4 q5 u1) 19 (σ0 19)) = (((uu q1 u1) 19, .inl (X.1, 72, .inl zI)) : Nat × va_E) := rfl
theorem E0_20 : ((ad0 q1 q2 q3 q4 q5 u1) 20, cel X (ad0 q1 q2 q3 q4 q5 u1) 20 (σ0 20)) = (((uu q1 u1) 20, .inl (X.1, 12, .inl zI)) : Nat × va_E) := rfl
theorem E0_21 : ((ad0 q1 q2 q3 q4 q5 u1) 21, cel X (ad0 q1 q2 q3 q4 q5 u1) 21 (σ0 21)) = (((uu q1 u1) 21, .inl (X.1, 72, .inl zI)) : Nat × va_E) := rfl
theorem E0_22 : ((ad0 q1 q2 q3 q4 q5 u1) 22, cel X (ad0 q1 q2 q3 q4 q5 u1) 22 (σ0 22)) = (((uu q1 u1) 22, .inl (X.1, 72, .inl zI)) : Nat × va_E) := rfl
theorem E0_23 : ((ad0 q1 q2 q3 q4 q5 u1) 23, cel X (ad0 q1 q2 q3 q4 q5 u1) 23 (σ0 23)) = (((uu q1 u1) 23, .inl (X.1, 72, .inl zI)) : Nat × va_E) := rfl
theorem E0_24 : ((ad0 q1 q2 q3 q4 q5 u1) 24, cel X (ad0 q1 q2 q3 q4 q5 u1) 24 (σ0 24)) = (((uu q1 u1) 24, .inr (2, linF (uu q1 u1) 24)) : Nat × va_E) := rfl
theorem E0_25 : ((ad0 q1 q2 q3 q4 q5 u1) 25, cel X (ad0 q1 q2 q3 q4 q5 u1) 25 (σ0 25)) = (((uu q1 u1) 25, .inl (X.1, 77, .inl zI)) : Nat × va_E) := rfl
theorem E0_26 : ((ad0 q1 q2 q3 q4 q5 u1) 26, cel X (ad0 q1 q2 q3 q4 q5 u1) 26 (σ0 26)) = (((uu q1 u1) 26, .inl (X.1, 77, .inl zI)) : Nat × va_E) := rfl
theorem E0_27 : ((ad0 q1 q2 q3 q4 q5 u1) 27, cel X (ad0 q1 q2 q3 q4 q5 u1) 27 (σ0 27)) = (((uu q1 u1) 27, .inl (X.1, 77, .inl zI)) : Nat × va_E) := rfl
theorem E0_28 : ((ad0 q1 q2 q3 q4 q5 u1) 28, cel X (ad0 q1 q2 q3 q4 q5 u1) 28 (σ0 28)) = (((uu q1 u1) 28, .inl (X.1, 77, .inl zI)) : Nat × va_E) := rfl
theorem E0_29 : ((ad0 q1 q2 q3 q4 q5 u1) 29, cel X (ad0 q1 q2 q3 q4 q5 u1) 29 (σ0 29)) = (((uu q1 u1) 29, .inl (X.1, 77, .inl zI)) : Nat × va_E) := rfl
theorem E0_30 : ((ad0 q1 q2 q3 q4 q5 u1) 30, cel X (ad0 q1 q2 q3 q4 q5 u1) 30 (σ0 30)) = (((uu q1 u1) 30, .inl (X.1, 77, .inl zI)) : Nat × va_E) := rfl
theorem E0_31 : ((ad0 q1 q2 q3 q4 q5 u1) 31, cel X (ad0 q1 q2 q3 q4 q5 u1) 31 (σ0 31)) = (((uu q1 u1) 31, .inl (X.1, 77, .inl zI)) : Nat × va_E) := rfl
theorem E0_32 : ((ad0 q1 q2 q3 q4 q5 u1) 32, cel X (ad0 q1 q2 q3 q4 q5 u1) 32 (σ0 32)) = (((uu q1 u1) 32, .inl (X.1, 77, .inl zI)) : Nat × va_E) := rfl
theorem E0_33 : ((ad0 q1 q2 q3 q4 q5 u1) 33, cel X (ad0 q1 q2 q3 q4 q5 u1) 33 (σ0 33)) = (((uu q1 u1) 33, .inl (X.1, 12, .inl zI)) : Nat × va_E) := rfl
theorem E0_34 : ((ad0 q1 q2 q3 q4 q5 u1) 34, cel X (ad0 q1 q2 q3 q4 q5 u1) 34 (σ0 34)) = (((uu q1 u1) 34, .inl (X.2.1, 5, .inl zI)) : Nat × va_E) := rfl
theorem E0_35 : ((ad0 q1 q2 q3 q4 q5 u1) 35, cel X (ad0 q1 q2 q3 q4 q5 u1) 35 (σ0 35)) = (((uu q1 u1) 35, .inr (2, linF (uu q1 u1) 35)) : Nat × va_E) := rfl
theorem E0_36 : ((ad0 q1 q2 q3 q4 q5 u1) 36, cel X (ad0 q1 q2 q3 q4 q5 u1) 36 (σ0 36)) = (((uu q1 u1) 36, .inl (X.1, 77, .inl zI)) : Nat × va_E) := rfl
theorem E0_37 : ((ad0 q1 q2 q3 q4 q5 u1) 37, cel X (ad0 q1 q2 q3 q4 q5 u1) 37 (σ0 37)) = (((uu q1 u1) 37, .inl (X.1, 77, .inl zI)) : Nat × va_E) := rfl
theorem E0_38 : ((ad0 q1 q2 q3 q4 q5 u1) 38, cel X (ad0 q1 q2 q3 q4 q5 u1) 38 (σ0 38)) = (((uu q1 u1) 38, .inl (X.1, 77, .inl zI)) : Nat × va_E) := rfl
theorem E0_39 : ((ad0 q1 q2 q3 q4 q5 u1) 39, cel X (ad0 q1 q2 q3 q4 q5 u1) 39 (σ0 39)) = (((uu q1 u1) 39, .inl (X.1, 77, .inl zI)) : Nat × va_E) := rfl
theorem E0_40 : ((ad0 q1 q2 q3 q4 q5 u1) 40, cel X (ad0 q1 q2 q3 q4 q5 u1) 40 (σ0 40)) = (((uu q1 u1) 40, .inl (X.1, 77, .inl zI)) : Nat × va_E) := rfl
theorem E0_41 : ((ad0 q1 q2 q3 q4 q5 u1) 41, cel X (ad0 q1 q2 q3 q4 q5 u1) 41 (σ0 41)) = (((uu q1 u1) 41, .inl (X.1, 77, .inl zI)) : Nat × va_E) := rfl
theorem E0_42 : ((ad0 q1 q2 q3 q4 q5 u1) 42, cel X (ad0 q1 q2 q3 q4 q5 u1) 42 (σ0 42)) = (((uu q1 u1) 42, .inl (X.1, 77, .inl zI)) : Nat × va_E) := rfl
theorem E0_43 : ((ad0 q1 q2 q3 q4 q5 u1) 43, cel X (ad0 q1 q2 q3 q4 q5 u1) 43 (σ0 43)) = (((uu q1 u1) 43, .inl (X.1, 77, .inl zI)) : Nat × va_E) := rfl
theorem E0_44 : ((ad0 q1 q2 q3 q4 q5 u1) 44, cel X (ad0 q1 q2 q3 q4 q5 u1) 44 (σ0 44)) = (((uu q1 u1) 44, .inl (X.1, 12, .inl zI)) : Nat × va_E) := rfl
theorem E0_45 : ((ad0 q1 q2 q3 q4 q5 u1) 45, cel X (ad0 q1 q2 q3 q4 q5 u1) 45 (σ0 45)) = (((uu q1 u1) 45, .inl (X.2.1, 5, .inl zI)) : Nat × va_E) := rfl
theorem E0_46 : ((ad0 q1 q2 q3 q4 q5 u1) 46, cel X (ad0 q1 q2 q3 q4 q5 u1) 46 (σ0 46)) = (((uu q1 u1) 46, .inr (0, boxF (uu q1 u1) 46)) : Nat × va_E) := rfl
theorem E0_47 : ((ad0 q1 q2 q3 q4 q5 u1) 47, cel X (ad0 q1 q2 q3 q4 q5 u1) 47 (σ0 47)) = (((uu q1 u1) 47, .inr (3, mapF (uu q1 u1) 47)) : Nat × va_E) := rfl
theorem E0_48 : ((ad0 q1 q2 q3 q4 q5 u1) 48, cel X (ad0 q1 q2 q3 q4 q5 u1) 48 (σ0 48)) = (((uu q1 u1) 48, .inl (X.1, 40, .inl zI)) : Nat × va_E) := rfl
theorem E0_49 : ((ad0 q1 q2 q3 q4 q5 u1) 49, cel X (ad0 q1 q2 q3 q4 q5 u1) 49 (σ0 49)) = (((uu q1 u1) 49, .inl (X.1, 40, .inl zI)) : Nat × va_E) := rfl
theorem E0_50 : ((ad0 q1 q2 q3 q4 q5 u1) 50, cel X (ad0 q1 q2 q3 q4 q5 u1) 50 (σ0 50)) = (((uu q1 u1) 50, .inl (X.1, 40, .inl zI)) : Nat × va_E) := rfl
theorem E0_51 : ((ad0 q1 q2 q3 q4 q5 u1) 51, cel X (ad0 q1 q2 q3 q4 q5 u1) 51 (σ0 51)) = (((uu q1 u1) 51, .inl (X.1, 40, .inl zI)) : Nat × va_E) := rfl
theorem E0_52 : ((ad0 q1 q2 q3 q4 q5 u1) 52, cel X (ad0 q1 q2 q3 q4 q5 u1) 52 (σ0 52)) = (((uu q1 u1) 52, .inl (X.1, 40, .inl zI)) : Nat × va_E) := rfl
theorem E0_53 : ((ad0 q1 q2 q3 q4 q5 u1) 53, cel X (ad0 q1 q2 q3 q4 q5 u1) 53 (σ0 53)) = (((uu q1 u1) 53, .inl (X.1, 12, .inl (fun j : Nat => iI (vRank j)))) : Nat × va_E) := rfl
theorem E0_54 : ((ad0 q1 q2 q3 q4 q5 u1) 54, cel X (ad0 q1 q2 q3 q4 q5 u1) 54 (σ0 54)) = (((uu q1 u1) 54, .inl (X.1, 12, .inl (fun j : Nat => iI (vGroup j)))) : Nat × va_E) := rfl
theorem E0_55 : ((ad0 q1 q2 q3 q4 q5 u1) 55, cel X (ad0 q1 q2 q3 q4 q5 u1) 55 (σ0 55)) = (((uu q1 u1) 55, .inl (X.1, 12, .inl zI)) : Nat × va_E) := rfl
theorem E0_56 : ((ad0 q1 q2 q3 q4 q5 u1) 56, cel X (ad0 q1 q2 q3 q4 q5 u1) 56 (σ0 56)) = (((uu q1 u1) 56, .inl (X.1, 60, .inl zI)) : Nat × va_E) := rfl
theorem E0_57 : ((ad0 q1 q2 q3 q4 q5 u1) 57, cel X (ad0 q1 q2 q3 q4 q5 u1) 57 (σ0 57)) = (((uu q1 u1) 57, .inl (X.1, 5, .inl zI)) : Nat × va_E) := rfl
theorem E0_58 : ((ad0 q1 q2 q3 q4 q5 u1) 58, cel X (ad0 q1 q2 q3 q4 q5 u1) 58 (σ0 58)) = (((uu q1 u1) 58, .inl (X.1, 5, .inl (fun j : Nat => iI (vWin j)))) : Nat × va_E) := rfl
theorem E0_59 : ((ad0 q1 q2 q3 q4 q5 u1) 59, cel X (ad0 q1 q2 q3 q4 q5 u1) 59 (σ0 59)) = (((uu q1 u1) 59, .inl (X.1, 4, .inl (fun j : Nat => iI (vSet j)))) : Nat × va_E) := rfl
theorem E0_60 : ((ad0 q1 q2 q3 q4 q5 u1) 60, cel X (ad0 q1 q2 q3 q4 q5 u1) 60 (σ0 60)) = (((uu q1 u1) 60, .inr (1, legF (uu q1 u1) 60)) : Nat × va_E) := rfl
theorem E0_61 : ((ad0 q1 q2 q3 q4 q5 u1) 61, cel X (ad0 q1 q2 q3 q4 q5 u1) 61 (σ0 61)) = (((uu q1 u1) 61, .inl (X.2.1, 40, .inl zI)) : Nat × va_E) := rfl
theorem E0_62 : ((ad0 q1 q2 q3 q4 q5 u1) 62, cel X (ad0 q1 q2 q3 q4 q5 u1) 62 (σ0 62)) = (((uu q1 u1) 62, .inl (X.2.1, 40, .inl zI)) : Nat × va_E) := rfl
theorem E0_63 : ((ad0 q1 q2 q3 q4 q5 u1) 63, cel X (ad0 q1 q2 q3 q4 q5 u1) 63 (σ0 63)) = (((uu q1 u1) 63, .inr (4, rngF (uu q1 u1) 63)) : Nat × va_E) := rfl
theorem E0_64 : ((ad0 q1 q2 q3 q4 q5 u1) 64, cel X (ad0 q1 q2 q3 q4 q5 u1) 64 (σ0 64)) = (((uu q1 u1) 64, .inl (X.1, 12, .inl zI)) : Nat × va_E) := rfl
theorem E0_65 : ((ad0 q1 q2 q3 q4 q5 u1) 65, cel X (ad0 q1 q2 q3 q4 q5 u1) 65 (σ0 65)) = (((uu q1 u1) 65, .inl (X.1, 72, .inl zI)) : Nat × va_E) := rfl
theorem E0_66 : ((ad0 q1 q2 q3 q4 q5 u1) 66, cel X (ad0 q1 q2 q3 q4 q5 u1) 66 (σ0 66)) = (((uu q1 u1) 66, .inl (X.1, 12, .inl zI)) : Nat × va_E) := rfl
theorem E0_67 : ((ad0 q1 q2 q3 q4 q5 u1) 67, cel X (ad0 q1 q2 q3 q4 q5 u1) 67 (σ0 67)) = (((uu q1 u1) 67, .inl (X.1, 72, .inl zI)) : Nat × va_E) := rfl
theorem E0_68 : ((ad0 q1 q2 q3 q4 q5 u1) 68, cel X (ad0 q1 q2 q3 q4 q5 u1) 68 (σ0 68)) = (((uu q1 u1) 68, .inl (X.1, 72, .inl zI)) : Nat × va_E) := rfl
theorem E0_69 : ((ad0 q1 q2 q3 q4 q5 u1) 69, cel X (ad0 q1 q2 q3 q4 q5 u1) 69 (σ0 69)) = (((uu q1 u1) 69, .inl (X.1, 72, .inl zI)) : Nat × va_E) := rfl
theorem E0_70 : ((ad0 q1 q2 q3 q4 q5 u1) 70, cel X (ad0 q1 q2 q3 q4 q5 u1) 70 (σ0 70)) = (((uu q1 u1) 70, .inr (2, linF (uu q1 u1) 70)) : Nat × va_E) := rfl
theorem E0_71 : ((ad0 q1 q2 q3 q4 q5 u1) 71, cel X (ad0 q1 q2 q3 q4 q5 u1) 71 (σ0 71)) = (((uu q1 u1) 71, .inl (X.1, 77, .inl zI)) : Nat × va_E) := rfl
theorem E0_72 : ((ad0 q1 q2 q3 q4 q5 u1) 72, cel X (ad0 q1 q2 q3 q4 q5 u1) 72 (σ0 72)) = (((uu q1 u1) 72, .inl (X.1, 77, .inl zI)) : Nat × va_E) := rfl
theorem E0_73 : ((ad0 q1 q2 q3 q4 q5 u1) 73, cel X (ad0 q1 q2 q3 q4 q5 u1) 73 (σ0 73)) = (((uu q1 u1) 73, .inl (X.1, 77, .inl zI)) : Nat × va_E) := rfl
theorem E0_74 : ((ad0 q1 q2 q3 q4 q5 u1) 74, cel X (ad0 q1 q2 q3 q4 q5 u1) 74 (σ0 74)) = (((uu q1 u1) 74, .inl (X.1, 77, .inl zI)) : Nat × va_E) := rfl
theorem E0_75 : ((ad0 q1 q2 q3 q4 q5 u1) 75, cel X (ad0 q1 q2 q3 q4 q5 u1) 75 (σ0 75)) = (((uu q1 u1) 75, .inl (X.1, 77, .inl zI)) : Nat × va_E) := rfl
theorem E0_76 : ((ad0 q1 q2 q3 q4 q5 u1) 76, cel X (ad0 q1 q2 q3 q4 q5 u1) 76 (σ0 76)) = (((uu q1 u1) 76, .inl (X.1, 77, .inl zI)) : Nat × va_E) := rfl
theorem E0_77 : ((ad0 q1 q2 q3 q4 q5 u1) 77, cel X (ad0 q1 q2 q3 q4 q5 u1) 77 (σ0 77)) = (((uu q1 u1) 77, .inl (X.1, 77, .inl zI)) : Nat × va_E) := rfl
theorem E0_78 : ((ad0 q1 q2 q3 q4 q5 u1) 78, cel X (ad0 q1 q2 q3 q4 q5 u1) 78 (σ0 78)) = (((uu q1 u1) 78, .inl (X.1, 77, .inl zI)) : Nat × va_E) := rfl
theorem E0_79 : ((ad0 q1 q2 q3 q4 q5 u1) 79, cel X (ad0 q1 q2 q3 q4 q5 u1) 79 (σ0 79)) = (((uu q1 u1) 79, .inl (X.1, 12, .inl zI)) : Nat × va_E) := rfl
theorem E0_80 : ((ad0 q1 q2 q3 q4 q5 u1) 80, cel X (ad0 q1 q2 q3 q4 q5 u1) 80 (σ0 80)) = (((uu q1 u1) 80, .inl (X.2.1, 5, .inl zI)) : Nat × va_E) := rfl
theorem E0_81 : ((ad0 q1 q2 q3 q4 q5 u1) 81, cel X (ad0 q1 q2 q3 q4 q5 u1) 81 (σ0 81)) = (((uu q1 u1) 81, .inr (2, linF (uu q1 u1) 81)) : Nat × va_E) := rfl
theorem E0_82 : ((ad0 q1 q2 q3 q4 q5 u1) 82, cel X (ad0 q1 q2 q3 q4 q5 u1) 82 (σ0 82)) = (((uu q1 u1) 82, .inl (X.1, 77, .inl zI)) : Nat × va_E) := rfl
theorem E0_83 : ((ad0 q1 q2 q3 q4 q5 u1) 83, cel X (ad0 q1 q2 q3 q4 q5 u1) 83 (σ0 83)) = (((uu q1 u1) 83, .inl (X.1, 77, .inl zI)) : Nat × va_E) := rfl
theorem E0_84 : ((ad0 q1 q2 q3 q4 q5 u1) 84, cel X (ad0 q1 q2 q3 q4 q5 u1) 84 (σ0 84)) = (((uu q1 u1) 84, .inl (X.1, 77, .inl zI)) : Nat × va_E) := rfl
theorem E0_85 : ((ad0 q1 q2 q3 q4 q5 u1) 85, cel X (ad0 q1 q2 q3 q4 q5 u1) 85 (σ0 85)) = (((uu q1 u1) 85, .inl (X.1, 77, .inl zI)) : Nat × va_E) := rfl
theorem E0_86 : ((ad0 q1 q2 q3 q4 q5 u1) 86, cel X (ad0 q1 q2 q3 q4 q5 u1) 86 (σ0 86)) = (((uu q1 u1) 86, .inl (X.1, 77, .inl zI)) : Nat × va_E) := rfl
theorem E0_87 : ((ad0 q1 q2 q3 q4 q5 u1) 87, cel X (ad0 q1 q2 q3 q4 q5 u1) 87 (σ0 87)) = (((uu q1 u1) 87, .inl (X.1, 77, .inl zI)) : Nat × va_E) := rfl
theorem E0_88 : ((ad0 q1 q2 q3 q4 q5 u1) 88, cel X (ad0 q1 q2 q3 q4 q5 u1) 88 (σ0 88)) = (((uu q1 u1) 88, .inl (X.1, 77, .inl zI)) : Nat × va_E) := rfl
theorem E0_89 : ((ad0 q1 q2 q3 q4 q5 u1) 89, cel X (ad0 q1 q2 q3 q4 q5 u1) 89 (σ0 89)) = (((uu q1 u1) 89, .inl (X.1, 77, .inl zI)) : Nat × va_E) := rfl
theorem E0_90 : ((ad0 q1 q2 q3 q4 q5 u1) 90, cel X (ad0 q1 q2 q3 q4 q5 u1) 90 (σ0 90)) = (((uu q1 u1) 90, .inl (X.1, 12, .inl zI)) : Nat × va_E) := rfl
theorem E0_91 : ((ad0 q1 q2 q3 q4 q5 u1) 91, cel X (ad0 q1 q2 q3 q4 q5 u1) 91 (σ0 91)) = (((uu q1 u1) 91, .inl (X.2.1, 5, .inl zI)) : Nat × va_E) := rfl
theorem E0_92 : ((ad0 q1 q2 q3 q4 q5 u1) 92, cel X (ad0 q1 q2 q3 q4 q5 u1) 92 (σ0 92)) = (((uu q1 u1) 92, .inr (0, boxF (uu q1 u1) 92)) : Nat × va_E) := rfl
theorem E0_93 : ((ad0 q1 q2 q3 q4 q5 u1) 93, cel X (ad0 q1 q2 q3 q4 q5 u1) 93 (σ0 93)) = (((uu q1 u1) 93, .inr (5, txtF (uu q1 u1) 93)) : Nat × va_E) := rfl
theorem E0_94 : ((ad0 q1 q2 q3 q4 q5 u1) 94, cel X (ad0 q1 q2 q3 q4 q5 u1) 94 (σ0 94)) = (((uu q1 u1) 94, .inl (X.1, 160, .inl zI)) : Nat × va_E) := rfl
theorem E0_95 : ((ad0 q1 q2 q3 q4 q5 u1) 95, cel X (ad0 q1 q2 q3 q4 q5 u1) 95 (σ0 95)) = (((uu q1 u1) 95, .inr (3, mapF (uu q1 u1) 95)) : Nat × va_E) := rfl
theorem E0_96 : ((ad0 q1 q2 q3 q4 q5 u1) 96, cel X (ad0 q1 q2 q3 q4 q5 u1) 96 (σ0 96)) = (((uu q1 u1) 96, .inl (X.1, 40, .inl zI)) : Nat × va_E) := rfl
theorem E0_97 : ((ad0 q1 q2 q3 q4 q5 u1) 97, cel X (ad0 q1 q2 q3 q4 q5 u1) 97 (σ0 97)) = (((uu q1 u1) 97, .inl (X.1, 40, .inl zI)) : Nat × va_E) := rfl
theorem E0_98 : ((ad0 q1 q2 q3 q4 q5 u1) 98, cel X (ad0 q1 q2 q3 q4 q5 u1) 98 (σ0 98)) = (((uu q1 u1) 98, .inl (X.1, 40, .inl zI)) : Nat × va_E) := rfl
theorem E0_99 : ((ad0 q1 q2 q3 q4 q5 u1) 99, cel X (ad0 q1 q2 q3 q4 q5 u1) 99 (σ0 99)) = (((uu q1 u1) 99, .inl (X.1, 40, .inl zI)) : Nat × va_E) := rfl
theorem E0_100 : ((ad0 q1 q2 q3 q4 q5 u1) 100, cel X (ad0 q1 q2 q3 q4 q5 u1) 100 (σ0 100)) = (((uu q1 u1) 100, .inl (X.1, 40, .inl zI)) : Nat × va_E) := rfl
theorem E0_101 : ((ad0 q1 q2 q3 q4 q5 u1) 101, cel X (ad0 q1 q2 q3 q4 q5 u1) 101 (σ0 101)) = (((uu q1 u1) 101, .inl (X.1, 12, .inl (fun j : Nat => iI (vRank j)))) : Nat × va_E) := rfl
theorem E0_102 : ((ad0 q1 q2 q3 q4 q5 u1) 102, cel X (ad0 q1 q2 q3 q4 q5 u1) 102 (σ0 102)) = (((uu q1 u1) 102, .inl (X.1, 12, .inl (fun j : Nat => iI (vGroup j)))) : Nat × va_E) := rfl
theorem E0_103 : ((ad0 q1 q2 q3 q4 q5 u1) 103, cel X (ad0 q1 q2 q3 q4 q5 u1) 103 (σ0 103)) = (((uu q1 u1) 103, .inl (X.1, 12, .inl zI)) : Nat × va_E) := rfl
theorem E0_104 : ((ad0 q1 q2 q3 q4 q5 u1) 104, cel X (ad0 q1 q2 q3 q4 q5 u1) 104 (σ0 104)) = (((uu q1 u1) 104, .inl (X.1, 60, .inl zI)) : Nat × va_E) := rfl
theorem E0_105 : ((ad0 q1 q2 q3 q4 q5 u1) 105, cel X (ad0 q1 q2 q3 q4 q5 u1) 105 (σ0 105)) = (((uu q1 u1) 105, .inl (X.1, 5, .inl zI)) : Nat × va_E) := rfl
theorem E0_106 : ((ad0 q1 q2 q3 q4 q5 u1) 106, cel X (ad0 q1 q2 q3 q4 q5 u1) 106 (σ0 106)) = (((uu q1 u1) 106, .inl (X.1, 5, .inl (fun j : Nat => iI (vWin j)))) : Nat × va_E) := rfl
theorem E0_107 : ((ad0 q1 q2 q3 q4 q5 u1) 107, cel X (ad0 q1 q2 q3 q4 q5 u1) 107 (σ0 107)) = (((uu q1 u1) 107, .inl (X.1, 4, .inl (fun j : Nat => iI (vSet j)))) : Nat × va_E) := rfl
theorem E0_109 : ((ad0 q1 q2 q3 q4 q5 u1) 109, cel X (ad0 q1 q2 q3 q4 q5 u1) 109 (σ0 109)) = (((uu q1 u1) 109, .inr (3, mapF (uu q1 u1) 109)) : Nat × va_E) := rfl
theorem E0_110 : ((ad0 q1 q2 q3 q4 q5 u1) 110, cel X (ad0 q1 q2 q3 q4 q5 u1) 110 (σ0 110)) = (((uu q1 u1) 110, .inl (X.1, 40, .inl zI)) : Nat × va_E) := rfl
theorem E0_111 : ((ad0 q1 q2 q3 q4 q5 u1) 111, cel X (ad0 q1 q2 q3 q4 q5 u1) 111 (σ0 111)) = (((uu q1 u1) 111, .inl (X.1, 40, .inl zI)) : Nat × va_E) := rfl
theorem E0_112 : ((ad0 q1 q2 q3 q4 q5 u1) 112, cel X (ad0 q1 q2 q3 q4 q5 u1) 112 (σ0 112)) = (((uu q1 u1) 112, .inl (X.1, 40, .inl zI)) : Nat × va_E) := rfl
theorem E0_113 : ((ad0 q1 q2 q3 q4 q5 u1) 113, cel X (ad0 q1 q2 q3 q4 q5 u1) 113 (σ0 113)) = (((uu q1 u1) 113, .inl (X.1, 40, .inl zI)) : Nat × va_E) := rfl
theorem E0_114 : ((ad0 q1 q2 q3 q4 q5 u1) 114, cel X (ad0 q1 q2 q3 q4 q5 u1) 114 (σ0 114)) = (((uu q1 u1) 114, .inl (X.1, 40, .inl zI)) : Nat × va_E) := rfl
theorem E0_115 : ((ad0 q1 q2 q3 q4 q5 u1) 115, cel X (ad0 q1 q2 q3 q4 q5 u1) 115 (σ0 115)) = (((uu q1 u1) 115, .inl (X.1, 12, .inl (fun j : Nat => iI (vRank j)))) : Nat × va_E) := rfl
theorem E0_116 : ((ad0 q1 q2 q3 q4 q5 u1) 116, cel X (ad0 q1 q2 q3 q4 q5 u1) 116 (σ0 116)) = (((uu q1 u1) 116, .inl (X.1, 12, .inl (fun j : Nat => iI (vGroup j)))) : Nat × va_E) := rfl
theorem E0_117 : ((ad0 q1 q2 q3 q4 q5 u1) 117, cel X (ad0 q1 q2 q3 q4 q5 u1) 117 (σ0 117)) = (((uu q1 u1) 117, .inl (X.1, 12, .inl zI)) : Nat × va_E) := rfl
theorem E0_118 : ((ad0 q1 q2 q3 q4 q5 u1) 118, cel X (ad0 q1 q2 q3 q4 q5 u1) 118 (σ0 118)) = (((uu q1 u1) 118, .inl (X.1, 60, .inl zI)) : Nat × va_E) := rfl
theorem E0_119 : ((ad0 q1 q2 q3 q4 q5 u1) 119, cel X (ad0 q1 q2 q3 q4 q5 u1) 119 (σ0 119)) = (((uu q1 u1) 119, .inl (X.1, 5, .inl zI)) : Nat × va_E) := rfl
theorem E0_120 : ((ad0 q1 q2 q3 q4 q5 u1) 120, cel X (ad0 q1 q2 q3 q4 q5 u1) 120 (σ0 120)) = (((uu q1 u1) 120, .inl (X.1, 5, .inl (fun j : Nat => iI (vWin j)))) : Nat × va_E) := rfl
theorem E0_121 : ((ad0 q1 q2 q3 q4 q5 u1) 121, cel X (ad0 q1 q2 q3 q4 q5 u1) 121 (σ0 121)) = (((uu q1 u1) 121, .inl (X.1, 4, .inl (fun j : Nat => iI (vSet j)))) : Nat × va_E) := rfl
theorem E0_122 : ((ad0 q1 q2 q3 q4 q5 u1) 122, cel X (ad0 q1 q2 q3 q4 q5 u1) 122 (σ0 122)) = (((uu q1 u1) 122, .inr (3, mapF (uu q1 u1) 122)) : Nat × va_E) := rfl
theorem E0_123 : ((ad0 q1 q2 q3 q4 q5 u1) 123, cel X (ad0 q1 q2 q3 q4 q5 u1) 123 (σ0 123)) = (((uu q1 u1) 123, .inl (X.1, 40, .inl zI)) : Nat × va_E) := rfl
theorem E0_124 : ((ad0 q1 q2 q3 q4 q5 u1) 124, cel X (ad0 q1 q2 q3 q4 q5 u1) 124 (σ0 124)) = (((uu q1 u1) 124, .inl (X.1, 40, .inl zI)) : Nat × va_E) := rfl
theorem E0_125 : ((ad0 q1 q2 q3 q4 q5 u1) 125, cel X (ad0 q1 q2 q3 q4 q5 u1) 125 (σ0 125)) = (((uu q1 u1) 125, .inl (X.1, 40, .inl zI)) : Nat × va_E) := rfl
theorem E0_126 : ((ad0 q1 q2 q3 q4 q5 u1) 126, cel X (ad0 q1 q2 q3 q4 q5 u1) 126 (σ0 126)) = (((uu q1 u1) 126, .inl (X.1, 40, .inl zI)) : Nat × va_E) := rfl
theorem E0_127 : ((ad0 q1 q2 q3 q4 q5 u1) 127, cel X (ad0 q1 q2 q3 q4 q5 u1) 127 (σ0 127)) = (((uu q1 u1) 127, .inl (X.1, 40, .inl zI)) : Nat × va_E) := rfl
theorem E0_128 : ((ad0 q1 q2 q3 q4 q5 u1) 128, cel X (ad0 q1 q2 q3 q4 q5 u1) 128 (σ0 128)) = (((uu q1 u1) 128, .inl (X.1, 12, .inl (fun j : Nat => iI (vRank j)))) : Nat × va_E) := rfl
theorem E0_129 : ((ad0 q1 q2 q3 q4 q5 u1) 129, cel X (ad0 q1 q2 q3 q4 q5 u1) 129 (σ0 129)) = (((uu q1 u1) 129, .inl (X.1, 12, .inl (fun j : Nat => iI (vGroup j)))) : Nat × va_E) := rfl
theorem E0_130 : ((ad0 q1 q2 q3 q4 q5 u1) 130, cel X (ad0 q1 q2 q3 q4 q5 u1) 130 (σ0 130)) = (((uu q1 u1) 130, .inl (X.1, 12, .inl zI)) : Nat × va_E) := rfl
theorem E0_131 : ((ad0 q1 q2 q3 q4 q5 u1) 131, cel X (ad0 q1 q2 q3 q4 q5 u1) 131 (σ0 131)) = (((uu q1 u1) 131, .inl (X.1, 60, .inl zI)) : Nat × va_E) := rfl
theorem E0_132 : ((ad0 q1 q2 q3 q4 q5 u1) 132, cel X (ad0 q1 q2 q3 q4 q5 u1) 132 (σ0 132)) = (((uu q1 u1) 132, .inl (X.1, 5, .inl zI)) : Nat × va_E) := rfl
theorem E0_133 : ((ad0 q1 q2 q3 q4 q5 u1) 133, cel X (ad0 q1 q2 q3 q4 q5 u1) 133 (σ0 133)) = (((uu q1 u1) 133, .inl (X.1, 5, .inl (fun j : Nat => iI (vWin j)))) : Nat × va_E) := rfl
theorem E0_134 : ((ad0 q1 q2 q3 q4 q5 u1) 134, cel X (ad0 q1 q2 q3 q4 q5 u1) 134 (σ0 134)) = (((uu q1 u1) 134, .inl (X.1, 4, .inl (fun j : Nat => iI (vSet j)))) : Nat × va_E) := rfl
theorem E0_135 : ((ad0 q1 q2 q3 q4 q5 u1) 135, cel X (ad0 q1 q2 q3 q4 q5 u1) 135 (σ0 135)) = (((uu q1 u1) 135, .inr (3, mapF (uu q1 u1) 135)) : Nat × va_E) := rfl
theorem E0_136 : ((ad0 q1 q2 q3 q4 q5 u1) 136, cel X (ad0 q1 q2 q3 q4 q5 u1) 136 (σ0 136)) = (((uu q1 u1) 136, .inl (X.1, 40, .inl zI)) : Nat × va_E) := rfl
theorem E0_137 : ((ad0 q1 q2 q3 q4 q5 u1) 137, cel X (ad0 q1 q2 q3 q4 q5 u1) 137 (σ0 137)) = (((uu q1 u1) 137, .inl (X.1, 40, .inl zI)) : Nat × va_E) := rfl
theorem E0_138 : ((ad0 q1 q2 q3 q4 q5 u1) 138, cel X (ad0 q1 q2 q3 q4 q5 u1) 138 (σ0 138)) = (((uu q1 u1) 138, .inl (X.1, 40, .inl zI)) : Nat × va_E) := rfl
theorem E0_139 : ((ad0 q1 q2 q3 q4 q5 u1) 139, cel X (ad0 q1 q2 q3 q4 q5 u1) 139 (σ0 139)) = (((uu q1 u1) 139, .inl (X.1, 40, .inl zI)) : Nat × va_E) := rfl
theorem E0_140 : ((ad0 q1 q2 q3 q4 q5 u1) 140, cel X (ad0 q1 q2 q3 q4 q5 u1) 140 (σ0 140)) = (((uu q1 u1) 140, .inl (X.1, 40, .inl zI)) : Nat × va_E) := rfl
theorem E0_141 : ((ad0 q1 q2 q3 q4 q5 u1) 141, cel X (ad0 q1 q2 q3 q4 q5 u1) 141 (σ0 141)) = (((uu q1 u1) 141, .inl (X.1, 12, .inl (fun j : Nat => iI (vRank j)))) : Nat × va_E) := rfl
theorem E0_142 : ((ad0 q1 q2 q3 q4 q5 u1) 142, cel X (ad0 q1 q2 q3 q4 q5 u1) 142 (σ0 142)) = (((uu q1 u1) 142, .inl (X.1, 12, .inl (fun j : Nat => iI (vGroup j)))) : Nat × va_E) := rfl
theorem E0_143 : ((ad0 q1 q2 q3 q4 q5 u1) 143, cel X (ad0 q1 q2 q3 q4 q5 u1) 143 (σ0 143)) = (((uu q1 u1) 143, .inl (X.1, 12, .inl zI)) : Nat × va_E) := rfl
theorem E0_144 : ((ad0 q1 q2 q3 q4 q5 u1) 144, cel X (ad0 q1 q2 q3 q4 q5 u1) 144 (σ0 144)) = (((uu q1 u1) 144, .inl (X.1, 60, .inl zI)) : Nat × va_E) := rfl
theorem E0_145 : ((ad0 q1 q2 q3 q4 q5 u1) 145, cel X (ad0 q1 q2 q3 q4 q5 u1) 145 (σ0 145)) = (((uu q1 u1) 145, .inl (X.1, 5, .inl zI)) : Nat × va_E) := rfl
theorem E0_146 : ((ad0 q1 q2 q3 q4 q5 u1) 146, cel X (ad0 q1 q2 q3 q4 q5 u1) 146 (σ0 146)) = (((uu q1 u1) 146, .inl (X.1, 5, .inl (fun j : Nat => iI (vWin j)))) : Nat × va_E) := rfl
theorem E0_147 : ((ad0 q1 q2 q3 q4 q5 u1) 147, cel X (ad0 q1 q2 q3 q4 q5 u1) 147 (σ0 147)) = (((uu q1 u1) 147, .inl (X.1, 4, .inl (fun j : Nat => iI (vSet j)))) : Nat × va_E) := rfl
theorem E0_148 : ((ad0 q1 q2 q3 q4 q5 u1) 148, cel X (ad0 q1 q2 q3 q4 q5 u1) 148 (σ0 148)) = (((uu q1 u1) 148, .inr (3, mapF (uu q1 u1) 148)) : Nat × va_E) := rfl
theorem E0_149 : ((ad0 q1 q2 q3 q4 q5 u1) 149, cel X (ad0 q1 q2 q3 q4 q5 u1) 149 (σ0 149)) = (((uu q1 u1) 149, .inl (X.1, 40, .inl zI)) : Nat × va_E) := rfl
theorem E0_150 : ((ad0 q1 q2 q3 q4 q5 u1) 150, cel X (ad0 q1 q2 q3 q4 q5 u1) 150 (σ0 150)) = (((uu q1 u1) 150, .inl (X.1, 40, .inl zI)) : Nat × va_E) := rfl
theorem E0_151 : ((ad0 q1 q2 q3 q4 q5 u1) 151, cel X (ad0 q1 q2 q3 q4 q5 u1) 151 (σ0 151)) = (((uu q1 u1) 151, .inl (X.1, 40, .inl zI)) : Nat × va_E) := rfl
theorem E0_152 : ((ad0 q1 q2 q3 q4 q5 u1) 152, cel X (ad0 q1 q2 q3 q4 q5 u1) 152 (σ0 152)) = (((uu q1 u1) 152, .inl (X.1, 40, .inl zI)) : Nat × va_E) := rfl
theorem E0_153 : ((ad0 q1 q2 q3 q4 q5 u1) 153, cel X (ad0 q1 q2 q3 q4 q5 u1) 153 (σ0 153)) = (((uu q1 u1) 153, .inl (X.1, 40, .inl zI)) : Nat × va_E) := rfl
theorem E0_154 : ((ad0 q1 q2 q3 q4 q5 u1) 154, cel X (ad0 q1 q2 q3 q4 q5 u1) 154 (σ0 154)) = (((uu q1 u1) 154, .inl (X.1, 12, .inl (fun j : Nat => iI (vRank j)))) : Nat × va_E) := rfl
theorem E0_155 : ((ad0 q1 q2 q3 q4 q5 u1) 155, cel X (ad0 q1 q2 q3 q4 q5 u1) 155 (σ0 155)) = (((uu q1 u1) 155, .inl (X.1, 12, .inl (fun j : Nat => iI (vGroup j)))) : Nat × va_E) := rfl
theorem E0_156 : ((ad0 q1 q2 q3 q4 q5 u1) 156, cel X (ad0 q1 q2 q3 q4 q5 u1) 156 (σ0 156)) = (((uu q1 u1) 156, .inl (X.1, 12, .inl zI)) : Nat × va_E) := rfl
theorem E0_157 : ((ad0 q1 q2 q3 q4 q5 u1) 157, cel X (ad0 q1 q2 q3 q4 q5 u1) 157 (σ0 157)) = (((uu q1 u1) 157, .inl (X.1, 60, .inl zI)) : Nat × va_E) := rfl
theorem E0_158 : ((ad0 q1 q2 q3 q4 q5 u1) 158, cel X (ad0 q1 q2 q3 q4 q5 u1) 158 (σ0 158)) = (((uu q1 u1) 158, .inl (X.1, 5, .inl zI)) : Nat × va_E) := rfl
theorem E0_159 : ((ad0 q1 q2 q3 q4 q5 u1) 159, cel X (ad0 q1 q2 q3 q4 q5 u1) 159 (σ0 159)) = (((uu q1 u1) 159, .inl (X.1, 5, .inl (fun j : Nat => iI (vWin j)))) : Nat × va_E) := rfl
theorem E0_160 : ((ad0 q1 q2 q3 q4 q5 u1) 160, cel X (ad0 q1 q2 q3 q4 q5 u1) 160 (σ0 160)) = (((uu q1 u1) 160, .inl (X.1, 4, .inl (fun j : Nat => iI (vSet j)))) : Nat × va_E) := rfl
theorem E0_161 : ((ad0 q1 q2 q3 q4 q5 u1) 161, cel X (ad0 q1 q2 q3 q4 q5 u1) 161 (σ0 161)) = ((q2, .inl (X.1, 15, .inl zI)) : Nat × va_E) := rfl
theorem E0_162 : ((ad0 q1 q2 q3 q4 q5 u1) 162, cel X (ad0 q1 q2 q3 q4 q5 u1) 162 (σ0 162)) = ((q3, .inl (X.1, 32, .inl zI)) : Nat × va_E) := rfl
theorem E0_163 : ((ad0 q1 q2 q3 q4 q5 u1) 163, cel X (ad0 q1 q2 q3 q4 q5 u1) 163 (σ0 163)) = ((q4, .inl (X.1, 60, .inl zI)) : Nat × va_E) := rfl
theorem E0_164 : ((ad0 q1 q2 q3 q4 q5 u1) 164, cel X (ad0 q1 q2 q3 q4 q5 u1) 164 (σ0 164)) = ((q5, .inl (X.1, 64, .inl zI)) : Nat × va_E) := rfl
theorem r108 : List.range 108 = [0, 1, 2, 3, 4, 5, 6, 7, 8, 9, 10, 11, 12, 13, 14, 15, 16, 17, 18, 19, 20, 21, 22, 23, 24, 25, 26, 27, 28, 29, 30, 31, 32, 33, 34, 35, 36, 37, 38, 39, 40, 41, 42, 43, 44, 45, 46, 47, 48, 49, 50, 51, 52, 53, 54, 55, 56, 57, 58, 59, 60, 61, 62, 63, 64, 65, 66, 67, 68, 69, 70, 71, 72, 73, 74, 75, 76, 77, 78, 79, 80, 81, 82, 83, 84, 85, 86, 87, 88, 89, 90, 91, 92, 93, 94, 95, 96, 97, 98, 99, 100, 101, 102, 103, 104, 105, 106, 107] := by decide +kernel
theorem r56 : (List.range 56).map (fun j => 109 + j) = [109, 110, 111, 112, 113, 114, 115, 116, 117, 118, 119, 120, 121, 122, 123, 124, 125, 126, 127, 128, 129, 130, 131, 132, 133, 134, 135, 136, 137, 138, 139, 140, 141, 142, 143, 144, 145, 146, 147, 148, 149, 150, 151, 152, 153, 154, 155, 156, 157, 158, 159, 160, 161, 162, 163, 164] := by decide +kernel
theorem r165 : List.range 165 = List.range 108 ++ 108 :: (List.range 56).map (fun j => 109 + j) := by decide +kernel
set_option maxRecDepth 100000 in
theorem wlo_eq : (List.range 108).map (fun k => ((ad0 q1 q2 q3 q4 q5 u1) k, cel X (ad0 q1 q2 q3 q4 q5 u1) k (σ0 k))) = [(((uu q1 u1) 0, .inr (6, slF (uu q1 u1) 0)) : Nat × va_E), (((uu q1 u1) 1, .inr (3, mapF (uu q1 u1) 1)) : Nat × va_E), (((uu q1 u1) 2, .inl (X.1, 40, .inl zI)) : Nat × va_E), (((uu q1 u1) 3, .inl (X.1, 40, .inl zI)) : Nat × va_E), (((uu q1 u1) 4, .inl (X.1, 40, .inl zI)) : Nat × va_E), (((uu q1 u1) 5, .inl (X.1, 40, .inl zI)) : Nat × va_E), (((uu q1 u1) 6, .inl (X.1, 40, .inl zI)) : Nat × va_E), (((uu q1 u1) 7, .inl (X.1, 12, .inl (fun j : Nat => iI (vRank j)))) : Nat × va_E), (((uu q1 u1) 8, .inl (X.1, 12, .inl (fun j : Nat => iI (vGroup j)))) : Nat × va_E), (((uu q1 u1) 9, .inl (X.1, 12, .inl zI)) : Nat × va_E), (((uu q1 u1) 10, .inl (X.1, 60, .inl zI)) : Nat × va_E), (((uu q1 u1) 11, .inl (X.1, 5, .inl zI)) : Nat × va_E), (((uu q1 u1) 12, .inl (X.1, 5, .inl (fun j : Nat => iI (vWin j)))) : Nat × va_E), (((uu q1 u1) 13, .inl (X.1, 4, .inl (fun j : Nat => iI (vSet j)))) : Nat × va_E), (((uu q1 u1) 14, .inr (1, legF (uu q1 u1) 14)) : Nat × va_E), (((uu q1 u1) 15, .inl (X.2.1, 40, .inl zI)) : Nat × va_E), (((uu q1 u1) 16, .inl (X.2.1, 40, .inl zI)) : Nat × va_E), (((uu q1 u1) 17, .inr (4, rngF (uu q1 u1) 17)) : Nat × va_E), (((uu q1 u1) 18, .inl (X.1, 12, .inl zI)) : Nat × va_E), (((uu q1 u1) 19, .inl (X.1, 72, .inl zI)) : Nat × va_E), (((uu q1 u1) 20, .inl (X.1, 12, .inl zI)) : Nat × va_E), (((uu q1 u1) 21, .inl (X.1, 72, .inl zI)) : Nat × va_E), (((uu q1 u1) 22, .inl (X.1, 72, .inl zI)) : Nat × va_E), (((uu q1 u1) 23, .inl (X.1, 72, .inl zI)) : Nat × va_E), (((uu q1 u1) 24, .inr (2, linF (uu q1 u1) 24)) : Nat × va_E), (((uu q1 u1) 25, .inl (X.1, 77, .inl zI)) : Nat × va_E), (((uu q1 u1) 26, .inl (X.1, 77, .inl zI)) : Nat × va_E), (((uu q1 u1) 27, .inl (X.1, 77, .inl zI)) : Nat × va_E), (((uu q1 u1) 28, .inl (X.1, 77, .inl zI)) : Nat × va_E), (((uu q1 u1) 29, .inl (X.1, 77, .inl zI)) : Nat × va_E), (((uu q1 u1) 30, .inl (X.1, 77, .inl zI)) : Nat × va_E), (((uu q1 u1) 31, .inl (X.1, 77, .inl zI)) : Nat × va_E), (((uu q1 u1) 32, .inl (X.1, 77, .inl zI)) : Nat × va_E), (((uu q1 u1) 33, .inl (X.1, 12, .inl zI)) : Nat × va_E), (((uu q1 u1) 34, .inl (X.2.1, 5, .inl zI)) : Nat × va_E), (((uu q1 u1) 35, .inr (2, linF (uu q1 u1) 35)) : Nat × va_E), (((uu q1 u1) 36, .inl (X.1, 77, .inl zI)) : Nat × va_E), (((uu q1 u1) 37, .inl (X.1, 77, .inl zI)) : Nat × va_E), (((uu q1 u1) 38, .inl (X.1, 77, .inl zI)) : Nat × va_E), (((uu q1 u1) 39, .inl (X.1, 77, .inl zI)) : Nat × va_E), (((uu q1 u1) 40, .inl (X.1, 77, .inl zI)) : Nat × va_E), (((uu q1 u1) 41, .inl (X.1, 77, .inl zI)) : Nat × va_E), (((uu q1 u1) 42, .inl (X.1, 77, .inl zI)) : Nat × va_E), (((uu q1 u1) 43, .inl (X.1, 77, .inl zI)) : Nat × va_E), (((uu q1 u1) 44, .inl (X.1, 12, .inl zI)) : Nat × va_E), (((uu q1 u1) 45, .inl (X.2.1, 5, .inl zI)) : Nat × va_E), (((uu q1 u1) 46, .inr (0, boxF (uu q1 u1) 46)) : Nat × va_E), (((uu q1 u1) 47, .inr (3, mapF (uu q1 u1) 47)) : Nat × va_E), (((uu q1 u1) 48, .inl (X.1, 40, .inl zI)) : Nat × va_E), (((uu q1 u1) 49, .inl (X.1, 40, .inl zI)) : Nat × va_E), (((uu q1 u1) 50, .inl (X.1, 40, .inl zI)) : Nat × va_E), (((uu q1 u1) 51, .inl (X.1, 40, .inl zI)) : Nat × va_E), (((uu q1 u1) 52, .inl (X.1, 40, .inl zI)) : Nat × va_E), (((uu q1 u1) 53, .inl (X.1, 12, .inl (fun j : Nat => iI (vRank j)))) : Nat × va_E), (((uu q1 u1) 54, .inl (X.1, 12, .inl (fun j : Nat => iI (vGroup j)))) : Nat × va_E), (((uu q1 u1) 55, .inl (X.1, 12, .inl zI)) : Nat × va_E), (((uu q1 u1) 56, .inl (X.1, 60, .inl zI)) : Nat × va_E), (((uu q1 u1) 57, .inl (X.1, 5, .inl zI)) : Nat × va_E), (((uu q1 u1) 58, .inl (X.1, 5, .inl (fun j : Nat => iI (vWin j)))) : Nat × va_E), (((uu q1 u1) 59, .inl (X.1, 4, .inl (fun j : Nat => iI (vSet j)))) : Nat × va_E), (((uu q1 u1) 60, .inr (1, legF (uu q1 u1) 60)) : Nat × va_E), (((uu q1 u1) 61, .inl (X.2.1, 40, .inl zI)) : Nat × va_E), (((uu q1 u1) 62, .inl (X.2.1, 40, .inl zI)) : Nat × va_E), (((uu q1 u1) 63, .inr (4, rngF (uu q1 u1) 63)) : Nat × va_E), (((uu q1 u1) 64, .inl (X.1, 12, .inl zI)) : Nat × va_E), (((uu q1 u1) 65, .inl (X.1, 72, .inl zI)) : Nat × va_E), (((uu q1 u1) 66, .inl (X.1, 12, .inl zI)) : Nat × va_E), (((uu q1 u1) 67, .inl (X.1, 72, .inl zI)) : Nat × va_E), (((uu q1 u1) 68, .inl (X.1, 72, .inl zI)) : Nat × va_E), (((uu q1 u1) 69, .inl (X.1, 72, .inl zI)) : Nat × va_E), (((uu q1 u1) 70, .inr (2, linF (uu q1 u1) 70)) : Nat × va_E), (((uu q1 u1) 71, .inl (X.1, 77, .inl zI)) : Nat × va_E), (((uu q1 u1) 72, .inl (X.1, 77, .inl zI)) : Nat × va_E), (((uu q1 u1) 73, .inl (X.1, 77, .inl zI)) : Nat × va_E), (((uu q1 u1) 74, .inl (X.1, 77, .inl zI)) : Nat × va_E), (((uu q1 u1) 75, .inl (X.1, 77, .inl zI)) : Nat × va_E), (((uu q1 u1) 76, .inl (X.1, 77, .inl zI)) : Nat × va_E), (((uu q1 u1) 77, .inl (X.1, 77, .inl zI)) : Nat × va_E), (((uu q1 u1) 78, .inl (X.1, 77, .inl zI)) : Nat × va_E), (((uu q1 u1) 79, .inl (X.1, 12, .inl zI)) : Nat × va_E), (((uu q1 u1) 80, .inl (X.2.1, 5, .inl zI)) : Nat × va_E), (((uu q1 u1) 81, .inr (2, linF (uu q1 u1) 81)) : Nat × va_E), (((uu q1 u1) 82, .inl (X.1, 77, .inl zI)) : Nat × va_E), (((uu q1 u1) 83, .inl (X.1, 77, .inl zI)) : Nat × va_E), (((uu q1 u1) 84, .inl (X.1, 77, .inl zI)) : Nat × va_E), (((uu q1 u1) 85, .inl (X.1, 77, .inl zI)) : Nat × va_E), (((uu q1 u1) 86, .inl (X.1, 77, .inl zI)) : Nat × va_E), (((uu q1 u1) 87, .inl (X.1, 77, .inl zI)) : Nat × va_E), (((uu q1 u1) 88, .inl (X.1, 77, .inl zI)) : Nat × va_E), (((uu q1 u1) 89, .inl (X.1, 77, .inl zI)) : Nat × va_E), (((uu q1 u1) 90, .inl (X.1, 12, .inl zI)) : Nat × va_E), (((uu q1 u1) 91, .inl (X.2.1, 5, .inl zI)) : Nat × va_E), (((uu q1 u1) 92, .inr (0, boxF (uu q1 u1) 92)) : Nat × va_E), (((uu q1 u1) 93, .inr (5, txtF (uu q1 u1) 93)) : Nat × va_E), (((uu q1 u1) 94, .inl (X.1, 160, .inl zI)) : Nat × va_E), (((uu q1 u1) 95, .inr (3, mapF (uu q1 u1) 95)) : Nat × va_E), (((uu q1 u1) 96, .inl (X.1, 40, .inl zI)) : Nat × va_E), (((uu q1 u1) 97, .inl (X.1, 40, .inl zI)) : Nat × va_E), (((uu q1 u1) 98, .inl (X.1, 40, .inl zI)) : Nat × va_E), (((uu q1 u1) 99, .inl (X.1, 40, .inl zI)) : Nat × va_E), (((uu q1 u1) 100, .inl (X.1, 40, .inl zI)) : Nat × va_E), (((uu q1 u1) 101, .inl (X.1, 12, .inl (fun j : Nat => iI (vRank j)))) : Nat × va_E), (((uu q1 u1) 102, .inl (X.1, 12, .inl (fun j : Nat => iI (vGroup j)))) : Nat × va_E), (((uu q1 u1) 103, .inl (X.1, 12, .inl zI)) : Nat × va_E), (((uu q1 u1) 104, .inl (X.1, 60, .inl zI)) : Nat × va_E), (((uu q1 u1) 105, .inl (X.1, 5, .inl zI)) : Nat × va_E), (((uu q1 u1) 106, .inl (X.1, 5, .inl (fun j : Nat => iI (vWin j)))) : Nat × va_E), (((uu q1 u1) 107, .inl (X.1, 4, .inl (fun j : Nat => iI (vSet j)))) : Nat × va_E)] := by
  rw [r108]
  exact (congr (congrArg List.cons E0_0) (congr (congrArg List.cons E0_1) (congr (congrArg List.cons E0_2) (congr (congrArg List.cons E0_3) (congr (congrArg List.cons E0_4) (congr (congrArg List.cons E0_5) (congr (congrArg List.cons E0_6) (congr (congrArg List.cons E0_7) (congr (congrArg List.cons E0_8) (congr (congrArg List.cons E0_9) (congr (congrArg List.cons E0_10) (congr (congrArg List.cons E0_11) (congr (congrArg List.cons E0_12) (congr (congrArg List.cons E0_13) (congr (congrArg List.cons E0_14) (congr (congrArg List.cons E0_15) (congr (congrArg List.cons E0_16) (congr (congrArg List.cons E0_17) (congr (congrArg List.cons E0_18) (congr (congrArg List.cons E0_19) (congr (congrArg List.cons E0_20) (congr (congrArg List.cons E0_21) (congr (congrArg List.cons E0_22) (congr (congrArg List.cons E0_23) (congr (congrArg List.cons E0_24) (congr (congrArg List.cons E0_25) (congr (congrArg List.cons E0_26) (congr (congrArg List.cons E0_27) (congr (congrArg List.cons E0_28) (congr (congrArg List.cons E0_29) (congr (congrArg List.cons E0_30) (congr (congrArg List.cons E0_31) (congr (congrArg List.cons E0_32) (congr (congrArg List.cons E0_33) (congr (congrArg List.cons E0_34) (congr (congrArg List.cons E0_35) (congr (congrArg List.cons E0_36) (congr (congrArg List.cons E0_37) (congr (congrArg List.cons E0_38) (congr (congrArg List.cons E0_39) (congr (congrArg List.cons E0_40) (congr (congrArg List.cons E0_41) (congr (congrArg List.cons E0_42) (congr (congrArg List.cons E0_43) (congr (congrArg List.cons E0_44) (congr (congrArg List.cons E0_45) (congr (congrArg List.cons E0_46) (congr (congrArg List.cons E0_47) (congr (congrArg List.cons E0_48) (congr (congrArg List.cons E0_49) (congr (congrArg List.cons E0_50) (congr (congrArg List.cons E0_51) (congr (congrArg List.cons E0_52) (congr (congrArg List.cons E0_53) (congr (congrArg List.cons E0_54) (congr (congrArg List.cons E0_55) (congr (congrArg List.cons E0_56) (congr (congrArg List.cons E0_57) (congr (congrArg List.cons E0_58) (congr (congrArg List.cons E0_59) (congr (congrArg List.cons E0_60) (congr (congrArg List.cons E0_61) (congr (congrArg List.cons E0_62) (congr (congrArg List.cons E0_63) (congr (congrArg List.cons E0_64) (congr (congrArg List.cons E0_65) (congr (congrArg List.cons E0_66) (congr (congrArg List.cons E0_67) (congr (congrArg List.cons E0_68) (congr (congrArg List.cons E0_69) (congr (congrArg List.cons E0_70) (congr (congrArg List.cons E0_71) (congr (congrArg List.cons E0_72) (congr (congrArg List.cons E0_73) (congr (congrArg List.cons E0_74) (congr (congrArg List.cons E0_75) (congr (congrArg List.cons E0_76) (congr (congrArg List.cons E0_77) (congr (congrArg List.cons E0_78) (congr (congrArg List.cons E0_79) (congr (congrArg List.cons E0_80) (congr (congrArg List.cons E0_81) (congr (congrArg List.cons E0_82) (congr (congrArg List.cons E0_83) (congr (congrArg List.cons E0_84) (congr (congrArg List.cons E0_85) (congr (congrArg List.cons E0_86) (congr (congrArg List.cons E0_87) (congr (congrArg List.cons E0_88) (congr (congrArg List.cons E0_89) (congr (congrArg List.cons E0_90) (congr (congrArg List.cons E0_91) (congr (congrArg List.cons E0_92) (congr (congrArg List.cons E0_93) (congr (congrArg List.cons E0_94) (congr (congrArg List.cons E0_95) (congr (congrArg List.cons E0_96) (congr (congrArg List.cons E0_97) (congr (congrArg List.cons E0_98) (congr (congrArg List.cons E0_99) (congr (congrArg List.cons E0_100) (congr (congrArg List.cons E0_101) (congr (congrArg List.cons E0_102) (congr (congrArg List.cons E0_103) (congr (congrArg List.cons E0_104) (congr (congrArg List.cons E0_105) (congr (congrArg List.cons E0_106) (congr (congrArg List.cons E0_107) rfl))))))))))))))))))))))))))))))))))))))))))))))))))))))))))))))))))))))))))))))))))))))))))))))))))))))))))))
set_option maxRecDepth 100000 in
theorem whi_eq : ((List.range 56).map (fun j => 109 + j)).map (fun k => ((ad0 q1 q2 q3 q4 q5 u1) k, cel X (ad0 q1 q2 q3 q4 q5 u1) k (σ0 k))) = [(((uu q1 u1) 109, .inr (3, mapF (uu q1 u1) 109)) : Nat × va_E), (((uu q1 u1) 110, .inl (X.1, 40, .inl zI)) : Nat × va_E), (((uu q1 u1) 111, .inl (X.1, 40, .inl zI)) : Nat × va_E), (((uu q1 u1) 112, .inl (X.1, 40, .inl zI)) : Nat × va_E), (((uu q1 u1) 113, .inl (X.1, 40, .inl zI)) : Nat × va_E), (((uu q1 u1) 114, .inl (X.1, 40, .inl zI)) : Nat × va_E), (((uu q1 u1) 115, .inl (X.1, 12, .inl (fun j : Nat => iI (vRank j)))) : Nat × va_E), (((uu q1 u1) 116, .inl (X.1, 12, .inl (fun j : Nat => iI (vGroup j)))) : Nat × va_E), (((uu q1 u1) 117, .inl (X.1, 12, .inl zI)) : Nat × va_E), (((uu q1 u1) 118, .inl (X.1, 60, .inl zI)) : Nat × va_E), (((uu q1 u1) 119, .inl (X.1, 5, .inl zI)) : Nat × va_E), (((uu q1 u1) 120, .inl (X.1, 5, .inl (fun j : Nat => iI (vWin j)))) : Nat × va_E), (((uu q1 u1) 121, .inl (X.1, 4, .inl (fun j : Nat => iI (vSet j)))) : Nat × va_E), (((uu q1 u1) 122, .inr (3, mapF (uu q1 u1) 122)) : Nat × va_E), (((uu q1 u1) 123, .inl (X.1, 40, .inl zI)) : Nat × va_E), (((uu q1 u1) 124, .inl (X.1, 40, .inl zI)) : Nat × va_E), (((uu q1 u1) 125, .inl (X.1, 40, .inl zI)) : Nat × va_E), (((uu q1 u1) 126, .inl (X.1, 40, .inl zI)) : Nat × va_E), (((uu q1 u1) 127, .inl (X.1, 40, .inl zI)) : Nat × va_E), (((uu q1 u1) 128, .inl (X.1, 12, .inl (fun j : Nat => iI (vRank j)))) : Nat × va_E), (((uu q1 u1) 129, .inl (X.1, 12, .inl (fun j : Nat => iI (vGroup j)))) : Nat × va_E), (((uu q1 u1) 130, .inl (X.1, 12, .inl zI)) : Nat × va_E), (((uu q1 u1) 131, .inl (X.1, 60, .inl zI)) : Nat × va_E), (((uu q1 u1) 132, .inl (X.1, 5, .inl zI)) : Nat × va_E), (((uu q1 u1) 133, .inl (X.1, 5, .inl (fun j : Nat => iI (vWin j)))) : Nat × va_E), (((uu q1 u1) 134, .inl (X.1, 4, .inl (fun j : Nat => iI (vSet j)))) : Nat × va_E), (((uu q1 u1) 135, .inr (3, mapF (uu q1 u1) 135)) : Nat × va_E), (((uu q1 u1) 136, .inl (X.1, 40, .inl zI)) : Nat × va_E), (((uu q1 u1) 137, .inl (X.1, 40, .inl zI)) : Nat × va_E), (((uu q1 u1) 138, .inl (X.1, 40, .inl zI)) : Nat × va_E), (((uu q1 u1) 139, .inl (X.1, 40, .inl zI)) : Nat × va_E), (((uu q1 u1) 140, .inl (X.1, 40, .inl zI)) : Nat × va_E), (((uu q1 u1) 141, .inl (X.1, 12, .inl (fun j : Nat => iI (vRank j)))) : Nat × va_E), (((uu q1 u1) 142, .inl (X.1, 12, .inl (fun j : Nat => iI (vGroup j)))) : Nat × va_E), (((uu q1 u1) 143, .inl (X.1, 12, .inl zI)) : Nat × va_E), (((uu q1 u1) 144, .inl (X.1, 60, .inl zI)) : Nat × va_E), (((uu q1 u1) 145, .inl (X.1, 5, .inl zI)) : Nat × va_E), (((uu q1 u1) 146, .inl (X.1, 5, .inl (fun j : Nat => iI (vWin j)))) : Nat × va_E), (((uu q1 u1) 147, .inl (X.1, 4, .inl (fun j : Nat => iI (vSet j)))) : Nat × va_E), (((uu q1 u1) 148, .inr (3, mapF (uu q1 u1) 148)) : Nat × va_E), (((uu q1 u1) 149, .inl (X.1, 40, .inl zI)) : Nat × va_E), (((uu q1 u1) 150, .inl (X.1, 40, .inl zI)) : Nat × va_E), (((uu q1 u1) 151, .inl (X.1, 40, .inl zI)) : Nat × va_E), (((uu q1 u1) 152, .inl (X.1, 40, .inl zI)) : Nat × va_E), (((uu q1 u1) 153, .inl (X.1, 40, .inl zI)) : Nat × va_E), (((uu q1 u1) 154, .inl (X.1, 12, .inl (fun j : Nat => iI (vRank j)))) : Nat × va_E), (((uu q1 u1) 155, .inl (X.1, 12, .inl (fun j : Nat => iI (vGroup j)))) : Nat × va_E), (((uu q1 u1) 156, .inl (X.1, 12, .inl zI)) : Nat × va_E), (((uu q1 u1) 157, .inl (X.1, 60, .inl zI)) : Nat × va_E), (((uu q1 u1) 158, .inl (X.1, 5, .inl zI)) : Nat × va_E), (((uu q1 u1) 159, .inl (X.1, 5, .inl (fun j : Nat => iI (vWin j)))) : Nat × va_E), (((uu q1 u1) 160, .inl (X.1, 4, .inl (fun j : Nat => iI (vSet j)))) : Nat × va_E), ((q2, .inl (X.1, 15, .inl zI)) : Nat × va_E), ((q3, .inl (X.1, 32, .inl zI)) : Nat × va_E), ((q4, .inl (X.1, 60, .inl zI)) : Nat × va_E), ((q5, .inl (X.1, 64, .inl zI)) : Nat × va_E)] := by
  rw [r56]
  exact (congr (congrArg List.cons E0_109) (congr (congrArg List.cons E0_110) (congr (congrArg List.cons E0_111) (congr (congrArg List.cons E0_112) (congr (congrArg List.cons E0_113) (congr (congrArg List.cons E0_114) (congr (congrArg List.cons E0_115) (congr (congrArg List.cons E0_116) (congr (congrArg List.cons E0_117) (congr (congrArg List.cons E0_118) (congr (congrArg List.cons E0_119) (congr (congrArg List.cons E0_120) (congr (congrArg List.cons E0_121) (congr (congrArg List.cons E0_122) (congr (congrArg List.cons E0_123) (congr (congrArg List.cons E0_124) (congr (congrArg List.cons E0_125) (congr (congrArg List.cons E0_126) (congr (congrArg List.cons E0_127) (congr (congrArg List.cons E0_128) (congr (congrArg List.cons E0_129) (congr (congrArg List.cons E0_130) (congr (congrArg List.cons E0_131) (congr (congrArg List.cons E0_132) (congr (congrArg List.cons E0_133) (congr (congrArg List.cons E0_134) (congr (congrArg List.cons E0_135) (congr (congrArg List.cons E0_136) (congr (congrArg List.cons E0_137) (congr (congrArg List.cons E0_138) (congr (congrArg List.cons E0_139) (congr (congrArg List.cons E0_140) (congr (congrArg List.cons E0_141) (congr (congrArg List.cons E0_142) (congr (congrArg List.cons E0_143) (congr (congrArg List.cons E0_144) (congr (congrArg List.cons E0_145) (congr (congrArg List.cons E0_146) (congr (congrArg List.cons E0_147) (congr (congrArg List.cons E0_148) (congr (congrArg List.cons E0_149) (congr (congrArg List.cons E0_150) (congr (congrArg List.cons E0_151) (congr (congrArg List.cons E0_152) (congr (congrArg List.cons E0_153) (congr (congrArg List.cons E0_154) (congr (congrArg List.cons E0_155) (congr (congrArg List.cons E0_156) (congr (congrArg List.cons E0_157) (congr (congrArg List.cons E0_158) (congr (congrArg List.cons E0_159) (congr (congrArg List.cons E0_160) (congr (congrArg List.cons E0_161) (congr (congrArg List.cons E0_162) (congr (congrArg List.cons E0_163) (congr (congrArg List.cons E0_164) rfl))))))))))))))))))))))))))))))))))))))))))))))))))))))))
theorem w1_eq : (List.range 108).map (fun k => ((ad0 q1 q2 q3 q4 q5 u1) k, cel X (ad0 q1 q2 q3 q4 q5 u1) k (σ0 k))) ++ ((ad0 q1 q2 q3 q4 q5 u1) 108, cel X (ad0 q1 q2 q3 q4 q5 u1) 108 (σ0 108)) :: ((List.range 56).map (fun j => 109 + j)).map (fun k => ((ad0 q1 q2 q3 q4 q5 u1) k, cel X (ad0 q1 q2 q3 q4 q5 u1) k (σ0 k))) = wsO X (ad0 q1 q2 q3 q4 q5 u1) σ0 := by
  show _ = (List.range 165).map _
  rw [r165, List.map_append, List.map_cons]
set_option maxRecDepth 100000 in
set_option maxHeartbeats 4000000 in
theorem w0_eq : OW [] 0 0 0 [] (((((([] ++ [(q1, .inr (6, slF (uu q1 u1) 0))]) ++ slA X (uu q1 u1) 0) ++ [(q2, .inl (X.1, 15, .inl (fun _ => iI 0)))]) ++ [(q3, .inl (X.1, 32, .inl (fun _ => iI 0)))]) ++ [(q4, .inl (X.1, 60, .inl (fun _ => iI 0)))]) ++ [(q5, .inl (X.1, 64, .inl (fun _ => iI 0)))]) = (List.range 108).map (fun k => ((ad0 q1 q2 q3 q4 q5 u1) k, cel X (ad0 q1 q2 q3 q4 q5 u1) k (σ0 k))) ++ (((uu q1 u1) 108, .inl (X.2.2, 4, .inr (.inr (.inr (.inr (va_up (va_up (va_up (va_up (fun _ => none) 0 (some ((uu q1 u1) 109))) 1 (some ((uu q1 u1) 122))) 2 (some ((uu q1 u1) 135))) 3 (some ((uu q1 u1) 148)))))))) : Nat × va_E) :: ((List.range 56).map (fun j => 109 + j)).map (fun k => ((ad0 q1 q2 q3 q4 q5 u1) k, cel X (ad0 q1 q2 q3 q4 q5 u1) k (σ0 k))) := by
  rw [wlo_eq, whi_eq]
  simp only [OW, List.set, slA, legA, linA, rngA, boxA, txtA, mapA, List.append_assoc, List.cons_append, List.nil_append, List.append_nil]
  rw [eRank, eGroup, eWin, eSet]
  rfl
end W0
theorem fg_cell {cI : ClassId} {f g : Nat → Option Nat} (h : ∀ j, j < 4 → f j = g j) : vp_cell cI (4, .inr (.inr (.inr (.inr f)))) = vp_cell cI (4, .inr (.inr (.inr (.inr g)))) := by
  show arrV cI 4 (fun j => va_rf (f j)) = arrV cI 4 (fun j => va_rf (g j))
  unfold arrV
  congr 1
  congr 1
  funext j
  show va_rf (f j.val) = va_rf (g j.val)
  rw [h j.val j.isLt]
theorem m_fg {p : Program} {l : Launch} {e : Env} {R : Room} {s : State} {m : MethodId} {args : Array Value} {below : List Frame} {meth : Method} {c : Code} {cells slots : Nat} {Q : State → Prop} {D : va_G} {X : XI} {nL pc : Nat} {A : Nat → Prop} {ls : List (Nat × Value)} {st : List Value} {pre post : va_W} {q : Nat} {cI : ClassId} {f g : Nat → Option Nat} (h : ∀ j, j < 4 → f j = g j) (k : MK p l e R s m args below meth c cells slots Q D X nL A pc ls st (pre ++ (q, .inl (cI, 4, .inr (.inr (.inr (.inr g))))) :: post)) : MK p l e R s m args below meth c cells slots Q D X nL A pc ls st (pre ++ (q, .inl (cI, 4, .inr (.inr (.inr (.inr f))))) :: post) := by
  have key : ∀ (i : Nat) (x : Nat × va_E), (pre ++ (q, .inl (cI, 4, .inr (.inr (.inr (.inr g))))) :: post)[i]? = some x → ∃ y : Nat × va_E, (pre ++ (q, .inl (cI, 4, .inr (.inr (.inr (.inr f))))) :: post)[i]? = some y ∧ y.1 = x.1 ∧ ∀ H : Heap, va_at D vwCl y H → va_at D vwCl x H := by
    intro i x hx
    rw [List.getElem?_append] at hx ⊢
    split at hx
    · rename_i hi
      rw [if_pos hi]
      exact ⟨x, hx, rfl, fun _ z => z⟩
    · rename_i hi
      rw [if_neg hi]
      cases e : i - pre.length with
      | zero =>
        rw [e] at hx
        have hx : (q, (.inl (cI, 4, .inr (.inr (.inr (.inr g)))) : va_E)) = x := by simpa using hx
        subst hx
        refine ⟨_, rfl, rfl, fun H z => ?_⟩
        show H[q]? = some (vp_cell cI (4, .inr (.inr (.inr (.inr g)))))
        rw [← fg_cell h]
        exact z
      | succ n =>
        rw [e, List.getElem?_cons_succ] at hx
        exact ⟨x, by rw [List.getElem?_cons_succ]; exact hx, rfl, fun _ z => z⟩
  intro H locs la hP hD hS hl
  refine k H locs la (fun i x hx => ?_) ⟨fun i j x y hx hy e => ?_, fun i x hx => ?_⟩ hS hl
  · obtain ⟨y, h1, _, h3⟩ := key i x hx
    exact h3 H (hP i y h1)
  · obtain ⟨x1, a1, a2, _⟩ := key i x hx
    obtain ⟨y1, b1, b2, _⟩ := key j y hy
    exact hD.1 i j x1 y1 a1 b1 (by rw [a2, b2]; exact e)
  · obtain ⟨y, h1, h2, _⟩ := key i x hx
    rw [← h2]; exact hD.2 i y h1
