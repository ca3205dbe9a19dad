/-! ===== the law's sets: numbers whose bits tell who is in ===== -/
theorem i32_nat {z : Int32} {n : Nat} (h : z.toBitVec.toNat = n) (hn : n < 2147483648) : z.toInt = n := by
  have e : z.toInt = z.toBitVec.toInt := rfl
  rw [e, BitVec.toInt_eq_toNat_of_lt (by rw [h]; omega), h]
theorem iI_bv {n : Nat} (hn : n < 2147483648) : (iI (n : Int)).toBitVec.toNat = n := by
  show (Int32.ofInt (n : Int)).toBitVec.toNat = n
  rw [Int32.toBitVec_ofInt, BitVec.toNat_ofInt]
  omega
theorem bA_nat {a b : Nat} (ha : a < 2147483648) (hb : b < 2147483648) : bA a b = ((a &&& b : Nat) : Int) := by
  unfold bA
  refine i32_nat ?_ (Nat.lt_of_le_of_lt Nat.and_le_left ha)
  rw [Int32.toBitVec_and, BitVec.toNat_and, iI_bv ha, iI_bv hb]
theorem bO_nat {a b : Nat} (ha : a < 2147483648) (hb : b < 2147483648) : bO a b = ((a ||| b : Nat) : Int) := by
  unfold bO
  refine i32_nat ?_ (Nat.or_lt_two_pow (n := 31) ha hb)
  rw [Int32.toBitVec_or, BitVec.toNat_or, iI_bv ha, iI_bv hb]
theorem bR_nat {a n : Nat} (ha : a < 2147483648) (hn : n < 12) : bR a n = ((a / 2 ^ n : Nat) : Int) := by
  have hs : ((iI (n : Int) &&& 31).toBitVec.smod 32).toNat = n := by
    have : ∀ m : Nat, m < 12 → ((iI (m : Int) &&& 31).toBitVec.smod 32).toNat = m := by decide +kernel
    exact this n hn
  unfold bR
  rw [pk_shr _ _ n hs, iI_toInt ⟨by omega, by omega⟩, Int.shiftRight_eq_div_pow]
  exact (Int.natCast_ediv a (2 ^ n)).symm
theorem bL_nat : ∀ n : Nat, n < 12 → bL 1 n = ((2 ^ n : Nat) : Int) := by decide +kernel
theorem bN_nat {a b : Nat} (ha : a < 2147483648) (hb : b < 2147483648) : bA a (bX b (-1)) = ((a &&& (b ^^^ 4294967295) : Nat) : Int) := by
  unfold bA bX
  rw [iI_back]
  refine i32_nat ?_ (Nat.lt_of_le_of_lt Nat.and_le_left ha)
  rw [Int32.toBitVec_and, BitVec.toNat_and, Int32.toBitVec_xor, BitVec.toNat_xor, iI_bv ha, iI_bv hb]
  rfl
def BSn (v : Int → Bool) : Nat → Nat
  | 0 => 0
  | m + 1 => BSn v m ||| (if v m = true then 2 ^ m else 0)
theorem BSn_bit (v : Int → Bool) : ∀ m k : Nat, (BSn v m).testBit k = (decide (k < m) && v k)
  | 0, k => by simp [BSn]
  | m + 1, k => by
    unfold BSn
    rw [Nat.testBit_or, BSn_bit v m k]
    by_cases q : k = m
    · subst q
      rw [decide_eq_false (Nat.lt_irrefl k), decide_eq_true (Nat.lt_succ_self k), Bool.false_and, Bool.false_or, Bool.true_and]
      cases e : v k with
      | false => rw [if_neg (by decide), Nat.zero_testBit]
      | true => rw [if_pos rfl, Nat.testBit_two_pow_self]
    · have e1 : (if v m = true then 2 ^ m else 0).testBit k = false := by
        split
        · rw [Nat.testBit_two_pow]; exact decide_eq_false (fun z => q z.symm)
        · exact Nat.zero_testBit k
      rw [e1, Bool.or_false]
      by_cases z : k < m
      · rw [decide_eq_true z, decide_eq_true (by omega)]
      · rw [decide_eq_false z, decide_eq_false (by omega)]
theorem BSn_lt (v : Int → Bool) (m : Nat) : BSn v m < 2 ^ m := Nat.lt_pow_two_of_testBit _ (fun i hi => by rw [BSn_bit, decide_eq_false (by omega)]; rfl)
theorem BSn_12 (v : Int → Bool) {m : Nat} (h : m ≤ 12) : BSn v m < 4096 := Nat.lt_of_lt_of_le (BSn_lt v m) (Nat.pow_le_pow_right (n := 2) (by decide) h)
theorem BS_ext {x : Nat} {v : Int → Bool} {m : Nat} (h : ∀ k : Nat, x.testBit k = (decide (k < m) && v k)) : x = BSn v m := Nat.eq_of_testBit_eq (fun k => by rw [h, BSn_bit])
theorem BSn_cong {v w : Int → Bool} {m : Nat} (h : ∀ k : Nat, k < m → v k = w k) : BSn v m = BSn w m := BS_ext fun k => by
  rw [BSn_bit]
  by_cases z : k < m
  · rw [h k z]
  · rw [decide_eq_false z, Bool.false_and, Bool.false_and]
theorem BSn_ext12 {v : Int → Bool} {m : Nat} (hm : m ≤ 12) (h : ∀ k : Nat, m ≤ k → k < 12 → v k = false) : BSn v m = BSn v 12 := BS_ext fun k => by
  rw [BSn_bit]
  by_cases z : k < m
  · rw [decide_eq_true z, decide_eq_true (by omega)]
  · by_cases z2 : k < 12
    · rw [decide_eq_false z, h k (by omega) z2, Bool.and_false, Bool.and_false]
    · rw [decide_eq_false z, decide_eq_false z2]
theorem bO_t {v : Int → Bool} {m : Nat} (hm : m < 12) (h : v m = true) : bO (BSn v m : Nat) (bL 1 m) = (BSn v (m + 1) : Nat) := by
  have h1 := BSn_12 v (m := m) (by omega)
  have h2 : 2 ^ m < 2147483648 := Nat.lt_of_lt_of_le (Nat.pow_lt_pow_right (a := 2) (by decide) hm) (by decide)
  rw [bL_nat m hm, bO_nat (by omega) h2]
  congr 1
  show _ = BSn v m ||| _
  rw [if_pos h]
theorem bO_f {v : Int → Bool} {m : Nat} (hm : m < 12) (h : v m = false) : bO (BSn v m : Nat) 0 = (BSn v (m + 1) : Nat) := by
  have h1 := BSn_12 v (m := m) (by omega)
  have e : bO (BSn v m : Nat) 0 = bO (BSn v m : Nat) ((0 : Nat) : Int) := rfl
  rw [e, bO_nat (by omega) (by decide)]
  congr 1
  show _ = BSn v m ||| _
  rw [if_neg (by rw [h]; decide)]
theorem b01_nat {x k : Nat} : b01 (x.testBit k) = ((x / 2 ^ k % 2 : Nat) : Int) := by
  rw [Nat.testBit_eq_decide_div_mod_eq]
  by_cases z : x / 2 ^ k % 2 = 1
  · rw [decide_eq_true z, z]; rfl
  · have : x / 2 ^ k % 2 = 0 := by omega
    rw [decide_eq_false z, this]; rfl
theorem bit_of {x k : Nat} (hx : x < 2147483648) (hk : k < 12) : bA (bR x k) 1 = b01 (x.testBit k) := by
  have e1 : (1 : Int) = ((1 : Nat) : Int) := rfl
  rw [bR_nat hx hk, e1, bA_nat (Nat.lt_of_le_of_lt (Nat.div_le_self _ _) hx) (by decide), Nat.and_one_is_mod, b01_nat]
theorem bit_BS {v : Int → Bool} {m : Nat} {k : Int} (hm : m ≤ 12) (k0 : 0 ≤ k) (k1 : k < m) : bA (bR (BSn v m : Nat) k) 1 = b01 (v k) := by
  have e : ((k.toNat : Nat) : Int) = k := by omega
  have h := bit_of (x := BSn v m) (k := k.toNat) (by have := BSn_12 v hm; omega) (by omega)
  rw [e, BSn_bit, decide_eq_true (by omega), Bool.true_and, e] at h
  exact h
theorem bA_BS (v w : Int → Bool) : bA (BSn v 12 : Nat) (BSn w 12 : Nat) = (BSn (fun k => v k && w k) 12 : Nat) := by
  have h1 := BSn_12 v (m := 12) (by omega)
  have h2 := BSn_12 w (m := 12) (by omega)
  rw [bA_nat (by omega) (by omega)]
  congr 1
  refine BS_ext fun k => ?_
  rw [Nat.testBit_and, BSn_bit, BSn_bit]
  cases decide (k < 12) <;> simp
theorem bN_BS (v w : Int → Bool) : bA (BSn v 12 : Nat) (bX (BSn w 12 : Nat) (-1)) = (BSn (fun k => v k && !(w k)) 12 : Nat) := by
  have h1 := BSn_12 v (m := 12) (by omega)
  have h2 := BSn_12 w (m := 12) (by omega)
  rw [bN_nat (by omega) (by omega)]
  congr 1
  refine BS_ext fun k => ?_
  rw [Nat.testBit_and, Nat.testBit_xor, BSn_bit, BSn_bit]
  by_cases z : k < 12
  · have e : (4294967295 : Nat).testBit k = true := by
      have : ∀ k : Nat, k < 12 → (4294967295 : Nat).testBit k = true := by decide
      exact this k z
    rw [decide_eq_true z, e]
    cases v k <;> cases w k <;> rfl
  · rw [decide_eq_false z]; simp
/-! how many bits -/
def pcN (z : Nat) : Nat := z / 2 ^ 0 % 2 + z / 2 ^ 1 % 2 + z / 2 ^ 2 % 2 + z / 2 ^ 3 % 2 + z / 2 ^ 4 % 2 + z / 2 ^ 5 % 2 + z / 2 ^ 6 % 2 + z / 2 ^ 7 % 2 + z / 2 ^ 8 % 2 + z / 2 ^ 9 % 2 + z / 2 ^ 10 % 2 + z / 2 ^ 11 % 2
theorem pc_chk : ∀ a : Nat, a < 64 → ∀ b : Nat, b < 64 → (64 * a + b = 0 ∨ pcN ((64 * a + b) &&& (64 * a + b - 1)) + 1 = pcN (64 * a + b)) := by decide +kernel
theorem pc_and {z : Nat} (h0 : 0 < z) (h : z < 4096) : pcN (z &&& (z - 1)) + 1 = pcN z := by
  have := pc_chk (z / 64) (by omega) (z % 64) (by omega)
  have e : 64 * (z / 64) + z % 64 = z := by omega
  rw [e] at this
  rcases this with q | q
  · omega
  · exact q
theorem pc_BS (v : Int → Bool) : ((pcN (BSn v 12) : Nat) : Int) = cI v 12 := by
  have e : ∀ k : Nat, k < 12 → ((BSn v 12 / 2 ^ k % 2 : Nat) : Int) = b01 (v k) := fun k hk => by
    rw [← b01_nat, BSn_bit, decide_eq_true hk, Bool.true_and]
  have z0 : cN v 0 = 0 := rfl
  have z1 : cN v 1 = cN v 0 + ((BSn v 12 / 2 ^ 0 % 2 : Nat) : Int) := (show cN v 1 = cN v 0 + b01 (v (0 : Nat)) from rfl).trans (by rw [e 0 (by decide)])
  have z2 : cN v 2 = cN v 1 + ((BSn v 12 / 2 ^ 1 % 2 : Nat) : Int) := (show cN v 2 = cN v 1 + b01 (v (1 : Nat)) from rfl).trans (by rw [e 1 (by decide)])
  have z3 : cN v 3 = cN v 2 + ((BSn v 12 / 2 ^ 2 % 2 : Nat) : Int) := (show cN v 3 = cN v 2 + b01 (v (2 : Nat)) from rfl).trans (by rw [e 2 (by decide)])
  have z4 : cN v 4 = cN v 3 + ((BSn v 12 / 2 ^ 3 % 2 : Nat) : Int) := (show cN v 4 = cN v 3 + b01 (v (3 : Nat)) from rfl).trans (by rw [e 3 (by decide)])
  have z5 : cN v 5 = cN v 4 + ((BSn v 12 / 2 ^ 4 % 2 : Nat) : Int) := (show cN v 5 = cN v 4 + b01 (v (4 : Nat)) from rfl).trans (by rw [e 4 (by decide)])
  have z6 : cN v 6 = cN v 5 + ((BSn v 12 / 2 ^ 5 % 2 : Nat) : Int) := (show cN v 6 = cN v 5 + b01 (v (5 : Nat)) from rfl).trans (by rw [e 5 (by decide)])
  have z7 : cN v 7 = cN v 6 + ((BSn v 12 / 2 ^ 6 % 2 : Nat) : Int) := (show cN v 7 = cN v 6 + b01 (v (6 : Nat)) from rfl).trans (by rw [e 6 (by decide)])
  have z8 : cN v 8 = cN v 7 + ((BSn v 12 / 2 ^ 7 % 2 : Nat) : Int) := (show cN v 8 = cN v 7 + b01 (v (7 : Nat)) from rfl).trans (by rw [e 7 (by decide)])
  have z9 : cN v 9 = cN v 8 + ((BSn v 12 / 2 ^ 8 % 2 : Nat) : Int) := (show cN v 9 = cN v 8 + b01 (v (8 : Nat)) from rfl).trans (by rw [e 8 (by decide)])
  have z10 : cN v 10 = cN v 9 + ((BSn v 12 / 2 ^ 9 % 2 : Nat) : Int) := (show cN v 10 = cN v 9 + b01 (v (9 : Nat)) from rfl).trans (by rw [e 9 (by decide)])
  have z11 : cN v 11 = cN v 10 + ((BSn v 12 / 2 ^ 10 % 2 : Nat) : Int) := (show cN v 11 = cN v 10 + b01 (v (10 : Nat)) from rfl).trans (by rw [e 10 (by decide)])
  have z12 : cN v 12 = cN v 11 + ((BSn v 12 / 2 ^ 11 % 2 : Nat) : Int) := (show cN v 12 = cN v 11 + b01 (v (11 : Nat)) from rfl).trans (by rw [e 11 (by decide)])
  have h : cI v 12 = cN v 12 := rfl
  rw [h, z12, z11, z10, z9, z8, z7, z6, z5, z4, z3, z2, z1, z0]
  unfold pcN
  generalize BSn v 12 / 2 ^ 0 % 2 = a0
  generalize BSn v 12 / 2 ^ 1 % 2 = a1
  generalize BSn v 12 / 2 ^ 2 % 2 = a2
  generalize BSn v 12 / 2 ^ 3 % 2 = a3
  generalize BSn v 12 / 2 ^ 4 % 2 = a4
  generalize BSn v 12 / 2 ^ 5 % 2 = a5
  generalize BSn v 12 / 2 ^ 6 % 2 = a6
  generalize BSn v 12 / 2 ^ 7 % 2 = a7
  generalize BSn v 12 / 2 ^ 8 % 2 = a8
  generalize BSn v 12 / 2 ^ 9 % 2 = a9
  generalize BSn v 12 / 2 ^ 10 % 2 = a10
  generalize BSn v 12 / 2 ^ 11 % 2 = a11
  clear z0 z1 z2 z3 z4 z5 z6 z7 z8 z9 z10 z11 z12 e h
  omega
theorem sL_bitsN {z : Nat} {σ : St} {K : Int → Prop} (hz : z < 4096) (h : K (pcN z : Nat)) : f_L_bits z σ K := by
  unfold f_L_bits
  refine wl2_inv (fun a x => ∃ y : Nat, x = y ∧ y < 4096 ∧ a + (pcN y : Nat) = (pcN z : Nat)) (fun _ x => x.toNat) ?_ ⟨z, rfl, hz, by omega⟩
  rintro a x ag ⟨y, ex, hy, ha⟩ hag
  refine ⟨⟨by omega, by omega⟩, fun q => ?_, fun q => ?_⟩
  · have e : y = 0 := by omega
    subst e
    have e0 : pcN 0 = 0 := rfl
    rw [e0] at ha
    have : a = (pcN z : Nat) := by omega
    rw [this]; exact h
  · intro x3 e3
    have e1 : x - 1 = ((y - 1 : Nat) : Int) := by omega
    rw [e1, ex, bA_nat (by omega) (by omega)] at e3
    have hp := pc_and (z := y) (by omega) hy
    have hl : y &&& (y - 1) ≤ y - 1 := Nat.and_le_right
    exact hag _ _ ⟨y &&& (y - 1), e3, by omega, by omega⟩ (by omega)
theorem sL_bits {v : Int → Bool} {σ : St} {K : Int → Prop} (h : K (cI v 12)) : f_L_bits (BSn v 12 : Nat) σ K := sL_bitsN (BSn_12 v (by omega)) (by rw [pc_BS]; exact h)
theorem sL_bits4 {v : Int → Bool} {σ : St} {K : Int → Prop} (h : K (cI v 4)) : f_L_bits (BSn v 4 : Nat) σ K := by
  have e1 : BSn v 4 = BSn (fun k => decide (k < 4) && v k) 4 := BSn_cong fun k hk => by rw [decide_eq_true (by omega), Bool.true_and]
  have e2 : BSn (fun k => decide (k < 4) && v k) 4 = BSn (fun k => decide (k < 4) && v k) 12 := BSn_ext12 (by decide) fun k hk _ => by rw [decide_eq_false (by omega), Bool.false_and]
  rw [e1, e2]
  refine sL_bits ?_
  rw [cI_lim (by decide) (by decide)]
  exact h
