/-! ===== first of a kind ===== -/
def ff (P : Int → Bool) : Nat → Int → Int
  | 0, _ => -1
  | n + 1, i => if P i then i else ff P n (i + 1)
theorem first_loop {f : Int → (Int → Prop) → Prop} (P : Int → Bool) (n : Int) (h0 : 0 ≤ n) {K : Int → Prop} (h : K (ff P n.toNat 0)) (hs : ∀ (i : Int) (ag : Int → Prop), 0 ≤ i → i < n → (P i = true → K i) → (P i = false → ag (i + 1)) → f i ag) (he : ∀ ag : Int → Prop, K (-1) → f n ag) : ∃ m, wl1 f m 0 := by
  refine wl1_inv (fun i => 0 ≤ i ∧ i ≤ n ∧ K (ff P (n - i).toNat i)) (fun i => (n - i).toNat) ?_ ⟨by omega, by omega, by rw [Int.sub_zero]; exact h⟩
  rintro i ag ⟨i0, i1, hk⟩ hag
  by_cases q : i = n
  · subst q
    rw [Int.sub_self] at hk
    exact he ag hk
  · have e : (n - i).toNat = (n - (i + 1)).toNat + 1 := by omega
    rw [e] at hk
    refine hs i ag i0 (by omega) (fun p => ?_) (fun p => hag _ ⟨by omega, by omega, ?_⟩ (by omega))
    · simpa [ff, p] using hk
    · simpa [ff, p] using hk
theorem ff_bd (P : Int → Bool) : ∀ (n : Nat) (i : Int), 0 ≤ i → -1 ≤ ff P n i ∧ ff P n i < i + n + 1
  | 0, i, h => by simp [ff]; omega
  | n + 1, i, h => by
    have := ff_bd P n (i + 1) (by omega)
    unfold ff
    split <;> omega
theorem ff_eq {P Q : Int → Bool} : ∀ (n : Nat) (i : Int), (∀ k : Int, i ≤ k → k < i + n → P k = Q k) → ff P n i = ff Q n i
  | 0, _, _ => rfl
  | n + 1, i, h => by
    unfold ff
    rw [h i (by omega) (by omega), ff_eq n (i + 1) (fun k h1 h2 => h k (by omega) (by omega))]
/-! ===== the reference: reads ===== -/
/-! a box (corner, left, top, wide, high) covers a sign -/
abbrev Bx : Type := Int × Int × Int × Int × Int
def cov (s : Rw) (x : Bx) (k : Int) : Bool := decide (x.1 ≠ -1 ∧ 0 ≤ co s k - x.2.1 ∧ co s k - x.2.1 < x.2.2.2.1 ∧ 0 ≤ ro s k - x.2.2.1 ∧ ro s k - x.2.2.1 < x.2.2.2.2)
/-- the box is one that may stand on the map, or there is none -/
def BxOK (x : Bx) : Prop := (-1 ≤ x.1 ∧ x.1 ≤ 3) ∧ (x.1 ≠ -1 → (0 ≤ x.2.1 ∧ x.2.1 ≤ 399) ∧ (0 ≤ x.2.2.1 ∧ x.2.2.1 ≤ 399) ∧ (1 ≤ x.2.2.2.1 ∧ x.2.2.2.1 ≤ 200) ∧ (1 ≤ x.2.2.2.2 ∧ x.2.2.2.2 ≤ 200))
/-! sight -/
theorem sp3 {x : Int} {B : Bool} {A C : Prop} (hx : x = b01 B) (h : B = false → A) (h2 : B = true → C) : Rg x ∧ (x = 0 → A) ∧ (¬ x = 0 → C) := by subst hx; exact b01_split h h2
theorem sp4 {x : Int} {B : Bool} {A C : Prop} (hx : x = b01 B) (h2 : B = true → C) (h : B = false → A) : Rg x ∧ (x ≠ 0 → C) ∧ (¬ x ≠ 0 → A) := by subst hx; exact b01_tilps h2 h
/-- how many signs in sight are of a kind, and of its classes from lo to hi -/
def cn (s : Rw) (v : Int → Bool) (k lo hi : Int) : Int := cI (fun i => v i && (decide (kd s i = k) && decide (lo ≤ cls s i ∧ cls s i ≤ hi))) (s 9)
def tot (s : Rw) (v : Int → Bool) (k : Int) : Int := cI (fun i => v i && decide (kd s i = k)) (s 9)
theorem cI_pos {P : Int → Bool} {n k : Int} (h0 : 0 ≤ k) (h1 : k < n) (h : P k = true) : 0 < cI P n := by
  have key : ∀ m : Nat, k < m → 0 < cN P m := by
    intro m
    induction m with
    | zero => intro q; omega
    | succ m ih =>
      intro q
      have b := (cN_bd P m).1
      have b2 := b01_rg0 (P m)
      show 0 < cN P m + b01 (P m)
      by_cases e : k = m
      · rw [← e, h]; simp only [b01]; omega
      · have := ih (by omega); omega
  exact key n.toNat (by omega)
