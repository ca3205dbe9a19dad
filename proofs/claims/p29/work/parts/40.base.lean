/-! ===== plain facts: truth values as numbers, counts ===== -/
def b01 : Bool → Int
  | true => 1
  | false => 0
theorem b01_bl (b : Bool) : Bl (b01 b) := by cases b <;> simp [b01, Bl]
theorem b01_rg (b : Bool) : Rg (b01 b) := by cases b <;> simp [b01, Rg]
theorem b01_0 {b : Bool} : b01 b = 0 ↔ b = false := by cases b <;> simp [b01]
theorem b01_n {b : Bool} : ¬ b01 b = 0 ↔ b = true := by cases b <;> simp [b01]
theorem b01_t {b : Bool} (h : b = true) : b01 b = 1 := by rw [h]; rfl
theorem b01_f {b : Bool} (h : b = false) : b01 b = 0 := by rw [h]; rfl
def cN (P : Int → Bool) : Nat → Int
  | 0 => 0
  | n + 1 => cN P n + b01 (P n)
def cI (P : Int → Bool) (i : Int) : Int := cN P i.toNat
theorem cI_0 (P : Int → Bool) : cI P 0 = 0 := rfl
theorem cI_S (P : Int → Bool) {i : Int} (h : 0 ≤ i) : cI P (i + 1) = cI P i + b01 (P i) := by
  have e : (i + 1).toNat = i.toNat + 1 := by omega
  have e2 : ((i.toNat : Nat) : Int) = i := by omega
  unfold cI
  rw [e]
  show cN P i.toNat + b01 (P ((i.toNat : Nat) : Int)) = _
  rw [e2]
theorem cN_bd (P : Int → Bool) : ∀ n : Nat, 0 ≤ cN P n ∧ cN P n ≤ n
  | 0 => ⟨Int.le_refl 0, Int.le_refl 0⟩
  | n + 1 => by
    have h := cN_bd P n
    have h2 : 0 ≤ b01 (P n) ∧ b01 (P n) ≤ 1 := by cases P n <;> simp [b01]
    show 0 ≤ cN P n + b01 (P n) ∧ cN P n + b01 (P n) ≤ ((n + 1 : Nat) : Int)
    omega
theorem cI_bd (P : Int → Bool) {i : Int} (h : 0 ≤ i) : 0 ≤ cI P i ∧ cI P i ≤ i := by
  have := cN_bd P i.toNat
  unfold cI
  omega
theorem cN_eq {P Q : Int → Bool} : ∀ n : Nat, (∀ k : Int, 0 ≤ k → k < n → P k = Q k) → cN P n = cN Q n
  | 0, _ => rfl
  | n + 1, h => by
    have e := cN_eq n (fun k h0 h1 => h k h0 (by omega))
    show cN P n + b01 (P n) = cN Q n + b01 (Q n)
    rw [e, h n (by omega) (by omega)]
theorem cI_eq {P Q : Int → Bool} {i : Int} (h : ∀ k : Int, 0 ≤ k → k < i → P k = Q k) : cI P i = cI Q i := cN_eq _ (fun k h0 h1 => h k h0 (by omega))
/-! ===== the state as a row of numbers, in the reference's order ===== -/
abbrev Rw : Type := Int → Int
def kd (s : Rw) (k : Int) : Int := s (111 + 5 * k)
def co (s : Rw) (k : Int) : Int := s (111 + 5 * k + 1)
def ro (s : Rw) (k : Int) : Int := s (111 + 5 * k + 2)
def va (s : Rw) (k : Int) : Int := s (111 + 5 * k + 3)
def le' (s : Rw) (k : Int) : Int := s (111 + 5 * k + 4)
def rk (s : Rw) (k : Int) : Int := s (15 + 8 * k)
def gp (s : Rw) (k : Int) : Int := s (15 + 8 * k + 1)
def nl (s : Rw) (k : Int) : Int := s (15 + 8 * k + 2)
def lm (s : Rw) (k i : Int) : Int := s (15 + 8 * k + 3 + i)
/-- the row is one that the document allows -/
def Dm (s : Rw) : Prop := (1 ≤ s 0 ∧ s 0 ≤ 6) ∧ (1 ≤ s 1 ∧ s 1 ≤ 4) ∧ (1 ≤ s 2 ∧ s 2 ≤ 60) ∧ (1 ≤ s 3 ∧ s 3 ≤ 20) ∧ (0 ≤ s 4 ∧ s 4 ≤ 199) ∧ (0 ≤ s 5 ∧ s 5 ≤ 199) ∧ (10 ≤ s 6 ∧ s 6 ≤ 200) ∧ (10 ≤ s 7 ∧ s 7 ≤ 200) ∧ (0 ≤ s 8 ∧ s 8 ≤ 5) ∧ (0 ≤ s 9 ∧ s 9 ≤ 40) ∧
  (∀ g : Int, 0 ≤ g → g < 5 → 0 ≤ s (10 + g) ∧ s (10 + g) ≤ 1) ∧
  (∀ k : Int, 0 ≤ k → k < 12 → (0 ≤ rk s k ∧ rk s k ≤ 99) ∧ (-1 ≤ gp s k ∧ gp s k ≤ 4) ∧ (0 ≤ nl s k ∧ nl s k ≤ 5) ∧ (∀ i : Int, 0 ≤ i → i < nl s k → 1 ≤ lm s k i ∧ lm s k i ≤ 9999) ∧ ∀ i : Int, 0 ≤ i → i + 1 < nl s k → lm s k i < lm s k (i + 1)) ∧
  (∀ k : Int, 0 ≤ k → k < s 9 → (0 ≤ kd s k ∧ kd s k ≤ 11) ∧ (0 ≤ co s k ∧ co s k ≤ 199) ∧ (0 ≤ ro s k ∧ ro s k ≤ 199) ∧ (0 ≤ va s k ∧ va s k ≤ 9999) ∧ (0 ≤ le' s k ∧ le' s k ≤ 5))
theorem Dm.set {s : Rw} (h : Dm s) : (1 ≤ s 0 ∧ s 0 ≤ 6) ∧ (1 ≤ s 1 ∧ s 1 ≤ 4) ∧ (1 ≤ s 2 ∧ s 2 ≤ 60) ∧ (1 ≤ s 3 ∧ s 3 ≤ 20) := ⟨h.1, h.2.1, h.2.2.1, h.2.2.2.1⟩
theorem Dm.win {s : Rw} (h : Dm s) : (0 ≤ s 4 ∧ s 4 ≤ 199) ∧ (0 ≤ s 5 ∧ s 5 ≤ 199) ∧ (10 ≤ s 6 ∧ s 6 ≤ 200) ∧ (10 ≤ s 7 ∧ s 7 ≤ 200) ∧ (0 ≤ s 8 ∧ s 8 ≤ 5) := by obtain ⟨_, _, _, _, h1, h2, h3, h4, h5, _⟩ := h; exact ⟨h1, h2, h3, h4, h5⟩
theorem Dm.n {s : Rw} (h : Dm s) : 0 ≤ s 9 ∧ s 9 ≤ 40 := by obtain ⟨_, _, _, _, _, _, _, _, _, h1, _⟩ := h; exact h1
theorem Dm.way {s : Rw} (h : Dm s) : ∀ g : Int, 0 ≤ g → g < 5 → 0 ≤ s (10 + g) ∧ s (10 + g) ≤ 1 := by obtain ⟨_, _, _, _, _, _, _, _, _, _, h1, _⟩ := h; exact h1
theorem Dm.kind {s : Rw} (h : Dm s) : ∀ k : Int, 0 ≤ k → k < 12 → (0 ≤ rk s k ∧ rk s k ≤ 99) ∧ (-1 ≤ gp s k ∧ gp s k ≤ 4) ∧ (0 ≤ nl s k ∧ nl s k ≤ 5) ∧ (∀ i : Int, 0 ≤ i → i < nl s k → 1 ≤ lm s k i ∧ lm s k i ≤ 9999) ∧ ∀ i : Int, 0 ≤ i → i + 1 < nl s k → lm s k i < lm s k (i + 1) := by obtain ⟨_, _, _, _, _, _, _, _, _, _, _, h1, _⟩ := h; exact h1
theorem Dm.sign {s : Rw} (h : Dm s) : ∀ k : Int, 0 ≤ k → k < s 9 → (0 ≤ kd s k ∧ kd s k ≤ 11) ∧ (0 ≤ co s k ∧ co s k ≤ 199) ∧ (0 ≤ ro s k ∧ ro s k ≤ 199) ∧ (0 ≤ va s k ∧ va s k ≤ 9999) ∧ (0 ≤ le' s k ∧ le' s k ≤ 5) := by obtain ⟨_, _, _, _, _, _, _, _, _, _, _, _, h1⟩ := h; exact h1
/-- the class of a sign; whether it is in the window, shown; whether a box covers it -/
def cls (s : Rw) (k : Int) : Int := cI (fun i => decide (lm s (kd s k) i ≤ va s k)) (nl s (kd s k))
def wi (s : Rw) (k : Int) : Bool := decide (0 ≤ co s k - s 4 ∧ co s k - s 4 < s 6 ∧ 0 ≤ ro s k - s 5 ∧ ro s k - s 5 < s 7)
def sh' (s : Rw) (k : Int) : Bool := decide (le' s k ≤ s 8) && wi s k
theorem cls_bd {s : Rw} (h : Dm s) {k : Int} (h0 : 0 ≤ k) (h1 : k < s 9) : 0 ≤ cls s k ∧ cls s k ≤ 5 := by
  have a := h.sign k h0 h1
  have b := h.kind (kd s k) a.1.1 (by omega)
  have c := cI_bd (fun i => decide (lm s (kd s k) i ≤ va s k)) b.2.2.1.1
  unfold cls
  omega
/-! ===== steps: truth values, loops that count, stores ===== -/
theorem b01_split {B : Bool} {A C : Prop} (h : B = false → A) (h2 : B = true → C) : Rg (b01 B) ∧ (b01 B = 0 → A) ∧ (¬ b01 B = 0 → C) := ⟨b01_rg B, fun q => h (b01_0.mp q), fun q => h2 (b01_n.mp q)⟩
theorem b01_tilps {B : Bool} {A C : Prop} (h2 : B = true → C) (h : B = false → A) : Rg (b01 B) ∧ (b01 B ≠ 0 → C) ∧ (¬ b01 B ≠ 0 → A) := ⟨b01_rg B, fun q => h2 (b01_n.mp q), fun q => h (b01_0.mp (Decidable.not_not.mp q))⟩
theorem b01_rg0 (B : Bool) : 0 ≤ b01 B ∧ b01 B ≤ 1 := by cases B <;> simp [b01]
theorem count_loop {f : Int → Int → (Int → Int → Prop) → Prop} (P : Int → Bool) (n : Int) (h0 : 0 ≤ n) (hs : ∀ (a i : Int) (ag : Int → Int → Prop), a = cI P i → 0 ≤ i → i < n → ag (a + b01 (P i)) (i + 1) → f a i ag) (he : ∀ (a : Int) (ag : Int → Int → Prop), a = cI P n → f a n ag) : ∃ m, wl2 f m 0 0 := by
  refine wl2_inv (fun a i => 0 ≤ i ∧ i ≤ n ∧ a = cI P i) (fun a i => (n - i).toNat) ?_ ⟨by omega, by omega, rfl⟩
  rintro a i ag ⟨i0, i1, ha⟩ hag
  by_cases q : i = n
  · subst q; exact he a ag ha
  · exact hs a i ag ha i0 (by omega) (hag _ _ ⟨by omega, by omega, by rw [cI_S P i0, ha]⟩ (by omega))
theorem up_s {σ : St} {c : Nat} {i v : Int} : up2 σ c i v c i = v := by simp [up2]
theorem up_c {σ : St} {c c1 : Nat} {i v : Int} (h : c1 ≠ c) : up2 σ c i v c1 = σ c1 := by funext j; simp [up2, h]
theorem up_i {σ : St} {c : Nat} {i i1 v : Int} (h : i1 ≠ i) : up2 σ c i v c i1 = σ c i1 := by simp [up2, h]
theorem up_if {σ : St} {c : Nat} {i i1 v : Int} : up2 σ c i v c i1 = if i1 = i then v else σ c i1 := by simp [up2]
