/-! ===== more of counting ===== -/
theorem cN_add {P Q R : Int → Bool} : ∀ n : Nat, (∀ k : Int, 0 ≤ k → k < n → b01 (P k) = b01 (Q k) + b01 (R k)) → cN P n = cN Q n + cN R n
  | 0, _ => rfl
  | n + 1, h => by
    have e := cN_add n (fun k h0 h1 => h k h0 (by omega))
    have e2 := h n (by omega) (by omega)
    show cN P n + b01 (P n) = (cN Q n + b01 (Q n)) + (cN R n + b01 (R n))
    omega
theorem cI_add {P Q R : Int → Bool} {i : Int} (h : ∀ k : Int, 0 ≤ k → k < i → b01 (P k) = b01 (Q k) + b01 (R k)) : cI P i = cI Q i + cI R i := cN_add _ (fun k h0 h1 => h k h0 (by omega))
theorem cN_le {P Q : Int → Bool} : ∀ n : Nat, (∀ k : Int, 0 ≤ k → k < n → P k = true → Q k = true) → cN P n ≤ cN Q n
  | 0, _ => Int.le_refl 0
  | n + 1, h => by
    have e := cN_le n (fun k h0 h1 => h k h0 (by omega))
    have e2 := h n (by omega) (by omega)
    have e3 := b01_rg0 (Q n)
    have e4 : b01 (P n) ≤ b01 (Q n) := by
      cases q : P n with
      | false => exact e3.1
      | true => rw [e2 q]; exact Int.le_refl _
    show cN P n + b01 (P n) ≤ cN Q n + b01 (Q n)
    omega
theorem cI_le {P Q : Int → Bool} {i : Int} (h : ∀ k : Int, 0 ≤ k → k < i → P k = true → Q k = true) : cI P i ≤ cI Q i := cN_le _ (fun k h0 h1 => h k h0 (by omega))
theorem cI_none {P : Int → Bool} {i : Int} (h : ∀ k : Int, 0 ≤ k → k < i → P k = false) : cI P i = 0 := by
  have e : cI P i = cI (fun _ => false) i := cI_eq h
  rw [e]
  have key : ∀ n : Nat, cN (fun _ => false) n = 0 := by
    intro n
    induction n with
    | zero => rfl
    | succ n ih => show cN (fun _ => false) n + b01 false = 0; rw [ih]; rfl
  exact key _
theorem cI_some {P : Int → Bool} {n : Int} (h : 0 < cI P n) : ∃ k : Int, 0 ≤ k ∧ k < n ∧ P k = true := by
  refine Classical.byContradiction fun hn => ?_
  have : cI P n = 0 := cI_none (fun k k0 k1 => by
    cases q : P k with
    | false => rfl
    | true => exact absurd ⟨k, k0, k1, q⟩ hn)
  omega
/-! ===== ranges of classes: how many, first and last classes, signs ===== -/
abbrev Fn : Type := Int → Int
abbrev Tr : Type := Int × Fn × Fn × Fn
def setF (f : Fn) (i v : Int) : Fn := fun j => if j = i then v else f j
theorem setF_s {f : Fn} {i v : Int} : setF f i v i = v := by simp [setF]
theorem setF_n {f : Fn} {i j v : Int} (h : j ≠ i) : setF f i v j = f j := by simp [setF, h]
def tk (C : Fn) : Nat → Tr
  | 0 => (0, fun _ => 0, fun _ => 0, fun _ => 0)
  | m + 1 => if 0 < C m then ((tk C m).1 + 1, setF (tk C m).2.1 (tk C m).1 m, setF (tk C m).2.2.1 (tk C m).1 m, setF (tk C m).2.2.2 (tk C m).1 (C m)) else tk C m
def tkI (C : Fn) (i : Int) : Tr := tk C i.toNat
theorem tkI_0 (C : Fn) : tkI C 0 = (0, fun _ => 0, fun _ => 0, fun _ => 0) := rfl
theorem tkI_S (C : Fn) {i : Int} (h : 0 ≤ i) : tkI C (i + 1) = if 0 < C i then ((tkI C i).1 + 1, setF (tkI C i).2.1 (tkI C i).1 i, setF (tkI C i).2.2.1 (tkI C i).1 i, setF (tkI C i).2.2.2 (tkI C i).1 (C i)) else tkI C i := by
  have e : (i + 1).toNat = i.toNat + 1 := by omega
  have e2 : ((i.toNat : Nat) : Int) = i := by omega
  show tk C (i + 1).toNat = _
  rw [e]
  show (if 0 < C ((i.toNat : Nat) : Int) then _ else _) = _
  rw [e2]
  rfl
def bst (S : Fn) : Nat → Int
  | 0 => 0
  | m + 1 => if S (m + 1) + S (m + 1 + 1) < S (bst S m) + S (bst S m + 1) then (m : Int) + 1 else bst S m
/-- the best of places 0 to i - 1 -/
def bsI (S : Fn) (i : Int) : Int := bst S (i - 1).toNat
theorem bsI_1 (S : Fn) : bsI S 1 = 0 := rfl
theorem bsI_S (S : Fn) {i : Int} (h : 1 ≤ i) : bsI S (i + 1) = if S i + S (i + 1) < S (bsI S i) + S (bsI S i + 1) then i else bsI S i := by
  have e : (i + 1 - 1).toNat = (i - 1).toNat + 1 := by omega
  have e2 : (((i - 1).toNat : Nat) : Int) + 1 = i := by omega
  unfold bsI
  rw [e]
  show (if S (((i - 1).toNat : Nat) + 1) + S (((i - 1).toNat : Nat) + 1 + 1) < S (bst S (i - 1).toNat) + S (bst S (i - 1).toNat + 1) then (((i - 1).toNat : Nat) : Int) + 1 else bst S (i - 1).toNat) = _
  rw [e2]
theorem bsI_bd (S : Fn) {i : Int} (h : 1 ≤ i) : 0 ≤ bsI S i ∧ bsI S i < i := by
  have key : ∀ m : Nat, 0 ≤ bst S m ∧ bst S m < m + 1 := by
    intro m
    induction m with
    | zero => exact ⟨Int.le_refl 0, (by decide : (0 : Int) < 0 + 1)⟩
    | succ m ih =>
      unfold bst
      split <;> omega
  have := key (i - 1).toNat
  unfold bsI
  omega
def jn (t : Tr) : Tr := (t.1 - 1, fun i => if i ≤ bsI t.2.2.2 (t.1 - 1) then t.2.1 i else t.2.1 (i + 1), fun i => if i < bsI t.2.2.2 (t.1 - 1) then t.2.2.1 i else t.2.2.1 (i + 1), fun i => if i < bsI t.2.2.2 (t.1 - 1) then t.2.2.2 i else if i = bsI t.2.2.2 (t.1 - 1) then t.2.2.2 i + t.2.2.2 (i + 1) else t.2.2.2 (i + 1))
def jns (most : Int) : Nat → Tr → Tr
  | 0, t => t
  | f + 1, t => if t.1 ≤ most then t else jns most f (jn t)
theorem jns_le {most : Int} {f : Nat} {t : Tr} (h : t.1 ≤ most) : jns most f t = t := by
  cases f with
  | zero => rfl
  | succ f => unfold jns; rw [if_pos h]
/-- the ranges of a kind -/
def rg (s : Rw) (v : Int → Bool) (k : Int) : Tr := jns (s 0) 6 (tkI (fun c => cn s v k c c) 6)
/-- signs in sight are of no class between two ranges -/
def gap (s : Rw) (v : Int → Bool) (k a b : Int) : Prop := ∀ j : Int, 0 ≤ j → j < s 9 → v j = true → kd s j = k → ¬ (a < cls s j ∧ cls s j < b)
theorem cn_add {s : Rw} {v : Int → Bool} {k a b c d : Int} (h1 : a ≤ b) (h2 : b < c) (h3 : c ≤ d) (h : gap s v k b c) : cn s v k a d = cn s v k a b + cn s v k c d := by
  unfold cn
  refine cI_add (fun j j0 j1 => ?_)
  cases e : v j with
  | false => simp only [Bool.false_and, b01]; omega
  | true =>
    by_cases ek : kd s j = k
    · have g := h j j0 j1 e ek
      simp only [decide_eq_true ek, Bool.true_and]
      by_cases q1 : a ≤ cls s j ∧ cls s j ≤ b
      · rw [decide_eq_true q1, decide_eq_true (by omega : a ≤ cls s j ∧ cls s j ≤ d), decide_eq_false (by omega : ¬ (c ≤ cls s j ∧ cls s j ≤ d))]; rfl
      · by_cases q2 : c ≤ cls s j ∧ cls s j ≤ d
        · rw [decide_eq_false q1, decide_eq_true q2, decide_eq_true (by omega : a ≤ cls s j ∧ cls s j ≤ d)]; rfl
        · rw [decide_eq_false q1, decide_eq_false q2, decide_eq_false (by omega : ¬ (a ≤ cls s j ∧ cls s j ≤ d))]; rfl
    · simp only [decide_eq_false ek, Bool.false_and, Bool.and_false, b01]; omega
theorem cn_none {s : Rw} {v : Int → Bool} {k c : Int} (h : ¬ 0 < cn s v k c c) : ∀ j : Int, 0 ≤ j → j < s 9 → v j = true → kd s j = k → cls s j ≠ c := by
  intro j j0 j1 e ek ec
  refine h (cI_pos (k := j) j0 j1 ?_)
  rw [e, decide_eq_true ek, decide_eq_true (by omega : c ≤ cls s j ∧ cls s j ≤ c)]; rfl
theorem cn_le_tot {s : Rw} {v : Int → Bool} {k a b : Int} : cn s v k a b ≤ tot s v k := by
  refine cI_le (fun j _ _ h => ?_)
  simp only [Bool.and_eq_true] at h ⊢
  exact ⟨h.1, h.2.1⟩
theorem cn_bd {s : Rw} (hd : Dm s) (v : Int → Bool) (k a b : Int) : 0 ≤ cn s v k a b ∧ cn s v k a b ≤ 40 := by
  have hn := hd.n
  have := cI_bd (fun i => v i && (decide (kd s i = k) && decide (a ≤ cls s i ∧ cls s i ≤ b))) hn.1
  unfold cn
  omega
theorem tot_bd {s : Rw} (hd : Dm s) (v : Int → Bool) (k : Int) : 0 ≤ tot s v k ∧ tot s v k ≤ 40 := by
  have hn := hd.n
  have := cI_bd (fun i => v i && decide (kd s i = k)) hn.1
  unfold tot
  omega
/-- what a state of ranges keeps -/
def TOK (s : Rw) (v : Int → Bool) (k : Int) (t : Tr) : Prop := 0 ≤ t.1 ∧ t.1 ≤ 6 ∧ (∀ i : Int, 0 ≤ i → i < t.1 → 0 ≤ t.2.1 i ∧ t.2.1 i ≤ t.2.2.1 i ∧ t.2.2.1 i ≤ 5 ∧ t.2.2.2 i = cn s v k (t.2.1 i) (t.2.2.1 i)) ∧ (∀ i : Int, 0 ≤ i → i + 1 < t.1 → t.2.2.1 i < t.2.1 (i + 1) ∧ gap s v k (t.2.2.1 i) (t.2.1 (i + 1)))
theorem tk_ok {s : Rw} {v : Int → Bool} {k : Int} : ∀ m : Nat, m ≤ 6 → TOK s v k (tk (fun c => cn s v k c c) m) ∧ (tk (fun c => cn s v k c c) m).1 ≤ m ∧ (0 < (tk (fun c => cn s v k c c) m).1 → (tk (fun c => cn s v k c c) m).2.2.1 ((tk (fun c => cn s v k c c) m).1 - 1) < m ∧ gap s v k ((tk (fun c => cn s v k c c) m).2.2.1 ((tk (fun c => cn s v k c c) m).1 - 1)) m ∧ 0 < tot s v k) ∧ ((tk (fun c => cn s v k c c) m).1 = 0 → gap s v k (-1) m) := by
  intro m
  induction m with
  | zero =>
    intro _
    refine ⟨⟨Int.le_refl 0, (by decide : (0 : Int) ≤ 6), fun i i0 i1 => ?_, fun i i0 i1 => ?_⟩, Int.le_refl 0, fun h => absurd h (by decide : ¬ (0 : Int) < 0), fun _ j _ _ _ _ h => ?_⟩
    · have : i < 0 := i1; omega
    · have : i + 1 < 0 := i1; omega
    · have : cls s j < 0 := h.2; omega
  | succ m ih =>
    intro hm
    obtain ⟨⟨h1, h2, h3, h4⟩, h5, h6, h7⟩ := ih (by omega)
    unfold tk
    by_cases q : 0 < cn s v k m m
    · rw [if_pos q]
      have hp : 0 < tot s v k := by have := cn_le_tot (s := s) (v := v) (k := k) (a := m) (b := m); omega
      refine ⟨⟨by show 0 ≤ _ + 1; omega, by show _ + 1 ≤ (6 : Int); omega, fun i i0 i1 => ?_, fun i i0 i1 => ?_⟩, by show _ + 1 ≤ _; omega, fun _ => ?_, fun h => ?_⟩
      · replace i1 : i < (tk (fun c => cn s v k c c) m).1 + 1 := i1
        show 0 ≤ setF _ _ _ i ∧ setF _ _ _ i ≤ setF _ _ _ i ∧ setF _ _ _ i ≤ 5 ∧ setF _ _ _ i = cn s v k (setF _ _ _ i) (setF _ _ _ i)
        by_cases e : i = (tk (fun c => cn s v k c c) m).1
        · subst e
          simp only [setF_s]
          exact ⟨by omega, Int.le_refl _, by omega, trivial⟩
        · simp only [setF_n e]
          exact h3 i i0 (by omega)
      · replace i1 : i + 1 < (tk (fun c => cn s v k c c) m).1 + 1 := i1
        show setF _ _ _ i < setF _ _ _ (i + 1) ∧ gap s v k (setF _ _ _ i) (setF _ _ _ (i + 1))
        by_cases e : i + 1 = (tk (fun c => cn s v k c c) m).1
        · rw [e, setF_s, setF_n (by omega)]
          have h8 := h6 (by omega)
          have e2 : i = (tk (fun c => cn s v k c c) m).1 - 1 := by omega
          rw [e2]
          exact ⟨h8.1, h8.2.1⟩
        · rw [setF_n e, setF_n (by omega)]
          exact h4 i i0 (by omega)
      · show setF _ _ _ ((tk (fun c => cn s v k c c) m).1 + 1 - 1) < _ ∧ gap s v k (setF _ _ _ ((tk (fun c => cn s v k c c) m).1 + 1 - 1)) _ ∧ _
        have e2 : (tk (fun c => cn s v k c c) m).1 + 1 - 1 = (tk (fun c => cn s v k c c) m).1 := by omega
        rw [e2, setF_s]
        exact ⟨by omega, fun j j0 j1 e ek h => by omega, hp⟩
      · replace h : (tk (fun c => cn s v k c c) m).1 + 1 = 0 := h
        omega
    · rw [if_neg q]
      have hz := cn_none q
      refine ⟨⟨h1, h2, h3, h4⟩, by omega, fun h => ?_, fun h => ?_⟩
      · have h8 := h6 h
        refine ⟨by omega, fun j j0 j1 e ek hh => ?_, h8.2.2⟩
        have := h8.2.1 j j0 j1 e ek
        have := hz j j0 j1 e ek
        omega
      · intro j j0 j1 e ek hh
        have := h7 h j j0 j1 e ek
        have := hz j j0 j1 e ek
        omega
theorem jn_ok {s : Rw} {v : Int → Bool} {k : Int} {t : Tr} (h : TOK s v k t) (h2 : 2 ≤ t.1) : TOK s v k (jn t) := by
  obtain ⟨a1, a2, a3, a4⟩ := h
  have hb := bsI_bd t.2.2.2 (i := t.1 - 1) (by omega)
  unfold jn
  generalize bsI t.2.2.2 (t.1 - 1) = b at hb
  refine ⟨by show 0 ≤ t.1 - 1; omega, by show t.1 - 1 ≤ 6; omega, fun i i0 i1 => ?_, fun i i0 i1 => ?_⟩
  · replace i1 : i < t.1 - 1 := i1
    have c1 := a3 i i0 (by omega)
    have c2 := a3 (i + 1) (by omega) (by omega)
    have c3 := a4 i i0 (by omega)
    dsimp only
    by_cases q : i < b
    · rw [if_pos (by omega), if_pos q, if_pos q]; exact c1
    · by_cases e : i = b
      · rw [if_pos (by omega), if_neg q, if_neg q, if_pos e]
        refine ⟨c1.1, by omega, c2.2.2.1, ?_⟩
        rw [c1.2.2.2, c2.2.2.2]
        exact (cn_add c1.2.1 c3.1 c2.2.1 c3.2).symm
      · rw [if_neg (by omega), if_neg q, if_neg q, if_neg e]; exact c2
  · replace i1 : i + 1 < t.1 - 1 := i1
    have c1 := a4 i i0 (by omega)
    have c2 := a4 (i + 1) (by omega) (by omega)
    dsimp only
    by_cases q : i < b
    · rw [if_pos q, if_pos (by omega)]; exact c1
    · rw [if_neg q, if_neg (by omega)]; exact c2
theorem jns_ok {s : Rw} {v : Int → Bool} {k most : Int} (h1 : 1 ≤ most) : ∀ (f : Nat) (t : Tr), TOK s v k t → TOK s v k (jns most f t) ∧ (0 < (jns most f t).1 ↔ 0 < t.1)
  | 0, t, h => ⟨h, Iff.rfl⟩
  | f + 1, t, h => by
    unfold jns
    split
    · exact ⟨h, Iff.rfl⟩
    · have := jns_ok h1 f (jn t) (jn_ok h (by omega))
      refine ⟨this.1, this.2.trans ?_⟩
      show 0 < t.1 - 1 ↔ 0 < t.1
      omega
theorem rg_ok {s : Rw} (hd : Dm s) (v : Int → Bool) (k : Int) : TOK s v k (rg s v k) := (jns_ok hd.set.1.1 6 _ (tk_ok 6 (by omega)).1).1
theorem rg_pos {s : Rw} (hd : Dm s) (v : Int → Bool) (k : Int) : 0 < (rg s v k).1 ↔ 0 < tot s v k := by
  have h6 := tk_ok (s := s) (v := v) (k := k) 6 (by omega)
  refine (jns_ok hd.set.1.1 6 _ h6.1).2.trans ?_
  show 0 < (tk (fun c => cn s v k c c) 6).1 ↔ _
  constructor
  · intro h; exact (h6.2.2.1 h).2.2
  · intro h
    refine Classical.byContradiction fun hn => ?_
    have h0 := h6.1.1
    have hg := h6.2.2.2 (by omega)
    obtain ⟨j, j0, j1, e⟩ := cI_some h
    simp only [Bool.and_eq_true, decide_eq_true_eq] at e
    have hc := cls_bd hd j0 j1
    exact hg j j0 j1 e.1 e.2 ⟨by omega, by omega⟩
