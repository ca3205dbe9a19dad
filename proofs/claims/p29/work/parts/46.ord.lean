/-! ===== the order of the kinds in sight ===== -/
def isS (s : Rw) (v : Int → Bool) (k : Int) : Bool := decide (0 < tot s v k)
def ltk (s : Rw) (a b : Int) : Prop := rk s a < rk s b ∨ (rk s a = rk s b ∧ a < b)
def insK (s : Rw) (k : Int) : List Int → List Int
  | [] => [k]
  | a :: r => if rk s a ≤ rk s k then a :: insK s k r else k :: a :: r
def ordN (s : Rw) (v : Int → Bool) : Nat → List Int
  | 0 => []
  | m + 1 => if isS s v m then insK s m (ordN s v m) else ordN s v m
def Od (s : Rw) (v : Int → Bool) : List Int := ordN s v 12
theorem mem_insK {s : Rw} {k x : Int} : ∀ {L : List Int}, x ∈ insK s k L ↔ x = k ∨ x ∈ L
  | [] => by simp [insK]
  | a :: r => by
    unfold insK
    split
    · rw [List.mem_cons, mem_insK, List.mem_cons]
      constructor
      · rintro (h | h | h)
        · exact Or.inr (Or.inl h)
        · exact Or.inl h
        · exact Or.inr (Or.inr h)
      · rintro (h | h | h)
        · exact Or.inr (Or.inl h)
        · exact Or.inl h
        · exact Or.inr (Or.inr h)
    · rw [List.mem_cons]
theorem len_insK {s : Rw} {k : Int} : ∀ {L : List Int}, (insK s k L).length = L.length + 1
  | [] => rfl
  | a :: r => by
    unfold insK
    split
    · rw [List.length_cons, len_insK, List.length_cons]
    · rfl
theorem ordN_mem {s : Rw} {v : Int → Bool} {x : Int} : ∀ m : Nat, x ∈ ordN s v m ↔ 0 ≤ x ∧ x < m ∧ isS s v x = true
  | 0 => by simp [ordN]; omega
  | m + 1 => by
    unfold ordN
    cases e : isS s v m with
    | false =>
      rw [if_neg (by simp), ordN_mem m]
      constructor
      · rintro ⟨a, b, c⟩; exact ⟨a, by omega, c⟩
      · rintro ⟨a, b, c⟩
        refine ⟨a, ?_, c⟩
        by_cases q : x = m
        · rw [q, e] at c; exact absurd c (by decide)
        · omega
    | true =>
      rw [if_pos rfl, mem_insK, ordN_mem m]
      constructor
      · rintro (h | ⟨a, b, c⟩)
        · rw [h]; exact ⟨by omega, by omega, e⟩
        · exact ⟨a, by omega, c⟩
      · rintro ⟨a, b, c⟩
        by_cases q : x = m
        · exact Or.inl q
        · exact Or.inr ⟨a, by omega, c⟩
theorem ordN_len {s : Rw} {v : Int → Bool} : ∀ m : Nat, (ordN s v m).length ≤ m
  | 0 => Nat.le_refl 0
  | m + 1 => by
    have := ordN_len (s := s) (v := v) m
    unfold ordN
    split
    · rw [len_insK]; omega
    · omega
theorem insK_sorted {s : Rw} {k : Int} : ∀ {L : List Int}, L.Pairwise (ltk s) → (∀ x ∈ L, x < k) → (insK s k L).Pairwise (ltk s)
  | [], _, _ => by simp [insK]
  | a :: r, h, hk => by
    rw [List.pairwise_cons] at h
    have ha := hk a List.mem_cons_self
    unfold insK
    split
    · rename_i q
      rw [List.pairwise_cons]
      refine ⟨fun x hx => ?_, insK_sorted h.2 (fun x hx => hk x (List.mem_cons_of_mem _ hx))⟩
      rcases mem_insK.mp hx with e | e
      · rw [e]; unfold ltk; omega
      · exact h.1 x e
    · rename_i q
      rw [List.pairwise_cons, List.pairwise_cons]
      refine ⟨fun x hx => ?_, h⟩
      rcases List.mem_cons.mp hx with e | e
      · rw [e]; unfold ltk; omega
      · have := h.1 x e; unfold ltk at this ⊢; omega
theorem ordN_sorted {s : Rw} {v : Int → Bool} : ∀ m : Nat, (ordN s v m).Pairwise (ltk s)
  | 0 => List.Pairwise.nil
  | m + 1 => by
    unfold ordN
    split
    · exact insK_sorted (ordN_sorted m) (fun x hx => ((ordN_mem m).mp hx).2.1)
    · exact ordN_sorted m
theorem insK_split {s : Rw} {k : Int} {B : List Int} (hB : ∀ x ∈ B, rk s k < rk s x) : ∀ {A : List Int}, (∀ x ∈ A, rk s x ≤ rk s k) → insK s k (A ++ B) = A ++ k :: B
  | [], _ => by
    cases B with
    | nil => rfl
    | cons a r =>
      have := hB a List.mem_cons_self
      show insK s k (a :: r) = k :: a :: r
      unfold insK
      rw [if_neg (by omega)]
  | a :: A, h => by
    show insK s k (a :: (A ++ B)) = a :: (A ++ k :: B)
    unfold insK
    rw [if_pos (h a List.mem_cons_self), insK_split hB (fun x hx => h x (List.mem_cons_of_mem _ hx))]
theorem Od_mem {s : Rw} {v : Int → Bool} {x : Int} : x ∈ Od s v ↔ 0 ≤ x ∧ x < 12 ∧ isS s v x = true := ordN_mem 12
theorem Od_len {s : Rw} {v : Int → Bool} : (Od s v).length ≤ 12 := ordN_len 12
theorem Od_sorted {s : Rw} {v : Int → Bool} : (Od s v).Pairwise (ltk s) := ordN_sorted 12
/-! ===== the lines: what it is, kind, group, first class, last class, signs ===== -/
abbrev Ln : Type := Int × Int × Int × Int × Int × Int
def mem' (s : Rw) (g : Int) : Int := cI (fun k => decide (gp s k = g)) 12
def see (s : Rw) (v : Int → Bool) (g : Int) : Int := cI (fun k => decide (gp s k = g) && isS s v k) 12
def gs (s : Rw) (v : Int → Bool) (g : Int) : Int := cI (fun i => v i && decide (gp s (kd s i) = g)) (s 9)
def jd (s : Rw) (v : Int → Bool) (g : Int) : Bool := decide (s (10 + g) = 1 ∧ 2 ≤ see s v g ∧ see s v g = mem' s g)
def KLn (s : Rw) (v : Int → Bool) (k : Int) (n : Nat) : List Ln := (List.range n).map (fun j : Nat => ((0, k, gp s k, (rg s v k).2.1 j, (rg s v k).2.2.1 j, (rg s v k).2.2.2 j) : Ln))
def KL (s : Rw) (v : Int → Bool) (k : Int) : List Ln := KLn s v k (rg s v k).1.toNat
theorem KLn_S (s : Rw) (v : Int → Bool) (k : Int) (n : Nat) : KLn s v k (n + 1) = KLn s v k n ++ [((0, k, gp s k, (rg s v k).2.1 n, (rg s v k).2.2.1 n, (rg s v k).2.2.2 n) : Ln)] := by
  unfold KLn
  rw [List.range_succ, List.map_append]
  rfl
theorem KLn_len {s : Rw} {v : Int → Bool} {k : Int} {n : Nat} : (KLn s v k n).length = n := by
  unfold KLn; rw [List.length_map, List.length_range]
theorem KL_len {s : Rw} (hd : Dm s) {v : Int → Bool} {k : Int} : (KL s v k).length ≤ 6 := by
  have := (rg_ok hd v k).2.1
  unfold KL; rw [KLn_len]; omega
def ing (s : Rw) (g : Int) (k : Int) : Bool := decide (gp s k = g)
def GH (s : Rw) (v : Int → Bool) (g : Int) : List Ln := if 2 ≤ see s v g then [((1, -1, g, -1, -1, 0) : Ln)] else []
def GL (s : Rw) (v : Int → Bool) (g : Int) : List Ln := if jd s v g = true then [((2, -1, g, -1, -1, gs s v g) : Ln)] else GH s v g ++ ((Od s v).filter (ing s g)).flatMap (KL s v)
def addD (D : Int → Bool) (g : Int) : Int → Bool := fun x => D x || decide (x = g)
def em (s : Rw) (v : Int → Bool) : List Int → (Int → Bool) → List Ln
  | [], _ => []
  | k :: r, D => if gp s k = -1 then KL s v k ++ em s v r D else if D (gp s k) = true then em s v r D else GL s v (gp s k) ++ em s v r (addD D (gp s k))
def Lns (s : Rw) (v : Int → Bool) : List Ln := em s v (Od s v) (fun _ => false)
def nd (s : Rw) (D : Int → Bool) (k : Int) : Bool := decide (gp s k = -1) || !(D (gp s k))
theorem fm_len {s : Rw} (hd : Dm s) {v : Int → Bool} : ∀ A : List Int, (A.flatMap (KL s v)).length ≤ 6 * A.length
  | [] => Nat.le_refl _
  | a :: A => by
    have := fm_len hd (v := v) A
    have := KL_len hd (v := v) (k := a)
    rw [List.flatMap_cons, List.length_append, List.length_cons]
    omega
theorem GL_len {s : Rw} (hd : Dm s) {v : Int → Bool} {g : Int} : (GL s v g).length ≤ 1 + 6 * ((Od s v).filter (ing s g)).length := by
  have := fm_len hd (v := v) ((Od s v).filter (ing s g))
  unfold GL GH
  split
  · show 1 ≤ _; omega
  · rw [List.length_append]
    split
    · show 1 + _ ≤ _; omega
    · show 0 + _ ≤ _; omega
theorem nd_split {s : Rw} {D : Int → Bool} {g : Int} (hg : g ≠ -1) (hD : D g = false) : ∀ A : List Int, (A.filter (nd s D)).length = (A.filter (ing s g)).length + (A.filter (nd s (addD D g))).length
  | [] => rfl
  | a :: A => by
    have ih := nd_split (s := s) hg hD A
    rw [List.filter_cons, List.filter_cons, List.filter_cons]
    by_cases q : gp s a = g
    · have e1 : nd s D a = true := by unfold nd; rw [q, hD]; simp
      have e2 : ing s g a = true := by unfold ing; rw [q]; simp
      have e3 : nd s (addD D g) a = false := by unfold nd addD; rw [q]; simp [hg]
      rw [if_pos e1, if_pos e2, if_neg (by rw [e3]; simp), List.length_cons, List.length_cons]
      omega
    · have e2 : ing s g a = false := by unfold ing; rw [decide_eq_false q]
      have e3 : nd s (addD D g) a = nd s D a := by unfold nd addD; rw [decide_eq_false q, Bool.or_false]
      rw [e3, e2]
      cases nd s D a with
      | false => exact ih
      | true =>
        simp only [if_true, Bool.false_eq_true, if_false, List.length_cons]
        omega
theorem cN_set {D : Int → Bool} {g : Int} (hg : 0 ≤ g) (hD : D g = false) : ∀ n : Nat, cN (fun x => !(D x)) n = cN (fun x => !(addD D g x)) n + b01 (decide (g < n))
  | 0 => by rw [decide_eq_false (by omega)]; rfl
  | n + 1 => by
    have ih := cN_set hg hD n
    show cN (fun x => !(D x)) n + b01 (!(D n)) = (cN (fun x => !(addD D g x)) n + b01 (!(addD D g n))) + _
    unfold addD at *
    by_cases q : (n : Int) = g
    · rw [← q] at hD ih ⊢
      rw [decide_eq_false (by omega : ¬ (n : Int) < (n : Nat))] at ih
      rw [hD, decide_eq_true (by omega : (n : Int) < (n + 1 : Nat)), decide_eq_true (rfl : (n : Int) = n), Bool.false_or, ih]
      simp only [b01, Bool.not_false, Bool.not_true]
    · rw [decide_eq_false q, Bool.or_false, ih]
      by_cases q2 : g < n
      · rw [decide_eq_true q2, decide_eq_true (by omega)]; omega
      · rw [decide_eq_false q2, decide_eq_false (by omega)]; omega
/-- what is before: kinds without a group, and groups that are done -/
def PD (s : Rw) (D : Int → Bool) (P : List Int) : Prop := ∀ k ∈ P, gp s k = -1 ∨ D (gp s k) = true
theorem PD.add {s : Rw} {D : Int → Bool} {P : List Int} {k : Int} (h : PD s D P) (hk : gp s k = -1 ∨ D (gp s k) = true) : PD s D (P ++ [k]) := fun x hx => by
  rcases List.mem_append.mp hx with e | e
  · exact h x e
  · rw [List.mem_singleton.mp e]; exact hk
theorem PD.grow {s : Rw} {D : Int → Bool} {P : List Int} {k : Int} (h : PD s D P) : PD s (addD D (gp s k)) (P ++ [k]) := fun x hx => by
  unfold addD
  rcases List.mem_append.mp hx with e | e
  · rcases h x e with q | q
    · exact Or.inl q
    · exact Or.inr (by rw [q]; rfl)
  · rw [List.mem_singleton.mp e]; exact Or.inr (by simp)
/-- a group that isn't done has none of its kinds before -/
theorem PD.none {s : Rw} {D : Int → Bool} {P R : List Int} {g : Int} (h : PD s D P) (hg : g ≠ -1) (hD : D g = false) : (P ++ R).filter (ing s g) = R.filter (ing s g) := by
  rw [List.filter_append]
  have e : P.filter (ing s g) = [] := by
    rw [List.filter_eq_nil_iff]
    intro x hx hx2
    have e := of_decide_eq_true hx2
    rcases h x hx with q | q
    · exact hg (by omega)
    · rw [e, hD] at q; exact absurd q (by decide)
  rw [e, List.nil_append]
theorem em_len {s : Rw} (hd : Dm s) {v : Int → Bool} : ∀ (R P : List Int) (D : Int → Bool), Od s v = P ++ R → PD s D P → ((em s v R D).length : Int) ≤ 6 * ((R.filter (nd s D)).length : Int) + cI (fun g => !(D g)) 5
  | [], P, D, _, _ => by
    have := (cI_bd (fun g => !(D g)) (i := 5) (by decide)).1
    show (0 : Int) ≤ _
    omega
  | k :: r, P, D, hO, hP => by
    have hk := (Od_mem (s := s) (v := v) (x := k)).mp (by rw [hO]; exact List.mem_append_right _ List.mem_cons_self)
    have hg := hd.kind k hk.1 hk.2.1
    have eO : Od s v = (P ++ [k]) ++ r := by rw [hO]; simp
    unfold em
    by_cases q : gp s k = -1
    · have ih := em_len hd (v := v) r (P ++ [k]) D eO (hP.add (Or.inl q))
      have := KL_len hd (v := v) (k := k)
      have e1 : nd s D k = true := by unfold nd; rw [q]; simp
      rw [if_pos q, List.length_append, List.filter_cons, if_pos e1, List.length_cons]
      omega
    · rw [if_neg q]
      by_cases q2 : D (gp s k) = true
      · have ih := em_len hd (v := v) r (P ++ [k]) D eO (hP.add (Or.inr q2))
        have e1 : nd s D k = false := by unfold nd; rw [q2]; simp [q]
        rw [if_pos q2, List.filter_cons, if_neg (by rw [e1]; simp)]
        exact ih
      · have hD : D (gp s k) = false := by simpa using q2
        have ih := em_len hd (v := v) r (P ++ [k]) (addD D (gp s k)) eO hP.grow
        have hl := GL_len hd (v := v) (g := gp s k)
        rw [hO, hP.none q hD] at hl
        have hs := nd_split (s := s) q hD (k :: r)
        have e3 : nd s (addD D (gp s k)) k = false := by unfold nd addD; simp [q]
        have e4 : (k :: r).filter (nd s (addD D (gp s k))) = r.filter (nd s (addD D (gp s k))) := by rw [List.filter_cons, if_neg (by rw [e3]; simp)]
        rw [e4] at hs
        have hc := cN_set (g := gp s k) (by omega) hD 5
        rw [decide_eq_true (by omega)] at hc
        have hc2 : cI (fun g => !(D g)) 5 = cI (fun g => !(addD D (gp s k) g)) 5 + 1 := hc
        rw [if_neg q2, List.length_append]
        omega
theorem Lns_len {s : Rw} (hd : Dm s) (v : Int → Bool) : (Lns s v).length ≤ 77 := by
  have h := em_len hd (v := v) (Od s v) [] (fun _ => false) rfl (fun x hx => absurd hx List.not_mem_nil)
  have h1 := List.length_filter_le (nd s (fun _ => false)) (Od s v)
  have h2 := Od_len (s := s) (v := v)
  have h3 : cI (fun _ : Int => !false) 5 = 5 := by decide
  rw [h3] at h
  unfold Lns
  omega
