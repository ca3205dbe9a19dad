/-! ===== the law's order of the kinds: by blocks ===== -/
def key (s : Rw) (k : Int) : Int := 4 * rk s k + k
theorem ltk_key {s : Rw} (hs : SL s) {a b : Int} (a0 : 0 ≤ a) (a1 : a < 4) (b0 : 0 ≤ b) (b1 : b < 4) (h : ltk s a b) : key s a < key s b := by
  unfold ltk at h
  unfold key
  rcases h with h | ⟨h1, h2⟩ <;> omega
theorem key_bd {s : Rw} (hs : SL s) {k : Int} (k0 : 0 ≤ k) (k1 : k < 4) : 0 ≤ key s k ∧ key s k ≤ 27 := by
  have := hs.k k0 k1
  unfold key
  omega
def bkN (s : Rw) (v : Int → Bool) (k : Int) : Nat → Int
  | 0 => key s k
  | m + 1 => if (isS s v m = true ∧ 0 ≤ gp s k ∧ gp s m = gp s k) ∧ key s m < bkN s v k m then key s m else bkN s v k m
def blk (s : Rw) (v : Int → Bool) (k : Int) : Int := bkN s v k 4
theorem bkN_of (s : Rw) (v : Int → Bool) (k : Int) : ∀ m : Nat, bkN s v k m ≤ key s k ∧ (∀ o : Int, 0 ≤ o → o < m → isS s v o = true → 0 ≤ gp s k → gp s o = gp s k → bkN s v k m ≤ key s o) ∧ (bkN s v k m = key s k ∨ ∃ o : Int, 0 ≤ o ∧ o < m ∧ isS s v o = true ∧ 0 ≤ gp s k ∧ gp s o = gp s k ∧ bkN s v k m = key s o)
  | 0 => ⟨Int.le_refl _, fun o o0 o1 => by omega, Or.inl rfl⟩
  | m + 1 => by
    obtain ⟨h1, h2, h3⟩ := bkN_of s v k m
    unfold bkN
    split
    · rename_i q
      refine ⟨by omega, fun o o0 o1 p1 p2 p3 => ?_, Or.inr ⟨m, by omega, by omega, q.1.1, q.1.2.1, q.1.2.2, rfl⟩⟩
      by_cases z : o = m
      · rw [z]; exact Int.le_refl _
      · have := h2 o o0 (by omega) p1 p2 p3; omega
    · rename_i q
      refine ⟨h1, fun o o0 o1 p1 p2 p3 => ?_, ?_⟩
      · by_cases z : o = m
        · rw [z] at p1 p3 ⊢
          refine Classical.byContradiction fun w => q ⟨⟨p1, p2, p3⟩, by omega⟩
        · exact h2 o o0 (by omega) p1 p2 p3
      · rcases h3 with h3 | ⟨o, a, b, c⟩
        · exact Or.inl h3
        · exact Or.inr ⟨o, a, by omega, c⟩
def its (s : Rw) (v : Int → Bool) (k : Int) : Int := 1000 * blk s v k + key s k
theorem isS_lt {s : Rw} {v : Int → Bool} (hs : SL s) {k : Int} (h : isS s v k = true) : k < 4 := by
  have h := of_decide_eq_true h
  obtain ⟨j, j0, j1, e⟩ := cI_some h
  simp only [Bool.and_eq_true, decide_eq_true_eq] at e
  have := hs.kd j0 j1
  omega
theorem Od_lt {s : Rw} {v : Int → Bool} (hs : SL s) {k : Int} (h : k ∈ Od s v) : (0 ≤ k ∧ k < 4) ∧ isS s v k = true := by
  have := Od_mem.mp h
  exact ⟨⟨this.1, isS_lt hs this.2.2⟩, this.2.2⟩
theorem Od_of {s : Rw} {v : Int → Bool} {k : Int} (k0 : 0 ≤ k) (k1 : k < 4) (h : isS s v k = true) : k ∈ Od s v := Od_mem.mpr ⟨k0, by omega, h⟩
theorem Od_len4 {s : Rw} {v : Int → Bool} (hs : SL s) : (Od s v).length ≤ 4 := by
  have e : ∀ m : Nat, (ordN s v (4 + m)).length ≤ 4 := by
    intro m
    induction m with
    | zero => exact ordN_len 4
    | succ m ih =>
      show (ordN s v ((4 + m) + 1)).length ≤ 4
      unfold ordN
      split
      · rename_i q
        have := isS_lt hs q
        omega
      · exact ih
  exact e 8
theorem Lns_len4 {s : Rw} (hs : SL s) (v : Int → Bool) : (Lns s v).length ≤ 29 := by
  have h := em_len hs.d (v := v) (Od s v) [] (fun _ => false) rfl (fun x hx => absurd hx List.not_mem_nil)
  have h1 := List.length_filter_le (nd s (fun _ => false)) (Od s v)
  have h2 := Od_len4 (v := v) hs
  have h3 : cI (fun _ : Int => !false) 5 = 5 := by decide
  rw [h3] at h
  unfold Lns
  omega
/-- the kinds, block by block -/
def fl (s : Rw) (v : Int → Bool) : List Int → (Int → Bool) → List Int
  | [], _ => []
  | k :: r, D => if gp s k = -1 then k :: fl s v r D else if D (gp s k) = true then fl s v r D else (Od s v).filter (ing s (gp s k)) ++ fl s v r (addD D (gp s k))
def Fo (s : Rw) (v : Int → Bool) : List Int := fl s v (Od s v) (fun _ => false)
theorem fl_sub {s : Rw} {v : Int → Bool} : ∀ (R : List Int) (D : Int → Bool), (∀ x ∈ R, x ∈ Od s v) → ∀ x ∈ fl s v R D, x ∈ Od s v
  | [], D, _, x, hx => absurd hx List.not_mem_nil
  | k :: r, D, hR, x, hx => by
    have hr : ∀ x ∈ r, x ∈ Od s v := fun x h => hR x (List.mem_cons_of_mem _ h)
    unfold fl at hx
    split at hx
    · rcases List.mem_cons.mp hx with e | e
      · rw [e]; exact hR k List.mem_cons_self
      · exact fl_sub r D hr x e
    · split at hx
      · exact fl_sub r D hr x hx
      · rcases List.mem_append.mp hx with e | e
        · exact (List.mem_filter.mp e).1
        · exact fl_sub r _ hr x e
theorem fl_all {s : Rw} {v : Int → Bool} : ∀ (R : List Int) (D : Int → Bool), (∀ x ∈ R, x ∈ Od s v) → ∀ x ∈ R, (gp s x = -1 ∨ D (gp s x) = false) → x ∈ fl s v R D
  | [], D, _, x, hx, _ => absurd hx List.not_mem_nil
  | k :: r, D, hR, x, hx, hD => by
    have hr : ∀ x ∈ r, x ∈ Od s v := fun x h => hR x (List.mem_cons_of_mem _ h)
    unfold fl
    by_cases q1 : gp s k = -1
    · rw [if_pos q1]
      rcases List.mem_cons.mp hx with e | e
      · rw [e]; exact List.mem_cons_self
      · exact List.mem_cons_of_mem _ (fl_all r D hr x e hD)
    · rw [if_neg q1]
      by_cases q2 : D (gp s k) = true
      · rw [if_pos q2]
        rcases List.mem_cons.mp hx with e | e
        · rw [e, q2] at hD
          rcases hD with z | z
          · exact absurd z q1
          · exact absurd z (by decide)
        · exact fl_all r D hr x e hD
      · rw [if_neg q2]
        by_cases q3 : gp s x = gp s k
        · exact List.mem_append_left _ (List.mem_filter.mpr ⟨hR x hx, decide_eq_true q3⟩)
        · refine List.mem_append_right _ (fl_all r _ hr x ?_ ?_)
          · rcases List.mem_cons.mp hx with e | e
            · exact absurd (by rw [e]) q3
            · exact e
          · rcases hD with z | z
            · exact Or.inl z
            · refine Or.inr ?_
              unfold addD
              rw [z, decide_eq_false q3]; rfl
theorem Fo_mem {s : Rw} {v : Int → Bool} {x : Int} : x ∈ Fo s v ↔ x ∈ Od s v := ⟨fun h => fl_sub _ _ (fun _ z => z) x h, fun h => fl_all _ _ (fun _ z => z) x h (Or.inr rfl)⟩
/-- the first of a block has its least key -/
theorem blk_first {s : Rw} {v : Int → Bool} (hs : SL s) {P r : List Int} {k x : Int} (hO : Od s v = P ++ k :: r) (hP : ∀ y ∈ P, gp s y ≠ gp s k) (hg : 0 ≤ gp s k) (hx : x ∈ Od s v) (hgx : gp s x = gp s k) : blk s v x = key s k := by
  have hk := Od_lt hs (v := v) (k := k) (by rw [hO]; exact List.mem_append_right _ List.mem_cons_self)
  have hxx := Od_lt hs hx
  have least : ∀ y ∈ Od s v, gp s y = gp s k → key s k ≤ key s y := by
    intro y hy hgy
    have hyy := Od_lt hs hy
    rw [hO] at hy
    rcases List.mem_append.mp hy with e | e
    · exact absurd hgy (hP y e)
    · rcases List.mem_cons.mp e with e | e
      · rw [e]; exact Int.le_refl _
      · have hso := Od_sorted (s := s) (v := v)
        rw [hO, List.pairwise_append] at hso
        have := (List.pairwise_cons.mp hso.2.1).1 y e
        exact Int.le_of_lt (ltk_key hs hk.1.1 hk.1.2 hyy.1.1 hyy.1.2 this)
  obtain ⟨b1, b2, b3⟩ := bkN_of s v x 4
  have h1 := b2 k hk.1.1 hk.1.2 hk.2 (by omega) hgx.symm
  unfold blk
  refine Int.le_antisymm h1 ?_
  rcases b3 with b3 | ⟨o, o0, o1, o2, o3, o4, b3⟩
  · rw [b3]; exact least x hx hgx
  · rw [b3]; exact least o (Od_of o0 o1 o2) (by omega)
theorem blk_one {s : Rw} {v : Int → Bool} {k : Int} (hg : gp s k = -1) : blk s v k = key s k := by
  obtain ⟨b1, b2, b3⟩ := bkN_of s v k 4
  unfold blk
  rcases b3 with b3 | ⟨o, _, _, _, o3, _⟩
  · exact b3
  · omega
theorem fl_sorted {s : Rw} {v : Int → Bool} (hs : SL s) : ∀ (R P : List Int) (D : Int → Bool), Od s v = P ++ R → PD s D P → (fl s v R D).Pairwise (fun a b => its s v a < its s v b) ∧ ∀ y ∈ fl s v R D, ∃ k ∈ R, blk s v y = key s k
  | [], P, D, _, _ => ⟨List.Pairwise.nil, fun y hy => absurd hy List.not_mem_nil⟩
  | k :: r, P, D, hO, hP => by
    have hkO : k ∈ Od s v := by rw [hO]; exact List.mem_append_right _ List.mem_cons_self
    have hk := Od_lt hs hkO
    have hkg := hs.k hk.1.1 hk.1.2
    have eO : Od s v = (P ++ [k]) ++ r := by rw [hO]; simp
    have hrO : ∀ x ∈ r, x ∈ Od s v := fun x h => by rw [hO]; exact List.mem_append_right _ (List.mem_cons_of_mem _ h)
    have later : ∀ x ∈ r, key s k < key s x := fun x hx => by
      have hso := Od_sorted (s := s) (v := v)
      rw [hO, List.pairwise_append] at hso
      have hxx := Od_lt hs (hrO x hx)
      exact ltk_key hs hk.1.1 hk.1.2 hxx.1.1 hxx.1.2 ((List.pairwise_cons.mp hso.2.1).1 x hx)
    have apart : ∀ x y : Int, x ∈ Od s v → y ∈ Od s v → blk s v x = key s k → (∃ k' ∈ r, blk s v y = key s k') → its s v x < its s v y := by
      rintro x y hx hy e1 ⟨k', hk', e2⟩
      have hxx := Od_lt hs hx
      have hyy := Od_lt hs hy
      have b1 := key_bd hs hxx.1.1 hxx.1.2
      have b2 := key_bd hs hyy.1.1 hyy.1.2
      have := later k' hk'
      unfold its
      rw [e1, e2]
      omega
    unfold fl
    by_cases q1 : gp s k = -1
    · rw [if_pos q1]
      obtain ⟨i1, i2⟩ := fl_sorted hs r (P ++ [k]) D eO (hP.add (Or.inl q1))
      refine ⟨List.pairwise_cons.mpr ⟨fun y hy => apart k y hkO (fl_sub r D hrO y hy) (blk_one q1) (i2 y hy), i1⟩, fun y hy => ?_⟩
      rcases List.mem_cons.mp hy with e | e
      · exact ⟨k, List.mem_cons_self, by rw [e]; exact blk_one q1⟩
      · obtain ⟨k', h1, h2⟩ := i2 y e
        exact ⟨k', List.mem_cons_of_mem _ h1, h2⟩
    · rw [if_neg q1]
      by_cases q2 : D (gp s k) = true
      · rw [if_pos q2]
        obtain ⟨i1, i2⟩ := fl_sorted hs r (P ++ [k]) D eO (hP.add (Or.inr q2))
        exact ⟨i1, fun y hy => by obtain ⟨k', h1, h2⟩ := i2 y hy; exact ⟨k', List.mem_cons_of_mem _ h1, h2⟩⟩
      · rw [if_neg q2]
        have hD : D (gp s k) = false := by simpa using q2
        obtain ⟨i1, i2⟩ := fl_sorted hs r (P ++ [k]) (addD D (gp s k)) eO hP.grow
        have hPk : ∀ y ∈ P, gp s y ≠ gp s k := fun y hy e => by
          rcases hP y hy with z | z
          · omega
          · rw [e, hD] at z; exact absurd z (by decide)
        have bf : ∀ x ∈ (Od s v).filter (ing s (gp s k)), x ∈ Od s v ∧ blk s v x = key s k := fun x hx => by
          have := List.mem_filter.mp hx
          exact ⟨this.1, blk_first hs hO hPk (by omega) this.1 (of_decide_eq_true this.2)⟩
        refine ⟨List.pairwise_append.mpr ⟨?_, i1, fun x hx y hy => apart x y (bf x hx).1 (fl_sub r _ hrO y hy) (bf x hx).2 (i2 y hy)⟩, fun y hy => ?_⟩
        · have hso : ((Od s v).filter (ing s (gp s k))).Pairwise (ltk s) := List.Pairwise.filter _ (Od_sorted (s := s) (v := v))
          refine List.Pairwise.imp_of_mem (fun {a b} ha hb hab => ?_) hso
          have h1 := bf a ha
          have h2 := bf b hb
          have h3 := Od_lt hs h1.1
          have h4 := Od_lt hs h2.1
          have := ltk_key hs h3.1.1 h3.1.2 h4.1.1 h4.1.2 hab
          unfold its
          rw [h1.2, h2.2]
          omega
        · rcases List.mem_append.mp hy with e | e
          · exact ⟨k, List.mem_cons_self, (bf y e).2⟩
          · obtain ⟨k', h1, h2⟩ := i2 y e
            exact ⟨k', List.mem_cons_of_mem _ h1, h2⟩
theorem Fo_sorted {s : Rw} {v : Int → Bool} (hs : SL s) : (Fo s v).Pairwise (fun a b => its s v a < its s v b) := (fl_sorted hs (Od s v) [] (fun _ => false) rfl (fun x hx => absurd hx List.not_mem_nil)).1
/-! ===== the lines, kind by kind ===== -/
def thr (s : Rw) (v : Int → Bool) (k : Int) : Int := if gp s k < 0 then 1 else see s v (gp s k)
def jnd (s : Rw) (v : Int → Bool) (k : Int) : Bool := decide (0 ≤ gp s k) && jd s v (gp s k)
def hd1 (s : Rw) (v : Int → Bool) (k : Int) : Ln := if jnd s v k = true then (2, -1, gp s k, -1, -1, gs s v (gp s k)) else (1, -1, gp s k, -1, -1, 0)
def emL (s : Rw) (v : Int → Bool) : List Int → Int → List Ln
  | [], _ => []
  | k :: r, p => ((if 1 < thr s v k ∧ gp s k ≠ p then [hd1 s v k] else []) ++ (if jnd s v k = true then [] else KL s v k)) ++ emL s v r (gp s k)
theorem emL_same {s : Rw} {v : Int → Bool} {g : Int} (g0 : 0 ≤ g) {X : List Int} : ∀ B : List Int, (∀ x ∈ B, gp s x = g) → emL s v (B ++ X) g = (if jd s v g = true then [] else B.flatMap (KL s v)) ++ emL s v X g
  | [], _ => by
    show emL s v X g = _
    split <;> rfl
  | k :: B, h => by
    have hk := h k List.mem_cons_self
    have ih := emL_same (v := v) g0 (X := X) B (fun x hx => h x (List.mem_cons_of_mem _ hx))
    have ej : jnd s v k = jd s v g := by unfold jnd; rw [hk, decide_eq_true g0, Bool.true_and]
    show ((if 1 < thr s v k ∧ gp s k ≠ g then [hd1 s v k] else []) ++ (if jnd s v k = true then [] else KL s v k)) ++ emL s v (B ++ X) (gp s k) = _
    rw [if_neg (fun z => z.2 hk), hk, ih, ej]
    by_cases q : jd s v g = true
    · simp only [if_pos q, List.nil_append]
    · simp only [if_neg q, List.nil_append, List.flatMap_cons, List.append_assoc]
theorem emL_blk {s : Rw} {v : Int → Bool} {g p : Int} (g0 : 0 ≤ g) (hp : p ≠ g) {X B : List Int} (hB : B ≠ []) (h : ∀ x ∈ B, gp s x = g) : emL s v (B ++ X) p = ((if 1 < see s v g then [if jd s v g = true then ((2, -1, g, -1, -1, gs s v g) : Ln) else (1, -1, g, -1, -1, 0)] else []) ++ (if jd s v g = true then [] else B.flatMap (KL s v))) ++ emL s v X g := by
  cases B with
  | nil => exact absurd rfl hB
  | cons k B =>
    have hk := h k List.mem_cons_self
    have ej : jnd s v k = jd s v g := by unfold jnd; rw [hk, decide_eq_true g0, Bool.true_and]
    have et : thr s v k = see s v g := by unfold thr; rw [hk, if_neg (by omega)]
    show ((if 1 < thr s v k ∧ gp s k ≠ p then [hd1 s v k] else []) ++ (if jnd s v k = true then [] else KL s v k)) ++ emL s v (B ++ X) (gp s k) = _
    have eh : hd1 s v k = if jd s v g = true then ((2, -1, g, -1, -1, gs s v g) : Ln) else (1, -1, g, -1, -1, 0) := by unfold hd1; rw [ej, hk]
    rw [et, eh, hk, emL_same g0 B (fun x hx => h x (List.mem_cons_of_mem _ hx)), ej]
    have e1 : (if 1 < see s v g ∧ g ≠ p then [if jd s v g = true then ((2, -1, g, -1, -1, gs s v g) : Ln) else (1, -1, g, -1, -1, 0)] else []) = (if 1 < see s v g then [if jd s v g = true then ((2, -1, g, -1, -1, gs s v g) : Ln) else (1, -1, g, -1, -1, 0)] else []) := by
      by_cases q : 1 < see s v g
      · rw [if_pos q, if_pos ⟨q, fun z => hp z.symm⟩]
      · rw [if_neg q, if_neg (fun z => q z.1)]
    rw [e1]
    by_cases q : jd s v g = true
    · simp only [if_pos q, List.append_nil, List.nil_append]
    · simp only [if_neg q, List.flatMap_cons, List.append_assoc]
theorem emL_em {s : Rw} {v : Int → Bool} (hs : SL s) : ∀ (R P : List Int) (D : Int → Bool) (p : Int), Od s v = P ++ R → (p = -1 ∨ D p = true) → emL s v (fl s v R D) p = em s v R D
  | [], P, D, p, _, _ => rfl
  | k :: r, P, D, p, hO, hp => by
    have hkO : k ∈ Od s v := by rw [hO]; exact List.mem_append_right _ List.mem_cons_self
    have hk := Od_lt hs hkO
    have hkg := hs.k hk.1.1 hk.1.2
    have eO : Od s v = (P ++ [k]) ++ r := by rw [hO]; simp
    unfold fl em
    by_cases q1 : gp s k = -1
    · rw [if_pos q1, if_pos q1]
      have ih := emL_em hs r (P ++ [k]) D (-1) eO (Or.inl rfl)
      show ((if 1 < thr s v k ∧ gp s k ≠ p then [hd1 s v k] else []) ++ (if jnd s v k = true then [] else KL s v k)) ++ emL s v (fl s v r D) (gp s k) = _
      have et : thr s v k = 1 := by unfold thr; rw [if_pos (by omega)]
      have ej : jnd s v k = false := by unfold jnd; rw [decide_eq_false (by omega), Bool.false_and]
      rw [et, if_neg (fun z => by omega), ej, if_neg (by decide), q1, ih]
      rfl
    · rw [if_neg q1, if_neg q1]
      by_cases q2 : D (gp s k) = true
      · rw [if_pos q2, if_pos q2]
        exact emL_em hs r (P ++ [k]) D p eO hp
      · rw [if_neg q2, if_neg q2]
        have hD : D (gp s k) = false := by simpa using q2
        have ih := emL_em hs r (P ++ [k]) (addD D (gp s k)) (gp s k) eO (Or.inr (by unfold addD; simp))
        have hB : (Od s v).filter (ing s (gp s k)) ≠ [] := fun z => by
          have : k ∈ (Od s v).filter (ing s (gp s k)) := List.mem_filter.mpr ⟨hkO, decide_eq_true rfl⟩
          rw [z] at this
          exact absurd this List.not_mem_nil
        rw [emL_blk (by omega) (fun z => by rw [z, hD] at hp; rcases hp with w | w; omega; exact absurd w (by decide)) hB (fun x hx => of_decide_eq_true (List.mem_filter.mp hx).2), ih]
        congr 1
        unfold GL GH
        by_cases q : jd s v (gp s k) = true
        · have hsee : 2 ≤ see s v (gp s k) := (of_decide_eq_true q).2.1
          simp only [if_pos q, if_pos (by omega : 1 < see s v (gp s k)), List.append_nil]
        · simp only [if_neg q]
          by_cases q3 : 1 < see s v (gp s k)
          · rw [if_pos q3, if_pos (by omega)]
          · rw [if_neg q3, if_neg (by omega)]
theorem emL_Lns {s : Rw} {v : Int → Bool} (hs : SL s) : emL s v (Fo s v) (-1) = Lns s v := emL_em hs (Od s v) [] (fun _ => false) (-1) rfl (Or.inl rfl)
