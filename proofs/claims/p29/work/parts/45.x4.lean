/-! ===== the class's ranges ===== -/
theorem s4_countSigns {b q c : Nat} {s : Rw} {v : Int → Bool} {σ : St} {K : St → Prop} (hd : Dm s) (hm : Ms σ q s) (hv : VA σ c v) (hq : q + 12 < b) (hc : c < b)
    (h : ∀ σ' : St, (∀ c : Nat, c ≠ b + 1 → c ≠ b + 2 → σ' c = σ c) → (∀ k : Int, 0 ≤ k → k < 12 → σ' (b + 1) k = tot s v k) → (∀ k c : Int, 0 ≤ k → k < 12 → 0 ≤ c → c < 6 → σ' (b + 2) (k * 6 + c) = cn s v k c c) → K σ') : f_X4_countSigns b q c σ K := by
  have hn := hd.n
  unfold f_X4_countSigns
  refine wl1s_inv (fun i τ => (0 ≤ i ∧ i ≤ 12) ∧ (∀ c : Nat, c ≠ b + 1 → c ≠ b + 2 → τ c = σ c) ∧ ∀ k : Int, 0 ≤ k → k < i → τ (b + 1) k = 0) (fun i _ => (12 - i).toNat) ?_ ⟨by omega, fun _ _ _ => rfl, fun k k0 k1 => by omega⟩
  rintro i τ ag ⟨hi, hf, hz⟩ hag
  refine ⟨⟨by omega, by omega⟩, fun q1 => ?_, fun q1 => ⟨by omega, ?_⟩⟩
  · have e : i = 12 := by omega
    subst e
    clear hag
    refine wl1s_inv (fun i ρ => (0 ≤ i ∧ i ≤ 72) ∧ (∀ c : Nat, c ≠ b + 1 → c ≠ b + 2 → ρ c = σ c) ∧ (∀ k : Int, 0 ≤ k → k < 12 → ρ (b + 1) k = 0) ∧ ∀ k : Int, 0 ≤ k → k < i → ρ (b + 2) k = 0) (fun i _ => (72 - i).toNat) ?_ ⟨by omega, hf, hz, fun k k0 k1 => by omega⟩
    clear hf hz hi q1
    rintro i ρ ag ⟨hi, hf, hz, hz2⟩ hag
    refine ⟨⟨by omega, by omega⟩, fun q1 => ?_, fun q1 => ⟨by omega, ?_⟩⟩
    · have e : i = 72 := by omega
      subst e
      clear hag
      refine wl1s_inv (fun i π => (0 ≤ i ∧ i ≤ s 9) ∧ (∀ c : Nat, c ≠ b + 1 → c ≠ b + 2 → π c = σ c) ∧ (∀ k : Int, 0 ≤ k → k < 12 → π (b + 1) k = cI (fun j => v j && decide (kd s j = k)) i) ∧ ∀ k c : Int, 0 ≤ k → k < 12 → 0 ≤ c → c < 6 → π (b + 2) (k * 6 + c) = cI (fun j => v j && (decide (kd s j = k) && decide (c ≤ cls s j ∧ cls s j ≤ c))) i) (fun i _ => (s 9 - i).toNat) ?_ ⟨by omega, hf, fun k k0 k1 => by rw [hz k k0 k1]; rfl, fun k c k0 k1 c0 c1 => by rw [hz2 _ (by omega) (by omega)]; rfl⟩
      clear hf hz hz2 hi q1
      rintro i π ag ⟨hi, hf, hz, hz2⟩ hag
      have e5 : π q 5 = s 9 := by rw [hf q (by omega) (by omega)]; exact hm.n
      rw [e5]
      refine ⟨⟨by omega, by omega⟩, ⟨by omega, by omega⟩, fun q1 => ?_, fun q1 => ⟨⟨by omega, by omega⟩, sp3 (B := v i) (by rw [hf c (by omega) (by omega)]; exact hv i hi.1 (by omega)) (fun r => ?_) (fun r => ⟨⟨by omega, by omega⟩, ?_⟩)⟩⟩
      · have e : i = s 9 := by omega
        subst e
        exact h π hf hz hz2
      · refine hag _ _ ⟨by omega, hf, fun k k0 k1 => ?_, fun k c k0 k1 c0 c1 => ?_⟩ (by omega)
        · rw [cI_S _ hi.1, hz k k0 k1, r]; simp only [Bool.false_and, b01, Int.add_zero]
        · rw [cI_S _ hi.1, hz2 k c k0 k1 c0 c1, r]; simp only [Bool.false_and, b01, Int.add_zero]
      · intro x7 e7
        have e1 : π (q + 1) i = kd s i := by rw [hf (q + 1) (by omega) (by omega)]; exact (hm.sign i hi.1 (by omega)).1
        rw [e1] at e7
        subst e7
        have hs := hd.sign i hi.1 (by omega)
        have hcl := cls_bd hd hi.1 (show i < s 9 by omega)
        refine ⟨by omega, by omega, ?_⟩
        intro s8 e8
        refine s3_classOf hd (hm.go (fun c h1 h2 => by rw [e8, up_c (by omega)]; exact hf c (by omega) (by omega))) hi.1 (by omega) ⟨by omega, by omega, ?_⟩
        intro s10 e10
        refine hag _ _ ⟨by omega, fun c h1 h2 => ?_, fun k k0 k1 => ?_, fun k c k0 k1 c0 c1 => ?_⟩ (by omega)
        · rw [e10, up_c h2, e8, up_c h1]; exact hf c h1 h2
        · rw [e10, up_c (by omega), e8, cI_S _ hi.1, r]
          by_cases q2 : k = kd s i
          · rw [q2, up_s, hz _ (by omega) (by omega), decide_eq_true rfl]; rfl
          · rw [up_i q2, hz k k0 k1, decide_eq_false (fun z => q2 z.symm)]; simp only [Bool.and_false, b01, Int.add_zero]
        · rw [e10, cI_S _ hi.1, r]
          by_cases q2 : k = kd s i ∧ c = cls s i
          · rw [← q2.1, ← q2.2, up_s, e8, up_c (by omega), hz2 k c k0 k1 c0 c1, decide_eq_true (rfl : k = k), decide_eq_true (by omega : c ≤ c ∧ c ≤ c)]; rfl
          · rw [up_i (by omega), e8, up_c (by omega), hz2 k c k0 k1 c0 c1]
            have e : (decide (kd s i = k) && decide (c ≤ cls s i ∧ cls s i ≤ c)) = false := by
              rw [Bool.and_eq_false_iff, decide_eq_false_iff_not, decide_eq_false_iff_not]
              omega
            rw [e]; simp only [Bool.and_false, b01, Int.add_zero]
    · intro s11 e11
      refine hag _ _ ⟨by omega, fun c h1 h2 => ?_, fun k k0 k1 => ?_, fun k k0 k1 => ?_⟩ (by omega)
      · rw [e11, up_c h2]; exact hf c h1 h2
      · rw [e11, up_c (by omega)]; exact hz k k0 k1
      · rw [e11]
        by_cases q2 : k = i
        · rw [q2, up_s]
        · rw [up_i q2]; exact hz2 k k0 (by omega)
  · intro s12 e12
    refine hag _ _ ⟨by omega, fun c h1 h2 => ?_, fun k k0 k1 => ?_⟩ (by omega)
    · rw [e12, up_c h1]; exact hf c h1 h2
    · rw [e12]
      by_cases q2 : k = i
      · rw [q2, up_s]
      · rw [up_i q2]; exact hz k k0 (by omega)
/-- the ranges of a kind, as they stand -/
def RT (σ : St) (b : Nat) (k : Int) (t : Tr) : Prop := σ (b + 3) k = t.1 ∧ ∀ i : Int, 0 ≤ i → i < t.1 → σ (b + 4) (k * 6 + i) = t.2.1 i ∧ σ (b + 5) (k * 6 + i) = t.2.2.1 i ∧ σ (b + 6) (k * 6 + i) = t.2.2.2 i
/-- only a kind's ranges have changed -/
def FK (σ τ : St) (b : Nat) (k : Int) : Prop := (∀ c : Nat, c < b + 3 ∨ b + 6 < c → τ c = σ c) ∧ (∀ j : Int, j ≠ k → τ (b + 3) j = σ (b + 3) j) ∧ ∀ j : Int, j < k * 6 ∨ k * 6 + 6 ≤ j → τ (b + 4) j = σ (b + 4) j ∧ τ (b + 5) j = σ (b + 5) j ∧ τ (b + 6) j = σ (b + 6) j
theorem FK.rf {σ : St} {b : Nat} {k : Int} : FK σ σ b k := ⟨fun _ _ => rfl, fun _ _ => rfl, fun _ _ => ⟨rfl, rfl, rfl⟩⟩
theorem FK.tr {σ τ ρ : St} {b : Nat} {k : Int} (h : FK σ τ b k) (g : FK τ ρ b k) : FK σ ρ b k := ⟨fun c hc => (g.1 c hc).trans (h.1 c hc), fun j hj => (g.2.1 j hj).trans (h.2.1 j hj), fun j hj => ⟨(g.2.2 j hj).1.trans (h.2.2 j hj).1, (g.2.2 j hj).2.1.trans (h.2.2 j hj).2.1, (g.2.2 j hj).2.2.trans (h.2.2 j hj).2.2⟩⟩
theorem RT.go {σ τ : St} {b : Nat} {k k1 : Int} {t : Tr} (h : RT σ b k1 t) (h6 : t.1 ≤ 6) (f : FK σ τ b k) (hn : k1 ≠ k) : RT τ b k1 t := by
  refine ⟨(f.2.1 _ hn).trans h.1, fun i i0 i1 => ?_⟩
  have g := f.2.2 (k1 * 6 + i) (by omega)
  have h2 := h.2 i i0 i1
  exact ⟨g.1.trans h2.1, g.2.1.trans h2.2.1, g.2.2.trans h2.2.2⟩
theorem s4_takeClasses {b : Nat} {k : Int} {s : Rw} {v : Int → Bool} {σ : St} {K : St → Prop} (hd : Dm s) (k0 : 0 ≤ k) (k1 : k < 12) (hc : ∀ c : Int, 0 ≤ c → c < 6 → σ (b + 2) (k * 6 + c) = cn s v k c c)
    (h : ∀ σ' : St, FK σ σ' b k → RT σ' b k (tkI (fun c => cn s v k c c) 6) → K σ') : f_X4_takeClasses b k σ K := by
  unfold f_X4_takeClasses
  intro x1 e1
  subst e1
  refine ⟨⟨k0, k1⟩, ?_⟩
  intro s2 e2
  refine wl1s_inv (fun i τ => (0 ≤ i ∧ i ≤ 6) ∧ FK σ τ b k ∧ RT τ b k (tkI (fun c => cn s v k c c) i)) (fun i _ => (6 - i).toNat) ?_ ⟨by omega, ⟨fun c hc => by rw [e2, up_c (by omega)], fun j hj => by rw [e2, up_i hj], fun j hj => by rw [e2, up_c (by omega), up_c (by omega), up_c (by omega)]; exact ⟨rfl, rfl, rfl⟩⟩, by rw [e2, up_s]; rfl, fun i i0 i1 => absurd (show i < 0 from i1) (by omega)⟩
  rintro i τ ag ⟨hi, hf, hr⟩ hag
  refine ⟨⟨by omega, by omega⟩, fun q => ?_, fun q => ⟨by omega, ?_⟩⟩
  · have e : i = 6 := by omega
    subst e
    exact h τ hf hr
  have eC : τ (b + 2) (k * 6 + i) = cn s v k i i := by rw [hf.1 _ (by omega)]; exact hc i hi.1 (by omega)
  have hb := cn_bd hd v k i i
  have hS := tkI_S (fun c => cn s v k c c) hi.1
  have ht := tk_ok (s := s) (v := v) (k := k) i.toNat (by omega)
  have ht1 : 0 ≤ (tkI (fun c => cn s v k c c) i).1 := ht.1.1
  have ht2 : (tkI (fun c => cn s v k c c) i).1 ≤ i := by have := ht.2.1; unfold tkI; omega
  rw [eC]
  clear ht
  generalize tkI (fun c => cn s v k c c) i = t at hS hr ht1 ht2
  refine ⟨⟨by omega, by omega⟩, fun q2 => ?_, fun q2 => ⟨⟨k0, k1⟩, ?_⟩⟩
  · rw [if_neg (by omega)] at hS
    exact hag _ _ ⟨by omega, hf, by rw [hS]; exact hr⟩ (by omega)
  · rw [if_pos (by omega)] at hS
    intro x5 e5
    rw [hr.1] at e5
    subst e5
    refine ⟨by omega, ?_⟩
    intro s6 e6
    refine ⟨by omega, ?_⟩
    intro s7 e7
    refine ⟨by omega, by omega, ?_⟩
    intro s8 e8
    refine ⟨⟨k0, k1⟩, ⟨k0, k1⟩, ?_⟩
    intro s9 e9
    have e10 : s7 (b + 2) (k * 6 + i) = cn s v k i i := by rw [e7, up_c (by omega), e6, up_c (by omega)]; exact eC
    rw [e10] at e8
    have e11 : s8 (b + 3) k = t.1 := by rw [e8, up_c (by omega), e7, up_c (by omega), e6, up_c (by omega)]; exact hr.1
    rw [e11] at e9
    subst e9 e8 e7 e6
    refine hag _ _ ⟨by omega, hf.tr ⟨fun c hc => ?_, fun j hj => ?_, fun j hj => ⟨?_, ?_, ?_⟩⟩, ?_, fun j j0 j1 => ?_⟩ (by omega)
    · simp (disch := omega) only [up_c]
    · simp (disch := omega) only [up_c, up_i]
    · simp (disch := omega) only [up_c, up_i]
    · simp (disch := omega) only [up_c, up_i]
    · simp (disch := omega) only [up_c, up_i]
    · rw [hS]; simp only [up_s]
    · rw [hS] at j1 ⊢
      replace j1 : j < t.1 + 1 := j1
      by_cases q3 : j = t.1
      · subst q3
        simp (disch := omega) only [up_c, up_s, setF_s]
        exact ⟨trivial, trivial, trivial⟩
      · simp (disch := omega) only [up_c, up_i, setF_n]
        exact hr.2 j j0 (by omega)
theorem s4_joinFewest {b : Nat} {k : Int} {s : Rw} {v : Int → Bool} {t : Tr} {σ : St} {K : St → Prop} (hd : Dm s) (k0 : 0 ≤ k) (k1 : k < 12) (ht : TOK s v k t) (h2 : 2 ≤ t.1) (hr : RT σ b k t)
    (h : ∀ σ' : St, FK σ σ' b k → RT σ' b k (jn t) → K σ') : f_X4_joinFewest b k σ K := by
  have h6 := ht.2.1
  have hS : ∀ i : Int, 0 ≤ i → i < t.1 → 0 ≤ t.2.2.2 i ∧ t.2.2.2 i ≤ 40 := fun i i0 i1 => by rw [(ht.2.2.1 i i0 i1).2.2.2]; exact cn_bd hd v k _ _
  unfold f_X4_joinFewest
  intro x1 e1
  subst e1
  rw [hr.1]
  refine ⟨⟨k0, k1⟩, ?_⟩
  intro x2 e2
  subst e2
  intro x3 e3
  subst e3
  refine wl2_inv (fun x y => (k * 6 + 1 ≤ y ∧ y ≤ k * 6 + t.1 - 1) ∧ x = k * 6 + bsI t.2.2.2 (y - k * 6)) (fun _ y => (k * 6 + t.1 - y).toNat) ?_ ⟨by omega, (by rw [show k * 6 + 1 - k * 6 = 1 by omega, bsI_1]; omega)⟩
  rintro x y ag ⟨hy, hx⟩ hag
  have hb := bsI_bd t.2.2.2 (i := y - k * 6) (by omega)
  have hbS := bsI_S t.2.2.2 (i := y - k * 6) (by omega)
  refine ⟨⟨by omega, by omega⟩, ⟨by omega, by omega⟩, fun q => ⟨by omega, by omega, ?_⟩, fun q => ⟨by omega, by omega, by omega, by omega, ?_⟩⟩
  · have ey : y - k * 6 = t.1 - 1 := by omega
    rw [ey] at hx hb
    clear hbS hag
    intro s6 e6
    refine ⟨by omega, by omega, by omega, ?_⟩
    intro s7 e7
    intro x8 e8
    have r0 := hr.2 (bsI t.2.2.2 (t.1 - 1)) (by omega) (by omega)
    have r1 := hr.2 (bsI t.2.2.2 (t.1 - 1) + 1) (by omega) (by omega)
    have ex1 : k * 6 + (bsI t.2.2.2 (t.1 - 1) + 1) = x + 1 := by omega
    rw [ex1] at r1
    rw [← hx] at r0
    have eL : s6 = up2 σ (b + 5) x (t.2.2.1 (bsI t.2.2.2 (t.1 - 1) + 1)) := by rw [e6, r1.2.1]
    have eS : s7 = up2 s6 (b + 6) x (t.2.2.2 (bsI t.2.2.2 (t.1 - 1)) + t.2.2.2 (bsI t.2.2.2 (t.1 - 1) + 1)) := by
      rw [e7, e6]
      simp (disch := omega) only [up_c]
      rw [r0.2.2, r1.2.2]
    clear e6 e7 r0 r1 ex1
    have hj : jn t = (t.1 - 1, fun i => if i ≤ bsI t.2.2.2 (t.1 - 1) then t.2.1 i else t.2.1 (i + 1), fun i => if i < bsI t.2.2.2 (t.1 - 1) then t.2.2.1 i else t.2.2.1 (i + 1), fun i => if i < bsI t.2.2.2 (t.1 - 1) then t.2.2.2 i else if i = bsI t.2.2.2 (t.1 - 1) then t.2.2.2 i + t.2.2.2 (i + 1) else t.2.2.2 (i + 1)) := rfl
    rw [hj] at h
    clear hj
    generalize bsI t.2.2.2 (t.1 - 1) = w at *
    refine wl1s_inv (fun y τ => (k * 6 + w + 1 ≤ y ∧ y ≤ k * 6 + t.1 - 1) ∧ (∀ c : Nat, c < b + 4 ∨ b + 6 < c → τ c = σ c) ∧ (∀ j : Int, j < k * 6 ∨ k * 6 + 6 ≤ j → τ (b + 4) j = σ (b + 4) j ∧ τ (b + 5) j = σ (b + 5) j ∧ τ (b + 6) j = σ (b + 6) j) ∧ (∀ i : Int, 0 ≤ i → k * 6 + i < y → τ (b + 4) (k * 6 + i) = (if i ≤ w then t.2.1 i else t.2.1 (i + 1)) ∧ τ (b + 5) (k * 6 + i) = (if i < w then t.2.2.1 i else t.2.2.1 (i + 1)) ∧ τ (b + 6) (k * 6 + i) = (if i < w then t.2.2.2 i else if i = w then t.2.2.2 i + t.2.2.2 (i + 1) else t.2.2.2 (i + 1))) ∧ ∀ i : Int, y ≤ k * 6 + i → i < t.1 → τ (b + 4) (k * 6 + i) = t.2.1 i ∧ τ (b + 5) (k * 6 + i) = t.2.2.1 i ∧ τ (b + 6) (k * 6 + i) = t.2.2.2 i) (fun y _ => (k * 6 + t.1 - y).toNat) ?_ ⟨by omega, ?_, ?_, ?_, ?_⟩
    · clear hx hy q e8 eL eS
      rintro y τ ag ⟨hy, hf, hf2, hlo, hhi⟩ hag
      refine ⟨⟨by omega, by omega⟩, ⟨by omega, by omega⟩, fun q => ⟨⟨k0, k1⟩, ⟨k0, k1⟩, ?_⟩, fun q => ⟨by omega, by omega, ?_⟩⟩
      · intro s11 e11
        rw [hf _ (by omega), hr.1] at e11
        refine h _ ⟨fun c hc => ?_, fun j hj => ?_, fun j hj => ?_⟩ ⟨?_, fun i i0 i1 => ?_⟩
        · rw [e11, up_c (by omega)]; exact hf c (by omega)
        · rw [e11, up_i hj, hf _ (by omega)]
        · rw [e11, up_c (by omega), up_c (by omega), up_c (by omega)]; exact hf2 j hj
        · rw [e11, up_s]
        · replace i1 : i < t.1 - 1 := i1
          rw [e11, up_c (by omega), up_c (by omega), up_c (by omega)]; exact hlo i i0 (by omega)
      · intro s12 e12
        refine ⟨by omega, by omega, ?_⟩
        intro s13 e13
        refine ⟨by omega, by omega, ?_⟩
        intro s14 e14
        have hh := hhi (y + 1 - k * 6) (by omega) (by omega)
        have ey : k * 6 + (y + 1 - k * 6) = y + 1 := by omega
        rw [ey] at hh
        rw [hh.1] at e12
        have e15 : s12 (b + 5) (y + 1) = t.2.2.1 (y + 1 - k * 6) := by rw [e12, up_c (by omega)]; exact hh.2.1
        rw [e15] at e13
        have e16 : s13 (b + 6) (y + 1) = t.2.2.2 (y + 1 - k * 6) := by rw [e13, up_c (by omega), e12, up_c (by omega)]; exact hh.2.2
        rw [e16] at e14
        subst e14 e13 e12
        clear e15 e16 hh
        refine hag _ _ ⟨by omega, fun c hc => ?_, fun j hj => ⟨?_, ?_, ?_⟩, fun i i0 i1 => ?_, fun i i0 i1 => ?_⟩ (by omega)
        · simp (disch := omega) only [up_c]; exact hf c hc
        · simp (disch := omega) only [up_c, up_i]; exact (hf2 j hj).1
        · simp (disch := omega) only [up_c, up_i]; exact (hf2 j hj).2.1
        · simp (disch := omega) only [up_c, up_i]; exact (hf2 j hj).2.2
        · by_cases q3 : k * 6 + i = y
          · have ei : y + 1 - k * 6 = i + 1 := by omega
            rw [q3, ei, if_neg (by omega), if_neg (by omega), if_neg (by omega), if_neg (by omega)]
            simp (disch := omega) only [up_c, up_s]
            exact ⟨trivial, trivial, trivial⟩
          · simp (disch := omega) only [up_c, up_i]
            exact hlo i i0 (by omega)
        · simp (disch := omega) only [up_c, up_i]
          exact hhi i (by omega) i1
    · intro c hc
      rw [eS, up_c (by omega), eL, up_c (by omega)]
    · intro j hj
      rw [eS, up_c (by omega), up_c (by omega), up_i (by omega), eL, up_c (by omega), up_i (by omega), up_c (by omega)]; exact ⟨rfl, rfl, rfl⟩
    · intro i i0 i1
      have hh := hr.2 i i0 (by omega)
      by_cases q3 : i = w
      · subst q3
        rw [← hx, if_pos (Int.le_refl _), if_neg (by omega), if_neg (by omega), if_pos rfl, eS, up_c (by omega), up_c (by omega), up_s, eL, up_c (by omega), up_s, hx]
        exact ⟨hh.1, rfl, rfl⟩
      · rw [if_pos (by omega), if_pos (by omega), if_pos (by omega), eS, up_c (by omega), up_c (by omega), up_i (by omega), eL, up_c (by omega), up_i (by omega), up_c (by omega)]
        exact hh
    · intro i i0 i1
      rw [eS, up_c (by omega), up_c (by omega), up_i (by omega), eL, up_c (by omega), up_i (by omega), up_c (by omega)]
      exact hr.2 i (by omega) i1
  · have r0 := hr.2 (bsI t.2.2.2 (y - k * 6)) (by omega) (by omega)
    have r1 := hr.2 (bsI t.2.2.2 (y - k * 6) + 1) (by omega) (by omega)
    have r2 := hr.2 (y - k * 6) (by omega) (by omega)
    have r3 := hr.2 (y - k * 6 + 1) (by omega) (by omega)
    have z1 : k * 6 + (bsI t.2.2.2 (y - k * 6) + 1) = x + 1 := by omega
    have z2 : k * 6 + (y - k * 6) = y := by omega
    have z3 : k * 6 + (y - k * 6 + 1) = y + 1 := by omega
    rw [← hx] at r0
    rw [z1] at r1
    rw [z2] at r2
    rw [z3] at r3
    rw [r0.2.2, r1.2.2, r2.2.2, r3.2.2]
    have b0 := hS (bsI t.2.2.2 (y - k * 6)) (by omega) (by omega)
    have b1 := hS (bsI t.2.2.2 (y - k * 6) + 1) (by omega) (by omega)
    have b2 := hS (y - k * 6) (by omega) (by omega)
    have b3 := hS (y - k * 6 + 1) (by omega) (by omega)
    have z4 : y + 1 - k * 6 = y - k * 6 + 1 := by omega
    refine ⟨⟨by omega, by omega⟩, ⟨by omega, by omega⟩, fun q2 => ?_, fun q2 => ?_⟩
    · refine hag _ _ ⟨by omega, ?_⟩ (by omega)
      rw [z4, hbS, if_neg (by omega)]; exact hx
    · refine hag _ _ ⟨by omega, ?_⟩ (by omega)
      rw [z4, hbS, if_pos (by omega)]; omega
/-- all ranges -/
def BD (σ : St) (b : Nat) (s : Rw) (v : Int → Bool) : Prop := ∀ k : Int, 0 ≤ k → k < 12 → σ (b + 1) k = tot s v k ∧ RT σ b k (rg s v k)
theorem s4_build {b q c : Nat} {s : Rw} {v : Int → Bool} {σ : St} {K : St → Prop} (hd : Dm s) (hm : Ms σ q s) (hv : VA σ c v) (hq : q + 12 < b) (hc : c < b)
    (h : ∀ σ' : St, (∀ c : Nat, c < b + 1 ∨ b + 6 < c → σ' c = σ c) → BD σ' b s v → K σ') : f_X4_build b q c σ K := by
  have h1 := hd.set
  unfold f_X4_build
  refine s4_countSigns hd hm hv hq hc fun σ1 f1 t1 c1 => ?_
  refine wl1s_inv (fun i τ => (0 ≤ i ∧ i ≤ 12) ∧ (∀ c : Nat, c < b + 3 ∨ b + 6 < c → τ c = σ1 c) ∧ ∀ k : Int, 0 ≤ k → k < i → RT τ b k (rg s v k)) (fun i _ => (12 - i).toNat) ?_ ⟨by omega, fun _ _ => rfl, fun k k0 k1 => by omega⟩
  rintro i τ ag ⟨hi, hf, hr⟩ hag
  refine ⟨⟨by omega, by omega⟩, fun q1 => ?_, fun q1 => ?_⟩
  · refine h τ (fun c hc => ?_) (fun k k0 k1 => ⟨?_, hr k k0 (by omega)⟩)
    · rw [hf c (by omega)]; exact f1 c (by omega) (by omega)
    · rw [hf _ (by omega)]; exact t1 k k0 k1
  refine s4_takeClasses (s := s) (v := v) hd hi.1 (by omega) (fun c c0 c2 => by rw [hf _ (by omega)]; exact c1 i c hi.1 (by omega) c0 c2) fun σ2 f2 r2 => ?_
  have e0 : σ2 (q + 12) 0 = s 0 := by rw [f2.1 _ (by omega), hf _ (by omega), f1 _ (by omega) (by omega)]; exact hm.set 0 (by decide) (by decide)
  rw [e0]
  refine ⟨⟨by omega, by omega⟩, ?_⟩
  intro x5 e5
  rw [if_neg (by omega)] at e5
  subst e5
  refine wl1s_inv (fun j ρ => (0 ≤ j ∧ j ≤ 6) ∧ FK τ ρ b i ∧ ∃ t : Tr, RT ρ b i t ∧ TOK s v i t ∧ jns (s 0) (6 - j).toNat t = rg s v i) (fun j _ => (6 - j).toNat) ?_ ⟨by omega, f2, _, r2, (tk_ok 6 (by omega)).1, rfl⟩
  rintro j ρ ag2 ⟨hj, f3, t, rt, ok, ej⟩ hag2
  have fin : t = rg s v i → ag (i + 1) ρ := fun et => by
    refine hag _ _ ⟨by omega, fun c hc => (f3.1 c hc).trans (hf c hc), fun k k0 k1 => ?_⟩ (by omega)
    by_cases q3 : k = i
    · rw [q3, ← et]; exact rt
    · exact (hr k k0 (by omega)).go (rg_ok hd v k).2.1 f3 q3
  refine ⟨⟨by omega, by omega⟩, fun q2 => ?_, fun q2 => ⟨by omega, ?_⟩⟩
  · have e : (6 - j).toNat = 0 := by omega
    rw [e] at ej
    exact fin ej
  · rw [rt.1]
    have ok1 := ok.1
    have ok2 := ok.2.1
    refine ⟨⟨by omega, by omega⟩, ⟨by omega, by omega⟩, fun q3 => ?_, fun q3 => ?_⟩
    · rw [jns_le q3] at ej; exact fin ej
    · refine s4_joinFewest hd hi.1 (by omega) ok (by omega) rt fun σ3 f4 r4 => ?_
      refine hag2 _ _ ⟨by omega, f3.tr f4, jn t, r4, jn_ok ok (by omega), ?_⟩ (by omega)
      have e : (6 - j).toNat = (6 - (j + 1)).toNat + 1 := by omega
      rw [e] at ej
      unfold jns at ej
      rw [if_neg q3] at ej
      exact ej
