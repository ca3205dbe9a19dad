/-! ===== reading a text: t its bytes, n how many ===== -/
def isD (t : Fn) (n i : Int) : Bool := decide (0 ≤ i ∧ i < n ∧ 48 ≤ t i ∧ t i ≤ 57)
def dl (t : Fn) (n : Int) : Nat → Int → Int
  | 0, p => p
  | m + 1, p => if isD t n p = true then dl t n m (p + 1) else p
def dv (t : Fn) (n : Int) : Nat → Int → Int → Int
  | 0, _, a => a
  | m + 1, p, a => if isD t n p = true then dv t n m (p + 1) (a * 10 + (t p - 48)) else a
theorem isD_iff {t : Fn} {n i : Int} : isD t n i = true ↔ 0 ≤ i ∧ i < n ∧ 48 ≤ t i ∧ t i ≤ 57 := by unfold isD; rw [decide_eq_true_iff]
theorem dl_no {t : Fn} {n p : Int} (h : isD t n p = false) (m : Nat) : dl t n m p = p := by
  cases m with
  | zero => rfl
  | succ m => unfold dl; rw [if_neg (by rw [h]; decide)]
theorem dv_no {t : Fn} {n p a : Int} (h : isD t n p = false) (m : Nat) : dv t n m p a = a := by
  cases m with
  | zero => rfl
  | succ m => unfold dv; rw [if_neg (by rw [h]; decide)]
theorem dl_yes {t : Fn} {n p : Int} (h : isD t n p = true) (m : Nat) : dl t n (m + 1) p = dl t n m (p + 1) := by
  show (if isD t n p = true then dl t n m (p + 1) else p) = _
  rw [if_pos h]
theorem dv_yes {t : Fn} {n p a : Int} (h : isD t n p = true) (m : Nat) : dv t n (m + 1) p a = dv t n m (p + 1) (a * 10 + (t p - 48)) := by
  show (if isD t n p = true then dv t n m (p + 1) (a * 10 + (t p - 48)) else a) = _
  rw [if_pos h]
theorem dl_bd {t : Fn} {n : Int} : ∀ (m : Nat) (p : Int), p ≤ n → p ≤ dl t n m p ∧ dl t n m p ≤ n
  | 0, p, h => ⟨Int.le_refl _, h⟩
  | m + 1, p, h => by
    unfold dl
    split
    · rename_i q
      have := isD_iff.mp q
      have := dl_bd (t := t) (n := n) m (p + 1) (by omega)
      omega
    · exact ⟨Int.le_refl _, h⟩
theorem dv_ge {t : Fn} {n : Int} : ∀ (m : Nat) (p a : Int), 0 ≤ a → 0 ≤ dv t n m p a
  | 0, p, a, h => h
  | m + 1, p, a, h => by
    unfold dv
    split
    · rename_i q
      have := isD_iff.mp q
      exact dv_ge m (p + 1) _ (by omega)
    · exact h
/-- a number and a comma: whether it stands there, where it ends or is wrong, its value -/
def numR (t : Fn) (n : Int) (m : Nat) (bd p : Int) : Bool × Int × Int :=
  if dl t n m p = p ∨ isD t n (dl t n m p) = true then (false, dl t n m p, dv t n m p 0)
  else if bd ≤ dv t n m p 0 then (false, p, dv t n m p 0)
  else if dl t n m p < n ∧ t (dl t n m p) = 44 then (true, dl t n m p + 1, dv t n m p 0)
  else (false, dl t n m p, dv t n m p 0)
theorem numR_bd {t : Fn} {n : Int} {m : Nat} {bd p : Int} (h : p ≤ n) : p ≤ (numR t n m bd p).2.1 ∧ (numR t n m bd p).2.1 ≤ n ∧ ((numR t n m bd p).1 = true → p < (numR t n m bd p).2.1 ∧ 0 ≤ (numR t n m bd p).2.2 ∧ (numR t n m bd p).2.2 < bd) := by
  have hd := dl_bd (t := t) m p h
  have hv := dv_ge (t := t) (n := n) m p 0 (Int.le_refl 0)
  unfold numR
  split
  · exact ⟨hd.1, hd.2, fun z => absurd z Bool.false_ne_true⟩
  · split
    · exact ⟨Int.le_refl _, h, fun z => absurd z Bool.false_ne_true⟩
    · split
      · exact ⟨by show p ≤ dl t n m p + 1; omega, by show dl t n m p + 1 ≤ n; omega, fun _ => ⟨by show p < dl t n m p + 1; omega, hv, by show dv t n m p 0 < bd; omega⟩⟩
      · exact ⟨hd.1, hd.2, fun z => absurd z Bool.false_ne_true⟩
abbrev Sx : Type := Int × Int × Int × Int × Int
/-- a sign: whether it stands there, where it ends or is wrong, its numbers -/
def sgn (t : Fn) (n p : Int) : Bool × Int × Sx :=
  let a := numR t n 2 12 p
  let b := numR t n 3 200 a.2.1
  let c := numR t n 3 200 b.2.1
  let d := numR t n 4 10000 c.2.1
  let q := d.2.1
  let x : Sx := (a.2.2, b.2.2, c.2.2, d.2.2, t q - 48)
  if a.1 = false then (false, a.2.1, x) else if b.1 = false then (false, b.2.1, x) else if c.1 = false then (false, c.2.1, x) else if d.1 = false then (false, d.2.1, x)
  else if ¬ (q < n ∧ 48 ≤ t q ∧ t q ≤ 53) then (false, q, x)
  else if q + 1 < n ∧ t (q + 1) = 59 then (true, q + 2, x) else (false, q + 1, x)
def putX (s : Rw) (x : Sx) : Rw := putS s x.1 x.2.1 x.2.2.1 x.2.2.2.1 x.2.2.2.2
def XOK (x : Sx) : Prop := (0 ≤ x.1 ∧ x.1 ≤ 11) ∧ (0 ≤ x.2.1 ∧ x.2.1 ≤ 199) ∧ (0 ≤ x.2.2.1 ∧ x.2.2.1 ≤ 199) ∧ (0 ≤ x.2.2.2.1 ∧ x.2.2.2.1 ≤ 9999) ∧ (0 ≤ x.2.2.2.2 ∧ x.2.2.2.2 ≤ 5)
theorem sgn_bd {t : Fn} {n p : Int} (h0 : 0 ≤ p) (h : p ≤ n) : p ≤ (sgn t n p).2.1 ∧ (sgn t n p).2.1 ≤ n ∧ ((sgn t n p).1 = true → p < (sgn t n p).2.1 ∧ XOK (sgn t n p).2.2) := by
  have ha := numR_bd (t := t) (m := 2) (bd := 12) h
  unfold sgn
  dsimp only
  generalize numR t n 2 12 p = a at *
  have hb := numR_bd (t := t) (m := 3) (bd := 200) ha.2.1
  generalize numR t n 3 200 a.2.1 = b at *
  have hc := numR_bd (t := t) (m := 3) (bd := 200) hb.2.1
  generalize numR t n 3 200 b.2.1 = c at *
  have hd := numR_bd (t := t) (m := 4) (bd := 10000) hc.2.1
  generalize numR t n 4 10000 c.2.1 = d at *
  split
  · exact ⟨ha.1, ha.2.1, fun z => absurd z Bool.false_ne_true⟩
  · rename_i qa
    have ha3 := ha.2.2 (by simpa using qa)
    split
    · exact ⟨by show p ≤ b.2.1; omega, hb.2.1, fun z => absurd z Bool.false_ne_true⟩
    · rename_i qb
      have hb3 := hb.2.2 (by simpa using qb)
      split
      · exact ⟨by show p ≤ c.2.1; omega, hc.2.1, fun z => absurd z Bool.false_ne_true⟩
      · rename_i qc
        have hc3 := hc.2.2 (by simpa using qc)
        split
        · exact ⟨by show p ≤ d.2.1; omega, hd.2.1, fun z => absurd z Bool.false_ne_true⟩
        · rename_i qd
          have hd3 := hd.2.2 (by simpa using qd)
          split
          · exact ⟨by show p ≤ d.2.1; omega, hd.2.1, fun z => absurd z Bool.false_ne_true⟩
          · rename_i q5
            have q5 := Decidable.not_not.mp q5
            split
            · exact ⟨by show p ≤ d.2.1 + 2; omega, by show d.2.1 + 2 ≤ n; omega, fun _ => ⟨by show p < d.2.1 + 2; omega, ⟨ha3.2.1, by show a.2.2 ≤ 11; omega⟩, ⟨hb3.2.1, by show b.2.2 ≤ 199; omega⟩, ⟨hc3.2.1, by show c.2.2 ≤ 199; omega⟩, ⟨hd3.2.1, by show d.2.2 ≤ 9999; omega⟩, ⟨by show 0 ≤ t d.2.1 - 48; omega, by show t d.2.1 - 48 ≤ 5; omega⟩⟩⟩
            · exact ⟨by show p ≤ d.2.1 + 1; omega, by show d.2.1 + 1 ≤ n; omega, fun z => absurd z Bool.false_ne_true⟩
/-- all signs; how many may come, from where, the row so far -/
def prs (t : Fn) (n : Int) : Nat → Int → Rw → Bool × Int × Rw
  | 0, p, R => if n ≤ p then (true, p, R) else (false, p, R)
  | f + 1, p, R => if n ≤ p then (true, p, R) else if (sgn t n p).1 = true then prs t n f (sgn t n p).2.1 (putX R (sgn t n p).2.2) else (false, (sgn t n p).2.1, R)
/-! ===== the class reads ===== -/
def T5 (σ : St) (t : Fn) (n : Int) : Prop := σ 93 1 = n ∧ (0 ≤ n ∧ n ≤ 160) ∧ σ 94 = t ∧ ∀ i : Int, 0 ≤ i → i < n → 0 ≤ t i ∧ t i ≤ 127
def F5 (σ τ : St) : Prop := (∀ c : Nat, c ≠ 93 → τ c = σ c) ∧ (∀ f : Int, f ≠ 3 → f ≠ 4 → τ 93 f = σ 93 f) ∧ (0 ≤ σ 93 4 ∧ σ 93 4 ≤ 160 → 0 ≤ τ 93 4 ∧ τ 93 4 ≤ 160)
theorem F5.rf {σ : St} : F5 σ σ := ⟨fun _ _ => rfl, fun _ _ _ => rfl, fun h => h⟩
theorem F5.tr {σ τ ρ : St} (h : F5 σ τ) (g : F5 τ ρ) : F5 σ ρ := ⟨fun c hc => (g.1 c hc).trans (h.1 c hc), fun f h3 h4 => (g.2.1 f h3 h4).trans (h.2.1 f h3 h4), fun z => g.2.2 (h.2.2 z)⟩
theorem F5.t {σ τ : St} {t : Fn} {n : Int} (h : F5 σ τ) (g : T5 σ t n) : T5 τ t n := ⟨(h.2.1 1 (by decide) (by decide)).trans g.1, g.2.1, (h.1 94 (by decide)).trans g.2.2.1, g.2.2.2⟩
theorem F5.a3 {σ : St} {v : Int} : F5 σ (up2 σ 93 3 v) := ⟨fun c hc => up_c hc, fun g h3 h4 => up_i (by omega), fun z => by rw [up_i (by decide)]; exact z⟩
theorem F5.a4 {σ : St} {v : Int} (h : 0 ≤ v ∧ v ≤ 160) : F5 σ (up2 σ 93 4 v) := ⟨fun c hc => up_c hc, fun g h3 h4 => up_i (by omega), fun _ => by rw [up_s]; exact h⟩
theorem s5_isDigit {t : Fn} {n i : Int} {σ : St} {K : Int → Prop} (hT : T5 σ t n) (hi : Rg i) (h : K (b01 (isD t n i))) : f_X5_isDigit i σ K := by
  obtain ⟨h1, h2, h3, h4⟩ := hT
  unfold f_X5_isDigit
  rw [h1, h3]
  have F : ¬ (0 ≤ i ∧ i < n ∧ 48 ≤ t i ∧ t i ≤ 57) → K 0 := fun z => by
    have e : isD t n i = false := decide_eq_false z
    rw [e] at h; exact h
  refine ⟨hi, fun z => F (by omega), fun z => ⟨hi, ⟨by omega, by omega⟩, fun z2 => F (by omega), fun z2 => ?_⟩⟩
  have hb := h4 i (by omega) (by omega)
  refine ⟨by omega, ⟨by omega, by omega⟩, fun z3 => F (by omega), fun z3 => ⟨by omega, ⟨by omega, by omega⟩, fun z4 => F (by omega), fun z4 => ?_⟩⟩
  have e : isD t n i = true := isD_iff.mpr ⟨by omega, by omega, by omega, by omega⟩
  rw [e] at h; exact h
theorem s5_byte {t : Fn} {n p b : Int} {σ : St} {K : St → Prop} (hT : T5 σ t n) (he : σ 93 3 = -1) (ha : σ 93 4 = p) (hp : 0 ≤ p ∧ p ≤ n) (hb : Rg b) (ok : p < n ∧ t p = b → ∀ τ : St, F5 σ τ → τ 93 3 = -1 → τ 93 4 = p + 1 → K τ) (no : ¬ (p < n ∧ t p = b) → ∀ τ : St, F5 σ τ → τ 93 3 = p → K τ) : f_X5_readByte b σ K := by
  obtain ⟨h1, h2, h3, h4⟩ := hT
  unfold f_X5_readByte
  rw [he, ha, h1, h3]
  have F : ¬ (p < n ∧ t p = b) → ∀ s1 : St, s1 = up2 σ 93 3 p → K s1 := fun z s1 e1 => no z s1 (by rw [e1]; exact F5.a3) (by rw [e1, up_s])
  refine ⟨⟨by decide, by decide⟩, fun _ => ⟨⟨by omega, by omega⟩, fun z => by omega, fun _ => ⟨⟨by omega, by omega⟩, ⟨by omega, by omega⟩, fun z => F (by omega), fun z => ?_⟩⟩, fun z => absurd rfl z⟩
  have hb2 := h4 p hp.1 (by omega)
  refine ⟨by omega, ⟨by omega, by omega⟩, hb, fun z2 => F (fun y => z2 y.2), fun z2 => ?_⟩
  intro s4 e4
  exact ok ⟨by omega, Decidable.not_not.mp z2⟩ s4 (by rw [e4]; exact F5.a4 (by omega)) (by rw [e4, up_i (by decide)]; exact he) (by rw [e4, up_s])
theorem byte_skip {b : Int} {σ : St} {K : St → Prop} (he : σ 93 3 ≠ -1) (hr : Rg (σ 93 3)) (h : K σ) : f_X5_readByte b σ K := ⟨hr, fun z => absurd z he, fun _ => h⟩
theorem num_skip {m bd : Int} {σ : St} {K : Int → St → Prop} (he : σ 93 3 ≠ -1) (hr : Rg (σ 93 3)) (h : K 0 σ) : f_X5_readNumber m bd σ (fun x s => f_X5_readByte 44 s (fun s2 => K x s2)) := ⟨hr, fun z => absurd z he, fun _ => byte_skip he hr h⟩
theorem s5_number {t : Fn} {n p bd : Int} {m : Nat} {σ : St} {K : Int → St → Prop} (hT : T5 σ t n) (he : σ 93 3 = -1) (ha : σ 93 4 = p) (hp : 0 ≤ p ∧ p ≤ n) (hm : m ≤ 4) (hb : Rg bd)
    (ok : (numR t n m bd p).1 = true → ∀ τ : St, F5 σ τ → τ 93 3 = -1 → τ 93 4 = (numR t n m bd p).2.1 → K (numR t n m bd p).2.2 τ)
    (no : (numR t n m bd p).1 = false → ∀ (x : Int) (τ : St), F5 σ τ → τ 93 3 = (numR t n m bd p).2.1 → K x τ) : f_X5_readNumber m bd σ (fun x s => f_X5_readByte 44 s (fun s2 => K x s2)) := by
  have hn := hT.2.1
  unfold f_X5_readNumber
  rw [he]
  refine ⟨⟨by decide, by decide⟩, fun _ => ?_, fun z => absurd rfl z⟩
  intro x1 e1
  rw [ha] at e1
  subst e1
  refine wl2s_inv (fun x i τ => ∃ j : Nat, i = j ∧ j ≤ m ∧ F5 σ τ ∧ τ 93 3 = -1 ∧ (x1 ≤ τ 93 4 ∧ τ 93 4 ≤ n) ∧ τ 93 4 = x1 + i ∧ dl t n (m - j) (τ 93 4) = dl t n m x1 ∧ dv t n (m - j) (τ 93 4) x = dv t n m x1 0 ∧ 0 ≤ x ∧ (i ≤ 0 → x ≤ 0) ∧ (i ≤ 1 → x ≤ 9) ∧ (i ≤ 2 → x ≤ 99) ∧ (i ≤ 3 → x ≤ 999) ∧ (i ≤ 4 → x ≤ 9999)) (fun _ i _ => ((m : Int) - i).toNat) ?_ ⟨0, rfl, Nat.zero_le _, F5.rf, he, by omega, by omega, by rw [ha]; rfl, by rw [ha]; rfl, by decide, by decide, by decide, by decide, by decide, by decide⟩
  rintro x i τ ag ⟨j, ei, hj, hf, he2, hat, hat2, hdl, hdv, hx0, hx1, hx2, hx3, hx4, hx5⟩ hag
  have hT2 := hf.t hT
  have hat3 : Rg (τ 93 4) := ⟨by omega, by omega⟩
  generalize hq : τ 93 4 = q at *
  refine wj0_intro (q = dl t n m x1 ∧ x = dv t n m x1 0) (fun ⟨eq, ex⟩ => ?_) (fun J hJ => ⟨⟨by omega, by omega⟩, ⟨by omega, by omega⟩, fun z => hJ ?_, fun z => s5_isDigit hT2 hat3 (b01_split (fun r => hJ ?_) (fun r => ⟨?_, ?_⟩))⟩)
  · unfold numR at ok no
    rw [← eq, ← ex] at ok no
    refine ⟨hat3, ⟨by omega, by omega⟩, fun z => ?_, fun z => s5_isDigit hT2 hat3 (b01_split (fun r => ⟨⟨by omega, by omega⟩, hb, fun z2 => ?_, fun z2 => ?_⟩) (fun r => ?_))⟩
    · intro s9 e9
      rw [if_pos (Or.inl z)] at no
      have e3 : s9 93 3 = q := by rw [e9, up_s]
      exact byte_skip (by omega) (by rw [e3]; exact hat3) (no rfl x s9 (hf.tr (by rw [e9]; exact F5.a3)) e3)
    · have hc : ¬ (q = x1 ∨ isD t n q = true) := fun y => y.elim z (fun y => by rw [r] at y; exact absurd y (by decide))
      rw [if_neg hc, if_neg (by omega)] at ok no
      refine s5_byte hT2 he2 hq ⟨by omega, hat.2⟩ ⟨by decide, by decide⟩ (fun y π hπ h3 h4 => ?_) (fun y π hπ h3 => ?_)
      · rw [if_pos y] at ok
        exact ok rfl π (hf.tr hπ) h3 h4
      · rw [if_neg y] at no
        exact no rfl x π (hf.tr hπ) h3
    · intro s11 e11
      have hc : ¬ (q = x1 ∨ isD t n q = true) := fun y => y.elim z (fun y => by rw [r] at y; exact absurd y (by decide))
      rw [if_neg hc, if_pos (by omega)] at no
      have e3 : s11 93 3 = x1 := by rw [e11, up_s]
      exact byte_skip (by omega) (by rw [e3]; exact ⟨by omega, by omega⟩) (no rfl x s11 (hf.tr (by rw [e11]; exact F5.a3)) e3)
    · intro s12 e12
      rw [if_pos (Or.inr r)] at no
      have e3 : s12 93 3 = q := by rw [e12, up_s]
      exact byte_skip (by omega) (by rw [e3]; exact hat3) (no rfl x s12 (hf.tr (by rw [e12]; exact F5.a3)) e3)
  · rw [show m - j = 0 by omega] at hdl hdv
    exact ⟨hdl, hdv⟩
  · rw [dl_no r] at hdl
    rw [dv_no r] at hdv
    exact ⟨hdl, hdv⟩
  · have := isD_iff.mp r; omega
  · have hr := isD_iff.mp r
    intro x7 e7 s8 e8
    rw [hT2.2.2.1] at e7
    have e4 : s8 93 4 = q + 1 := by rw [e8, up_s]
    rw [show m - j = (m - (j + 1)) + 1 by omega] at hdl hdv
    rw [dl_yes r] at hdl
    rw [dv_yes r] at hdv
    refine hag _ _ _ ⟨j + 1, by omega, by omega, hf.tr (by rw [e8]; exact F5.a4 (by omega)), by rw [e8, up_i (by decide)]; exact he2, by rw [e4]; omega, by rw [e4]; omega, by rw [e4]; exact hdl, by rw [e4, e7]; exact hdv, by omega, by omega, by omega, by omega, by omega, by omega⟩ (by omega)
theorem lvl_skip {σ : St} {K : Int → St → Prop} (he : σ 93 3 ≠ -1) (hr : Rg (σ 93 3)) (h : K 0 σ) : f_X5_readLevel σ (fun x s => f_X5_readByte 59 s (fun s2 => K x s2)) := ⟨hr, fun z => absurd z he, fun _ => byte_skip he hr h⟩
theorem s5_level {t : Fn} {n q : Int} {σ : St} {K : Int → St → Prop} (hT : T5 σ t n) (he : σ 93 3 = -1) (ha : σ 93 4 = q) (hp : 0 ≤ q ∧ q ≤ n)
    (ok : (q < n ∧ 48 ≤ t q ∧ t q ≤ 53) → (q + 1 < n ∧ t (q + 1) = 59) → ∀ τ : St, F5 σ τ → τ 93 3 = -1 → τ 93 4 = q + 2 → K (t q - 48) τ)
    (no : ¬ (q < n ∧ 48 ≤ t q ∧ t q ≤ 53) → ∀ (x : Int) (τ : St), F5 σ τ → τ 93 3 = q → K x τ)
    (no2 : (q < n ∧ 48 ≤ t q ∧ t q ≤ 53) → ¬ (q + 1 < n ∧ t (q + 1) = 59) → ∀ (x : Int) (τ : St), F5 σ τ → τ 93 3 = q + 1 → K x τ) : f_X5_readLevel σ (fun x s => f_X5_readByte 59 s (fun s2 => K x s2)) := by
  have hn := hT.2.1
  unfold f_X5_readLevel
  rw [he, ha]
  refine ⟨⟨by decide, by decide⟩, fun _ => s5_isDigit hT ⟨by omega, by omega⟩ (wj1_intro (fun y => y = if isD t n q = true then t q - 48 else 6) (fun y hy => ?_) (fun J hJ => b01_split (fun r => hJ _ (by rw [r]; rfl)) (fun r => ⟨?_, hJ _ (by rw [r, hT.2.2.1]; rfl)⟩))), fun z => absurd rfl z⟩
  · have hby : 0 ≤ y ∧ y ≤ 9 := by
      rw [hy]
      split
      · rename_i r; have := isD_iff.mp r; omega
      · omega
    have key : y < 6 ↔ (q < n ∧ 48 ≤ t q ∧ t q ≤ 53) := by
      rw [hy]
      split
      · rename_i r; have := isD_iff.mp r; omega
      · rename_i r
        constructor
        · intro z; omega
        · intro z; exact absurd (isD_iff.mpr ⟨hp.1, z.1, z.2.1, by omega⟩) r
    refine ⟨⟨by omega, by omega⟩, fun z => ?_, fun z => ?_⟩
    · have z1 := key.mp z
      have ey : y = t q - 48 := by rw [hy, if_pos (isD_iff.mpr ⟨hp.1, z1.1, z1.2.1, by omega⟩)]
      intro s4 e4
      have f4 : F5 σ s4 := by rw [e4]; exact F5.a4 (by omega)
      refine s5_byte (f4.t hT) (by rw [e4, up_i (by decide)]; exact he) (by rw [e4, up_s]) ⟨by omega, by omega⟩ ⟨by decide, by decide⟩ (fun y2 π hπ h3 h4 => ?_) (fun y2 π hπ h3 => ?_)
      · rw [ey]
        exact ok z1 y2 π (f4.tr hπ) h3 (by rw [h4]; omega)
      · exact no2 z1 y2 _ π (f4.tr hπ) h3
    · intro s5 e5
      have e3 : s5 93 3 = q := by rw [e5, up_s]
      exact byte_skip (by omega) (by rw [e3]; exact ⟨by omega, by omega⟩) (no (fun y2 => z (key.mpr y2)) _ s5 (by rw [e5]; exact F5.a3) e3)
  · have := isD_iff.mp r; omega
theorem s5_readSign {t : Fn} {n p : Int} {R : Rw} {σ : St} {K : St → Prop} (hT : T5 σ t n) (he : σ 93 3 = -1) (ha : σ 93 4 = p) (hp : 0 ≤ p ∧ p ≤ n) (hS : Sg σ 95 R) (h0 : 0 ≤ R 9) (h1 : R 9 < 40)
    (ok : (sgn t n p).1 = true → ∀ τ : St, (∀ c : Nat, c < 93 ∨ 100 < c ∨ c = 94 → τ c = σ c) → (∀ f : Int, f ≠ 3 → f ≠ 4 → τ 93 f = σ 93 f) → τ 93 3 = -1 → τ 93 4 = (sgn t n p).2.1 → Sg τ 95 (putX R (sgn t n p).2.2) → K τ)
    (no : (sgn t n p).1 = false → ∀ τ : St, F5 σ τ → τ 93 3 = (sgn t n p).2.1 → K τ) : f_X5_readSign σ K := by
  have hn := hT.2.1
  have hsg := sgn_bd (t := t) hp.1 hp.2
  have fin : ∀ (τ : St) (x4 x7 x10 x13 x1 : Int), F5 σ τ → (sgn t n p).1 = false → τ 93 3 = (sgn t n p).2.1 → (Rg (τ 93 3) ∧ (τ 93 3 ≠ -1 → K τ) ∧ (¬ τ 93 3 ≠ -1 → f_X3_putSign 95 x1 x4 x7 x10 x13 τ (fun s16 => K s16))) := fun τ x4 x7 x10 x13 x1 hf hno e3 => by
    refine ⟨by rw [e3]; exact ⟨by omega, by omega⟩, fun _ => no hno τ hf e3, fun z => absurd (by omega : τ 93 3 ≠ -1) z⟩
  have skip : ∀ τ : St, (sgn t n p).1 = false → τ 93 3 = (sgn t n p).2.1 → τ 93 3 ≠ -1 ∧ Rg (τ 93 3) := fun τ _ e3 => by
    rw [e3]; exact ⟨by omega, ⟨by omega, by omega⟩⟩
  have hb1 := numR_bd (t := t) (m := 2) (bd := 12) hp.2
  have hb2 := numR_bd (t := t) (m := 3) (bd := 200) hb1.2.1
  have hb3 := numR_bd (t := t) (m := 3) (bd := 200) hb2.2.1
  have hb4 := numR_bd (t := t) (m := 4) (bd := 10000) hb3.2.1
  unfold f_X5_readSign
  refine s5_number (m := 2) hT he ha hp (by decide) ⟨by decide, by decide⟩ (fun qa τ1 f1 e1 p1 => ?_) (fun qa x τ1 f1 e1 => ?_)
  · refine s5_number (m := 3) (f1.t hT) e1 p1 ⟨by omega, hb1.2.1⟩ (by decide) ⟨by decide, by decide⟩ (fun qb τ2 f2 e2 p2 => ?_) (fun qb x τ2 f2 e2 => ?_)
    · refine s5_number (m := 3) ((f1.tr f2).t hT) e2 p2 ⟨by omega, hb2.2.1⟩ (by decide) ⟨by decide, by decide⟩ (fun qc τ3 f3 e3 p3 => ?_) (fun qc x τ3 f3 e3 => ?_)
      · refine s5_number (m := 4) (((f1.tr f2).tr f3).t hT) e3 p3 ⟨by omega, hb3.2.1⟩ (by decide) ⟨by decide, by decide⟩ (fun qd τ4 f4 e4 p4 => ?_) (fun qd x τ4 f4 e4 => ?_)
        · have F4 := ((f1.tr f2).tr f3).tr f4
          refine s5_level (F4.t hT) e4 p4 ⟨by omega, hb4.2.1⟩ (fun z1 z2 τ5 f5 e5 p5 => ?_) (fun z1 x τ5 f5 e5 => ?_) (fun z1 z2 x τ5 f5 e5 => ?_)
          · have hv : sgn t n p = (true, (numR t n 4 10000 (numR t n 3 200 (numR t n 3 200 (numR t n 2 12 p).2.1).2.1).2.1).2.1 + 2, ((numR t n 2 12 p).2.2, (numR t n 3 200 (numR t n 2 12 p).2.1).2.2, (numR t n 3 200 (numR t n 3 200 (numR t n 2 12 p).2.1).2.1).2.2, (numR t n 4 10000 (numR t n 3 200 (numR t n 3 200 (numR t n 2 12 p).2.1).2.1).2.1).2.2, t (numR t n 4 10000 (numR t n 3 200 (numR t n 3 200 (numR t n 2 12 p).2.1).2.1).2.1).2.1 - 48)) := by
              unfold sgn
              dsimp only
              rw [if_neg (by rw [qa]; decide), if_neg (by rw [qb]; decide), if_neg (by rw [qc]; decide), if_neg (by rw [qd]; decide), if_neg (fun y => y z1), if_pos z2]
            rw [hv] at ok
            have F5' := F4.tr f5
            refine ⟨by rw [e5]; exact ⟨by decide, by decide⟩, fun z => absurd e5 z, fun _ => ?_⟩
            refine s3_putSign (hS.go fun c g1 g2 => F5'.1 c (by omega)) h0 h1 fun τ6 ps g6 => ?_
            exact ok rfl τ6 (fun c hc => by rw [ps.1 c (by omega)]; exact F5'.1 c (by omega)) (fun f h3 h4 => by rw [ps.1 93 (by decide)]; exact F5'.2.1 f h3 h4) (by rw [ps.1 93 (by decide)]; exact e5) (by rw [ps.1 93 (by decide)]; exact p5) g6
          · have hv : (sgn t n p).1 = false ∧ (sgn t n p).2.1 = (numR t n 4 10000 (numR t n 3 200 (numR t n 3 200 (numR t n 2 12 p).2.1).2.1).2.1).2.1 := by
              unfold sgn
              dsimp only
              rw [if_neg (by rw [qa]; decide), if_neg (by rw [qb]; decide), if_neg (by rw [qc]; decide), if_neg (by rw [qd]; decide), if_pos z1]
              exact ⟨rfl, rfl⟩
            exact fin τ5 _ _ _ _ _ (F4.tr f5) hv.1 (by rw [hv.2]; exact e5)
          · have hv : (sgn t n p).1 = false ∧ (sgn t n p).2.1 = (numR t n 4 10000 (numR t n 3 200 (numR t n 3 200 (numR t n 2 12 p).2.1).2.1).2.1).2.1 + 1 := by
              unfold sgn
              dsimp only
              rw [if_neg (by rw [qa]; decide), if_neg (by rw [qb]; decide), if_neg (by rw [qc]; decide), if_neg (by rw [qd]; decide), if_neg (fun y => y z1), if_neg z2]
              exact ⟨rfl, rfl⟩
            exact fin τ5 _ _ _ _ _ (F4.tr f5) hv.1 (by rw [hv.2]; exact e5)
        · have hv : (sgn t n p).1 = false ∧ (sgn t n p).2.1 = (numR t n 4 10000 (numR t n 3 200 (numR t n 3 200 (numR t n 2 12 p).2.1).2.1).2.1).2.1 := by
            unfold sgn
            dsimp only
            rw [if_neg (by rw [qa]; decide), if_neg (by rw [qb]; decide), if_neg (by rw [qc]; decide), if_pos qd]
            exact ⟨rfl, rfl⟩
          rw [← hv.2] at e4
          have hs := skip τ4 hv.1 e4
          exact lvl_skip hs.1 hs.2 (fin τ4 _ _ _ _ _ (((f1.tr f2).tr f3).tr f4) hv.1 e4)
      · have hv : (sgn t n p).1 = false ∧ (sgn t n p).2.1 = (numR t n 3 200 (numR t n 3 200 (numR t n 2 12 p).2.1).2.1).2.1 := by
          unfold sgn
          dsimp only
          rw [if_neg (by rw [qa]; decide), if_neg (by rw [qb]; decide), if_pos qc]
          exact ⟨rfl, rfl⟩
        rw [← hv.2] at e3
        have hs := skip τ3 hv.1 e3
        exact num_skip hs.1 hs.2 (lvl_skip hs.1 hs.2 (fin τ3 _ _ _ _ _ ((f1.tr f2).tr f3) hv.1 e3))
    · have hv : (sgn t n p).1 = false ∧ (sgn t n p).2.1 = (numR t n 3 200 (numR t n 2 12 p).2.1).2.1 := by
        unfold sgn
        dsimp only
        rw [if_neg (by rw [qa]; decide), if_pos qb]
        exact ⟨rfl, rfl⟩
      rw [← hv.2] at e2
      have hs := skip τ2 hv.1 e2
      exact num_skip hs.1 hs.2 (num_skip hs.1 hs.2 (lvl_skip hs.1 hs.2 (fin τ2 _ _ _ _ _ (f1.tr f2) hv.1 e2)))
  · have hv : (sgn t n p).1 = false ∧ (sgn t n p).2.1 = (numR t n 2 12 p).2.1 := by
      unfold sgn
      dsimp only
      rw [if_pos qa]
      exact ⟨rfl, rfl⟩
    rw [← hv.2] at e1
    have hs := skip τ1 hv.1 e1
    exact num_skip hs.1 hs.2 (num_skip hs.1 hs.2 (num_skip hs.1 hs.2 (lvl_skip hs.1 hs.2 (fin τ1 _ _ _ _ _ f1 hv.1 e1))))
/-- a row whose signs are read so far -/
def RA (s R : Rw) : Prop := Dm R ∧ ∀ i : Int, i < 111 → i ≠ 9 → R i = s i
theorem RA.put {s R : Rw} {x : Sx} (h : RA s R) (h1 : R 9 < 40) (hx : XOK x) : RA s (putX R x) ∧ putX R x 9 = R 9 + 1 := by
  have hn := h.1.n
  exact ⟨⟨h.1.put h1 hx.1 hx.2.1 hx.2.2.1 hx.2.2.2.1 hx.2.2.2.2, fun i i1 i9 => by unfold putX; rw [putS_lo hn.1 i1 i9]; exact h.2 i i1 i9⟩, rfl⟩
theorem RA.zero {s : Rw} (hd : Dm s) : RA s (setF s 9 0) := by
  refine ⟨?_, fun i _ i9 => setF_n i9⟩
  have eq : ∀ i : Int, i ≠ 9 → setF s 9 0 i = s i := fun i h => setF_n h
  unfold Dm
  rw [setF_s]
  simp only [eq 0 (by decide), eq 1 (by decide), eq 2 (by decide), eq 3 (by decide), eq 4 (by decide), eq 5 (by decide), eq 6 (by decide), eq 7 (by decide), eq 8 (by decide)]
  refine ⟨hd.set.1, hd.set.2.1, hd.set.2.2.1, hd.set.2.2.2, hd.win.1, hd.win.2.1, hd.win.2.2.1, hd.win.2.2.2.1, hd.win.2.2.2.2, by decide, fun g g0 g1 => ?_, fun k k0 k1 => ?_, fun k k0 k1 => by omega⟩
  · rw [eq _ (by omega)]; exact hd.way g g0 g1
  · have hk := hd.kind k k0 k1
    have e1 : rk (setF s 9 0) k = rk s k := eq _ (by omega)
    have e2 : gp (setF s 9 0) k = gp s k := eq _ (by omega)
    have e3 : nl (setF s 9 0) k = nl s k := eq _ (by omega)
    rw [e1, e2, e3]
    refine ⟨hk.1, hk.2.1, hk.2.2.1, fun i i0 i1 => ?_, fun i i0 i1 => ?_⟩
    · have e4 : lm (setF s 9 0) k i = lm s k i := eq _ (by omega)
      rw [e4]; exact hk.2.2.2.1 i i0 i1
    · have e4 : lm (setF s 9 0) k i = lm s k i := eq _ (by omega)
      have e5 : lm (setF s 9 0) k (i + 1) = lm s k (i + 1) := eq _ (by omega)
      rw [e4, e5]; exact hk.2.2.2.2 i i0 i1
/-- what comes of a text -/
def prF (t : Fn) (n : Int) (s : Rw) : Bool × Int × Rw := prs t n 40 0 (setF s 9 0)
theorem s5_read {t : Fn} {n : Int} {s : Rw} {σ : St} {K : St → Prop} (hT : T5 σ t n) (hd : Dm s)
    (ok : (prF t n s).1 = true → RA s (prF t n s).2.2 → ∀ τ : St, (∀ c : Nat, c < 93 ∨ 100 < c ∨ c = 94 → τ c = σ c) → τ 93 1 = n → τ 93 3 = -1 → Sg τ 95 (prF t n s).2.2 → K τ)
    (no : (prF t n s).1 = false → ∀ τ : St, (∀ c : Nat, c < 93 ∨ 100 < c ∨ c = 94 → τ c = σ c) → τ 93 1 = n → τ 93 3 = (prF t n s).2.1 → (0 ≤ (prF t n s).2.1 ∧ (prF t n s).2.1 ≤ 160) → K τ) : f_X5_read σ K := by
  have hn := hT.2.1
  unfold f_X5_read
  intro s1 e1 s2 e2 s3 e3
  have c3 : ∀ c : Nat, c ≠ 93 → c ≠ 95 → s3 c = σ c := fun c g1 g2 => by rw [e3, up_c g2, e2, up_c g1, e1, up_c g1]
  have f3 : ∀ f : Int, f ≠ 3 → f ≠ 4 → s3 93 f = σ 93 f := fun f g1 g2 => by rw [e3, up_c (by decide), e2, up_i g1, e1, up_i g2]
  have a3 : s3 93 3 = -1 := by rw [e3, up_c (by decide), e2, up_s]
  have a4 : s3 93 4 = 0 := by rw [e3, up_c (by decide), e2, up_i (by decide), e1, up_s]
  have g3 : Sg s3 95 (setF s 9 0) := ⟨by rw [e3, up_s, setF_s], fun k k0 k1 => by rw [setF_s] at k1; omega⟩
  clear e3 e2 e1
  refine wl1s_inv (fun i τ => (0 ≤ i ∧ i ≤ 41) ∧ (∀ c : Nat, c < 93 ∨ 100 < c ∨ c = 94 → τ c = σ c) ∧ (∀ f : Int, f ≠ 3 → f ≠ 4 → τ 93 f = σ 93 f) ∧ (0 ≤ τ 93 4 ∧ τ 93 4 ≤ 160) ∧ ((i ≤ 40 ∧ τ 93 4 ≤ n ∧ τ 93 3 = -1 ∧ ∃ R : Rw, RA s R ∧ R 9 = i ∧ Sg τ 95 R ∧ prs t n (40 - i).toNat (τ 93 4) R = prF t n s) ∨ ((prF t n s).1 = false ∧ τ 93 3 = (prF t n s).2.1 ∧ 0 ≤ (prF t n s).2.1 ∧ (prF t n s).2.1 ≤ n))) (fun i _ => (42 - i).toNat) ?_ ⟨by omega, fun c hc => c3 c (by omega) (by omega), f3, by rw [a4]; omega, Or.inl ⟨by omega, by rw [a4]; omega, a3, setF s 9 0, RA.zero hd, setF_s, g3, by rw [a4]; rfl⟩⟩
  rintro i τ ag ⟨hi, hc, hf, h4, hph⟩ hag
  have e1 : τ 93 1 = n := (hf 1 (by decide) (by decide)).trans hT.1
  have hT2 : T5 τ t n := ⟨e1, hn, (hc 94 (by decide)).trans hT.2.2.1, hT.2.2.2⟩
  have bad : ((prF t n s).1 = false ∧ τ 93 3 = (prF t n s).2.1 ∧ 0 ≤ (prF t n s).2.1 ∧ (prF t n s).2.1 ≤ n) → K τ := fun z => no z.1 τ hc e1 z.2.1 ⟨by omega, by omega⟩
  rw [e1]
  refine ⟨⟨by omega, by omega⟩, fun z => ?_, fun z => ⟨⟨by omega, by omega⟩, ⟨by omega, by omega⟩, fun z2 => ?_, fun z2 => ?_⟩⟩
  · rcases hph with y | y
    · omega
    · exact bad y
  · rcases hph with ⟨_, h4n, e3, R, hRA, hR9, hS, hpr⟩ | y
    · have ef : prF t n s = (true, τ 93 4, R) := by
        rw [← hpr]
        cases (40 - i).toNat with
        | zero => unfold prs; rw [if_pos z2]
        | succ f => unfold prs; rw [if_pos z2]
      rw [ef] at ok
      exact ok rfl hRA τ hc e1 e3 hS
    · exact bad y
  · rcases hph with ⟨_, h4n, e3, R, hRA, hR9, hS, hpr⟩ | y
    · rw [e3]
      refine ⟨⟨by decide, by decide⟩, fun z3 => absurd rfl z3, fun _ => ⟨⟨by omega, by omega⟩, fun z3 => ?_, fun z3 => ?_⟩⟩
      · have ei : i = 40 := by omega
        subst ei
        have ef : prF t n s = (false, τ 93 4, R) := by
          rw [← hpr]
          show prs t n 0 (τ 93 4) R = _
          unfold prs
          rw [if_neg (by omega)]
        intro s6 e6
        refine hag _ _ ⟨by omega, fun c g => by rw [e6, up_c (by omega)]; exact hc c g, fun f g1 g2 => by rw [e6, up_i g1]; exact hf f g1 g2, by rw [e6, up_i (by decide)]; exact h4, Or.inr ⟨by rw [ef], by rw [e6, up_s, ef], by rw [ef]; exact h4.1, by rw [ef]; exact h4n⟩⟩ (by omega)
      · have hsg := sgn_bd (t := t) h4.1 h4n
        have ef : prs t n (40 - i).toNat (τ 93 4) R = if (sgn t n (τ 93 4)).1 = true then prs t n (40 - (i + 1)).toNat (sgn t n (τ 93 4)).2.1 (putX R (sgn t n (τ 93 4)).2.2) else (false, (sgn t n (τ 93 4)).2.1, R) := by
          rw [show (40 - i).toNat = (40 - (i + 1)).toNat + 1 by omega]
          show (if n ≤ τ 93 4 then _ else _) = _
          rw [if_neg (by omega)]
        rw [hpr] at ef
        refine s5_readSign hT2 e3 rfl ⟨h4.1, h4n⟩ hS (by omega) (by omega) (fun q π pc pf p3 p4 pS => ?_) (fun q π pF p3 => ?_)
        · rw [if_pos q] at ef
          have hX := hsg.2.2 q
          have hput := hRA.put (x := (sgn t n (τ 93 4)).2.2) (by omega) hX.2
          refine hag _ _ ⟨by omega, fun c g => (pc c g).trans (hc c g), fun f g1 g2 => (pf f g1 g2).trans (hf f g1 g2), by rw [p4]; omega, Or.inl ⟨by omega, by rw [p4]; exact hsg.2.1, p3, _, hput.1, by rw [hput.2]; omega, pS, by rw [p4]; exact ef.symm⟩⟩ (by omega)
        · rw [if_neg (by rw [q]; decide)] at ef
          refine hag _ _ ⟨by omega, fun c g => (pF.1 c (by omega)).trans (hc c g), fun f g1 g2 => (pF.2.1 f g1 g2).trans (hf f g1 g2), pF.2.2 h4, Or.inr ⟨by rw [ef], by rw [p3, ef], by rw [ef]; show 0 ≤ (sgn t n (τ 93 4)).2.1; omega, by rw [ef]; exact hsg.2.1⟩⟩ (by omega)
    · exact ⟨by rw [y.2.1]; exact ⟨by omega, by omega⟩, fun _ => bad y, fun z3 => absurd (by rw [y.2.1]; omega : τ 93 3 ≠ -1) z3⟩
