/-! ===== the law's rows: they agree with a row of numbers on what lives ===== -/
def RW (σ : St) (s : Rw) : Prop := (∀ i : Int, 0 ≤ i → i < 15 → σ 161 i = s i) ∧
  (∀ k : Int, 0 ≤ k → k < 4 → σ 162 (8 * k) = rk s k ∧ σ 162 (8 * k + 1) = gp s k ∧ σ 162 (8 * k + 2) = nl s k ∧ ∀ i : Int, 0 ≤ i → i < nl s k → σ 162 (8 * k + 3 + i) = lm s k i) ∧
  (∀ k : Int, 0 ≤ k → k < s 9 → σ 163 (5 * k) = kd s k ∧ σ 163 (5 * k + 1) = co s k ∧ σ 163 (5 * k + 2) = ro s k ∧ σ 163 (5 * k + 3) = va s k ∧ σ 163 (5 * k + 4) = le' s k) ∧
  ∀ i : Int, 0 ≤ i → i < 60 → 0 ≤ σ 163 i ∧ σ 163 i ≤ 200
/-- the rows that the law makes: few signs, of the kinds 0 to 3, in the groups 0 to 2 -/
def SL (s : Rw) : Prop := Dm s ∧ s 9 ≤ 12 ∧ (∀ k : Int, 0 ≤ k → k < 4 → rk s k ≤ 6 ∧ gp s k ≤ 2) ∧ (∀ k : Int, 4 ≤ k → k < 12 → rk s k = k ∧ gp s k = -1) ∧ ∀ k : Int, 0 ≤ k → k < s 9 → kd s k ≤ 3
theorem SL.d {s : Rw} (h : SL s) : Dm s := h.1
theorem SL.n {s : Rw} (h : SL s) : 0 ≤ s 9 ∧ s 9 ≤ 12 := ⟨h.1.n.1, h.2.1⟩
theorem SL.k {s : Rw} (h : SL s) {k : Int} (k0 : 0 ≤ k) (k1 : k < 4) : (0 ≤ rk s k ∧ rk s k ≤ 6) ∧ (-1 ≤ gp s k ∧ gp s k ≤ 2) := by
  have a := h.1.kind k k0 (by omega)
  have b := h.2.2.1 k k0 k1
  omega
theorem SL.hi {s : Rw} (h : SL s) {k : Int} (k0 : 4 ≤ k) (k1 : k < 12) : rk s k = k ∧ gp s k = -1 := h.2.2.2.1 k k0 k1
theorem SL.kd {s : Rw} (h : SL s) {k : Int} (k0 : 0 ≤ k) (k1 : k < s 9) : 0 ≤ kd s k ∧ kd s k ≤ 3 := ⟨(h.1.sign k k0 k1).1.1, h.2.2.2.2 k k0 k1⟩
theorem RW.g {σ : St} {s : Rw} (h : RW σ s) {i : Int} (i0 : 0 ≤ i) (i1 : i < 15) : σ 161 i = s i := h.1 i i0 i1
theorem RW.d {σ : St} {s : Rw} (h : RW σ s) {k : Int} (k0 : 0 ≤ k) (k1 : k < 4) : σ 162 (8 * k) = rk s k ∧ σ 162 (8 * k + 1) = gp s k ∧ σ 162 (8 * k + 2) = nl s k ∧ ∀ i : Int, 0 ≤ i → i < nl s k → σ 162 (8 * k + 3 + i) = lm s k i := h.2.1 k k0 k1
theorem RW.e {σ : St} {s : Rw} (h : RW σ s) {k : Int} (k0 : 0 ≤ k) (k1 : k < s 9) : σ 163 (5 * k) = kd s k ∧ σ 163 (5 * k + 1) = co s k ∧ σ 163 (5 * k + 2) = ro s k ∧ σ 163 (5 * k + 3) = va s k ∧ σ 163 (5 * k + 4) = le' s k := h.2.2.1 k k0 k1
theorem RW.b {σ : St} {s : Rw} (h : RW σ s) {i : Int} (i0 : 0 ≤ i) (i1 : i < 60) : 0 ≤ σ 163 i ∧ σ 163 i ≤ 200 := h.2.2.2 i i0 i1
theorem RW.go {σ τ : St} {s : Rw} (h : RW σ s) (e1 : τ 161 = σ 161) (e2 : τ 162 = σ 162) (e3 : τ 163 = σ 163) : RW τ s := by
  unfold RW
  rw [e1, e2, e3]
  exact h
theorem sL_key {k : Int} {s : Rw} {σ : St} {K : Int → Prop} (hr : RW σ s) (k0 : 0 ≤ k) (k1 : k < 4) (h : K (4 * rk s k + k)) : f_L_key k σ K := by
  unfold f_L_key
  rw [(hr.d k0 k1).1]
  exact ⟨by omega, h⟩
theorem sL_code {a b c d e : Int} {σ : St} {K : Int → Prop} (h : K (a * 20000 + (b + 1) * 1000 + (c + 1) * 100 + (d + 1) * 10 + (e + 1))) : f_L_code a b c d e σ K := by
  unfold f_L_code
  have : ((((a * 20 + b + 1) * 10 + c + 1) * 10 + d + 1) * 10 + e + 1) = a * 20000 + (b + 1) * 1000 + (c + 1) * 100 + (d + 1) * 10 + (e + 1) := by omega
  rw [this]; exact h
theorem lm_le {s : Rw} (hd : Dm s) {k : Int} (k0 : 0 ≤ k) (k1 : k < 12) {i j : Int} (i0 : 0 ≤ i) (ij : i ≤ j) (j1 : j < nl s k) : lm s k i ≤ lm s k j := by
  by_cases e : i = j
  · rw [e]; exact Int.le_refl _
  · exact Int.le_of_lt (lm_lt hd k0 k1 i0 (by omega) j1)
theorem cls_at {s : Rw} (hd : Dm s) {n c : Int} (n0 : 0 ≤ n) (n1 : n < s 9) (c0 : 0 ≤ c) (c1 : c ≤ nl s (kd s n)) (h1 : ∀ i : Int, 0 ≤ i → i < c → lm s (kd s n) i ≤ va s n) (h2 : c < nl s (kd s n) → va s n < lm s (kd s n) c) : cls s n = c := by
  have hk := (hd.sign n n0 n1).1
  have e : cls s n = cI (fun i => decide (i < c) && decide (lm s (kd s n) i ≤ va s n)) (nl s (kd s n)) := by
    unfold cls
    refine cI_eq fun i i0 i1 => ?_
    by_cases q : i < c
    · rw [decide_eq_true q, Bool.true_and]
    · have := h2 (by omega)
      have := lm_le hd hk.1 (by omega) c0 (by omega : c ≤ i) i1
      rw [decide_eq_false q, Bool.false_and, decide_eq_false (by omega)]
  rw [e, cI_lim c0 c1]
  have e2 : cI (fun i => decide (lm s (kd s n) i ≤ va s n)) c = cI (fun _ => true) c := cI_eq fun i i0 i1 => decide_eq_true (h1 i i0 i1)
  rw [e2]
  have key : ∀ m : Nat, cN (fun _ => true) m = m := by
    intro m
    induction m with
    | zero => rfl
    | succ m ih => show cN (fun _ => true) m + b01 true = _; rw [ih]; rfl
  unfold cI
  rw [key]; omega
theorem sL_classOf {n : Int} {s : Rw} {σ : St} {K : Int → Prop} (hr : RW σ s) (hs : SL s) (n0 : 0 ≤ n) (n1 : n < s 9) (h : K (cls s n)) : f_L_classOf n σ K := by
  have hd := hs.d
  have hn := hs.n
  have he := hr.e n0 n1
  have hk := hs.kd n0 n1
  have hg := hd.sign n n0 n1
  have hq := hd.kind (kd s n) hk.1 (by omega)
  have hD := hr.d hk.1 (by omega)
  unfold f_L_classOf
  rw [he.1, he.2.2.2.1]
  refine ⟨by omega, fun x1 e1 => ?_⟩
  subst e1
  rw [hD.2.2.1]
  refine wl1_inv (fun c => (0 ≤ c ∧ c ≤ nl s (kd s n)) ∧ ∀ i : Int, 0 ≤ i → i < c → lm s (kd s n) i ≤ va s n) (fun c => (nl s (kd s n) - c).toNat) ?_ ⟨by omega, fun i i0 i1 => by omega⟩
  rintro c ag ⟨hc, hl⟩ hag
  refine ⟨by omega, ⟨by omega, by omega⟩, ⟨by omega, by omega⟩, fun q => ?_, fun q => ?_⟩
  · have := cls_at hd n0 n1 hc.1 hc.2 hl (fun z => by omega)
    rw [← this]; exact h
  · have hm := hD.2.2.2 c hc.1 (by omega)
    have hb := hq.2.2.2.1 c hc.1 (by omega)
    rw [hm]
    refine ⟨by omega, by omega, ⟨by omega, by omega⟩, ⟨by omega, by omega⟩, fun r => ?_, fun r => ?_⟩
    · have := cls_at hd n0 n1 hc.1 hc.2 hl (fun z => by omega)
      rw [← this]; exact h
    · refine hag _ ⟨by omega, fun i i0 i1 => ?_⟩ (by omega)
      by_cases e : i = c
      · rw [e]; omega
      · exact hl i i0 (by omega)
theorem sL_within {n : Int} {s : Rw} {σ : St} {K : Int → Prop} (hr : RW σ s) (hs : SL s) (n0 : 0 ≤ n) (n1 : n < s 9) (h : K (b01 (wi s n))) : f_L_within n σ K := by
  have hd := hs.d
  have hn := hs.n
  have he := hr.e n0 n1
  have hw := hd.win
  have hg := hd.sign n n0 n1
  unfold f_L_within
  rw [he.2.1, he.2.2.1, hr.g (i := 4) (by decide) (by decide), hr.g (i := 5) (by decide) (by decide), hr.g (i := 6) (by decide) (by decide), hr.g (i := 7) (by decide) (by decide)]
  have F : ¬ (0 ≤ co s n - s 4 ∧ co s n - s 4 < s 6 ∧ 0 ≤ ro s n - s 5 ∧ ro s n - s 5 < s 7) → K 0 := fun q => by
    have e : wi s n = false := decide_eq_false q
    rw [e] at h; exact h
  have T : (0 ≤ co s n - s 4 ∧ co s n - s 4 < s 6 ∧ 0 ≤ ro s n - s 5 ∧ ro s n - s 5 < s 7) → K 1 := fun q => by
    have e : wi s n = true := decide_eq_true q
    rw [e] at h; exact h
  exact ⟨by omega, ⟨by omega, by omega⟩, ⟨by omega, by omega⟩, fun q => F (by omega), fun q => ⟨by omega, ⟨by omega, by omega⟩, ⟨by omega, by omega⟩, fun q => F (by omega), fun q => ⟨by omega, ⟨by omega, by omega⟩, ⟨by omega, by omega⟩, fun q => F (by omega), fun q => ⟨by omega, ⟨by omega, by omega⟩, ⟨by omega, by omega⟩, fun q => F (by omega), fun q => T (by omega)⟩⟩⟩⟩
/-- counts up to n as sums over bits -/
theorem sL_shown {s : Rw} {σ : St} {K : Int → Prop} (hr : RW σ s) (hs : SL s) (h : K (BSn (shw s) 12 : Nat)) : f_L_shown σ K := by
  have hd := hs.d
  have hn := hs.n
  have hw := hd.win
  unfold f_L_shown
  rw [hr.g (i := 9) (by decide) (by decide), hr.g (i := 8) (by decide) (by decide)]
  refine wl2_inv (fun a i => ∃ m : Nat, i = m ∧ i ≤ s 9 ∧ a = (BSn (shw s) m : Nat)) (fun _ i => (s 9 - i).toNat) ?_ ⟨0, rfl, hn.1, rfl⟩
  rintro a i ag ⟨m, ei, hi, ea⟩ hag
  refine ⟨⟨by omega, by omega⟩, ⟨by omega, by omega⟩, fun q => ?_, fun q => ?_⟩
  · have e : BSn (shw s) m = BSn (shw s) 12 := BSn_ext12 (by omega) fun k h1 _ => by unfold shw; rw [decide_eq_false (by omega), Bool.false_and]
    rw [ea, e]; exact h
  · have hg := hd.sign i (by omega) (by omega)
    have es : shw s i = sh' s i := shw_lt (by omega)
    have F : sh' s i = false → ∀ x, x = bO a 0 → ag x (i + 1) := fun z x hx => by
      refine hag _ _ ⟨m + 1, by omega, by omega, ?_⟩ (by omega)
      rw [hx, ea]; exact bO_f (by omega) (by rw [← ei, es]; exact z)
    refine sL_within hr hs (by omega) (by omega) (b01_split (fun r => F ?_) (fun r => ?_))
    · unfold sh'; rw [r, Bool.and_false]
    · rw [(hr.e (by omega : 0 ≤ i) (by omega)).2.2.2.2]
      refine ⟨by omega, ⟨by omega, by omega⟩, ⟨by omega, by omega⟩, fun z => F ?_, fun z x hx => ?_⟩
      · unfold sh'; rw [decide_eq_false (by omega), Bool.false_and]
      · refine hag _ _ ⟨m + 1, by omega, by omega, ?_⟩ (by omega)
        rw [hx, ea, ei]; exact bO_t (by omega) (by rw [← ei, es]; unfold sh'; rw [decide_eq_true (by omega), r]; rfl)
theorem shw_cI {s : Rw} (hs : SL s) : cI (shw s) 12 = cI (sh' s) (s 9) := cI_lim hs.n.1 hs.n.2
/-- sight is of signs that there are -/
def Vs (s : Rw) (v : Int → Bool) : Prop := ∀ k : Int, v k = true → k < s 9
theorem cI_vs {s : Rw} {v : Int → Bool} (hv : Vs s v) {m : Int} (h0 : 0 ≤ s 9) (h1 : s 9 ≤ m) : cI v m = cI v (s 9) := by
  have e : cI v m = cI (fun k => decide (k < s 9) && v k) m := cI_eq fun k _ _ => by
    cases q : v k with
    | false => rw [Bool.and_false]
    | true => rw [decide_eq_true (hv k q)]; rfl
  rw [e]; exact cI_lim h0 h1
theorem sp5 {x : Int} {B : Bool} {A C : Prop} (hx : x = b01 B) (h : B = false → A) (h2 : B = true → C) : Rg x ∧ (x ≠ 1 → A) ∧ (¬ x ≠ 1 → C) := by
  subst hx
  cases B with
  | false => exact ⟨by decide, fun _ => h rfl, fun z => absurd (by decide) z⟩
  | true => exact ⟨by decide, fun z => absurd rfl z, fun _ => h2 rfl⟩
theorem sL_signs {s : Rw} {σ : St} {v : Int → Bool} {k lo hi : Int} {K : Int → Prop} (hr : RW σ s) (hs : SL s) (hv : Vs s v) (hk : Rg k) (hl : Rg lo) (hh : Rg hi) (h : K (cn s v k lo hi)) : f_L_signs (BSn v 12 : Nat) k lo hi σ K := by
  have hd := hs.d
  have hn := hs.n
  unfold f_L_signs
  have eK : cn s v k lo hi = cI (fun i => v i && (decide (kd s i = k) && decide (lo ≤ cls s i ∧ cls s i ≤ hi))) 12 := by
    unfold cn
    refine (cI_vs (s := s) (fun i q => ?_) hn.1 hn.2).symm
    rw [Bool.and_eq_true] at q
    exact hv i q.1
  rw [eK] at h
  refine count_loop (fun i => v i && (decide (kd s i = k) && decide (lo ≤ cls s i ∧ cls s i ≤ hi))) 12 (by decide) (fun a i ag ha i0 i1 hag => ?_) (fun a ag ha => ?_)
  · refine ⟨⟨by omega, by omega⟩, fun q => by omega, fun q => sp5 (bit_BS (by decide) i0 i1) (fun r => ?_) (fun r => ?_)⟩
    · simp only [r, Bool.false_and] at hag; intro x hx; rw [hx]; exact hag
    · have il := hv i r
      have he := hr.e i0 il
      have hkd := hs.kd i0 il
      have hc := cls_bd hd i0 il
      rw [he.1]
      refine ⟨by omega, ⟨by omega, by omega⟩, hk, fun t => ?_, fun t => ?_⟩
      · rw [decide_eq_false t] at hag; simp only [Bool.false_and, Bool.and_false] at hag; intro x hx; rw [hx]; exact hag
      · have t := Decidable.not_not.mp t
        rw [r, decide_eq_true t, Bool.true_and, Bool.true_and] at hag
        refine sL_classOf hr hs i0 il ⟨⟨by omega, by omega⟩, hl, fun u => ?_, fun u => sL_classOf hr hs i0 il ⟨⟨by omega, by omega⟩, hh, fun w => ?_, fun w => ?_⟩⟩
        · rw [decide_eq_false (by omega)] at hag; intro x hx; rw [hx]; exact hag
        · rw [decide_eq_false (by omega)] at hag; intro x hx; rw [hx]; exact hag
        · rw [decide_eq_true (by omega)] at hag; intro x hx; rw [hx]; exact hag
  · exact ⟨⟨by decide, by decide⟩, fun q => by rw [ha]; exact h, fun q => absurd (by decide) q⟩
theorem sL_member {s : Rw} {σ : St} {v : Int → Bool} {g : Int} {K : Int → Prop} (hr : RW σ s) (hs : SL s) (hg : Rg g) (h : K (cI (fun k => decide (gp s k = g) && v k) 4)) : f_L_member (BSn v 4 : Nat) g σ K := by
  unfold f_L_member
  refine count_loop (fun k => decide (gp s k = g) && v k) 4 (by decide) (fun a i ag ha i0 i1 hag => ?_) (fun a ag ha => ?_)
  · have hk := hs.k i0 i1
    rw [(hr.d i0 i1).2.1]
    refine ⟨⟨by omega, by omega⟩, fun q => by omega, fun q => ⟨by omega, ⟨by omega, by omega⟩, hg, fun r => ?_, fun r => sp5 (bit_BS (by decide) i0 i1) (fun t => ?_) (fun t => ?_)⟩⟩
    · rw [decide_eq_false r] at hag; intro x hx; rw [hx]; exact hag
    · rw [t, Bool.and_false] at hag; intro x hx; rw [hx]; exact hag
    · rw [decide_eq_true (Decidable.not_not.mp r), t] at hag; intro x hx; rw [hx]; exact hag
  · exact ⟨⟨by decide, by decide⟩, fun q => by rw [ha]; exact h, fun q => absurd (by decide) q⟩
