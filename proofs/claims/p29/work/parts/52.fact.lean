/-! ===== what calls tell of a legend ===== -/
def dfl : Ln := (0, 0, 0, 0, 0, 0)
def LnA (L : List Ln) (i : Int) : Ln := (L[i.toNat]?).getD dfl
theorem LnA_get {L : List Ln} {i : Int} (h0 : 0 ≤ i) (h1 : i < L.length) : L[i.toNat]? = some (LnA L i) := by
  have e := List.getElem?_eq_getElem (by omega : i.toNat < L.length)
  unfold LnA
  rw [e]; rfl
theorem LnA_mem {L : List Ln} {i : Int} (h0 : 0 ≤ i) (h1 : i < L.length) : LnA L i ∈ L := List.mem_of_getElem? (LnA_get h0 h1)
def stX (s : Rw) (x : Ln) (k : Int) : Bool := decide ((x.1 = 2 ∧ x.2.2.1 = gp s (kd s k)) ∨ (x.1 = 0 ∧ x.2.1 = kd s k ∧ x.2.2.2.1 ≤ cls s k ∧ cls s k ≤ x.2.2.2.2.1))
def lnF (s : Rw) (v : Int → Bool) (L : List Ln) (k : Int) : Int := if v k = true then ff (fun i => stX s (LnA L i) k) (L.length : Int).toNat 0 else -1
def coK (L : List Ln) (k : Int) : Int := cI (fun i => decide ((LnA L i).1 = 0 ∧ (LnA L i).2.1 = k)) L.length
def lnW (c : Int) (L : List Ln) (i w : Int) : Int := if w = 0 then (LnA L i).1 else if w = 1 then (LnA L i).2.1 else if w = 2 then (LnA L i).2.2.1 else if w = 3 then (LnA L i).2.2.2.1 else if w = 4 then (LnA L i).2.2.2.2.1 else if w = 5 then (LnA L i).2.2.2.2.2 else if w = 6 then (pl c L i.toNat).1 else (pl c L i.toNat).2
def bxW (x : Bx) (cv w : Int) : Int := if w = 0 then x.1 else if w = 1 then x.2.1 else if w = 2 then x.2.2.1 else if w = 3 then x.2.2.2.1 else if w = 4 then x.2.2.2.2 else cv
/-- the last legend's signs in sight, lines, box, covered signs -/
def vF (s : Rw) : Int → Bool := vv s (NN s)
def LF (s : Rw) : List Ln := LL s (NN s)
def xF (s : Rw) : Bx := xs s (NN s + 1)
def cvF (s : Rw) : Int := if (LF s).length = 0 then -1 else ctb s (xF s)
def rdW (s : Rw) (w : Int) : Int := if w = 0 then (NN s : Int) + 1 else if w = 1 then b01 (same s (NN s)) else cI (fun k => vF s k && cov s (xF s) k) (s 9)
def nbW (s : Rw) (w : Int) : Int := if w ≤ 9 then s w else if w = 10 then cI (shw s) 40 else cI (vF s) 40
def sgW (s : Rw) (k w : Int) : Int := if w = 0 then kd s k else if w = 1 then co s k else if w = 2 then ro s k else if w = 3 then va s k else if w = 4 then le' s k else if w = 5 then cls s k else if w = 6 then b01 (shw s k) else if w = 7 then b01 (vF s k) else lnF s (vF s) (LF s) k
def kdW (s : Rw) (k w : Int) : Int := if w = 0 then rk s k else if w = 1 then gp s k else if w = 2 then nl s k else if w = 8 then coK (LF s) k else if w = 9 then tot s (vF s) k else if w - 3 < nl s k then lm s k (w - 3) else -1
theorem LG.va {σ : St} {b : Nat} {s : Rw} (h : LG σ b s) : VA σ (b + 1) (shw s) := h.1
theorem LG.vb {σ : St} {b : Nat} {s : Rw} (h : LG σ b s) : VA σ (b + 2) (vF s) := h.2.1
theorem LG.n3 {σ : St} {b : Nat} {s : Rw} (h : LG σ b s) : σ b 3 = cI (shw s) 40 := h.2.2.1
theorem LG.n4 {σ : St} {b : Nat} {s : Rw} (h : LG σ b s) : σ b 4 = cI (vF s) 40 := h.2.2.2.1
theorem LG.bd {σ : St} {b : Nat} {s : Rw} (h : LG σ b s) : BD σ (b + 3) s (vF s) := h.2.2.2.2.1.1
theorem LG.cl {σ : St} {b : Nat} {s : Rw} (h : LG σ b s) : CL σ (b + 10) (LF s) := h.2.2.2.2.1.2.1
theorem LG.ly {σ : St} {b : Nat} {s : Rw} (h : LG σ b s) : LY σ (b + 10) (s 1) (LF s) := h.2.2.2.2.1.2.2.1
theorem LG.bx {σ : St} {b : Nat} {s : Rw} (h : LG σ b s) : b0 σ (b + 32) = xF s := h.2.2.2.2.1.2.2.2.1
theorem LG.cv {σ : St} {b : Nat} {s : Rw} (h : LG σ b s) : σ (b + 32) 5 = cvF s := h.2.2.2.2.1.2.2.2.2.1
theorem LG.n9 {σ : St} {b : Nat} {s : Rw} (h : LG σ b s) : σ b 9 = (NN s : Int) + 1 := h.2.2.2.2.1.2.2.2.2.2
theorem LG.n10 {σ : St} {b : Nat} {s : Rw} (h : LG σ b s) : σ b 10 = b01 (same s (NN s)) := h.2.2.2.2.2.1
theorem LG.n11 {σ : St} {b : Nat} {s : Rw} (h : LG σ b s) : σ b 11 = (LL s 0).length := h.2.2.2.2.2.2
theorem LG.go {σ τ : St} {b : Nat} {s : Rw} (h : LG σ b s) (e : ∀ c : Nat, b ≤ c → c ≤ b + 32 → τ c = σ c) : LG τ b s := by
  have eb := e b (by omega) (by omega)
  refine ⟨fun k k0 k1 => by rw [e _ (by omega) (by omega)]; exact h.1 k k0 k1, fun k k0 k1 => by rw [e _ (by omega) (by omega)]; exact h.2.1 k k0 k1, by rw [eb]; exact h.2.2.1, by rw [eb]; exact h.2.2.2.1, h.2.2.2.2.1.go (fun c g1 g2 => e c (by omega) g2) (by rw [eb]), by rw [eb]; exact h.2.2.2.2.2.1, by rw [eb]; exact h.2.2.2.2.2.2⟩
theorem LF_len {s : Rw} (hd : Dm s) : (LF s).length ≤ 77 := LL_len hd _
theorem LF_wf {s : Rw} (hd : Dm s) : ∀ x ∈ LF s, WF s (vF s) x := fun _ h => LL_wf hd _ h
theorem LF_sm {s : Rw} (hd : Dm s) : ∀ x ∈ LF s, Sm x := LL_sm hd _
theorem s1_lineOf {b q : Nat} {k : Int} {s : Rw} {v : Int → Bool} {L : List Ln} {σ : St} {K : Int → Prop} (hd : Dm s) (hm : Ms σ q s) (hv : VA σ (b + 2) v) (hL : CL σ (b + 10) L) (lL : L.length ≤ 77) (hw : ∀ x ∈ L, WF s v x) (k0 : 0 ≤ k) (k1 : k < s 9) (h : K (lnF s v L k)) : f_X1_lineOf b q k σ K := by
  have hn := hd.n
  have hs := hd.sign k k0 k1
  have hcl := cls_bd hd k0 k1
  unfold f_X1_lineOf
  unfold lnF at h
  refine ⟨⟨k0, by omega⟩, sp4 (hv k k0 (by omega)) (fun r => ⟨⟨k0, by omega⟩, ?_⟩) (fun r => ?_)⟩
  · rw [if_pos r] at h
    intro x1 e1
    rw [(hm.sign k k0 k1).1] at e1
    subst e1
    refine s3_classOf hd hm k0 k1 (first_loop (fun i => stX s (LnA L i) k) L.length (by omega) h (fun i ag i0 i1 hT hF => ?_) (fun ag hK => ?_))
    · have hx := LnA_get i0 i1
      have hwx := hw _ (LnA_mem i0 i1)
      have hsx := hwx.sm hd
      have hc := hL.2 _ _ hx
      rw [show ((i.toNat : Nat) : Int) = i by omega] at hc
      have hg := (hd.kind (kd s k) hs.1.1 (by omega)).2.1
      have e7 : σ (q + 7) (kd s k) = gp s (kd s k) := (hm.kind (kd s k) hs.1.1 (by omega)).2.1
      unfold stX at hT hF
      generalize LnA L i = x at *
      rw [hL.1, e7, show b + 11 = b + 10 + 1 by omega, show b + 12 = b + 10 + 2 by omega, show b + 13 = b + 10 + 3 by omega, show b + 14 = b + 10 + 4 by omega, show b + 15 = b + 10 + 5 by omega, hc.1, hc.2.1, hc.2.2.1, hc.2.2.2.1, hc.2.2.2.2.1]
      obtain ⟨n1, n2, n3, n4, n5, -⟩ := hsx
      have T : ((x.1 = 2 ∧ x.2.2.1 = gp s (kd s k)) ∨ (x.1 = 0 ∧ x.2.1 = kd s k ∧ x.2.2.2.1 ≤ cls s k ∧ cls s k ≤ x.2.2.2.2.1)) → K i := fun z => hT (decide_eq_true z)
      have F : ¬ ((x.1 = 2 ∧ x.2.2.1 = gp s (kd s k)) ∨ (x.1 = 0 ∧ x.2.1 = kd s k ∧ x.2.2.2.1 ≤ cls s k ∧ cls s k ≤ x.2.2.2.2.1)) → ag (i + 1) := fun z => hF (decide_eq_false z)
      have hw2 : x.1 ≠ 0 → x.2.1 = -1 := fun z => by
        rcases hwx with ⟨a, _⟩ | ⟨_, a, _⟩
        · exact absurd a z
        · exact a
      refine ⟨⟨by omega, by omega⟩, ⟨by omega, by omega⟩, fun z => by omega, fun _ => ⟨by omega, ?_⟩⟩
      refine wj0_intro (¬ (x.1 = 2 ∧ x.2.2.1 = gp s (kd s k))) (fun z => ?_) (fun J hJ => ?_)
      · exact ⟨by omega, ⟨by omega, by omega⟩, ⟨by omega, by omega⟩, fun z1 => F (by omega), fun z1 => ⟨by omega, ⟨by omega, by omega⟩, ⟨by omega, by omega⟩, fun z2 => F (by omega), fun z2 => ⟨by omega, ⟨by omega, by omega⟩, ⟨by omega, by omega⟩, fun z3 => F (by omega), fun z3 => T (by omega)⟩⟩⟩
      · exact ⟨⟨by omega, by omega⟩, fun z1 => hJ (by omega), fun z1 => ⟨by omega, by omega, ⟨by omega, by omega⟩, ⟨by omega, by omega⟩, fun z2 => hJ (by omega), fun z2 => T (by omega)⟩⟩
    · rw [hL.1]
      exact ⟨⟨by omega, by omega⟩, ⟨by omega, by omega⟩, fun _ => hK, fun z => by omega⟩
  · rw [if_neg (by rw [r]; decide)] at h
    exact h
theorem s2_countOfKind {b : Nat} {k : Int} {L : List Ln} {σ : St} {K : Int → Prop} (hL : CL σ b L) (lL : L.length ≤ 77) (sL : ∀ x ∈ L, Sm x) (hk : Rg k) (h : K (coK L k)) : f_X2_countOfKind b k σ K := by
  unfold f_X2_countOfKind
  rw [hL.1]
  refine count_loop (fun i => decide ((LnA L i).1 = 0 ∧ (LnA L i).2.1 = k)) L.length (by omega) (fun a i ag ha i0 i1 hag => ?_) (fun a ag ha => ?_)
  · have hc := hL.2 _ _ (LnA_get i0 i1)
    have hs := sL _ (LnA_mem i0 i1)
    rw [show ((i.toNat : Nat) : Int) = i by omega] at hc
    generalize LnA L i = x at *
    rw [hc.1, hc.2.1]
    obtain ⟨n1, n2, -⟩ := hs
    have F : ¬ (x.1 = 0 ∧ x.2.1 = k) → ag a (i + 1) := fun z => by
      rw [decide_eq_false z] at hag
      simpa only [b01, Int.add_zero] using hag
    refine ⟨⟨by omega, by omega⟩, ⟨by omega, by omega⟩, fun z => by omega, fun _ => ⟨by omega, ⟨by omega, by omega⟩, fun z => F (by omega), fun z => ⟨by omega, ⟨by omega, by omega⟩, hk, fun z2 => F (by omega), fun z2 => ?_⟩⟩⟩
    rw [decide_eq_true (by omega)] at hag
    exact hag
  · exact ⟨⟨by omega, by omega⟩, ⟨by omega, by omega⟩, fun _ => by rw [ha]; exact h, fun z => by omega⟩
theorem s2_fact {b : Nat} {c p w : Int} {L : List Ln} {σ : St} {K : Int → Prop} (hL : CL σ b L) (hY : LY σ b c L) (lL : L.length ≤ 77) (p0 : 0 ≤ p) (p1 : p < L.length) (hw : 0 ≤ w ∧ w ≤ 7) (h : K (lnW c L p w)) : f_X2_fact b p w σ K := by
  have hc := hL.2 _ _ (LnA_get p0 p1)
  have hy := hY.1 p.toNat (by omega)
  rw [show ((p.toNat : Nat) : Int) = p by omega] at hc hy
  unfold f_X2_fact
  unfold lnW at h
  rw [hL.1, hc.1, hc.2.1, hc.2.2.1, hc.2.2.2.1, hc.2.2.2.2.1, hc.2.2.2.2.2, hy.1, hy.2]
  refine ⟨⟨by omega, by omega⟩, fun z => by omega, fun _ => ⟨⟨by omega, by omega⟩, ⟨by omega, by omega⟩, fun _ => ⟨⟨by omega, by omega⟩, fun e => ⟨by omega, ?_⟩, fun e => ⟨by omega, ?_⟩, fun e => ⟨by omega, ?_⟩, fun e => ⟨by omega, ?_⟩, fun e => ⟨by omega, ?_⟩, fun e => ⟨by omega, ?_⟩, fun e => ⟨by omega, ?_⟩, fun e => ⟨by omega, ?_⟩⟩, fun z => by omega⟩⟩
  all_goals simp (disch := omega) only [if_pos, if_neg] at h
  all_goals exact h
theorem s0_fact {b : Nat} {w : Int} {x : Bx} {cv : Int} {σ : St} {K : Int → Prop} (hb : b0 σ b = x) (hcv : σ b 5 = cv) (hw : 0 ≤ w ∧ w ≤ 5) (h : K (bxW x cv w)) : f_X0_fact b w σ K := by
  subst hb hcv
  unfold f_X0_fact
  unfold bxW b0 at h
  refine ⟨⟨by omega, by omega⟩, fun e => ?_, fun e => ?_, fun e => ?_, fun e => ?_, fun e => ?_, fun e => ?_⟩
  all_goals simp (disch := omega) only [if_pos, if_neg] at h
  all_goals exact h
theorem s6_roundFact {w : Int} {s : Rw} {σ : St} {K : Int → Prop} (hd : Dm s) (hm : Ms σ 1 s) (hl : LG σ 14 s) (hw : 0 ≤ w ∧ w ≤ 2) (h : K (rdW s w)) : f_X6_roundFact w σ K := by
  unfold f_X6_roundFact
  unfold rdW at h
  refine ⟨⟨by omega, by omega⟩, fun e => ?_, fun e => ?_, fun e => ?_⟩
  · rw [if_pos e] at h; rw [hl.n9]; exact h
  · rw [if_neg (by omega), if_pos e] at h
    exact sp3 hl.n10 (fun r => by rw [r] at h; exact h) (fun r => by rw [r] at h; exact h)
  · rw [if_neg e.1, if_neg e.2] at h
    unfold f_X1_countCoveredInSight
    refine s0_countCovered (v := vF s) hd hm (by rw [hl.bx]; exact xs_ok hd _) hl.vb ?_
    rw [hl.bx]; exact h
theorem s6_numberOf {w : Int} {s : Rw} {σ : St} {K : Int → Prop} (hm : Ms σ 1 s) (hl : LG σ 14 s) (hw : 0 ≤ w ∧ w ≤ 11) (h : K (nbW s w)) : f_X6_numberOf w σ K := by
  unfold f_X6_numberOf
  unfold nbW at h
  refine ⟨⟨by omega, by omega⟩, fun z1 => ⟨⟨by omega, by omega⟩, fun z2 => ⟨⟨by omega, by omega⟩, fun e => ?_, fun e => ?_, fun e => ?_⟩, fun z2 => ⟨by omega, ?_⟩⟩, fun z1 => ⟨⟨by omega, by omega⟩, fun z => by omega, fun _ => ⟨by omega, ?_⟩⟩⟩
  · rw [if_pos (by omega), e] at h; rw [hm.n]; exact h
  · rw [if_neg (by omega), if_pos e] at h; rw [hl.n3]; exact h
  · rw [if_neg (by omega), if_neg e.2] at h; rw [hl.n4]; exact h
  · rw [if_pos (by omega)] at h
    have e := hm.win (w - 4) (by omega) (by omega)
    rw [show 4 + (w - 4) = w by omega] at e
    rw [e]; exact h
  · rw [if_pos (by omega)] at h
    rw [hm.set w (by omega) (by omega)]; exact h
theorem s6_signFact {k w : Int} {s : Rw} {σ : St} {K : Int → Prop} (hd : Dm s) (hm : Ms σ 1 s) (hl : LG σ 14 s) (k0 : 0 ≤ k) (k1 : k < s 9) (hw : 0 ≤ w ∧ w ≤ 8) (h : K (sgW s k w)) : f_X6_signFact k w σ K := by
  have hn := hd.n
  have ms := hm.sign k k0 k1
  unfold f_X6_signFact
  unfold sgW at h
  refine ⟨⟨by omega, by omega⟩, fun z => by omega, fun _ => ⟨⟨by omega, by omega⟩, fun _ => ⟨⟨by omega, by omega⟩, fun e => ⟨by omega, ?_⟩, fun e => ⟨by omega, ?_⟩, fun e => ⟨by omega, ?_⟩, fun e => ⟨by omega, ?_⟩, fun e => ⟨by omega, ?_⟩, fun e => ?_, fun e => ⟨by omega, ?_⟩, fun e => ⟨by omega, ?_⟩, fun e => ?_⟩, fun z => by omega⟩⟩
  all_goals simp (disch := omega) only [if_pos, if_neg] at h
  · rw [ms.1]; exact h
  · rw [ms.2.1]; exact h
  · rw [ms.2.2.1]; exact h
  · rw [ms.2.2.2.1]; exact h
  · rw [ms.2.2.2.2]; exact h
  · exact s3_classOf hd hm k0 k1 h
  · exact sp3 (hl.va k k0 (by omega)) (fun r => by rw [r] at h; exact h) (fun r => by rw [r] at h; exact h)
  · exact sp3 (hl.vb k k0 (by omega)) (fun r => by rw [r] at h; exact h) (fun r => by rw [r] at h; exact h)
  · exact s1_lineOf hd hm hl.vb hl.cl (LF_len hd) (LF_wf hd) k0 k1 h
theorem s6_kindFact {k w : Int} {s : Rw} {σ : St} {K : Int → Prop} (hd : Dm s) (hm : Ms σ 1 s) (hl : LG σ 14 s) (k0 : 0 ≤ k) (k1 : k < 12) (hw : 0 ≤ w ∧ w ≤ 9) (h : K (kdW s k w)) : f_X6_kindFact k w σ K := by
  have mk := hm.kind k k0 k1
  have hb := (hl.bd k k0 k1).1
  unfold f_X6_kindFact
  unfold kdW at h
  refine ⟨⟨by omega, by omega⟩, fun z => by omega, fun _ => ⟨⟨by omega, by omega⟩, fun _ => ⟨⟨by omega, by omega⟩, fun e => ⟨by omega, ?_⟩, fun e => ⟨by omega, ?_⟩, fun e => ⟨by omega, ?_⟩, fun e => ?_, fun e => ?_, fun e => ?_, fun e => ?_, fun e => ?_, fun e => ?_, fun e => ⟨by omega, ?_⟩, fun e => by omega⟩, fun z => by omega⟩⟩
  · rw [if_pos e] at h; rw [mk.1]; exact h
  · rw [if_neg (by omega), if_pos e] at h; rw [mk.2.1]; exact h
  · rw [if_neg (by omega), if_neg (by omega), if_pos e] at h; rw [mk.2.2.1]; exact h
  · rw [if_neg (by omega), if_neg (by omega), if_neg (by omega), if_neg (by omega), if_neg (by omega)] at h; exact s3_limitAt hd hm k0 k1 (by omega) h
  · rw [if_neg (by omega), if_neg (by omega), if_neg (by omega), if_neg (by omega), if_neg (by omega)] at h; exact s3_limitAt hd hm k0 k1 (by omega) h
  · rw [if_neg (by omega), if_neg (by omega), if_neg (by omega), if_neg (by omega), if_neg (by omega)] at h; exact s3_limitAt hd hm k0 k1 (by omega) h
  · rw [if_neg (by omega), if_neg (by omega), if_neg (by omega), if_neg (by omega), if_neg (by omega)] at h; exact s3_limitAt hd hm k0 k1 (by omega) h
  · rw [if_neg (by omega), if_neg (by omega), if_neg (by omega), if_neg (by omega), if_neg (by omega)] at h; exact s3_limitAt hd hm k0 k1 (by omega) h
  · rw [if_neg (by omega), if_neg (by omega), if_neg (by omega), if_pos e] at h
    exact s2_countOfKind hl.cl (LF_len hd) (LF_sm hd) ⟨by omega, by omega⟩ h
  · rw [if_neg (by omega), if_neg (by omega), if_neg (by omega), if_neg (by omega), if_pos e] at h
    rw [show (18 : Nat) = 14 + 3 + 1 by rfl, hb]; exact h
/-! they are small -/
theorem cI_rg (P : Int → Bool) {n : Int} (h0 : 0 ≤ n) (h1 : n ≤ 1000) : Rg (cI P n) := by have := cI_bd P h0; constructor <;> omega
theorem lnF_bd {s : Rw} {v : Int → Bool} {L : List Ln} {k : Int} (h : L.length ≤ 77) : -1 ≤ lnF s v L k ∧ lnF s v L k ≤ 77 := by
  unfold lnF
  have := ff_bd (fun i => stX s (LnA L i) k) (L.length : Int).toNat 0 (by omega)
  split <;> omega
theorem sgW_rg {s : Rw} (hd : Dm s) {k w : Int} (k0 : 0 ≤ k) (k1 : k < s 9) : Rg (sgW s k w) := by
  have hs := hd.sign k k0 k1
  have hc := cls_bd hd k0 k1
  have b1 := b01_rg0 (shw s k)
  have b2 := b01_rg0 (vF s k)
  have b3 := lnF_bd (s := s) (v := vF s) (k := k) (LF_len hd)
  unfold sgW
  constructor <;> (repeat' split) <;> omega
theorem kdW_rg {s : Rw} (hd : Dm s) {k w : Int} (k0 : 0 ≤ k) (k1 : k < 12) (hw : 0 ≤ w) : Rg (kdW s k w) := by
  have hk := hd.kind k k0 k1
  have hl := LF_len hd
  have b1 := cI_bd (fun i => decide ((LnA (LF s) i).1 = 0 ∧ (LnA (LF s) i).2.1 = k)) (i := ((LF s).length : Int)) (by omega)
  have b2 := tot_bd hd (vF s) k
  have b3 : 0 ≤ w - 3 → w - 3 < nl s k → 1 ≤ lm s k (w - 3) ∧ lm s k (w - 3) ≤ 9999 := fun z1 z2 => hk.2.2.2.1 _ z1 z2
  unfold kdW coK
  constructor
  all_goals
    split
    · omega
    · split
      · omega
      · split
        · omega
        · split
          · omega
          · split
            · omega
            · split
              · have := b3 (by omega) (by assumption); omega
              · omega
theorem nbW_rg {s : Rw} (hd : Dm s) {w : Int} (hw : 0 ≤ w ∧ w ≤ 11) : Rg (nbW s w) := by
  have h1 := hd.set
  have h2 := hd.win
  have h3 := hd.n
  have b1 := cI_rg (shw s) (n := 40) (by decide) (by decide)
  have b2 := cI_rg (vF s) (n := 40) (by decide) (by decide)
  unfold nbW
  split
  · have : w = 0 ∨ w = 1 ∨ w = 2 ∨ w = 3 ∨ w = 4 ∨ w = 5 ∨ w = 6 ∨ w = 7 ∨ w = 8 ∨ w = 9 := by omega
    rcases this with e | e | e | e | e | e | e | e | e | e <;> subst e <;> constructor <;> omega
  · split
    · exact b1
    · exact b2
theorem rdW_rg {s : Rw} (hd : Dm s) {w : Int} : Rg (rdW s w) := by
  have h1 := NN_bd s
  have h3 := hd.n
  have b1 := b01_rg (same s (NN s))
  have b2 := cI_rg (fun k => vF s k && cov s (xF s) k) (n := s 9) (by omega) (by omega)
  unfold rdW
  split
  · constructor <;> omega
  · split
    · exact b1
    · exact b2
theorem cvF_bd {s : Rw} (hd : Dm s) : -1 ≤ cvF s ∧ cvF s ≤ 40 := by
  have := ctb_bd hd (xF s)
  unfold cvF
  split <;> omega
theorem bx_bd {s : Rw} (hd : Dm s) {L : List Ln} (l7 : L.length ≤ 77) : (-1 ≤ (bx s L).2.1 ∧ (bx s L).2.1 ≤ 399) ∧ (-1 ≤ (bx s L).2.2.1 ∧ (bx s L).2.2.1 ≤ 399) ∧ (-1 ≤ (bx s L).2.2.2.1 ∧ (bx s L).2.2.2.1 ≤ 200) ∧ (-1 ≤ (bx s L).2.2.2.2 ∧ (bx s L).2.2.2.2 ≤ 200) := by
  have h := bx_ok hd l7
  by_cases q : L.length = 0
  · have e : bx s L = (-1, -1, -1, -1, -1) := by unfold bx; rw [if_pos q]
    rw [e]; exact ⟨by decide, by decide, by decide, by decide⟩
  · have e : bx s L = st s (wdB s L) (htB s L) (bc s (wdB s L) (htB s L) 4).1 := by unfold bx; rw [if_neg q]
    have hb := (bc_bd hd (wdB s L) (htB s L) 4 (by omega)).1
    have h2 := h.2 (by rw [e]; show (bc s (wdB s L) (htB s L) 4).1 ≠ -1; omega)
    omega
theorem bxW_rg {s : Rw} (hd : Dm s) {w : Int} : Rg (bxW (xF s) (cvF s) w) := by
  have h1 := (xs_ok hd (NN s + 1)).1
  have h2 := bx_bd hd (LF_len hd)
  have h3 := cvF_bd hd
  have e : xF s = bx s (LF s) := rfl
  have h4 : -1 ≤ (xF s).1 ∧ (xF s).1 ≤ 3 := h1
  rw [← e] at h2
  unfold bxW
  constructor <;> (repeat' split) <;> omega
theorem lnW_rg {s : Rw} (hd : Dm s) {i w : Int} (i0 : 0 ≤ i) (i1 : i < (LF s).length) : Rg (lnW (s 1) (LF s) i w) := by
  have hs := LF_sm hd _ (LnA_mem i0 i1)
  have hl := LF_len hd
  have h1 := hd.set
  have hH := hL_pos h1.2.1.1 h1.2.1.2 (n := (LF s).length) (by omega) (by omega)
  have hb := cs_bd h1.2.1.1 hH.1 (LF s) i.toNat
  obtain ⟨n1, n2, n3, n4, n5, n6⟩ := hs
  have hp : (0 ≤ (pl (s 1) (LF s) i.toNat).1 ∧ (pl (s 1) (LF s) i.toNat).1 ≤ 4) ∧ (0 ≤ (pl (s 1) (LF s) i.toNat).2 ∧ (pl (s 1) (LF s) i.toNat).2 ≤ 77) := by
    unfold pl nx
    split
    · constructor
      · dsimp only; omega
      · dsimp only; omega
    · constructor
      · dsimp only; omega
      · dsimp only; omega
  unfold lnW
  constructor <;> (repeat' split) <;> omega
