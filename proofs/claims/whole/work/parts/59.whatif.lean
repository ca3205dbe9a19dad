/-! ===== rows with a place changed ===== -/
theorem up_row {σ : St} {c : Nat} {i v : Int} : up2 σ c i v c = setF (σ c) i v := by funext j; simp [up2, setF]
theorem setF_if {f : Fn} {i v j : Int} : setF f i v j = if j = i then v else f j := rfl
theorem setF_self {f : Fn} {i : Int} : setF f i (f i) = f := by
  funext j
  rw [setF_if]
  split
  · rename_i e; rw [e]
  · rfl
theorem setF_twice {f : Fn} {i v w : Int} : setF (setF f i v) i w = setF f i w := by
  funext j
  show (if j = i then w else setF f i v j) = (if j = i then w else f j)
  split
  · rfl
  · rename_i e; rw [setF_n e]
theorem Dm.low {s : Rw} (hd : Dm s) {i v : Int} (hi : 0 ≤ i ∧ i ≤ 8) (h0 : i = 0 → 1 ≤ v ∧ v ≤ 6) (h1 : i = 1 → 1 ≤ v ∧ v ≤ 4) (h2 : i = 2 → 1 ≤ v ∧ v ≤ 60) (h3 : i = 3 → 1 ≤ v ∧ v ≤ 20) (h4 : i = 4 ∨ i = 5 → 0 ≤ v ∧ v ≤ 199) (h6 : i = 6 ∨ i = 7 → 10 ≤ v ∧ v ≤ 200) (h8 : i = 8 → 0 ≤ v ∧ v ≤ 5) : Dm (setF s i v) := by
  have a1 := hd.set
  have a2 := hd.win
  have a3 := hd.n
  unfold Dm
  refine ⟨?_, ?_, ?_, ?_, ?_, ?_, ?_, ?_, ?_, ?_, fun g g0 g1 => ?_, fun k k0 k1 => ?_, fun k k0 k1 => ?_⟩
  · rw [setF_if]; split <;> omega
  · rw [setF_if]; split <;> omega
  · rw [setF_if]; split <;> omega
  · rw [setF_if]; split <;> omega
  · rw [setF_if]; split <;> omega
  · rw [setF_if]; split <;> omega
  · rw [setF_if]; split <;> omega
  · rw [setF_if]; split <;> omega
  · rw [setF_if]; split <;> omega
  · rw [setF_n (by omega)]; exact a3
  · rw [setF_n (by omega)]; exact hd.way g g0 g1
  · have hk := hd.kind k k0 k1
    have e1 : rk (setF s i v) k = rk s k := setF_n (by omega)
    have e2 : gp (setF s i v) k = gp s k := setF_n (by omega)
    have e3 : nl (setF s i v) k = nl s k := setF_n (by omega)
    rw [e1, e2, e3]
    refine ⟨hk.1, hk.2.1, hk.2.2.1, fun j j0 j1 => ?_, fun j j0 j1 => ?_⟩
    · have e4 : lm (setF s i v) k j = lm s k j := setF_n (by omega)
      rw [e4]; exact hk.2.2.2.1 j j0 j1
    · have e4 : lm (setF s i v) k j = lm s k j := setF_n (by omega)
      have e5 : lm (setF s i v) k (j + 1) = lm s k (j + 1) := setF_n (by omega)
      rw [e4, e5]; exact hk.2.2.2.2 j j0 j1
  · rw [setF_n (by omega)] at k1
    have hs := hd.sign k k0 k1
    have e1 : kd (setF s i v) k = kd s k := setF_n (by omega)
    have e2 : co (setF s i v) k = co s k := setF_n (by omega)
    have e3 : ro (setF s i v) k = ro s k := setF_n (by omega)
    have e4 : va (setF s i v) k = va s k := setF_n (by omega)
    have e5 : le' (setF s i v) k = le' s k := setF_n (by omega)
    rw [e1, e2, e3, e4, e5]; exact hs
theorem Ms.chg {σ τ : St} {b : Nat} {s t : Rw} (h : Ms σ b s) (e9 : t 9 = s 9) (es : ∀ i : Int, 111 ≤ i → t i = s i) (ec : ∀ c : Nat, b ≤ c → c ≤ b + 5 → τ c = σ c)
    (hk : ∀ k : Int, 0 ≤ k → k < 12 → τ (b + 6) k = rk t k ∧ τ (b + 7) k = gp t k ∧ τ (b + 8) k = nl t k ∧ ∀ i : Int, 0 ≤ i → i < nl t k → τ (b + 9) (k * 5 + i) = lm t k i)
    (hg : ∀ g : Int, 0 ≤ g → g < 5 → τ (b + 10) g = t (10 + g)) (hw : ∀ j : Int, 0 ≤ j → j < 5 → τ (b + 11) j = t (4 + j)) (hs : ∀ j : Int, 0 ≤ j → j < 4 → τ (b + 12) j = t j) : Ms τ b t := by
  have g := (h.sg.go ec)
  refine ⟨by rw [e9]; exact g.1, fun k k0 k1 => ?_, hk, hg, hw, hs⟩
  rw [e9] at k1
  have e1 : kd t k = kd s k := es _ (by omega)
  have e2 : co t k = co s k := es _ (by omega)
  have e3 : ro t k = ro s k := es _ (by omega)
  have e4 : va t k = va s k := es _ (by omega)
  have e5 : le' t k = le' s k := es _ (by omega)
  rw [e1, e2, e3, e4, e5]
  exact g.2 k k0 k1
theorem Ms.setW {σ : St} {b : Nat} {s : Rw} {j v : Int} (hd : Dm s) (h : Ms σ b s) (hj : 0 ≤ j ∧ j < 5) : Ms (up2 σ (b + 11) j v) b (setF s (4 + j) v) := by
  refine h.chg (setF_n (by omega)) (fun i hi => setF_n (by omega)) (fun c g1 g2 => up_c (by omega)) (fun k k0 k1 => ?_) (fun g g0 g1 => ?_) (fun i i0 i1 => ?_) (fun i i0 i1 => ?_)
  · have hk := hd.kind k k0 k1
    have e1 : rk (setF s (4 + j) v) k = rk s k := setF_n (by omega)
    have e2 : gp (setF s (4 + j) v) k = gp s k := setF_n (by omega)
    have e3 : nl (setF s (4 + j) v) k = nl s k := setF_n (by omega)
    have m := h.kind k k0 k1
    rw [e1, e2, e3, up_c (by omega), up_c (by omega), up_c (by omega), up_c (by omega)]
    refine ⟨m.1, m.2.1, m.2.2.1, fun i i0 i1 => ?_⟩
    have e4 : lm (setF s (4 + j) v) k i = lm s k i := setF_n (by omega)
    rw [e4]; exact m.2.2.2 i i0 i1
  · rw [up_c (by omega), setF_n (by omega)]; exact h.way g g0 g1
  · rw [up_if, setF_if]
    by_cases q : i = j
    · rw [if_pos q, if_pos (by omega)]
    · rw [if_neg q, if_neg (by omega)]; exact h.win i i0 i1
  · rw [up_c (by omega), setF_n (by omega)]; exact h.set i i0 i1
theorem Ms.setS {σ : St} {b : Nat} {s : Rw} {j v : Int} (hd : Dm s) (h : Ms σ b s) (hj : 0 ≤ j ∧ j < 4) : Ms (up2 σ (b + 12) j v) b (setF s j v) := by
  refine h.chg (setF_n (by omega)) (fun i hi => setF_n (by omega)) (fun c g1 g2 => up_c (by omega)) (fun k k0 k1 => ?_) (fun g g0 g1 => ?_) (fun i i0 i1 => ?_) (fun i i0 i1 => ?_)
  · have hk := hd.kind k k0 k1
    have e1 : rk (setF s j v) k = rk s k := setF_n (by omega)
    have e2 : gp (setF s j v) k = gp s k := setF_n (by omega)
    have e3 : nl (setF s j v) k = nl s k := setF_n (by omega)
    have m := h.kind k k0 k1
    rw [e1, e2, e3, up_c (by omega), up_c (by omega), up_c (by omega), up_c (by omega)]
    refine ⟨m.1, m.2.1, m.2.2.1, fun i i0 i1 => ?_⟩
    have e4 : lm (setF s j v) k i = lm s k i := setF_n (by omega)
    rw [e4]; exact m.2.2.2 i i0 i1
  · rw [up_c (by omega), setF_n (by omega)]; exact h.way g g0 g1
  · rw [up_c (by omega), setF_n (by omega)]; exact h.win i i0 i1
  · rw [up_if, setF_if]
    by_cases q : i = j
    · rw [if_pos q, if_pos q]
    · rw [if_neg q, if_neg q]; exact h.set i i0 i1
/-- only what is set aside has changed -/
theorem REL.k {σ τ : St} (h : REL σ) (e : ∀ c : Nat, c < 47 ∨ 92 < c → τ c = σ c) (e70 : 0 ≤ τ 70 0 ∧ τ 70 0 ≤ 77) : REL τ := by
  obtain ⟨h1, h2, ⟨p, P, h3, h4⟩, h5, h6, h7, h8⟩ := h
  have e162 := e 162 (by decide)
  refine ⟨by rw [e162]; exact h1, by rw [e162]; exact h2.go fun c g1 g2 => e c (by omega), ⟨p, P, h3.go (by rw [e 0 (by decide)]) (by rw [e 0 (by decide)]) (fun c g1 g2 => e c (by omega)), h4.go (by rw [e 161 (by decide)]) (e 163 (by decide))⟩, ?_, ?_, by rw [e 24 (by decide)]; exact h7, e70⟩
  · unfold TX
    rw [e 93 (by decide), e 161 (by decide), e 94 (by decide), e 166 (by decide)]; exact h5
  · rw [e 14 (by decide), e162]
    rcases h6 with z | ⟨z, l⟩
    · exact Or.inl z
    · exact Or.inr ⟨z, l.go fun c g1 g2 => e c (by omega)⟩
theorem o_linesAt {a b : Int} {σ : St} {Kx : Int → St → Prop} {J : St → Prop} (ha : Rg a) (hb : Rg b) (hR : REL σ) (hJ : ∀ τ : St, REL τ → J τ) (hK : ∀ (x : Int) (s : St), f_X7_linesAt a b s (fun y t => TL x y t J) → Kx x s) : f_L_linesAt a b σ Kx := by
  have hd := hR.d
  have hm := hR.m
  unfold f_L_linesAt f_X6_linesAt
  refine s6_demandBelow ha ⟨by decide, by decide⟩ (fun q1 => s6_demandBelow hb ⟨by decide, by decide⟩ (fun q2 => ?_) (fun q2 => ⟨fun _ => hK _ _ ?_, rfl⟩)) (fun q1 => ⟨fun _ => hK _ _ ?_, rfl⟩)
  · have hd1 : Dm (setF (σ 162) 4 a) := hd.low (by decide) (fun z => absurd z (by decide)) (fun z => absurd z (by decide)) (fun z => absurd z (by decide)) (fun z => absurd z (by decide)) (fun _ => by omega) (fun z => absurd z (by decide)) (fun z => absurd z (by decide))
    have hd2 : Dm (setF (setF (σ 162) 4 a) 5 b) := hd1.low (by decide) (fun z => absurd z (by decide)) (fun z => absurd z (by decide)) (fun z => absurd z (by decide)) (fun z => absurd z (by decide)) (fun _ => by omega) (fun z => absurd z (by decide)) (fun z => absurd z (by decide))
    refine s3_copyFrom (by decide) fun σ1 ⟨c1, _, m1⟩ => ?_
    intro s2 e2 s3 e3 s4 e4
    have M1 : Ms s4 47 (setF (setF (σ 162) 4 a) 5 b) := by
      have M2 : Ms s2 47 (setF (σ 162) 4 a) := by rw [e2]; exact (m1 _ hd hm).setW hd (j := 0) (by decide)
      have M3 : Ms s3 47 (setF (setF (σ 162) 4 a) 5 b) := by rw [e3]; exact M2.setW hd1 (j := 1) (by decide)
      exact M3.go fun c g1 g2 => by rw [e4, up_c (by omega)]
    have k4 : ∀ c : Nat, c < 47 ∨ 60 < c → s4 c = σ c := fun c hc => by rw [e4, up_c (by omega), e3, up_c (by omega), e2, up_c (by omega), c1 c (by omega)]
    refine s1_make hd2 M1 (by decide) (by rw [k4 70 (by decide)]; exact hR.n2) (Or.inl (by rw [e4, up_s])) fun σ5 c5 _ l5 => ?_
    have hlen := LF_len hd2
    have e70 : σ5 70 0 = (LF (setF (setF (σ 162) 4 a) 5 b)).length := l5.cl.1
    rw [e70]
    refine ⟨⟨by omega, by omega⟩, fun s6 e6 => hK _ _ ?_⟩
    have hR5 : REL σ5 := hR.k (fun c hc => by rw [c5 c (by omega), k4 c (by omega)]) (by rw [e70]; omega)
    have hR6 : REL s6 := by rw [e6]; exact hR5.u176 _
    have t162 : s6 162 = σ 162 := by rw [e6, up_c (by decide), c5 162 (by decide), k4 162 (by decide)]
    unfold f_X7_linesAt
    refine in_ok ha ⟨by decide, by decide⟩ ⟨by decide, by decide⟩ (by omega) (ok_eq (in_ok hb ⟨by decide, by decide⟩ ⟨by decide, by decide⟩ (by omega) (ok_ne (s7_copies (by decide) fun r1 rc1 rv1 => ?_))))
    intro r2 f2 r3 f3
    have t3 : r3 162 = setF (setF (σ 162) 4 a) 5 b := by rw [f3, up_row, f2, up_row, rc1 162 (by decide), t162]
    refine s7_makes (by rw [t3]; exact hd2) fun ρ hf hl => s7_copies (by decide) fun r5 rc5 rv5 => ?_
    have kk : ∀ c : Nat, c < 161 ∨ c = 163 ∨ c = 166 ∨ c = 176 → r5 c = s6 c := fun c hc => by rw [rc5 c (by omega), hf.1 c (by omega), f3, up_c (by omega), f2, up_c (by omega), rc1 c (by omega)]
    have kf : ∀ f : Int, f < 13 → r5 161 f = s6 161 f := fun f hf2 => by rw [rc5 161 (by decide), hf.2 f (by omega), f3, up_c (by decide), f2, up_c (by decide), rc1 161 (by decide)]
    have krow : r5 162 = s6 162 := by
      funext i
      rw [rv5 i]
      by_cases q : 0 ≤ i ∧ i < 311
      · rw [if_pos q, hf.1 165 (by decide), f3, up_c (by decide), f2, up_c (by decide), rv1 i, if_pos q]
      · rw [if_neg q, hf.1 162 (by decide), t3, setF_n (by omega), setF_n (by omega), t162]
    have hR7 : REL r5 := hR6.go (fun c hc => by
      by_cases q : c = 162
      · rw [q]; exact krow
      · exact kk c (by omega)) (kf 4 (by decide)) (kf 6 (by decide))
    have e13 : r5 161 13 = (LF (setF (setF (σ 162) 4 a) 5 b)).length := by rw [rc5 161 (by decide), hl.ml.1, t3]
    rw [e13]
    exact tells_ok hR7 hJ ⟨by omega, by omega⟩ (by rw [kk 176 (by decide), e6, up_s])
  · unfold f_X7_linesAt
    exact in_ok ha ⟨by decide, by decide⟩ ⟨by decide, by decide⟩ (by omega) (ok_eq (in_no hb ⟨by decide, by decide⟩ ⟨by decide, by decide⟩ (by omega) (no_ne (fails_ok hR hJ (by decide)))))
  · unfold f_X7_linesAt
    exact in_no ha ⟨by decide, by decide⟩ ⟨by decide, by decide⟩ (by omega) (no_eq (fails_ok hR hJ (by decide)))
/-! the best number of columns -/
def bco (s : Rw) : Nat → Int × Int
  | 0 => (0, -1)
  | n + 1 => if (bco s n).2 < cI (vF (setF s 1 ((n : Int) + 1))) 40 then ((n : Int) + 1, cI (vF (setF s 1 ((n : Int) + 1))) 40) else bco s n
theorem Dm.col {s : Rw} (hd : Dm s) {c : Int} (hc : 1 ≤ c ∧ c ≤ 4) : Dm (setF s 1 c) := hd.low (by decide) (fun z => absurd z (by decide)) (fun _ => hc) (fun z => absurd z (by decide)) (fun z => absurd z (by decide)) (fun z => absurd z (by decide)) (fun z => absurd z (by decide)) (fun z => absurd z (by decide))
theorem bco_bd (s : Rw) : ∀ n : Nat, n ≤ 4 → (0 ≤ (bco s n).1 ∧ (bco s n).1 ≤ 4) ∧ (-1 ≤ (bco s n).2 ∧ (bco s n).2 ≤ 40)
  | 0, _ => ⟨(by decide : (0 : Int) ≤ 0 ∧ (0 : Int) ≤ 4), (by decide : (-1 : Int) ≤ -1 ∧ (-1 : Int) ≤ 40)⟩
  | n + 1, h => by
    have ih := bco_bd s n (by omega)
    have hc := cI_bd (vF (setF s 1 ((n : Int) + 1))) (i := 40) (by decide)
    unfold bco
    split
    · exact ⟨⟨by show (0 : Int) ≤ (n : Int) + 1; omega, by show (n : Int) + 1 ≤ 4; omega⟩, ⟨by show (-1 : Int) ≤ cI _ 40; omega, by show cI _ 40 ≤ (40 : Int); omega⟩⟩
    · exact ih
theorem o_bestColumns {σ : St} {J : St → Prop} (hR : REL σ) (hJ : ∀ τ : St, REL τ → J τ) : f_X6_bestColumns σ (fun x s => f_X7_bestColumns s (fun y t => EQ' x y t J)) := by
  have hd := hR.d
  have hm := hR.m
  have hset := hd.set
  unfold f_X6_bestColumns
  refine s3_copyFrom (by decide) fun σ1 ⟨c1, _, m1⟩ => ?_
  refine wl3s_inv (fun x y c τ => ∃ n : Nat, c = (n : Int) + 1 ∧ n ≤ 4 ∧ bco (σ 162) n = (x, y) ∧ (∀ c : Nat, c < 47 ∨ 92 < c → τ c = σ c) ∧ (0 ≤ τ 70 0 ∧ τ 70 0 ≤ 77) ∧ ∃ w : Int, (1 ≤ w ∧ w ≤ 4) ∧ Ms τ 47 (setF (σ 162) 1 w)) (fun _ _ c _ => (6 - c).toNat) ?_ ⟨0, rfl, by omega, rfl, fun c hc => c1 c (by omega), by rw [c1 70 (by decide)]; exact hR.n2, σ 162 1, hset.2.1, by rw [setF_self]; exact m1 _ hd hm⟩
  rintro x y c τ ag ⟨n, ec, hn, eb, hc, h70, w, hw, hmw⟩ hag
  have hbb := bco_bd (σ 162) n hn
  rw [eb] at hbb
  dsimp only at hbb
  have e4 : hsetI 1 = 4 := by decide
  rw [e4]
  refine ⟨⟨by omega, by omega⟩, ⟨by decide, by decide⟩, fun q => ?_, fun q => ?_⟩
  · have en : n = 4 := by omega
    subst en
    clear hag
    have hRt : REL τ := hR.k hc h70
    have t162 : τ 162 = σ 162 := hc 162 (by decide)
    unfold f_X7_bestColumns
    intro z1 f1
    rw [t162] at f1
    subst f1
    refine wl3s_inv (fun x2 y2 c ρ => ∃ n : Nat, c = (n : Int) + 1 ∧ n ≤ 4 ∧ bco (σ 162) n = (x2, y2) ∧ (∀ c : Nat, c < 161 ∨ c = 163 ∨ c = 166 → ρ c = τ c) ∧ (∀ f : Int, f < 13 → ρ 161 f = τ 161 f) ∧ ∃ w : Int, (1 ≤ w ∧ w ≤ 4) ∧ ρ 162 = setF (σ 162) 1 w) (fun _ _ c _ => (6 - c).toNat) ?_ ⟨0, rfl, by omega, rfl, fun _ _ => rfl, fun _ _ => rfl, σ 162 1, hset.2.1, by rw [setF_self]; exact t162⟩
    rintro x2 y2 c2 ρ ag ⟨n, ec2, hn2, eb2, rc, rf, w2, hw2, rrow⟩ hag
    have hbb2 := bco_bd (σ 162) n hn2
    rw [eb2] at hbb2
    dsimp only at hbb2
    refine ⟨⟨by omega, by omega⟩, fun q3 => ?_, fun q3 => ?_⟩
    · have en : n = 4 := by omega
      subst en
      rw [eb] at eb2
      have ex : x = x2 := congrArg (fun t => t.1) eb2
      subst ex
      intro s6 e6
      have t6 : s6 162 = τ 162 := by rw [e6, up_row, rrow, setF_twice, setF_self, t162]
      have hR6 : REL s6 := hRt.go (fun c hc => by
        by_cases q : c = 162
        · rw [q]; exact t6
        · rw [e6, up_c (by omega)]; exact rc c (by omega)) (by rw [e6, up_c (by decide)]; exact rf 4 (by decide)) (by rw [e6, up_c (by decide)]; exact rf 6 (by decide))
      exact tells_eq hR6 hJ ⟨by omega, by omega⟩
    · intro s9 e9
      have t9 : s9 162 = setF (σ 162) 1 c2 := by rw [e9, up_row, rrow, setF_twice]
      have hd9 : Dm (setF (σ 162) 1 c2) := hd.col (by omega)
      refine s7_makes (by rw [t9]; exact hd9) fun π hf hl => s7_explainedMany hl.v ?_
      rw [t9]
      have hS : bco (σ 162) (n + 1) = if (bco (σ 162) n).2 < cI (vF (setF (σ 162) 1 ((n : Int) + 1))) 40 then ((n : Int) + 1, cI (vF (setF (σ 162) 1 ((n : Int) + 1))) 40) else bco (σ 162) n := rfl
      rw [eb2, ← ec2] at hS
      have hcb := cI_bd (vF (setF (σ 162) 1 c2)) (i := 40) (by decide)
      have kc : ∀ c : Nat, c < 161 ∨ c = 163 ∨ c = 166 → π c = τ c := fun c hc => by rw [hf.1 c (by omega), e9, up_c (by omega)]; exact rc c hc
      have kf : ∀ f : Int, f < 13 → π 161 f = τ 161 f := fun f hf2 => by rw [hf.2 f (by omega), e9, up_c (by decide)]; exact rf f hf2
      have krow : π 162 = setF (σ 162) 1 c2 := by rw [hf.1 162 (by decide)]; exact t9
      refine wj1_intro (fun z => z = if y2 < cI (vF (setF (σ 162) 1 c2)) 40 then c2 else x2) (fun z hz => ⟨⟨by omega, by omega⟩, ⟨by omega, by omega⟩, fun q4 => ?_, fun q4 => ?_⟩) (fun J hJ => ⟨⟨by omega, by omega⟩, ⟨by omega, by omega⟩, fun q4 => hJ _ (by rw [if_neg (by omega)]), fun q4 => hJ _ (by rw [if_pos (by omega)])⟩)
      · rw [if_neg (by omega)] at hz
        exact hag _ _ _ _ ⟨n + 1, by omega, by omega, by rw [hS, if_neg (by show ¬ y2 < _; omega), hz], kc, kf, c2, by omega, krow⟩ (by omega)
      · rw [if_pos (by omega)] at hz
        exact hag _ _ _ _ ⟨n + 1, by omega, by omega, by rw [hS, if_pos (by show y2 < _; omega), hz], kc, kf, c2, by omega, krow⟩ (by omega)
  · intro s6 e6 s7 e7
    have hd6 : Dm (setF (σ 162) 1 c) := hd.col (by omega)
    have M6 : Ms s6 47 (setF (σ 162) 1 c) := by
      have := hmw.setS (hd.col hw) (j := 1) (v := c) (by decide)
      rw [setF_twice] at this
      rw [e6]; exact this
    have M7 : Ms s7 47 (setF (σ 162) 1 c) := M6.go fun c g1 g2 => by rw [e7, up_c (by omega)]
    refine s1_make hd6 M7 (by decide) (by rw [e7, up_c (by decide), e6, up_c (by decide)]; exact h70) (Or.inl (by rw [e7, up_s])) fun σ5 c5 _ l5 => ?_
    have hlen := LF_len hd6
    have e70 : σ5 70 0 = (LF (setF (σ 162) 1 c)).length := l5.cl.1
    have hcb := cI_bd (vF (setF (σ 162) 1 c)) (i := 40) (by decide)
    have hS : bco (σ 162) (n + 1) = if (bco (σ 162) n).2 < cI (vF (setF (σ 162) 1 ((n : Int) + 1))) 40 then ((n : Int) + 1, cI (vF (setF (σ 162) 1 ((n : Int) + 1))) 40) else bco (σ 162) n := rfl
    rw [eb, ← ec] at hS
    have kc : ∀ c : Nat, c < 47 ∨ 92 < c → σ5 c = σ c := fun c hc2 => by rw [c5 c (by omega), e7, up_c (by omega), e6, up_c (by omega)]; exact hc c hc2
    have M5 : Ms σ5 47 (setF (σ 162) 1 c) := M7.go fun c g1 g2 => c5 c (by omega)
    rw [l5.n4]
    refine ⟨⟨by omega, by omega⟩, ⟨by omega, by omega⟩, fun q4 => ?_, fun q4 => ?_⟩
    · exact hag _ _ _ _ ⟨n + 1, by omega, by omega, by rw [hS, if_neg (by show ¬ y < _; omega)], kc, by rw [e70]; omega, c, by omega, M5⟩ (by omega)
    · intro x9 e9
      exact hag _ _ _ _ ⟨n + 1, by omega, by omega, by rw [hS, if_pos (by show y < _; omega), e9], kc, by rw [e70]; omega, c, by omega, M5⟩ (by omega)
/-! a sign less -/
theorem s7_drops {p : Int} {σ : St} {K : St → Prop} (hd : Dm (σ 162)) (hp : 0 ≤ p ∧ p < σ 162 9) (h : ∀ σ' : St, (∀ c : Nat, c ≠ 162 → σ' c = σ c) → σ' 162 = dropS (σ 162) p → K σ') : f_X7_drops p σ K := by
  have hn := hd.n
  unfold f_X7_drops
  intro s1 e1 x2 e2
  subst e2
  refine wl1s_inv (fun i τ => (111 + 5 * p ≤ i ∧ i ≤ 111 + 5 * (σ 162 9 - 1)) ∧ (∀ c : Nat, c ≠ 162 → τ c = σ c) ∧ ∀ j : Int, τ 162 j = if j = 9 then σ 162 9 - 1 else if 111 + 5 * p ≤ j ∧ j < i then σ 162 (j + 5) else σ 162 j) (fun i _ => (111 + 5 * σ 162 9 - i).toNat) ?_ ⟨by omega, fun c hc => by rw [e1, up_c hc], fun j => ?_⟩
  · rintro i τ ag ⟨hi, hc, hj⟩ hag
    have e9 : τ 162 9 = σ 162 9 - 1 := by rw [hj 9, if_pos rfl]
    rw [e9]
    refine ⟨⟨by omega, by omega⟩, ⟨by omega, by omega⟩, fun q => ?_, fun q => ⟨by omega, by omega, ?_⟩⟩
    · refine h τ hc ?_
      funext j
      rw [hj j]
      unfold dropS
      have e : i = 111 + 5 * (σ 162 9 - 1) := by omega
      rw [e]
    · intro s5 e5
      refine hag _ _ ⟨by omega, fun c g => by rw [e5, up_c g]; exact hc c g, fun j => ?_⟩ (by omega)
      rw [e5, up_if]
      by_cases q2 : j = i
      · rw [if_pos q2, if_neg (by omega), if_pos (by omega), hj (i + 5), if_neg (by omega), if_neg (by omega), q2]
      · rw [if_neg q2, hj j]
        by_cases q3 : j = 9
        · rw [if_pos q3, if_pos q3]
        · rw [if_neg q3, if_neg q3]
          by_cases q4 : 111 + 5 * p ≤ j ∧ j < i
          · rw [if_pos q4, if_pos (by omega)]
          · rw [if_neg q4, if_neg (by omega)]
  · rw [e1, up_if]
    by_cases q : j = 9
    · rw [if_pos q, if_pos q]
    · rw [if_neg q, if_neg q, if_neg (by omega)]
theorem o_linesSaved {p : Int} {σ : St} {Kx : Int → St → Prop} {J : St → Prop} (hp : Rg p) (hR : REL σ) (hJ : ∀ τ : St, REL τ → J τ) (hK : ∀ (x : Int) (s : St), f_X7_linesSaved p s (fun y t => TL x y t J) → Kx x s) : f_L_linesSaved p σ Kx := by
  unfold f_L_linesSaved f_X6_linesSaved
  refine s6_demandSign hR.d hR.m hp (fun q1 => q_cls hR fun τ hT hL e _ => ?_) (fun q => ⟨fun _ => hK _ _ ?_, rfl⟩)
  · have hd := hT.d
    have hm := hT.m
    have hn := hd.n
    rw [← e] at q1
    have hd2 := hd.drop q1.1 q1.2
    refine s3_copyFrom (by decide) fun σ1 ⟨c1, _, m1⟩ => ?_
    have M1 := m1 _ hd hm
    refine s3_dropSign M1.sg hn.2 q1.1 q1.2 fun σ2 ps g2 => ?_
    have M2 : Ms σ2 47 (dropS (τ 162) p) := g2.ms hd M1 (fun c z1 z2 => ps.1 c (by omega)) (fun i i0 i1 i9 => dropS_lo q1.1 i i9 i1)
    intro s4 e4
    have M4 : Ms s4 47 (dropS (τ 162) p) := M2.go fun c z1 z2 => by rw [e4, up_c (by omega)]
    have k4 : ∀ c : Nat, c < 47 ∨ 60 < c → s4 c = τ c := fun c hc => by rw [e4, up_c (by omega), ps.1 c (by omega), c1 c (by omega)]
    refine s1_make hd2 M4 (by decide) (by rw [k4 70 (by decide)]; exact hT.n2) (Or.inl (by rw [e4, up_s])) fun σ5 c5 _ l5 => ?_
    have hlen := LF_len hd2
    have hlen1 := LF_len hd
    have e70 : σ5 70 0 = (LF (dropS (τ 162) p)).length := l5.cl.1
    have e24 : σ5 24 0 = (LF (τ 162)).length := by rw [c5 24 (by decide), k4 24 (by decide)]; exact hL.cl.1
    rw [e70, e24]
    refine ⟨⟨by omega, by omega⟩, fun s6 e6 => hK _ _ ?_⟩
    have hR5 : REL σ5 := hT.k (fun c hc => by rw [c5 c (by omega), k4 c (by omega)]) (by rw [e70]; omega)
    have hR6 : REL s6 := by rw [e6]; exact hR5.u176 _
    have t162 : s6 162 = τ 162 := by rw [e6, up_c (by decide), c5 162 (by decide), k4 162 (by decide)]
    unfold f_X7_linesSaved
    refine sign_ok hR6.d (by rw [t162]; exact q1) (ok_ne (q_mod hR6 fun r0 hr0 hl0 er0 hf0 => ?_))
    intro x3 f3
    rw [hl0.ml.1, er0, t162] at f3
    refine s7_copies (by decide) fun r1 rc1 rv1 => ?_
    have t1 : r1 162 = τ 162 := by rw [rc1 162 (by decide), er0, t162]
    refine s7_drops (by rw [t1]; exact hd) (by rw [t1]; exact q1) fun r2 rc2 row2 => ?_
    rw [t1] at row2
    refine s7_makes (by rw [row2]; exact hd2) fun ρ hf hl => s7_copies (by decide) fun r5 rc5 rv5 => ?_
    have kk : ∀ c : Nat, c < 161 ∨ c = 163 ∨ c = 166 ∨ c = 176 → r5 c = r0 c := fun c hc => by rw [rc5 c (by omega), hf.1 c (by omega), rc2 c (by omega), rc1 c (by omega)]
    have kf : ∀ f : Int, f < 13 → r5 161 f = r0 161 f := fun f hf2 => by rw [rc5 161 (by decide), hf.2 f (by omega), rc2 161 (by decide), rc1 161 (by decide)]
    have krow : r5 162 = r0 162 := by
      funext i
      rw [rv5 i]
      by_cases q : 0 ≤ i ∧ i < 311
      · rw [if_pos q, hf.1 165 (by decide), rc2 165 (by decide), rv1 i, if_pos q]
      · rw [if_neg q, hf.1 162 (by decide), row2]
        unfold dropS
        rw [if_neg (by omega), if_neg (by omega), er0, t162]
    have hR7 : REL r5 := hr0.go (fun c hc => by
      by_cases q : c = 162
      · rw [q]; exact krow
      · exact kk c (by omega)) (kf 4 (by decide)) (kf 6 (by decide))
    have e13 : r5 161 13 = (LF (dropS (τ 162) p)).length := by rw [rc5 161 (by decide), hl.ml.1, row2]
    rw [e13, f3]
    exact tells_ok hR7 hJ ⟨by omega, by omega⟩ (by rw [kk 176 (by decide), hf0.1 176 (by decide), e6, up_s])
  · unfold f_X7_linesSaved
    exact sign_no hR.d hp q (no_ne (fails_ok hR hJ (by decide)))
