/-! ===== the class: columns ===== -/
def pl (c : Int) (L : List Ln) (i : Nat) : Int × Int := nx c (hL' c L.length) (tyL L i) (cs c (hL' c L.length) L i)
def csF (c : Int) (L : List Ln) : Cs := cs c (hL' c L.length) L L.length
def LY (σ : St) (b : Nat) (c : Int) (L : List Ln) : Prop := (∀ i : Nat, i < L.length → σ (b + 7) i = (pl c L i).1 ∧ σ (b + 8) i = (pl c L i).2) ∧ σ b 9 = (if L.length = 0 then 0 else (csF c L).1 + 1) ∧ σ b 10 = (csF c L).2.2
theorem s2_layOut {b : Nat} {c : Int} {L : List Ln} {σ : St} {K : St → Prop} (hL : CL σ b L) (lL : L.length ≤ 77) (sL : ∀ x ∈ L, Sm x) (c1 : 1 ≤ c) (c4 : c ≤ 4)
    (h : ∀ σ' : St, (∀ c : Nat, c ≠ b → c ≠ b + 7 → c ≠ b + 8 → σ' c = σ c) → (∀ f : Int, f ≠ 9 → f ≠ 10 → σ' b f = σ b f) → LY σ' b c L → K σ') : f_X2_layOut b c σ K := by
  unfold f_X2_layOut
  rw [hL.1]
  refine wj1_intro (fun y => y = hL' c L.length) (fun y hy => ?_) (fun J hJ => ⟨⟨by omega, by omega⟩, fun q => by omega, fun q => ⟨⟨by omega, by omega⟩, ⟨by omega, by omega⟩, hJ _ rfl⟩⟩)
  subst hy
  intro s3 e3
  refine wl3s_inv (fun x4 x5 x6 τ => ∃ n : Nat, x6 = n ∧ n ≤ L.length ∧ cs c (hL' c L.length) L n = (x4, x5, τ b 10) ∧ (∀ c : Nat, c ≠ b → c ≠ b + 7 → c ≠ b + 8 → τ c = σ c) ∧ (∀ f : Int, f ≠ 9 → f ≠ 10 → τ b f = σ b f) ∧ ∀ i : Nat, i < n → τ (b + 7) i = (pl c L i).1 ∧ τ (b + 8) i = (pl c L i).2) (fun _ _ x6 _ => ((L.length : Int) - x6).toNat) ?_ ⟨0, rfl, Nat.zero_le _, by rw [e3, up_s]; rfl, fun c h1 h2 h3 => by rw [e3, up_c h1], fun f h1 h2 => by rw [e3, up_i h2], fun i hi => absurd hi (Nat.not_lt_zero _)⟩
  rintro x4 x5 x6 τ ag ⟨n, e6, hn, ec, hc, hf, hp⟩ hag
  have t0 : τ b 0 = L.length := by rw [hf 0 (by decide) (by decide)]; exact hL.1
  rw [t0]
  refine ⟨⟨by omega, by omega⟩, ⟨by omega, by omega⟩, fun q => ?_, fun q => ?_⟩
  · have en : n = L.length := by omega
    have ecF : csF c L = (x4, x5, τ b 10) := by unfold csF; rw [← en]; rw [en]; rw [en] at ec; exact ec
    refine ⟨⟨by omega, by omega⟩, fun q2 => ?_, fun q2 => ?_⟩
    · intro s8 e8
      refine h _ (fun c h1 h2 h3 => by rw [e8, up_c h1]; exact hc c h1 h2 h3) (fun f h1 h2 => by rw [e8, up_i h1]; exact hf f h1 h2) ⟨fun i hi => ?_, ?_, ?_⟩
      · rw [e8, up_c (by omega), up_c (by omega)]; exact hp i (by omega)
      · rw [e8, up_s, if_pos (by omega)]
      · rw [e8, up_i (by decide), ecF]
    · intro s9 e9
      refine h _ (fun c h1 h2 h3 => by rw [e9, up_c h1]; exact hc c h1 h2 h3) (fun f h1 h2 => by rw [e9, up_i h1]; exact hf f h1 h2) ⟨fun i hi => ?_, ?_, ?_⟩
      · rw [e9, up_c (by omega), up_c (by omega)]; exact hp i (by omega)
      · rw [e9, up_s, if_neg (by omega), ecF]
      · rw [e9, up_i (by decide), ecF]
  · have hH := hL_pos c1 c4 (n := L.length) (by omega) (by omega)
    have hb := cs_bd c1 hH.1 L n
    have hS : cs c (hL' c L.length) L (n + 1) = ((nx c (hL' c L.length) (tyL L n) (cs c (hL' c L.length) L n)).1, (nx c (hL' c L.length) (tyL L n) (cs c (hL' c L.length) L n)).2 + 1, if (cs c (hL' c L.length) L n).2.2 < (nx c (hL' c L.length) (tyL L n) (cs c (hL' c L.length) L n)).2 + 1 then (nx c (hL' c L.length) (tyL L n) (cs c (hL' c L.length) L n)).2 + 1 else (cs c (hL' c L.length) L n).2.2) := rfl
    have hP : pl c L n = nx c (hL' c L.length) (tyL L n) (cs c (hL' c L.length) L n) := rfl
    rw [ec] at hb hS hP
    dsimp only at hb hS
    have eg := List.getElem?_eq_getElem (by omega : n < L.length)
    have ety : τ (b + 1) x6 = tyL L n := by
      subst e6
      rw [tyL_of eg, hc _ (by omega) (by omega) (by omega)]; exact (hL.2 n _ eg).1
    have hty : 0 ≤ tyL L n ∧ tyL L n ≤ 2 := by rw [tyL_of eg]; exact (sL _ (List.getElem_mem _)).1
    clear eg
    generalize tyL L n = ty at *
    generalize hL' c L.length = H at *
    refine wj1_intro (fun y => y = b01 (decide (x5 ≥ H ∨ (ty = 1 ∧ ¬ x5 < 1 ∧ ¬ x5 < H - 1)))) (fun y hy => ?_) (fun J hJ => ?_)
    · refine wj2_intro (fun a m => nx c H ty (x4, x5, τ b 10) = (a, m)) (fun a m hp2 => ?_) (fun J hJ => ?_)
      · rw [hp2] at hS hP
        dsimp only at hS
        have hm : 0 ≤ m ∧ m ≤ n := by
          unfold nx at hp2
          split at hp2
          · have := congrArg (fun t => t.2) hp2; dsimp only at this; omega
          · have := congrArg (fun t => t.2) hp2; dsimp only at this; omega
        refine ⟨by omega, ?_⟩
        intro s17 e17
        refine ⟨by omega, ?_⟩
        intro s18 e18
        have e10 : s18 b 10 = τ b 10 := by rw [e18, up_c (by omega), e17, up_c (by omega)]
        rw [e10]
        refine ⟨⟨by omega, by omega⟩, ⟨by omega, by omega⟩, ?_⟩
        intro s19 e19
        refine hag _ _ _ _ ⟨n + 1, by omega, by omega, ?_, fun c h1 h2 h3 => ?_, fun f h1 h2 => ?_, fun i hi => ?_⟩ (by omega)
        · rw [e19, up_s]; exact hS
        · rw [e19, up_c h1, e18, up_c h3, e17, up_c h2]; exact hc c h1 h2 h3
        · rw [e19, up_i h2, e18, up_c (by omega), e17, up_c (by omega)]; exact hf f h1 h2
        · by_cases q3 : i = n
          · subst q3
            rw [hP, e19, up_c (by omega), up_c (by omega), e18, up_c (by omega), e17, ← e6, up_s, up_s]; exact ⟨rfl, rfl⟩
          · rw [e19, up_c (by omega), up_c (by omega), e18, up_c (by omega), up_i (by omega), e17, up_i (by omega), up_c (by omega)]
            exact hp i (by omega)
      · refine sp3 hy (fun r => hJ _ _ ?_) (fun r => ⟨⟨by omega, by omega⟩, ⟨by omega, by omega⟩, fun q2 => hJ _ _ ?_, fun q2 => hJ _ _ ?_⟩)
        · have r := of_decide_eq_false r
          unfold nx
          rw [if_neg (by dsimp only; omega)]
        · unfold nx
          rw [if_neg (by dsimp only; omega)]
        · have r := of_decide_eq_true r
          unfold nx
          rw [if_pos (by dsimp only; omega)]
    · refine wj0_intro (x5 ≥ H ∨ (ty = 1 ∧ ¬ x5 < 1 ∧ ¬ x5 < H - 1)) (fun z => hJ 1 (by rw [decide_eq_true z]; rfl)) (fun J75 h75 => ⟨⟨by omega, by omega⟩, ⟨by omega, by omega⟩, fun q2 => h75 (Or.inl q2), fun q2 => ⟨by omega, ?_⟩⟩)
      refine wj0_intro (¬ (x5 ≥ H ∨ (ty = 1 ∧ ¬ x5 < 1 ∧ ¬ x5 < H - 1))) (fun z => hJ 0 (by rw [decide_eq_false z]; rfl)) (fun J79 h79 => ?_)
      rw [ety]
      exact ⟨⟨by omega, by omega⟩, fun q3 => h79 (by omega), fun q3 => ⟨⟨by omega, by omega⟩, fun q4 => h79 (by omega), fun q4 => ⟨⟨by omega, by omega⟩, ⟨by omega, by omega⟩, fun q5 => h79 (by omega), fun q5 => h75 (Or.inr ⟨by omega, q4, q5⟩)⟩⟩⟩
/-! ===== the box ===== -/
def st (s : Rw) (w h a : Int) : Bx := (a, if a % 2 = 0 then s 4 else s 4 + s 6 - w, if a < 2 then s 5 else s 5 + s 7 - h, w, h)
def ctb (s : Rw) (x : Bx) : Int := cI (fun k => sh' s k && cov s x k) (s 9)
def bc (s : Rw) (w h : Int) : Nat → Int × Int
  | 0 => (0, 41)
  | m + 1 => if ctb s (st s w h m) < (bc s w h m).2 then ((m : Int), ctb s (st s w h m)) else bc s w h m
def wdB (s : Rw) (L : List Ln) : Int := if s 6 < s 2 * ((csF (s 1) L).1 + 1) then s 6 else s 2 * ((csF (s 1) L).1 + 1)
def htB (s : Rw) (L : List Ln) : Int := if s 7 < s 3 * (csF (s 1) L).2.2 then s 7 else s 3 * (csF (s 1) L).2.2
def bx (s : Rw) (L : List Ln) : Bx := if L.length = 0 then (-1, -1, -1, -1, -1) else st s (wdB s L) (htB s L) (bc s (wdB s L) (htB s L) 4).1
theorem mul_bd {a u A U : Int} (a1 : 1 ≤ a) (a2 : a ≤ A) (u1 : 1 ≤ u) (u2 : u ≤ U) : 1 ≤ a * u ∧ a * u ≤ A * U := by
  have h1 := Int.mul_le_mul a1 u1 (by decide : (0 : Int) ≤ 1) (by omega : (0 : Int) ≤ a)
  have h2 := Int.mul_le_mul a2 u2 (by omega : (0 : Int) ≤ u) (by omega : (0 : Int) ≤ A)
  omega
theorem csF_bd {s : Rw} (hd : Dm s) {L : List Ln} (l0 : L.length ≠ 0) (l7 : L.length ≤ 77) : (0 ≤ (csF (s 1) L).1 ∧ (csF (s 1) L).1 ≤ 3) ∧ (1 ≤ (csF (s 1) L).2.2 ∧ (csF (s 1) L).2.2 ≤ 77) := by
  have h1 := hd.set
  have hH := hL_pos h1.2.1.1 h1.2.1.2 (n := L.length) (by omega) (by omega)
  have hb := cs_bd h1.2.1.1 hH.1 L L.length
  have h5 := hb.2.2.2.2 (by omega)
  unfold csF
  omega
theorem wdB_bd {s : Rw} (hd : Dm s) {L : List Ln} (l0 : L.length ≠ 0) (l7 : L.length ≤ 77) : (1 ≤ wdB s L ∧ wdB s L ≤ s 6) ∧ (1 ≤ htB s L ∧ htB s L ≤ s 7) ∧ (1 ≤ s 2 * ((csF (s 1) L).1 + 1) ∧ s 2 * ((csF (s 1) L).1 + 1) ≤ 240) ∧ (1 ≤ s 3 * (csF (s 1) L).2.2 ∧ s 3 * (csF (s 1) L).2.2 ≤ 1540) := by
  have h1 := hd.set
  have hw := hd.win
  have hc := csF_bd hd l0 l7
  have m1 := mul_bd h1.2.2.1.1 h1.2.2.1.2 (by omega : 1 ≤ (csF (s 1) L).1 + 1) (by omega : (csF (s 1) L).1 + 1 ≤ 4)
  have m2 := mul_bd h1.2.2.2.1 h1.2.2.2.2 hc.2.1 hc.2.2
  unfold wdB htB
  refine ⟨?_, ?_, by omega, by omega⟩
  · split <;> omega
  · split <;> omega
theorem st_ok {s : Rw} (hd : Dm s) {w h a : Int} (hw : 1 ≤ w ∧ w ≤ s 6) (hh : 1 ≤ h ∧ h ≤ s 7) (ha : 0 ≤ a ∧ a ≤ 3) : BxOK (st s w h a) := by
  have hW := hd.win
  refine ⟨⟨by show -1 ≤ a; omega, by show a ≤ 3; omega⟩, fun _ => ⟨?_, ?_, ⟨hw.1, by show w ≤ 200; omega⟩, ⟨hh.1, by show h ≤ 200; omega⟩⟩⟩
  · show 0 ≤ (if a % 2 = 0 then s 4 else s 4 + s 6 - w) ∧ (if a % 2 = 0 then s 4 else s 4 + s 6 - w) ≤ 399
    split <;> omega
  · show 0 ≤ (if a < 2 then s 5 else s 5 + s 7 - h) ∧ (if a < 2 then s 5 else s 5 + s 7 - h) ≤ 399
    split <;> omega
theorem ctb_bd {s : Rw} (hd : Dm s) (x : Bx) : 0 ≤ ctb s x ∧ ctb s x ≤ 40 := by
  have hn := hd.n
  have := cI_bd (fun k => sh' s k && cov s x k) hn.1
  unfold ctb
  omega
theorem bc_bd {s : Rw} (hd : Dm s) (w h : Int) : ∀ m : Nat, m ≤ 4 → (0 ≤ (bc s w h m).1 ∧ (bc s w h m).1 ≤ 3) ∧ (0 ≤ (bc s w h m).2 ∧ (bc s w h m).2 ≤ 41) ∧ (1 ≤ m → (bc s w h m).2 = ctb s (st s w h (bc s w h m).1))
  | 0, _ => ⟨(by decide : (0 : Int) ≤ 0 ∧ (0 : Int) ≤ 3), (by decide : (0 : Int) ≤ 41 ∧ (41 : Int) ≤ 41), fun h => absurd h (by decide)⟩
  | m + 1, hm => by
    obtain ⟨i1, i2, i3⟩ := bc_bd hd w h m (by omega)
    have hc := ctb_bd hd (st s w h m)
    unfold bc
    split
    · exact ⟨⟨by show (0 : Int) ≤ m; omega, by show (m : Int) ≤ 3; omega⟩, ⟨by show 0 ≤ ctb _ _; omega, by show ctb _ _ ≤ 41; omega⟩, fun _ => rfl⟩
    · rename_i q
      refine ⟨i1, i2, fun _ => ?_⟩
      by_cases q2 : m = 0
      · subst q2
        exact absurd (show ctb s (st s w h (0 : Nat)) < 41 by omega) q
      · exact i3 (by omega)
theorem bx_ok {s : Rw} (hd : Dm s) {L : List Ln} (l7 : L.length ≤ 77) : BxOK (bx s L) := by
  unfold bx
  split
  · exact ⟨⟨by decide, by decide⟩, fun h => absurd rfl h⟩
  · rename_i q
    have hb := wdB_bd hd q l7
    exact st_ok hd hb.1 hb.2.1 (bc_bd hd _ _ 4 (by omega)).1
theorem s0_moveTo {b q : Nat} {p : Int} {s : Rw} {σ : St} {K : St → Prop} (hm : Ms σ q s) (hq : q + 12 < b) (hp : 0 ≤ p ∧ p ≤ 3)
    (h : ∀ σ' : St, (∀ c : Nat, c ≠ b → σ' c = σ c) → (∀ f : Int, f ≠ 0 → f ≠ 1 → f ≠ 2 → σ' b f = σ b f) → b0 σ' b = st s (σ b 3) (σ b 4) p → K σ') : f_X0_moveTo b q p σ K := by
  unfold f_X0_moveTo
  intro s1 e1
  have a0 : s1 (q + 11) 0 = s 4 := by rw [e1, up_c (by omega)]; exact hm.w0
  have a1 : s1 (q + 11) 1 = s 5 := by rw [e1, up_c (by omega)]; exact hm.w1
  have a2 : s1 (q + 11) 2 = s 6 := by rw [e1, up_c (by omega)]; exact hm.w2
  have a3 : s1 (q + 11) 3 = s 7 := by rw [e1, up_c (by omega)]; exact hm.w3
  have a4 : s1 b 3 = σ b 3 := by rw [e1, up_i (by decide)]
  have a5 : s1 b 4 = σ b 4 := by rw [e1, up_i (by decide)]
  refine wj1_intro (fun y => y = b01 (decide (p = 1 ∨ p = 3))) (fun y hy => ?_) (fun J hJ => ?_)
  · refine wj1_intro (fun z => z = b01 (decide (p = 2 ∨ p = 3))) (fun z hz => ?_) (fun J hJ => ?_)
    · refine wj1_intro (fun u => u = if p % 2 = 0 then 0 else s 6 - σ b 3) (fun u hu => ?_) (fun J hJ => ?_)
      · intro s10 e10
        rw [a0] at e10
        have c1 : s10 (q + 11) 1 = s 5 := by rw [e10, up_c (by omega)]; exact a1
        have c3 : s10 (q + 11) 3 = s 7 := by rw [e10, up_c (by omega)]; exact a3
        have c4 : s10 b 4 = σ b 4 := by rw [e10, up_i (by decide)]; exact a5
        rw [c1, c3, c4]
        have fin : ∀ t : Int, t = (if p < 2 then s 5 else s 5 + s 7 - σ b 4) → K (up2 s10 b 2 t) := fun t ht => by
          refine h _ (fun c hc => by rw [up_c hc, e10, up_c hc, e1, up_c hc]) (fun f h0 h1 h2 => by rw [up_i h2, e10, up_i h1, e1, up_i h0]) ?_
          unfold b0 st
          rw [up_s, up_i (by decide), up_i (by decide), up_i (by decide), up_i (by decide), e10, up_s, up_i (by decide), up_i (by decide), up_i (by decide), a4, a5, e1, up_s, ht, hu]
          congr 2
          split <;> omega
        refine sp3 hz (fun r => ?_) (fun r => ?_)
        · have r := of_decide_eq_false r
          intro s11 e11
          rw [e11]
          exact fin _ (by rw [if_pos (by omega)]; omega)
        · have r := of_decide_eq_true r
          intro s12 e12
          rw [e12]
          exact fin _ (by rw [if_neg (by omega)]; omega)
      · rw [a2, a4]
        refine sp3 hy (fun r => hJ _ ?_) (fun r => hJ _ ?_)
        · have r := of_decide_eq_false r
          rw [if_pos (by omega)]
        · have r := of_decide_eq_true r
          rw [if_neg (by omega)]
    · refine wj0_intro (p = 2 ∨ p = 3) (fun z => hJ 1 (by rw [decide_eq_true z]; rfl)) (fun J2 h2 => ⟨⟨by omega, by omega⟩, fun z => h2 (Or.inl z), fun z => ⟨⟨by omega, by omega⟩, fun z2 => hJ 0 (by rw [decide_eq_false (by omega)]; rfl), fun z2 => h2 (Or.inr (by omega))⟩⟩)
  · refine wj0_intro (p = 1 ∨ p = 3) (fun z => hJ 1 (by rw [decide_eq_true z]; rfl)) (fun J2 h2 => ⟨⟨by omega, by omega⟩, fun z => h2 (Or.inl z), fun z => ⟨⟨by omega, by omega⟩, fun z2 => hJ 0 (by rw [decide_eq_false (by omega)]; rfl), fun z2 => h2 (Or.inr (by omega))⟩⟩)
/-- the signs that are shown -/
def shw (s : Rw) (k : Int) : Bool := decide (k < s 9) && sh' s k
theorem shw_lt {s : Rw} {k : Int} (h : k < s 9) : shw s k = sh' s k := by unfold shw; rw [decide_eq_true h, Bool.true_and]
theorem s0_place {b q l c : Nat} {L : List Ln} {s : Rw} {σ : St} {K : St → Prop} (hd : Dm s) (hm : Ms σ q s) (hL : CL σ l L) (hY : LY σ l (s 1) L) (lL : L.length ≤ 77) (hv : VA σ c (shw s)) (hq : q + 12 < b) (hl : l + 10 < b) (hc : c < b)
    (h : ∀ σ' : St, (∀ c : Nat, c ≠ b → σ' c = σ c) → b0 σ' b = bx s L → σ' b 5 = (if L.length = 0 then -1 else ctb s (bx s L)) → K σ') : f_X0_place b q l c σ K := by
  have hw := hd.win
  unfold f_X0_place
  rw [hL.1, hm.w2, hY.2.1, hm.set 2 (by decide) (by decide)]
  refine ⟨⟨by omega, by omega⟩, fun q1 => ?_, fun q1 => ?_⟩
  · have l0 : L.length ≠ 0 := by omega
    have hb := wdB_bd hd l0 lL
    rw [if_neg l0]
    refine ⟨⟨by omega, by omega⟩, ⟨by omega, by omega⟩, ?_⟩
    intro s1 e1
    have d1 : s1 (q + 12) 3 = s 3 := by rw [e1, up_c (by omega)]; exact hm.set 3 (by decide) (by decide)
    have d2 : s1 l 10 = (csF (s 1) L).2.2 := by rw [e1, up_c (by omega)]; exact hY.2.2
    have d3 : s1 (q + 11) 3 = s 7 := by rw [e1, up_c (by omega)]; exact hm.w3
    rw [d1, d2, d3]
    refine ⟨⟨by omega, by omega⟩, ⟨by omega, by omega⟩, ?_⟩
    intro s2 e2
    have e3 : s2 b 3 = wdB s L := by rw [e2, up_i (by decide), e1, up_s]; rfl
    have e4 : s2 b 4 = htB s L := by rw [e2, up_s]; rfl
    have e5 : bx s L = st s (wdB s L) (htB s L) (bc s (wdB s L) (htB s L) 4).1 := by unfold bx; rw [if_neg l0]
    have e6 : ∀ c : Nat, c ≠ b → s2 c = σ c := fun c hc => by rw [e2, up_c hc, e1, up_c hc]
    rw [e5] at h
    clear e1 e2 d1 d2 d3 e5
    have hw1 := hb.1
    have hh1 := hb.2.1
    clear hb
    generalize wdB s L = w at *
    generalize htB s L = t at *
    refine wl3s_inv (fun x3 x4 x5 τ => (0 ≤ x5 ∧ x5 ≤ 4) ∧ bc s w t x5.toNat = (x3, x4) ∧ (∀ c : Nat, c ≠ b → τ c = σ c) ∧ τ b 3 = w ∧ τ b 4 = t) (fun _ _ x5 _ => (4 - x5).toNat) ?_ ⟨by omega, rfl, e6, e3, e4⟩
    rintro x3 x4 x5 τ ag ⟨h5, eb, hf, h3, h4⟩ hag
    have hm2 : Ms τ q s := hm.go fun c h1 h2 => hf c (by omega)
    have hb := bc_bd hd w t x5.toNat (by omega)
    rw [eb] at hb
    dsimp only at hb
    refine ⟨⟨by omega, by omega⟩, fun q2 => ?_, fun q2 => ?_⟩
    · have e : x5 = 4 := by omega
      subst e
      replace eb : bc s w t 4 = (x3, x4) := eb
      rw [eb] at h
      dsimp only at h
      refine s0_moveTo hm2 hq hb.1 fun σ2 f2 g2 b2 => ?_
      intro s8 e8
      refine h _ (fun c hc => by rw [e8, up_c hc, f2 c hc, hf c hc]) ?_ ?_
      · have e : b0 s8 b = b0 σ2 b := by unfold b0; rw [e8, up_i (by decide), up_i (by decide), up_i (by decide), up_i (by decide), up_i (by decide)]
        rw [e, b2, h3, h4]
      · rw [e8, up_s, if_neg l0]; exact hb.2.2 (by decide)
    · refine s0_moveTo hm2 hq ⟨h5.1, by omega⟩ fun σ2 f2 g2 b2 => ?_
      rw [h3, h4] at b2
      have eN : (x5 + 1).toNat = x5.toNat + 1 := by omega
      have eN2 : ((x5.toNat : Nat) : Int) = x5 := by omega
      have eS : bc s w t (x5 + 1).toNat = if ctb s (st s w t x5) < x4 then (x5, ctb s (st s w t x5)) else (x3, x4) := by
        rw [eN]
        show (if ctb s (st s w t (x5.toNat : Nat)) < (bc s w t x5.toNat).2 then ((x5.toNat : Int), ctb s (st s w t (x5.toNat : Nat))) else bc s w t x5.toNat) = _
        rw [eN2, eb]
      have hcb := ctb_bd hd (st s w t x5)
      refine s0_countCovered (s := s) (v := shw s) hd (hm2.go fun c h1 h2 => f2 c (by omega)) (by rw [b2]; exact st_ok hd hw1 hh1 ⟨h5.1, by omega⟩) (fun k k0 k1 => by rw [f2 c (by omega), hf c (by omega)]; exact hv k k0 k1) ?_
      have ec : cI (fun k => shw s k && cov s (b0 σ2 b) k) (s 9) = ctb s (st s w t x5) := by
        rw [b2]
        exact cI_eq fun k k0 k1 => by rw [shw_lt k1]
      rw [ec]
      refine ⟨⟨by omega, by omega⟩, ⟨by omega, by omega⟩, fun q3 => ?_, fun q3 => ?_⟩
      · refine hag _ _ _ _ ⟨by omega, by rw [eS, if_neg (by omega)], fun c hc => (f2 c hc).trans (hf c hc), ?_, ?_⟩ (by omega)
        · rw [g2 3 (by decide) (by decide) (by decide)]; exact h3
        · rw [g2 4 (by decide) (by decide) (by decide)]; exact h4
      · refine hag _ _ _ _ ⟨by omega, by rw [eS, if_pos (by omega)], fun c hc => (f2 c hc).trans (hf c hc), ?_, ?_⟩ (by omega)
        · rw [g2 3 (by decide) (by decide) (by decide)]; exact h3
        · rw [g2 4 (by decide) (by decide) (by decide)]; exact h4
  · have l0 : L.length = 0 := by omega
    have e5 : bx s L = (-1, -1, -1, -1, -1) := by unfold bx; rw [if_pos l0]
    rw [e5] at h
    unfold f_X0_vanish
    intro s1 e1 s2 e2 s3 e3 s4 e4 s5 e5 s6 e6
    subst e6 e5 e4 e3 e2 e1
    refine h _ (fun c hc => ?_) ?_ ?_
    · simp (disch := omega) only [up_c]
    · unfold b0; simp (disch := omega) only [up_i, up_s]
    · rw [up_s, if_pos l0]
