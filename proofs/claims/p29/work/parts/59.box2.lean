/-! ===== the law: columns, covered signs, the box ===== -/
theorem cod_bd {x : Ln} (h : Sm x) : 0 ≤ cod x ∧ cod x ≤ 60000 := by
  obtain ⟨h1, h2, h3, h4, h5, -⟩ := h
  unfold cod
  omega
theorem cod_ty {x : Ln} (h : Sm x) : cod x / 20000 = x.1 := by
  obtain ⟨h1, h2, h3, h4, h5, -⟩ := h
  unfold cod
  omega
theorem hL_law {c n : Int} (c1 : 1 ≤ c) (c4 : c ≤ 4) (hn : 0 ≤ n) : n / c + (if n % c ≤ 0 then 0 else 1) = hL' c n := by
  unfold hL'
  have : c = 1 ∨ c = 2 ∨ c = 3 ∨ c = 4 := by omega
  rcases this with e | e | e | e <;> subst e <;> split <;> omega
def plc (c : Int) (L : List Ln) (p : Int) : Int := if p < L.length then (pl c L p.toNat).1 + 100 * (pl c L p.toNat).2 else ((csF c L).1 + 1) + 100 * (csF c L).2.2
theorem sL_place {p : Int} {s : Rw} {L : List Ln} {σ : St} {K : Int → Prop} (hr : RW σ s) (hs : SL s) (hL : LX σ L) (l54 : L.length ≤ 54) (sL : ∀ x ∈ L, Sm x) (p0 : 0 ≤ p) (p1 : p ≤ L.length) (h : K (plc (s 1) L p)) : f_L_place p σ K := by
  have hS := hs.d.set
  unfold f_L_place
  rw [hL.1, hr.g (i := 1) (by decide) (by decide)]
  refine ⟨by omega, by omega, by omega, by omega, wj1_intro (fun y => y = if (L.length : Int) % s 1 ≤ 0 then 0 else 1) (fun y hy => ?_) (fun J hJ => ⟨?_, fun q => hJ 0 (by rw [if_pos q]), fun q => hJ 1 (by rw [if_neg q])⟩)⟩
  rotate_left
  · have h1 := Int.emod_nonneg (L.length : Int) (by omega : s 1 ≠ 0)
    have h2 := Int.emod_lt_of_pos (L.length : Int) (by omega : 0 < s 1)
    constructor <;> omega
  · intro x3 e3
    rw [hy, hL_law hS.2.1.1 hS.2.1.2 (by omega)] at e3
    subst e3
    clear hy y
    have hrg := hL_rg hS.2.1.1 hS.2.1.2 (n := L.length) (by omega) (by omega)
    refine wl4_inv (fun x4 x5 x6 x7 => ∃ n : Nat, x7 = n ∧ (n : Int) ≤ p ∧ n ≤ L.length ∧ cs (s 1) (hL' (s 1) L.length) L n = (x4, x5, x6)) (fun _ _ _ x7 => ((L.length : Int) - x7).toNat) ?_ ⟨0, rfl, p0, Nat.zero_le _, rfl⟩
    rintro x4 x5 x6 x7 ag ⟨n, e7, hnp, hn, ec⟩ hag
    refine ⟨⟨by omega, by omega⟩, ⟨by omega, by omega⟩, fun q => ?_, fun q => ?_⟩
    · have en : n = L.length := by omega
      have ep : p = L.length := by omega
      have ecF : csF (s 1) L = (x4, x5, x6) := by unfold csF; rw [← en]; rw [en] at ec ⊢; exact ec
      unfold plc at h
      rw [if_neg (by omega), ecF] at h
      exact h
    · have hH := hL_pos hS.2.1.1 hS.2.1.2 (n := L.length) (by omega) (by omega)
      have hb := cs_bd hS.2.1.1 hH.1 L n
      have hSx : cs (s 1) (hL' (s 1) L.length) L (n + 1) = ((nx (s 1) (hL' (s 1) L.length) (tyL L n) (cs (s 1) (hL' (s 1) L.length) L n)).1, (nx (s 1) (hL' (s 1) L.length) (tyL L n) (cs (s 1) (hL' (s 1) L.length) L n)).2 + 1, if (cs (s 1) (hL' (s 1) L.length) L n).2.2 < (nx (s 1) (hL' (s 1) L.length) (tyL L n) (cs (s 1) (hL' (s 1) L.length) L n)).2 + 1 then (nx (s 1) (hL' (s 1) L.length) (tyL L n) (cs (s 1) (hL' (s 1) L.length) L n)).2 + 1 else (cs (s 1) (hL' (s 1) L.length) L n).2.2) := rfl
      have hP : pl (s 1) L n = nx (s 1) (hL' (s 1) L.length) (tyL L n) (cs (s 1) (hL' (s 1) L.length) L n) := rfl
      rw [ec] at hb hSx hP
      dsimp only at hb hSx
      have eg := List.getElem?_eq_getElem (by omega : n < L.length)
      have hsm := sL _ (List.getElem_mem (by omega : n < L.length))
      have ety : σ 164 (10 + x7) / 20000 = tyL L n := by
        rw [e7, hL.2 n _ eg, tyL_of eg]; exact cod_ty hsm
      have ebd : 0 ≤ σ 164 (10 + x7) ∧ σ 164 (10 + x7) ≤ 60000 := by
        rw [e7, hL.2 n _ eg]; exact cod_bd hsm
      have hty : 0 ≤ tyL L n ∧ tyL L n ≤ 2 := by rw [tyL_of eg]; exact hsm.1
      rw [ety]
      clear eg hsm ety
      unfold plc at h
      have enp : p.toNat = n → pl (s 1) L p.toNat = pl (s 1) L n := fun z => by rw [z]
      generalize tyL L n = ty at *
      generalize hL' (s 1) L.length = H at *
      refine ⟨by omega, by omega, ?_⟩
      refine wj1_intro (fun y => y = b01 (decide (ty = 1))) (fun y9 hy9 => ?_) (fun J hJ => ⟨⟨by omega, by omega⟩, fun z => hJ 0 (by rw [decide_eq_false z]; rfl), fun z => hJ 1 (by rw [decide_eq_true (Decidable.not_not.mp z)]; rfl)⟩)
      refine wj1_intro (fun y => y = b01 (decide (x4 + 1 < s 1 ∧ (x5 ≥ H ∨ (ty = 1 ∧ 0 < x5 ∧ x5 ≥ H - 1))))) (fun y13 hy13 => ?_) (fun J hJ => ?_)
      · have hnx : nx (s 1) H ty (x4, x5, x6) = if x4 + 1 < s 1 ∧ (x5 ≥ H ∨ (ty = 1 ∧ 0 < x5 ∧ x5 ≥ H - 1)) then (x4 + 1, 0) else (x4, x5) := by
          unfold nx
          dsimp only
          by_cases z : x4 + 1 < s 1 ∧ (x5 ≥ H ∨ (ty = 1 ∧ 0 < x5 ∧ x5 ≥ H - 1))
          · have := hb.2.2.1 (by omega)
            rw [if_pos z, if_pos (by omega)]
          · rw [if_neg z, if_neg (by omega)]
        refine wj1_intro (fun y => y = (nx (s 1) H ty (x4, x5, x6)).1 - x4) (fun y15 hy15 => ?_) (fun J hJ => sp3 hy13 (fun r => hJ 0 (by rw [hnx, if_neg (of_decide_eq_false r)]; omega)) (fun r => hJ 1 (by rw [hnx, if_pos (of_decide_eq_true r)]; omega)))
        intro x16 e16
        refine wj1_intro (fun y => y = (nx (s 1) H ty (x4, x5, x6)).2) (fun y18 hy18 => ?_) (fun J hJ => sp3 hy13 (fun r => hJ _ (by rw [hnx, if_neg (of_decide_eq_false r)])) (fun r => hJ _ (by rw [hnx, if_pos (of_decide_eq_true r)])))
        have h18 : 0 ≤ y18 ∧ y18 ≤ n := by
          rw [hy18, hnx]
          split
          · exact ⟨Int.le_refl 0, by show (0 : Int) ≤ n; omega⟩
          · exact hb.2.1
        refine ⟨⟨by omega, by omega⟩, ⟨by omega, by omega⟩, fun z => ?_, fun z => ?_⟩
        · refine ⟨⟨by omega, by omega⟩, ⟨by omega, by omega⟩, fun w => hag _ _ _ _ ⟨n + 1, by omega, by omega, by omega, ?_⟩ (by omega), fun w x19 e19 => hag _ _ _ _ ⟨n + 1, by omega, by omega, by omega, ?_⟩ (by omega)⟩
          · rw [hSx, ← hy18, if_neg (by omega)]
            have : x16 = (nx (s 1) H ty (x4, x5, x6)).1 := by omega
            rw [this]
          · rw [hSx, ← hy18, if_pos (by omega), e19]
            have : x16 = (nx (s 1) H ty (x4, x5, x6)).1 := by omega
            rw [this]
        · rw [if_pos (by omega), enp (by omega), hP, ← hy18] at h
          have : x16 = (nx (s 1) H ty (x4, x5, x6)).1 := by omega
          rw [this]
          exact h
      · refine wj0_intro (¬ (x4 + 1 < s 1 ∧ (x5 ≥ H ∨ (ty = 1 ∧ 0 < x5 ∧ x5 ≥ H - 1)))) (fun z => hJ 0 (by rw [decide_eq_false z]; rfl)) (fun J2 h2 => ⟨⟨by omega, by omega⟩, ⟨by omega, by omega⟩, fun z => h2 (by omega), fun z => ?_⟩)
        refine wj0_intro (x5 ≥ H ∨ (ty = 1 ∧ 0 < x5 ∧ x5 ≥ H - 1)) (fun w => hJ 1 (by rw [decide_eq_true ⟨by omega, w⟩]; rfl)) (fun J3 h3 => ⟨⟨by omega, by omega⟩, ⟨by omega, by omega⟩, fun w => h3 (Or.inl w), fun w => sp3 hy9 (fun r => h2 ?_) (fun r => ?_)⟩)
        · have := of_decide_eq_false r
          omega
        · have r := of_decide_eq_true r
          exact ⟨⟨by omega, by omega⟩, fun u => h2 (by omega), fun u => ⟨⟨by omega, by omega⟩, ⟨by omega, by omega⟩, fun x => h2 (by omega), fun x => h3 (Or.inr ⟨r, by omega, by omega⟩)⟩⟩
/-- the law's box -/
def BXL (σ : St) (x : Bx) : Prop := σ 164 4 = x.1 ∧ (x.1 ≠ -1 → σ 164 5 = x.2.1 ∧ σ 164 6 = x.2.2.1 ∧ σ 164 7 = x.2.2.2.1 ∧ σ 164 8 = x.2.2.2.2)
theorem BXL.go {σ τ : St} {x : Bx} (h : BXL σ x) (e : ∀ i : Int, 4 ≤ i → i ≤ 8 → τ 164 i = σ 164 i) : BXL τ x := by
  unfold BXL
  rw [e 4 (by decide) (by decide), e 5 (by decide) (by decide), e 6 (by decide) (by decide), e 7 (by decide) (by decide), e 8 (by decide) (by decide)]
  exact h
theorem sL_covered {s : Rw} {x : Bx} {σ : St} {K : Int → Prop} (hr : RW σ s) (hs : SL s) (hx : BXL σ x) (hb : BxOK x) (h : K (BSn (fun k => shw s k && cov s x k) 12 : Nat)) : f_L_covered σ K := by
  have hd := hs.d
  have hn := hs.n
  obtain ⟨hx1, hx2⟩ := hx
  obtain ⟨hb1, hb2⟩ := hb
  unfold f_L_covered
  rw [hx1]
  refine wl2_inv (fun a i => (0 ≤ i ∧ i ≤ 12) ∧ (x.1 = -1 → i = 0) ∧ ∃ m : Nat, i = m ∧ a = (BSn (fun k => decide (0 ≤ σ 163 (5 * k + 1) - σ 164 5 ∧ σ 163 (5 * k + 1) - σ 164 5 < σ 164 7 ∧ 0 ≤ σ 163 (5 * k + 2) - σ 164 6 ∧ σ 163 (5 * k + 2) - σ 164 6 < σ 164 8)) m : Nat)) (fun _ i => (12 - i).toNat) ?_ ⟨by decide, fun _ => rfl, 0, rfl, rfl⟩
  rintro a i ag ⟨hi, hno, m, ei, ea⟩ hag
  refine wj0_intro (i = 12 ∨ x.1 = -1) (fun z => ?_) (fun J hJ => ⟨⟨by omega, by omega⟩, fun z => hJ (by omega), fun z => ⟨⟨by omega, by omega⟩, fun w => hJ (by omega), fun w => ?_⟩⟩)
  · refine sL_shown hr hs ?_
    by_cases w : x.1 = -1
    · have e0 : i = 0 := hno w
      have em : m = 0 := by omega
      subst em
      have e1 : a = ((0 : Nat) : Int) := ea
      have h12 := BSn_12 (shw s) (m := 12) (by decide)
      rw [e1, bA_nat (by decide) (by omega), Nat.zero_and]
      have e2 : BSn (fun k => shw s k && cov s x k) 12 = BSn (fun _ => false) 12 := BSn_cong fun k _ => by rw [cov_no w, Bool.and_false]
      have e3 : BSn (fun _ => false) 12 = 0 := by decide
      rw [e2, e3] at h
      exact h
    · have em : m = 12 := by omega
      subst em
      have hx3 := hx2 w
      rw [ea, bA_BS]
      have e2 : BSn (fun k => decide (0 ≤ σ 163 (5 * k + 1) - σ 164 5 ∧ σ 163 (5 * k + 1) - σ 164 5 < σ 164 7 ∧ 0 ≤ σ 163 (5 * k + 2) - σ 164 6 ∧ σ 163 (5 * k + 2) - σ 164 6 < σ 164 8) && shw s k) 12 = BSn (fun k => shw s k && cov s x k) 12 := BSn_cong fun k hk => by
        rw [Bool.and_comm]
        cases q : shw s k with
        | false => rfl
        | true =>
          have ql : (k : Int) < s 9 := by
            unfold shw at q
            rw [Bool.and_eq_true] at q
            exact of_decide_eq_true q.1
          have he := hr.e (k := k) (by omega) ql
          rw [he.2.1, he.2.2.1, hx3.1, hx3.2.1, hx3.2.2.1, hx3.2.2.2, Bool.true_and, Bool.true_and]
          unfold cov
          by_cases u : x.1 ≠ -1 ∧ 0 ≤ co s k - x.2.1 ∧ co s k - x.2.1 < x.2.2.2.1 ∧ 0 ≤ ro s k - x.2.2.1 ∧ ro s k - x.2.2.1 < x.2.2.2.2
          · rw [decide_eq_true u, decide_eq_true u.2]
          · rw [decide_eq_false u, decide_eq_false (fun y => u ⟨w, y⟩)]
      rw [e2]
      exact h
  · have hx3 := hx2 (by omega)
    have hb3 := hb2 (by omega)
    have b1 := hr.b (i := 5 * i + 1) (by omega) (by omega)
    have b2 := hr.b (i := 5 * i + 2) (by omega) (by omega)
    rw [← hx3.1, ← hx3.2.1, ← hx3.2.2.1, ← hx3.2.2.2] at hb3
    refine ⟨by omega, fun x4 e4 => ⟨by omega, fun x5 e5 => ?_⟩⟩
    have F : ¬ (0 ≤ σ 163 (5 * i + 1) - σ 164 5 ∧ σ 163 (5 * i + 1) - σ 164 5 < σ 164 7 ∧ 0 ≤ σ 163 (5 * i + 2) - σ 164 6 ∧ σ 163 (5 * i + 2) - σ 164 6 < σ 164 8) → ∀ y, y = bO a 0 → ag y (i + 1) := fun u y hy => by
      refine hag _ _ ⟨by omega, fun z => by omega, m + 1, by omega, ?_⟩ (by omega)
      rw [hy, ea]
      refine bO_f (by omega) ?_
      rw [← ei]; exact decide_eq_false u
    refine ⟨⟨by omega, by omega⟩, fun u => F (by omega), fun u1 => ⟨⟨by omega, by omega⟩, ⟨by omega, by omega⟩, fun u => F (by omega), fun u2 => ⟨⟨by omega, by omega⟩, fun u => F (by omega), fun u3 => ⟨⟨by omega, by omega⟩, ⟨by omega, by omega⟩, fun u => F (by omega), fun u4 y hy => ?_⟩⟩⟩⟩
    refine hag _ _ ⟨by omega, fun z => by omega, m + 1, by omega, ?_⟩ (by omega)
    rw [hy, ea, ei]
    refine bO_t (by omega) ?_
    rw [← ei]; exact decide_eq_true (by omega)
theorem ctb_12 {s : Rw} (hs : SL s) (x : Bx) : cI (fun k => shw s k && cov s x k) 12 = ctb s x := by
  unfold ctb
  rw [cI_vs (s := s) (v := fun k => shw s k && cov s x k) (fun k q => ?_) hs.n.1 hs.n.2]
  · exact cI_eq fun k _ k1 => by rw [shw_lt k1]
  · rw [Bool.and_eq_true] at q
    have q1 := q.1
    unfold shw at q1
    rw [Bool.and_eq_true] at q1
    exact of_decide_eq_true q1.1
/-- what the law's box changes -/
def FB (σ τ : St) : Prop := (∀ c : Nat, c ≠ 164 → τ c = σ c) ∧ ∀ i : Int, i < 4 ∨ 8 < i → τ 164 i = σ 164 i
theorem LX.go {σ τ : St} {L : List Ln} (h : LX σ L) (e0 : τ 164 0 = σ 164 0) (e : ∀ i : Int, 10 ≤ i → i < 10 + L.length → τ 164 i = σ 164 i) : LX τ L := ⟨e0.trans h.1, fun i x hx => by
  have := (List.getElem?_eq_some_iff.mp hx).1
  rw [e _ (by omega) (by omega)]; exact h.2 i x hx⟩
theorem sL_box {s : Rw} {L : List Ln} {σ : St} {K : St → Prop} (hr : RW σ s) (hs : SL s) (hL : LX σ L) (l54 : L.length ≤ 54) (sL : ∀ x ∈ L, Sm x) (h : ∀ τ : St, FB σ τ → BXL τ (bx s L) → K τ) : f_L_box σ K := by
  have hd := hs.d
  have hS := hd.set
  have hw := hd.win
  unfold f_L_box
  intro s1 e1
  have g1 : ∀ c : Nat, c ≠ 164 → s1 c = σ c := fun c hc => by rw [e1, up_c hc]
  have g2 : ∀ i : Int, i ≠ 4 → s1 164 i = σ 164 i := fun i hi => by rw [e1, up_i hi]
  have L1 : LX s1 L := hL.go (g2 0 (by decide)) (fun i i0 _ => g2 i (by omega))
  have r1 : RW s1 s := hr.go (g1 _ (by decide)) (g1 _ (by decide)) (g1 _ (by decide))
  rw [L1.1]
  refine ⟨⟨by omega, by omega⟩, fun q => ?_, fun q => ?_⟩
  rotate_left
  · have l0 : L.length = 0 := by omega
    refine h s1 ⟨g1, fun i hi => g2 i (by omega)⟩ ?_
    unfold bx
    rw [if_pos l0]
    exact ⟨by rw [e1, up_s], fun z => absurd rfl z⟩
  · have l0 : L.length ≠ 0 := by omega
    have hc := csF_bd hd l0 (by omega : L.length ≤ 77)
    have hm := cs_bd hS.2.1.1 (hL_pos hS.2.1.1 hS.2.1.2 (n := L.length) (by omega) (by omega)).1 L L.length
    have hwd := wdB_bd hd l0 (by omega : L.length ≤ 77)
    refine sL_place r1 hs L1 l54 sL (by omega) (Int.le_refl _) ?_
    have ep : plc (s 1) L L.length = ((csF (s 1) L).1 + 1) + 100 * (csF (s 1) L).2.2 := by unfold plc; rw [if_neg (by omega)]
    rw [ep]
    have q1 : (((csF (s 1) L).1 + 1) + 100 * (csF (s 1) L).2.2) % 100 = (csF (s 1) L).1 + 1 := by omega
    have q2 : (((csF (s 1) L).1 + 1) + 100 * (csF (s 1) L).2.2) / 100 = (csF (s 1) L).2.2 := by omega
    rw [q1, q2, r1.g (i := 2) (by decide) (by decide), Int.mul_comm _ (s 2)]
    have ebx : bx s L = st s (wdB s L) (htB s L) (bc s (wdB s L) (htB s L) 4).1 := by unfold bx; rw [if_neg l0]
    rw [ebx] at h
    refine ⟨by omega, fun s3 e3 => ?_⟩
    refine wj1_intro (fun y => y = wdB s L) (fun y hy => ?_) (fun J hJ => ?_)
    · subst hy
      intro s6 e6
      have g6 : ∀ c : Nat, c ≠ 164 → s6 c = σ c := fun c hc => by rw [e6, up_c hc, e3, up_c hc]; exact g1 c hc
      have e63 : s6 161 3 = s 3 := by rw [g6 161 (by decide)]; exact hr.g (by decide) (by decide)
      rw [e63, Int.mul_comm _ (s 3)]
      refine ⟨by omega, fun s7 e7 => ?_⟩
      refine wj1_intro (fun y => y = htB s L) (fun y hy => ?_) (fun J hJ => ?_)
      · subst hy
        intro s10 e10
        have G1 : ∀ c : Nat, c ≠ 164 → s10 c = σ c := fun c hc => by rw [e10, up_c hc, e7, up_c hc]; exact g6 c hc
        have G2 : ∀ i : Int, i < 4 ∨ 8 < i → s10 164 i = σ 164 i := fun i hi => by rw [e10, up_i (by omega), e7, up_i (by omega), e6, up_i (by omega), e3, up_i (by omega)]; exact g2 i (by omega)
        have G7 : s10 164 7 = wdB s L := by rw [e10, up_i (by decide), e7, up_i (by decide), e6, up_s]
        have G8 : s10 164 8 = htB s L := by rw [e10, up_s]
        have hw1 := hwd.1
        have hh1 := hwd.2.1
        clear e1 e3 e6 e7 e10 g1 g2 g6 L1 r1 hc hm hwd ep q1 q2 e63 ebx q
        generalize wdB s L = w at *
        generalize htB s L = t at *
        refine wl3s_inv (fun b m i τ => (0 ≤ i ∧ i ≤ 5) ∧ FB σ τ ∧ τ 164 7 = w ∧ τ 164 8 = t ∧ ((i = 0 ∧ b = -1 ∧ m = 99) ∨ (1 ≤ i ∧ i ≤ 4 ∧ bc s w t i.toNat = (b, m)) ∨ (i = 5 ∧ BXL τ (st s w t (bc s w t 4).1)))) (fun _ _ i _ => (5 - i).toNat) ?_ ⟨by decide, ⟨G1, G2⟩, G7, G8, Or.inl ⟨rfl, rfl, rfl⟩⟩
        rintro b m i τ ag ⟨hi, hF, t7, t8, hb⟩ hag
        refine ⟨⟨by omega, by omega⟩, fun z => ?_, fun z => ?_⟩
        · rcases hb with ⟨e, _⟩ | ⟨_, e, _⟩ | ⟨_, hbx⟩
          · omega
          · omega
          · exact h τ hF hbx
        · have hb4 := bc_bd hd w t
          have hbm : (i = 0 → b = -1 ∧ m = 99) ∧ (i ≠ 0 → (0 ≤ b ∧ b ≤ 3) ∧ (0 ≤ m ∧ m ≤ 41) ∧ bc s w t i.toNat = (b, m)) := by
            rcases hb with ⟨e, e2⟩ | ⟨e, e1, e2⟩ | ⟨e, _⟩
            · exact ⟨fun _ => e2, fun x => absurd e x⟩
            · have := hb4 i.toNat (by omega)
              rw [e2] at this
              exact ⟨fun x => by omega, fun _ => ⟨this.1, this.2.1, e2⟩⟩
            · omega
          clear hb
          refine wj1_intro (fun y => y = if i = 4 then b else i) (fun a ha => ?_) (fun J hJ => ⟨⟨by omega, by omega⟩, fun u => hJ _ (by rw [if_neg u]), fun u => hJ _ (by rw [if_pos (Decidable.not_not.mp u)])⟩)
          have ha3 : 0 ≤ a ∧ a ≤ 3 := by
            rw [ha]
            split
            · exact (hbm.2 (by omega)).1
            · omega
          intro s17 e17
          have k17 : ∀ c : Nat, c ≠ 164 → s17 c = σ c := fun c hc => by rw [e17, up_c hc]; exact hF.1 c hc
          have n4 : s17 164 4 = a := by rw [e17, up_s]
          have n7 : s17 164 7 = w := by rw [e17, up_i (by decide)]; exact t7
          have m4 : s17 161 4 = s 4 := by rw [k17 161 (by decide)]; exact hr.g (by decide) (by decide)
          have m6 : s17 161 6 = s 6 := by rw [k17 161 (by decide)]; exact hr.g (by decide) (by decide)
          rw [n4, n7, m4, m6]
          refine ⟨by omega, wj1_intro (fun y => y = if a % 2 = 0 then s 4 else s 4 + s 6 - w) (fun y19 h19 => ?_) (fun J hJ => ⟨⟨by omega, by omega⟩, fun u => hJ _ (by rw [if_pos (by omega)]), fun u => hJ _ (by rw [if_neg (by omega)])⟩)⟩
          intro s20 e20
          have k20 : ∀ c : Nat, c ≠ 164 → s20 c = σ c := fun c hc => by rw [e20, up_c hc]; exact k17 c hc
          have o4 : s20 164 4 = a := by rw [e20, up_i (by decide)]; exact n4
          have o8 : s20 164 8 = t := by rw [e20, up_i (by decide), e17, up_i (by decide)]; exact t8
          have p5 : s20 161 5 = s 5 := by rw [k20 161 (by decide)]; exact hr.g (by decide) (by decide)
          have p7 : s20 161 7 = s 7 := by rw [k20 161 (by decide)]; exact hr.g (by decide) (by decide)
          rw [o4, o8, p5, p7]
          refine wj1_intro (fun y => y = if a < 2 then s 5 else s 5 + s 7 - t) (fun y22 h22 => ?_) (fun J hJ => ⟨⟨by omega, by omega⟩, fun u => hJ _ (by rw [if_pos (by omega)]), fun u => hJ _ (by rw [if_neg (by omega)])⟩)
          intro s23 e23
          have k23 : FB σ s23 := ⟨fun c hc => by rw [e23, up_c hc]; exact k20 c hc, fun i hi => by rw [e23, up_i (by omega), e20, up_i (by omega), e17, up_i (by omega)]; exact hF.2 i hi⟩
          have f7 : s23 164 7 = w := by rw [e23, up_i (by decide), e20, up_i (by decide)]; exact n7
          have f8 : s23 164 8 = t := by rw [e23, up_i (by decide)]; exact o8
          have hbx : BXL s23 (st s w t a) := ⟨by rw [e23, up_i (by decide)]; exact o4, fun _ => ⟨by rw [e23, up_i (by decide), e20, up_s]; exact h19, by rw [e23, up_s]; exact h22, f7, f8⟩⟩
          have r23 : RW s23 s := hr.go (k23.1 _ (by decide)) (k23.1 _ (by decide)) (k23.1 _ (by decide))
          refine sL_covered r23 hs hbx (st_ok hd hw1 hh1 ha3) (sL_bits ?_)
          rw [ctb_12 hs]
          have hcb := ctb_bd hd (st s w t a)
          have hmR : Rg m := by
            by_cases u : i = 0
            · have := hbm.1 u; constructor <;> omega
            · have := hbm.2 u; constructor <;> omega
          -- the new best one
          have eS : ∀ j : Nat, bc s w t (j + 1) = if ctb s (st s w t j) < (bc s w t j).2 then ((j : Int), ctb s (st s w t j)) else bc s w t j := fun _ => rfl
          refine wj1_intro (fun y => y = if i < 4 ∧ ctb s (st s w t a) < m then i else b) (fun y28 h28 => ?_) (fun J hJ => ?_)
          · have fin : ∀ m2 : Int, m2 = (if ctb s (st s w t a) < m then ctb s (st s w t a) else m) → ag y28 m2 (i + 1) s23 := fun m2 hm2 => by
              refine hag _ _ _ _ ⟨by omega, k23, f7, f8, ?_⟩ (by omega)
              by_cases u : i = 4
              · refine Or.inr (Or.inr ⟨by omega, ?_⟩)
                have e4 := (hbm.2 (by omega)).2.2
                have e5 : i.toNat = 4 := by omega
                rw [e5] at e4
                rw [e4]
                rw [if_pos u] at ha
                rw [← ha]; exact hbx
              · rw [if_neg u] at ha
                subst ha
                refine Or.inr (Or.inl ⟨by omega, by omega, ?_⟩)
                have ej : (a + 1).toNat = a.toNat + 1 := by omega
                have ea : ((a.toNat : Nat) : Int) = a := by omega
                rw [ej, eS, ea]
                by_cases u2 : a = 0
                · have hbm0 := hbm.1 u2
                  have e0 : bc s w t a.toNat = (0, 41) := by rw [u2]; rfl
                  rw [e0]
                  rw [if_pos (by omega)] at hm2
                  rw [if_pos ⟨by omega, by omega⟩] at h28
                  rw [if_pos (show ctb s (st s w t a) < 41 by omega), h28, hm2]
                · rw [(hbm.2 u2).2.2]
                  show (if ctb s (st s w t a) < m then (a, ctb s (st s w t a)) else (b, m)) = (y28, m2)
                  by_cases u3 : ctb s (st s w t a) < m
                  · rw [if_pos u3] at hm2 ⊢
                    rw [if_pos ⟨by omega, u3⟩] at h28
                    rw [h28, hm2]
                  · rw [if_neg u3] at hm2 ⊢
                    rw [if_neg (fun x => u3 x.2)] at h28
                    rw [h28, hm2]
            exact ⟨⟨by omega, by omega⟩, hmR, fun u => fin _ (by rw [if_neg (by omega)]), fun u => fin _ (by rw [if_pos (by omega)])⟩
          · refine wj0_intro (¬ (i < 4 ∧ ctb s (st s w t a) < m)) (fun u => hJ _ (by rw [if_neg u])) (fun J2 h2 => ⟨⟨by omega, by omega⟩, fun u => h2 (by omega), fun u => ⟨⟨by omega, by omega⟩, hmR, fun x => h2 (by omega), fun x => hJ _ (by rw [if_pos ⟨by omega, by omega⟩])⟩⟩)
      · have f8 : s7 164 8 = s 3 * (csF (s 1) L).2.2 := by rw [e7, up_s]
        have f7 : s7 161 7 = s 7 := by rw [e7, up_c (by decide), g6 161 (by decide)]; exact hr.g (by decide) (by decide)
        rw [f8, f7]
        refine ⟨⟨by omega, by omega⟩, ⟨by omega, by omega⟩, fun z => hJ _ ?_, fun z => hJ _ ?_⟩
        · unfold htB; rw [if_neg (by omega)]
        · unfold htB; rw [if_pos (by omega)]
    · have f7 : s3 164 7 = s 2 * ((csF (s 1) L).1 + 1) := by rw [e3, up_s]
      have f6 : s3 161 6 = s 6 := by rw [e3, up_c (by decide), g1 161 (by decide)]; exact hr.g (by decide) (by decide)
      rw [f7, f6]
      refine ⟨⟨by omega, by omega⟩, ⟨by omega, by omega⟩, fun z => hJ _ ?_, fun z => hJ _ ?_⟩
      · unfold wdB; rw [if_neg (by omega)]
      · unfold wdB; rw [if_pos (by omega)]
