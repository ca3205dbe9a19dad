/-! ===== the reference: box, rounds ===== -/
/-- the box as it stands is that one, or there is none -/
def BE (σ : St) (x : Bx) : Prop := (x.1 = -1 ∧ σ 161 18 = -1) ∨ b7 σ = x
theorem BE.ok {σ : St} {x : Bx} (h : BE σ x) (hx : BxOK x) : BxOK (b7 σ) := by
  rcases h with ⟨_, h⟩ | h
  · exact ⟨⟨by show -1 ≤ σ 161 18; omega, by show σ 161 18 ≤ 3; omega⟩, fun z => absurd h z⟩
  · rw [h]; exact hx
theorem BE.cov {σ : St} {x : Bx} {s : Rw} (h : BE σ x) (k : Int) : cov s (b7 σ) k = cov s x k := by
  rcases h with ⟨h1, h2⟩ | h
  · rw [cov_no h1, cov_no (show (b7 σ).1 = -1 from h2)]
  · rw [h]
theorem BE.c {σ : St} {x : Bx} (h : BE σ x) : σ 161 18 = x.1 := by
  rcases h with ⟨h1, h2⟩ | h
  · rw [h1, h2]
  · rw [← h]; rfl
def LM (σ : St) (c : Int) (L : List Ln) : Prop := ∀ i : Nat, i < L.length → σ 170 i = (pl c L i).1 ∧ σ 171 i = (pl c L i).2
theorem s7_stands {p w h : Int} {σ : St} {K : St → Prop} (hp : 0 ≤ p ∧ p ≤ 3) (hw : σ 161 21 = w) (hh : σ 161 22 = h)
    (hK : ∀ σ' : St, (∀ c : Nat, c ≠ 161 → σ' c = σ c) → (∀ f : Int, f ≠ 18 → f ≠ 19 → f ≠ 20 → σ' 161 f = σ 161 f) → b7 σ' = st (σ 162) w h p → K σ') : f_X7_stands p σ K := by
  unfold f_X7_stands
  intro s1 e1
  have a4 : s1 162 = σ 162 := by rw [e1, up_c (by decide)]
  have a21 : s1 161 21 = w := by rw [e1, up_i (by decide)]; exact hw
  have a22 : s1 161 22 = h := by rw [e1, up_i (by decide)]; exact hh
  rw [a4, a21]
  refine ⟨⟨by omega, by omega⟩, wj1_intro (fun y => y = if p % 2 = 0 then σ 162 4 else σ 162 4 + σ 162 6 - w) (fun y hy => ?_) (fun J hJ => ⟨⟨by omega, by omega⟩, fun q => hJ _ (by rw [if_neg q]), fun q => hJ _ (by rw [if_pos (Decidable.not_not.mp q)])⟩)⟩
  intro s4 e4
  have c4 : s4 162 = σ 162 := by rw [e4, up_c (by decide)]; exact a4
  have c22 : s4 161 22 = h := by rw [e4, up_i (by decide)]; exact a22
  rw [c4, c22]
  have fin : ∀ t : Int, t = (if p < 2 then σ 162 5 else σ 162 5 + σ 162 7 - h) → K (up2 s4 161 20 t) := fun t ht => by
    refine hK _ (fun c hc => by rw [up_c hc, e4, up_c hc, e1, up_c hc]) (fun f h1 h2 h3 => by rw [up_i h3, e4, up_i h2, e1, up_i h1]) ?_
    unfold b7 st
    rw [up_i (by decide), up_i (by decide), up_s, up_i (by decide), up_i (by decide), e4, up_i (by decide), up_s, up_i (by decide), up_i (by decide), a21, a22, e1, up_s, ht, hy]
  refine ⟨⟨by omega, by omega⟩, fun q => ?_, fun q => ?_⟩
  · intro s5 e5
    rw [e5]
    exact fin _ (by rw [if_neg (by omega)])
  · intro s6 e6
    rw [e6]
    exact fin _ (by rw [if_pos (by omega)])
theorem s7_laysBox {L : List Ln} {σ : St} {K : St → Prop} (hd : Dm (σ 162)) (hL : ML σ L) (lL : L.length ≤ 77) (sL : ∀ x ∈ L, Sm x)
    (h : ∀ σ' : St, (∀ c : Nat, c ≠ 161 → c ≠ 170 → c ≠ 171 → σ' c = σ c) → (∀ f : Int, f < 18 ∨ 22 < f → σ' 161 f = σ 161 f) → BE σ' (bx (σ 162) L) → LM σ' (σ 162 1) L → K σ') : f_X7_laysBox σ K := by
  have hset := hd.set
  have hwin := hd.win
  unfold f_X7_laysBox
  intro s1 e1
  have t162 : s1 162 = σ 162 := by rw [e1, up_c (by decide)]
  have t13 : s1 161 13 = L.length := by rw [e1, up_i (by decide)]; exact hL.1
  rw [t162, t13]
  refine ⟨⟨by omega, by omega⟩, fun q => ⟨⟨by omega, by omega⟩, ⟨by omega, by omega⟩, ?_⟩, fun q => ?_⟩
  · have l0 : L.length ≠ 0 := by omega
    have ebx : bx (σ 162) L = st (σ 162) (wdB (σ 162) L) (htB (σ 162) L) (bc (σ 162) (wdB (σ 162) L) (htB (σ 162) L) 4).1 := by unfold bx; rw [if_neg l0]
    have hwb := wdB_bd hd l0 lL
    intro x2 e2
    have e2 : x2 = hL' (σ 162 1) L.length := e2
    subst e2
    have hH := hL_pos hset.2.1.1 hset.2.1.2 (n := L.length) (by omega) (by omega)
    refine wl4s_inv (fun x3 x4 x5 x6 τ => ∃ n : Nat, x6 = n ∧ n ≤ L.length ∧ cs (σ 162 1) (hL' (σ 162 1) L.length) L n = (x3, x4, x5) ∧ (∀ c : Nat, c ≠ 170 → c ≠ 171 → τ c = s1 c) ∧ ∀ i : Nat, i < n → τ 170 i = (pl (σ 162 1) L i).1 ∧ τ 171 i = (pl (σ 162 1) L i).2) (fun _ _ _ x6 _ => ((L.length : Int) - x6).toNat) ?_ ⟨0, rfl, Nat.zero_le _, rfl, fun _ _ _ => rfl, fun i hi => absurd hi (Nat.not_lt_zero _)⟩
    rintro x3 x4 x5 x6 τ ag ⟨n, e6, hn, ec, hc, hp⟩ hag
    have u162 : τ 162 = σ 162 := by rw [hc 162 (by decide) (by decide)]; exact t162
    have u13 : τ 161 13 = L.length := by rw [hc 161 (by decide) (by decide)]; exact t13
    rw [u162, u13]
    refine ⟨⟨by omega, by omega⟩, ⟨by omega, by omega⟩, fun q2 => ?_, fun q2 => ⟨by omega, ?_⟩⟩
    · have en : n = L.length := by omega
      have ecF : csF (σ 162 1) L = (x3, x4, x5) := by unfold csF; rw [en] at ec; exact ec
      have ew : wdB (σ 162) L = if σ 162 6 < σ 162 2 * (x3 + 1) then σ 162 6 else σ 162 2 * (x3 + 1) := by unfold wdB; rw [ecF]
      have eh : htB (σ 162) L = if σ 162 7 < σ 162 3 * x5 then σ 162 7 else σ 162 3 * x5 := by unfold htB; rw [ecF]
      have hwb3 := hwb.2.2
      rw [ecF] at hwb3
      dsimp only at hwb3
      intro x8 e8 x9 e9
      rw [← e8] at ew hwb3
      rw [← e9] at eh hwb3
      refine wj1_intro (fun y => y = wdB (σ 162) L) (fun y hy => ?_) (fun J hJ => ⟨⟨by omega, by omega⟩, ⟨by omega, by omega⟩, fun q3 => hJ _ (by rw [ew]; split <;> omega), fun q3 => hJ _ (by rw [ew, if_neg (by omega)])⟩)
      intro s12 e12
      have v162 : s12 162 = σ 162 := by rw [e12, up_c (by decide)]; exact u162
      rw [v162]
      refine wj1_intro (fun y => y = htB (σ 162) L) (fun z hz => ?_) (fun J hJ => ⟨⟨by omega, by omega⟩, ⟨by omega, by omega⟩, fun q3 => hJ _ (by rw [eh]; split <;> omega), fun q3 => hJ _ (by rw [eh, if_neg (by omega)])⟩)
      intro s15 e15
      have w162 : s15 162 = σ 162 := by rw [e15, up_c (by decide)]; exact v162
      have w21 : s15 161 21 = wdB (σ 162) L := by rw [e15, up_i (by decide), e12, up_s]; exact hy
      have w22 : s15 161 22 = htB (σ 162) L := by rw [e15, up_s]; exact hz
      have wc : ∀ c : Nat, c ≠ 161 → c ≠ 170 → c ≠ 171 → s15 c = σ c := fun c g1 g2 g3 => by rw [e15, up_c g1, e12, up_c g1, hc c g2 g3, e1, up_c g1]
      have wf : ∀ f : Int, f < 18 ∨ 22 < f → s15 161 f = σ 161 f := fun f hf => by rw [e15, up_i (by omega), e12, up_i (by omega), hc 161 (by decide) (by decide), e1, up_i (by omega)]
      have wp : LM s15 (σ 162 1) L := fun i hi => by rw [e15, up_c (by decide), up_c (by decide), e12, up_c (by decide), up_c (by decide)]; exact hp i (by omega)
      have hw1 := hwb.1
      have hh1 := hwb.2.1
      rw [ebx] at h
      clear e15 e12 hc hp ec ecF ew eh hwb3 hwb hy hz u162 v162 e8 e9 ebx
      generalize wdB (σ 162) L = w at *
      generalize htB (σ 162) L = t at *
      refine wl3s_inv (fun x16 x17 x18 ρ => (0 ≤ x18 ∧ x18 ≤ 4) ∧ bc (σ 162) w t x18.toNat = (x16, x17) ∧ (∀ c : Nat, c ≠ 161 → ρ c = s15 c) ∧ (∀ f : Int, f < 18 ∨ 20 < f → ρ 161 f = s15 161 f)) (fun _ _ x18 _ => (4 - x18).toNat) ?_ ⟨by omega, rfl, fun _ _ => rfl, fun _ _ => rfl⟩
      rintro x16 x17 x18 ρ ag2 ⟨h18, eb, rc, rf⟩ hag2
      have hb := bc_bd hd w t x18.toNat (by omega)
      rw [eb] at hb
      dsimp only at hb
      have r162 : ρ 162 = σ 162 := by rw [rc 162 (by decide)]; exact w162
      have r21 : ρ 161 21 = w := by rw [rf 21 (by decide)]; exact w21
      have r22 : ρ 161 22 = t := by rw [rf 22 (by decide)]; exact w22
      refine ⟨⟨by omega, by omega⟩, fun q3 => ?_, fun q3 => ?_⟩
      · have e : x18 = 4 := by omega
        subst e
        replace eb : bc (σ 162) w t 4 = (x16, x17) := eb
        rw [eb] at h
        refine s7_stands hb.1 r21 r22 fun σ2 c2 f2 b2 => ?_
        rw [r162] at b2
        refine h _ (fun c g1 g2 g3 => by rw [c2 c g1, rc c g1, wc c g1 g2 g3]) (fun f hf => by rw [f2 f (by omega) (by omega) (by omega), rf f (by omega), wf f hf]) (Or.inr b2) (fun i hi => by rw [c2 170 (by decide), c2 171 (by decide), rc 170 (by decide), rc 171 (by decide)]; exact wp i hi)
      · refine s7_stands ⟨h18.1, by omega⟩ r21 r22 fun σ2 c2 f2 b2 => ?_
        rw [r162] at b2
        have y162 : σ2 162 = σ 162 := by rw [c2 162 (by decide)]; exact r162
        have eN : (x18 + 1).toNat = x18.toNat + 1 := by omega
        have eN2 : ((x18.toNat : Nat) : Int) = x18 := by omega
        have eS : bc (σ 162) w t (x18 + 1).toNat = if ctb (σ 162) (st (σ 162) w t x18) < x17 then (x18, ctb (σ 162) (st (σ 162) w t x18)) else (x16, x17) := by
          rw [eN]
          show (if ctb (σ 162) (st (σ 162) w t (x18.toNat : Nat)) < (bc (σ 162) w t x18.toNat).2 then ((x18.toNat : Int), ctb (σ 162) (st (σ 162) w t (x18.toNat : Nat))) else bc (σ 162) w t x18.toNat) = _
          rw [eN2, eb]
        have hcb := ctb_bd hd (st (σ 162) w t x18)
        refine s7_coveredMany (by rw [y162]; exact hd) (by rw [b2]; exact st_ok hd hw1 hh1 ⟨h18.1, by omega⟩) ?_
        rw [y162, b2]
        have ec : cI (fun k => sh' (σ 162) k && cov (σ 162) (st (σ 162) w t x18) k) (σ 162 9) = ctb (σ 162) (st (σ 162) w t x18) := rfl
        rw [ec]
        have kc : ∀ c : Nat, c ≠ 161 → σ2 c = s15 c := fun c g => (c2 c g).trans (rc c g)
        have kf : ∀ f : Int, f < 18 ∨ 20 < f → σ2 161 f = s15 161 f := fun f g => (f2 f (by omega) (by omega) (by omega)).trans (rf f g)
        refine wj1_intro (fun y => y = if ctb (σ 162) (st (σ 162) w t x18) < x17 then x18 else x16) (fun y hy => ⟨⟨by omega, by omega⟩, ⟨by omega, by omega⟩, fun q4 => ?_, fun q4 => ?_⟩) (fun J hJ => ⟨⟨by omega, by omega⟩, ⟨by omega, by omega⟩, fun q4 => hJ _ (by rw [if_neg (by omega)]), fun q4 => hJ _ (by rw [if_pos (by omega)])⟩)
        · rw [if_neg (by omega)] at hy eS
          exact hag2 _ _ _ _ ⟨by omega, by rw [eS, hy], kc, kf⟩ (by omega)
        · rw [if_pos (by omega)] at hy eS
          exact hag2 _ _ _ _ ⟨by omega, by rw [eS, hy], kc, kf⟩ (by omega)
    · have hb := cs_bd hset.2.1.1 hH.1 L n
      have hS : cs (σ 162 1) (hL' (σ 162 1) L.length) L (n + 1) = ((nx (σ 162 1) (hL' (σ 162 1) L.length) (tyL L n) (cs (σ 162 1) (hL' (σ 162 1) L.length) L n)).1, (nx (σ 162 1) (hL' (σ 162 1) L.length) (tyL L n) (cs (σ 162 1) (hL' (σ 162 1) L.length) L n)).2 + 1, if (cs (σ 162 1) (hL' (σ 162 1) L.length) L n).2.2 < (nx (σ 162 1) (hL' (σ 162 1) L.length) (tyL L n) (cs (σ 162 1) (hL' (σ 162 1) L.length) L n)).2 + 1 then (nx (σ 162 1) (hL' (σ 162 1) L.length) (tyL L n) (cs (σ 162 1) (hL' (σ 162 1) L.length) L n)).2 + 1 else (cs (σ 162 1) (hL' (σ 162 1) L.length) L n).2.2) := rfl
      have hP : pl (σ 162 1) L n = nx (σ 162 1) (hL' (σ 162 1) L.length) (tyL L n) (cs (σ 162 1) (hL' (σ 162 1) L.length) L n) := rfl
      rw [ec] at hb hS hP
      dsimp only at hb hS
      have eg := List.getElem?_eq_getElem (by omega : n < L.length)
      have ety : τ 168 (5 * x6) = tyL L n := by
        subst e6
        have u168 : τ 168 = σ 168 := by rw [hc 168 (by decide) (by decide), e1, up_c (by decide)]
        rw [tyL_of eg, u168]; exact (hL.2 n _ eg).1
      have hty : 0 ≤ tyL L n ∧ tyL L n ≤ 2 := by rw [tyL_of eg]; exact (sL _ (List.getElem_mem _)).1
      clear eg
      rw [ety]
      generalize tyL L n = ty at *
      generalize hL' (σ 162 1) L.length = H at *
      generalize hcc : σ 162 1 = cc at *
      refine wj1_intro (fun y => y = b01 (decide (ty = 1))) (fun y hy => ?_) (fun J hJ => ⟨⟨by omega, by omega⟩, fun q3 => hJ 0 (by rw [decide_eq_false q3]; rfl), fun q3 => hJ 1 (by rw [decide_eq_true (Decidable.not_not.mp q3)]; rfl)⟩)
      refine wj2_intro (fun a m => nx cc H ty (x3, x4, x5) = (a, m)) (fun a m hp2 => ?_) (fun J hJ => ?_)
      · rw [hp2] at hS hP
        dsimp only at hS
        have hm : 0 ≤ m ∧ m ≤ n := by
          unfold nx at hp2
          split at hp2
          · have := congrArg (fun t => t.2) hp2; dsimp only at this; omega
          · have := congrArg (fun t => t.2) hp2; dsimp only at this; omega
        refine ⟨by omega, ?_⟩
        intro s31 e31
        refine ⟨by omega, ?_⟩
        intro s32 e32
        have hc2 : ∀ c : Nat, c ≠ 170 → c ≠ 171 → s32 c = s1 c := fun c g1 g2 => by rw [e32, up_c g2, e31, up_c g1]; exact hc c g1 g2
        have hp3 : ∀ i : Nat, i < n + 1 → s32 170 i = (pl cc L i).1 ∧ s32 171 i = (pl cc L i).2 := fun i hi => by
          by_cases q3 : i = n
          · subst q3
            rw [hP, e32, up_c (by decide), e31, ← e6, up_s, up_s]; exact ⟨rfl, rfl⟩
          · rw [e32, up_c (by decide), up_i (by omega), e31, up_i (by omega), up_c (by decide)]
            exact hp i (by omega)
        refine ⟨⟨by omega, by omega⟩, ⟨by omega, by omega⟩, fun q3 => ?_, fun q3 => ?_⟩
        · refine hag _ _ _ _ _ ⟨n + 1, by omega, by omega, ?_, hc2, hp3⟩ (by omega)
          rw [hS, if_neg (by omega)]
        · intro x33 e33
          refine hag _ _ _ _ _ ⟨n + 1, by omega, by omega, ?_, hc2, hp3⟩ (by omega)
          rw [hS, if_pos (by omega), e33]
      · have no : ¬ (x3 < cc - 1 ∧ (x4 = H ∨ (ty = 1 ∧ 0 < x4 ∧ x4 = H - 1))) → J x3 x4 := fun z => hJ _ _ (by unfold nx; rw [if_neg z])
        have yes : (x3 < cc - 1 ∧ (x4 = H ∨ (ty = 1 ∧ 0 < x4 ∧ x4 = H - 1))) → J (x3 + 1) 0 := fun z => hJ _ _ (by unfold nx; rw [if_pos z])
        refine ⟨⟨by omega, by omega⟩, ⟨by omega, by omega⟩, fun q3 => no (by omega), fun q3 => ?_⟩
        refine wj0_intro (x3 < cc - 1 ∧ (x4 = H ∨ (ty = 1 ∧ 0 < x4 ∧ x4 = H - 1))) yes (fun J2 h2 => ⟨⟨by omega, by omega⟩, ⟨by omega, by omega⟩, fun q4 => h2 (by omega), fun q4 => sp3 hy (fun r => no ?_) (fun r => ⟨⟨by omega, by omega⟩, fun q5 => no (by omega), fun q5 => ⟨⟨by omega, by omega⟩, ⟨by omega, by omega⟩, fun q6 => no (by omega), fun q6 => h2 ?_⟩⟩)⟩)
        · have r := of_decide_eq_false r
          omega
        · have r := of_decide_eq_true r
          omega
  · have l0 : L.length = 0 := by omega
    have ebx : bx (σ 162) L = (-1, -1, -1, -1, -1) := by unfold bx; rw [if_pos l0]
    refine h s1 (fun c g1 _ _ => by rw [e1, up_c g1]) (fun f hf => by rw [e1, up_i (by omega)]) (Or.inl ⟨by rw [ebx], by rw [e1, up_s]⟩) (fun i hi => by omega)
/-- the lines of the round before -/
def MO (σ : St) (L : List Ln) : Prop := σ 161 14 = L.length ∧ ∀ (i : Nat) (x : Ln), L[i]? = some x → σ 169 (5 * i) = x.1 ∧ σ 169 (5 * i + 1) = x.2.1 ∧ σ 169 (5 * i + 2) = x.2.2.1 ∧ σ 169 (5 * i + 3) = x.2.2.2.1 ∧ σ 169 (5 * i + 4) = x.2.2.2.2.1
theorem s7_areSame {L M : List Ln} {σ : St} {K : Int → Prop} (hL : ML σ L) (hM : MO σ M) (lL : L.length ≤ 77) (lM : M.length ≤ 77) (sL : ∀ x ∈ L, Sm x) (sM : ∀ x ∈ M, Sm x) (h : K (b01 (sm5 L M))) : f_X7_areSame σ K := by
  unfold f_X7_areSame
  rw [hL.1, hM.1]
  refine wj1_intro (fun y => (y = 0 ∧ sm5 L M = false) ∨ (y = 1 ∧ L.length = M.length)) (fun y hy => ?_) (fun J hJ => ⟨⟨by omega, by omega⟩, ⟨by omega, by omega⟩, fun q => hJ 0 (Or.inl ⟨rfl, sm5_len (by omega)⟩), fun q => hJ 1 (Or.inr ⟨rfl, by omega⟩)⟩)
  refine wl2_inv (fun x j => (0 ≤ j ∧ j ≤ 5 * L.length) ∧ ((x = 0 ∧ sm5 L M = false) ∨ (x = 1 ∧ L.length = M.length ∧ ∀ i : Int, 0 ≤ i → i < j → σ 168 i = σ 169 i))) (fun _ j => (5 * (L.length : Int) - j).toNat) ?_ ⟨by omega, hy.elim Or.inl fun z => Or.inr ⟨z.1, z.2, fun i i0 i1 => by omega⟩⟩
  rintro x j ag ⟨hj, hx⟩ hag
  have hb : Bl x := by
    rcases hx with ⟨e, _⟩ | ⟨e, _⟩
    · exact Or.inl e
    · exact Or.inr e
  have no : x = 0 → Bl x ∧ K x := fun e => by
    rcases hx with ⟨_, e2⟩ | ⟨e2, _⟩
    · rw [e2] at h; exact ⟨hb, by rw [e]; exact h⟩
    · omega
  refine ⟨⟨by omega, by omega⟩, ⟨by omega, by omega⟩, fun q => ?_, fun q => ⟨by unfold Bl at hb; omega, no, fun q2 => ⟨by omega, by omega, ?_⟩⟩⟩
  · rcases hx with ⟨e, _⟩ | ⟨e, el, hj2⟩
    · exact no e
    · have es : sm5 L M = true := sm5_eq el fun i x y hx hy => by
        have hi := get_lt hx
        have c1 := hL.2 i x hx
        have c2 := hM.2 i y hy
        unfold p5
        rw [← c1.1, ← c1.2.1, ← c1.2.2.1, ← c1.2.2.2.1, ← c1.2.2.2.2, ← c2.1, ← c2.2.1, ← c2.2.2.1, ← c2.2.2.2.1, ← c2.2.2.2.2, hj2 (5 * i) (by omega) (by omega), hj2 (5 * i + 1) (by omega) (by omega), hj2 (5 * i + 2) (by omega) (by omega), hj2 (5 * i + 3) (by omega) (by omega), hj2 (5 * i + 4) (by omega) (by omega)]
      rw [es] at h
      exact ⟨hb, by rw [e]; exact h⟩
  · rcases hx with ⟨e, _⟩ | ⟨e, el, hj2⟩
    · exact absurd e q2
    · have hi : (j / 5).toNat < L.length := by omega
      have e1 := List.getElem?_eq_getElem hi
      have e2 := List.getElem?_eq_getElem (by omega : (j / 5).toNat < M.length)
      have c1 := hL.2 _ _ e1
      have c2 := hM.2 _ _ e2
      have m1 := sL _ (List.getElem_mem hi)
      have m2 := sM _ (List.getElem_mem (by omega : (j / 5).toNat < M.length))
      generalize L[(j / 5).toNat] = a at e1 c1 m1
      generalize M[(j / 5).toNat] = b at e2 c2 m2
      rw [show (((j / 5).toNat : Nat) : Int) = j / 5 by omega] at c1 c2
      have hr : ∃ r : Int, (0 ≤ r ∧ r < 5) ∧ j = 5 * (j / 5) + r := ⟨j % 5, by omega, by omega⟩
      have key : (Rg (σ 168 j) ∧ Rg (σ 169 j)) ∧ (p5 a = p5 b → σ 168 j = σ 169 j) := by
        obtain ⟨n1, n2, n3, n4, n5, -⟩ := m1
        obtain ⟨w1, w2, w3, w4, w5, -⟩ := m2
        obtain ⟨r, hr, ej⟩ := hr
        have : r = 0 ∨ r = 1 ∨ r = 2 ∨ r = 3 ∨ r = 4 := by omega
        rcases this with e | e | e | e | e
        · rw [e, Int.add_zero] at ej
          rw [← ej] at c1 c2
          rw [c1.1, c2.1]
          exact ⟨⟨⟨by omega, by omega⟩, ⟨by omega, by omega⟩⟩, fun z => congrArg (fun t => t.1) z⟩
        · rw [e] at ej
          rw [← ej] at c1 c2
          rw [c1.2.1, c2.2.1]
          exact ⟨⟨⟨by omega, by omega⟩, ⟨by omega, by omega⟩⟩, fun z => congrArg (fun t => t.2.1) z⟩
        · rw [e] at ej
          rw [← ej] at c1 c2
          rw [c1.2.2.1, c2.2.2.1]
          exact ⟨⟨⟨by omega, by omega⟩, ⟨by omega, by omega⟩⟩, fun z => congrArg (fun t => t.2.2.1) z⟩
        · rw [e] at ej
          rw [← ej] at c1 c2
          rw [c1.2.2.2.1, c2.2.2.2.1]
          exact ⟨⟨⟨by omega, by omega⟩, ⟨by omega, by omega⟩⟩, fun z => congrArg (fun t => t.2.2.2.1) z⟩
        · rw [e] at ej
          rw [← ej] at c1 c2
          rw [c1.2.2.2.2, c2.2.2.2.2]
          exact ⟨⟨⟨by omega, by omega⟩, ⟨by omega, by omega⟩⟩, fun z => congrArg (fun t => t.2.2.2.2) z⟩
      refine ⟨key.1.1, key.1.2, fun q3 => hag _ _ ⟨by omega, Or.inl ⟨rfl, sm5_ne e1 e2 fun z => q3 (key.2 z)⟩⟩ (by omega), fun q3 => hag _ _ ⟨by omega, Or.inr ⟨rfl, el, fun i i0 i1 => ?_⟩⟩ (by omega)⟩
      by_cases q4 : i = j
      · rw [q4]; exact Decidable.not_not.mp q3
      · exact hj2 i i0 (by omega)
/-- what a round of the reference leaves -/
def R7 (σ : St) (s : Rw) (v : Int → Bool) : Prop := V7 σ v ∧ ML σ (Lns s v) ∧ LM σ (s 1) (Lns s v) ∧ BE σ (bx s (Lns s v))
def FR (σ τ : St) : Prop := (∀ c : Nat, c < 161 ∨ c = 162 ∨ c = 163 ∨ c = 164 ∨ c = 165 ∨ c = 166 ∨ c = 176 → τ c = σ c) ∧ ∀ f : Int, f < 13 ∨ 22 < f → τ 161 f = σ 161 f
theorem s7_round {x : Bx} {M : List Ln} {σ : St} {K : St → Prop} (hd : Dm (σ 162)) (hx : BxOK x) (hb : BE σ x) (hM : ML σ M) (lM : M.length ≤ 77)
    (h : ∀ σ' : St, FR σ σ' → σ' 161 15 = σ 161 15 → σ' 161 17 = σ 161 17 → σ' 161 16 = σ 161 16 + 1 → R7 σ' (σ 162) (sgt (σ 162) x) → MO σ' M → K σ') : f_X7_round σ K := by
  have hn := hd.n
  unfold f_X7_round
  refine wl1s_inv (fun i τ => (0 ≤ i ∧ i ≤ 40) ∧ (∀ c : Nat, c ≠ 167 → τ c = σ c) ∧ ∀ k : Int, 0 ≤ k → k < i → τ 167 k = b01 (sgt (σ 162) x k)) (fun i _ => (40 - i).toNat) ?_ ⟨by omega, fun _ _ => rfl, fun k k0 k1 => by omega⟩
  rintro i τ ag ⟨hi, hc, hk⟩ hag
  have t162 : τ 162 = σ 162 := hc 162 (by decide)
  refine ⟨⟨by omega, by omega⟩, fun q => ?_, fun q => ?_⟩
  · have e : i = 40 := by omega
    subst e
    clear hag
    refine wl1s_inv (fun j ρ => (0 ≤ j ∧ j ≤ 5 * M.length) ∧ (∀ c : Nat, c ≠ 169 → ρ c = τ c) ∧ ∀ k : Int, 0 ≤ k → k < j → ρ 169 k = σ 168 k) (fun j _ => (5 * (M.length : Int) - j).toNat) ?_ ⟨by omega, fun _ _ => rfl, fun k k0 k1 => by omega⟩
    rintro j ρ ag ⟨hj, rc, rk'⟩ hag
    have r13 : ρ 161 13 = M.length := by rw [rc 161 (by decide), hc 161 (by decide)]; exact hM.1
    have r162 : ρ 162 = σ 162 := by rw [rc 162 (by decide)]; exact t162
    rw [r13]
    refine ⟨⟨by omega, by omega⟩, ⟨by omega, by omega⟩, fun q2 => ?_, fun q2 => ⟨by omega, by omega, ?_⟩⟩
    · intro s5 e5
      have v162 : s5 162 = σ 162 := by rw [e5, up_c (by decide)]; exact r162
      refine s7_listsLines (v := sgt (σ 162) x) (by rw [v162]; exact hd) (fun k k0 k1 => by rw [e5, up_c (by decide), rc 167 (by decide)]; exact hk k k0 k1) fun σ2 f2 m2 => ?_
      rw [v162] at m2
      have w162 : σ2 162 = σ 162 := by rw [f2.1 162 (by decide) (by decide) (by decide) (by decide) (by decide) (by decide)]; exact v162
      refine s7_laysBox (by rw [w162]; exact hd) m2 (Lns_len hd _) (fun y hy => (Lns_wf hd hy).sm hd) fun σ3 c3 f3 b3 l3 => ?_
      rw [w162] at b3 l3
      intro s8 e8
      have kc : ∀ c : Nat, c ≠ 161 → c ≠ 167 → c ≠ 168 → c ≠ 169 → c ≠ 170 → c ≠ 171 → c ≠ 172 → c ≠ 173 → c ≠ 174 → c ≠ 175 → s8 c = σ c := fun c g1 g2 g3 g4 g5 g6 g7 g8 g9 g10 => by
        rw [e8, up_c g1, c3 c g1 g5 g6, f2.1 c g1 g3 g7 g8 g9 g10, e5, up_c g1, rc c g4, hc c g2]
      have kf : ∀ f : Int, f ≠ 16 → f ≠ 14 → f ≠ 13 → f < 18 ∨ 22 < f → s8 161 f = σ 161 f := fun f g1 g2 g3 g4 => by
        rw [e8, up_i g1, f3 f g4, f2.2 f g3, e5, up_i g2, rc 161 (by decide), hc 161 (by decide)]
      refine h _ ⟨fun c g => kc c (by omega) (by omega) (by omega) (by omega) (by omega) (by omega) (by omega) (by omega) (by omega) (by omega), fun f g => kf f (by omega) (by omega) (by omega) (by omega)⟩ (kf 15 (by decide) (by decide) (by decide) (by decide)) (kf 17 (by decide) (by decide) (by decide) (by decide)) ?_ ⟨fun k k0 k1 => ?_, ?_, fun i hi => ?_, ?_⟩ ⟨?_, fun i y hy => ?_⟩
      · rw [e8, up_s, f3 16 (by decide), f2.2 16 (by decide), e5, up_i (by decide), rc 161 (by decide), hc 161 (by decide)]
      · rw [e8, up_c (by decide), c3 167 (by decide) (by decide) (by decide), f2.1 167 (by decide) (by decide) (by decide) (by decide) (by decide) (by decide), e5, up_c (by decide), rc 167 (by decide)]; exact hk k k0 k1
      · exact m2.go (by rw [e8, up_i (by decide)]; exact f3 13 (by decide)) (by rw [e8, up_c (by decide)]; exact c3 168 (by decide) (by decide) (by decide))
      · rw [e8, up_c (by decide), up_c (by decide)]; exact l3 i hi
      · have e9 : b7 s8 = b7 σ3 := by unfold b7; rw [e8, up_i (by decide), up_i (by decide), up_i (by decide), up_i (by decide), up_i (by decide)]
        unfold BE
        rw [e9, e8, up_i (by decide)]; exact b3
      · rw [e8, up_i (by decide), f3 14 (by decide), f2.2 14 (by decide), e5, up_s]
      · have hi := get_lt hy
        have e9 : s8 169 = ρ 169 := by rw [e8, up_c (by decide), c3 169 (by decide) (by decide) (by decide), f2.1 169 (by decide) (by decide) (by decide) (by decide) (by decide) (by decide), e5, up_c (by decide)]
        rw [e9, rk' _ (by omega) (by omega), rk' _ (by omega) (by omega), rk' _ (by omega) (by omega), rk' _ (by omega) (by omega), rk' _ (by omega) (by omega)]
        exact hM.2 i y hy
    · intro s9 e9
      refine hag _ _ ⟨by omega, fun c g => by rw [e9, up_c g]; exact rc c g, fun k k0 k1 => ?_⟩ (by omega)
      rw [e9]
      by_cases q3 : k = j
      · rw [q3, up_s, rc 168 (by decide), hc 168 (by decide)]
      · rw [up_i q3]; exact rk' k k0 (by omega)
  · have fin : ∀ t : Int, t = b01 (sgt (σ 162) x i) → ag (i + 1) (up2 τ 167 i t) := fun t ht => by
      refine hag _ _ ⟨by omega, fun c g => by rw [up_c g]; exact hc c g, fun k k0 k1 => ?_⟩ (by omega)
      by_cases q2 : k = i
      · rw [q2, up_s]; exact ht
      · rw [up_i q2]; exact hk k k0 (by omega)
    have eb : b7 τ = b7 σ := by unfold b7; rw [hc 161 (by decide)]
    rw [t162]
    refine ⟨⟨by omega, by omega⟩, ⟨by omega, by omega⟩, fun q2 => ⟨by omega, ?_⟩, fun q2 => s7_isShown (by rw [t162]; exact hd) hi.1 (by rw [t162]; omega) (b01_split (fun r => ⟨by omega, ?_⟩) (fun r => s7_isCovered (by rw [t162]; exact hd) (by rw [eb]; exact hb.ok hx) hi.1 (by rw [t162]; omega) (b01_tilps (fun r2 => ⟨by omega, ?_⟩) (fun r2 => ⟨by omega, ?_⟩))))⟩
    · intro s10 e10
      rw [e10]
      exact fin _ (by unfold sgt; rw [decide_eq_false (by omega)]; rfl)
    · rw [t162] at r
      intro s12 e12
      rw [e12]
      exact fin _ (by unfold sgt; rw [r, Bool.false_and, Bool.and_false]; rfl)
    · rw [t162, eb, hb.cov] at r2
      intro s14 e14
      rw [e14]
      exact fin _ (by unfold sgt; rw [r2, Bool.not_true, Bool.and_false, Bool.and_false]; rfl)
    · rw [t162] at r
      rw [t162, eb, hb.cov] at r2
      intro s15 e15
      rw [e15]
      exact fin _ (by unfold sgt; rw [r, r2, decide_eq_true (by omega)]; rfl)
/-- the reference's legend of its row -/
def L7 (σ : St) (s : Rw) : Prop := V7 σ (vF s) ∧ ML σ (LF s) ∧ LM σ (s 1) (LF s) ∧ BE σ (xF s) ∧ σ 161 16 = (NN s : Int) + 1 ∧ σ 161 17 = b01 (same s (NN s)) ∧ σ 161 15 = (LL s 0).length
theorem s7_makes {σ : St} {K : St → Prop} (hd : Dm (σ 162)) (h : ∀ σ' : St, FR σ σ' → L7 σ' (σ 162) → K σ') : f_X7_makes σ K := by
  unfold f_X7_makes
  intro s1 e1 s2 e2 s3 e3 s4 e4
  have f4 : FR σ s4 := ⟨fun c g => by rw [e4, up_c (by omega), e3, up_c (by omega), e2, up_c (by omega), e1, up_c (by omega)], fun f g => by rw [e4, up_i (by omega), e3, up_i (by omega), e2, up_i (by omega), e1, up_i (by omega)]⟩
  have t162 : s4 162 = σ 162 := f4.1 162 (by decide)
  have c18 : s4 161 18 = -1 := by rw [e4, up_i (by decide), e3, up_i (by decide), e2, up_i (by decide), e1, up_s]
  have c13 : s4 161 13 = 0 := by rw [e4, up_i (by decide), e3, up_i (by decide), e2, up_s]
  have c16 : s4 161 16 = 0 := by rw [e4, up_i (by decide), e3, up_s]
  have c17 : s4 161 17 = 0 := by rw [e4, up_s]
  clear e4 e3 e2 e1
  refine s7_round (x := no5) (M := []) (by rw [t162]; exact hd) (xs_ok hd 0) (Or.inl ⟨rfl, c18⟩) ⟨c13, fun i x hx => absurd (get_lt hx) (Nat.not_lt_zero _)⟩ (by decide) fun σ5 f5 _ u17 u16 r5 _ => ?_
  rw [t162] at r5
  intro s6 e6
  have hb5 : BE s6 (xs (σ 162) 1) := by
    have e9 : b7 s6 = b7 σ5 := by unfold b7; rw [e6, up_i (by decide), up_i (by decide), up_i (by decide), up_i (by decide), up_i (by decide)]
    unfold BE
    rw [e9, e6, up_i (by decide)]; exact r5.2.2.2
  refine wl0s_inv (fun τ => ∃ n : Nat, n ≤ 7 ∧ τ 161 16 = (n : Int) + 1 ∧ FR σ τ ∧ V7 τ (vv (σ 162) n) ∧ ML τ (LL (σ 162) n) ∧ LM τ (σ 162 1) (LL (σ 162) n) ∧ BE τ (xs (σ 162) (n + 1)) ∧ τ 161 17 = b01 (decide (n ≠ 0) && same (σ 162) n) ∧ τ 161 15 = (LL (σ 162) 0).length ∧ (n ≠ 0 → nf (σ 162) (7 - n) n = NN (σ 162))) (fun τ => (8 - τ 161 16).toNat) ?_ ⟨0, by omega, ?_, ?_, fun k k0 k1 => ?_, ?_, fun i hi => ?_, hb5, ?_, ?_, fun z => absurd rfl z⟩
  · rintro τ ag ⟨n, hn, h16, hf, hv, hl, hlm, hb, h17, h15, hnf⟩ hag
    have t162 : τ 162 = σ 162 := hf.1 162 (by decide)
    have fin : NN (σ 162) = n → τ 161 17 = b01 (same (σ 162) n) → K τ := fun e e2 => by
      refine h τ hf ⟨?_, ?_, ?_, ?_, ?_, ?_, h15⟩
      · unfold vF; rw [e]; exact hv
      · unfold LF; rw [e]; exact hl
      · unfold LF; rw [e]; exact hlm
      · unfold xF; rw [e]; exact hb
      · rw [e]; exact h16
      · rw [e]; exact e2
    have st17 : 0 ≤ τ 161 17 ∧ τ 161 17 ≤ 1 := by rw [h17]; exact b01_rg0 _
    refine ⟨⟨by omega, by omega⟩, fun q => ?_, fun q => ⟨⟨by omega, by omega⟩, fun q2 => ?_, fun q2 => ?_⟩⟩
    · have e7 : n = 7 := by omega
      subst e7
      exact fin (hnf (by decide)).symm h17
    · have q3 := b01_n.mp (h17 ▸ q2)
      rw [Bool.and_eq_true] at q3
      have n0 := of_decide_eq_true q3.1
      exact fin (by rw [← hnf n0, nf_same q3.2]) (by rw [h17, q3.1, q3.2]; rfl)
    · have q3 : τ 161 17 = 0 := Decidable.not_not.mp q2
      refine s7_round (x := xs (σ 162) (n + 1)) (M := LL (σ 162) n) (by rw [t162]; exact hd) (xs_ok hd _) hb hl (LL_len hd n) fun σ8 f8 w15 _ w16 r8 o8 => ?_
      rw [t162] at r8
      refine s7_areSame (L := LL (σ 162) (n + 1)) (M := LL (σ 162) n) r8.2.1 o8 (LL_len hd _) (LL_len hd n) (LL_sm hd _) (LL_sm hd n) ⟨b01_bl _, ?_⟩
      intro s10 e10
      refine hag _ ⟨n + 1, by omega, ?_, ⟨fun c g => ?_, fun f g => ?_⟩, fun k k0 k1 => ?_, ?_, fun i hi => ?_, ?_, ?_, ?_, fun _ => ?_⟩ ?_
      · rw [e10, up_i (by decide), w16, h16]; omega
      · rw [e10, up_c (by omega), f8.1 c g]; exact hf.1 c g
      · rw [e10, up_i (by omega), f8.2 f g]; exact hf.2 f g
      · rw [e10, up_c (by decide)]; exact r8.1 k k0 k1
      · exact r8.2.1.go (by rw [e10, up_i (by decide)]) (by rw [e10, up_c (by decide)])
      · rw [e10, up_c (by decide), up_c (by decide)]; exact r8.2.2.1 i hi
      · have e9 : b7 s10 = b7 σ8 := by unfold b7; rw [e10, up_i (by decide), up_i (by decide), up_i (by decide), up_i (by decide), up_i (by decide)]
        unfold BE
        rw [e9, e10, up_i (by decide)]; exact r8.2.2.2
      · rw [e10, up_s, decide_eq_true (by omega : n + 1 ≠ 0), Bool.true_and]; rfl
      · rw [e10, up_i (by decide), w15]; exact h15
      · by_cases n0 : n = 0
        · subst n0; rfl
        · have e2 := hnf n0
          have hns : same (σ 162) n = false := by
            rw [h17, decide_eq_true n0, Bool.true_and] at q3
            exact b01_0.mp q3
          rw [show 7 - n = (7 - (n + 1)) + 1 by omega] at e2
          unfold nf at e2
          rw [if_neg (by rw [hns]; decide)] at e2
          exact e2
      · rw [e10, up_i (by decide), w16, h16]; omega
  · rw [e6, up_i (by decide), u16, c16]; rfl
  · refine ⟨fun c g => by rw [e6, up_c (by omega), f5.1 c g]; exact f4.1 c g, fun f g => by rw [e6, up_i (by omega), f5.2 f g]; exact f4.2 f g⟩
  · rw [e6, up_c (by decide)]; exact r5.1 k k0 k1
  · exact r5.2.1.go (by rw [e6, up_i (by decide)]) (by rw [e6, up_c (by decide)])
  · rw [e6, up_c (by decide), up_c (by decide)]; exact r5.2.2.1 i hi
  · rw [e6, up_i (by decide), u17, c17]; rfl
  · rw [e6, up_s]; exact r5.2.1.1
