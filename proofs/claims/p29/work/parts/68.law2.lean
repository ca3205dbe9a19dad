/-! ===== the law is kept ===== -/
theorem sL_acts {p : Int} {s : Rw} {σ : St} {K : Int → St → Prop} (hR : REL σ s) (h : ∀ (τ : St) (t : Rw), REL τ t → K 1 τ) : f_L_acts p σ K := by
  have hN := hR.s.n
  have e9 : σ 161 9 = s 9 := hR.r.g (by decide) (by decide)
  unfold f_L_acts
  refine sL_low (by decide) (by decide) fun v v0 v1 => ?_
  refine wj1_intro (fun y => s 9 ≠ 0 → 0 ≤ y ∧ y < s 9) (fun n hn => ⟨⟨v0, by omega⟩, fun k ek => ?_⟩) (fun J hJ => ?_)
  · have hk := md (v := v) (n := 4) (by decide)
    rw [← ek] at hk
    clear ek
    exact sL_low (by decide) (by decide) fun c c0 c1 => ⟨⟨by omega, by omega⟩, fun _ => a_win (v := v) (K := K) hR v0 v1 h, fun _ => a_win (v := v) (K := K) hR v0 v1 h, fun _ => a_set (v := v) (K := K) hR v0 v1 h, fun _ => a_set (v := v) (K := K) hR v0 v1 h, fun _ => a_kin (v := v) (k := k) (K := K) hR v0 v1 hk.1 hk.2 h, fun _ => a_kin (v := v) (k := k) (K := K) hR v0 v1 hk.1 hk.2 h, fun _ => a_way (v := v) (K := K) hR v0 v1 h, fun _ => a_lim (v := v) (k := k) (K := K) hR v0 v1 hk.1 hk.2 h, fun _ => a_lim (v := v) (k := k) (K := K) hR v0 v1 hk.1 hk.2 h, fun _ => a_lim (v := v) (k := k) (K := K) hR v0 v1 hk.1 hk.2 h, fun _ => a_drp (v := v) (n := n) (K := K) hR v0 v1 hn h, fun _ => a_mov (v := v) (n := n) (K := K) hR v0 v1 hn h, fun _ => a_add (v := v) (k := k) (K := K) hR v0 v1 hk.1 hk.2 h⟩
  · rw [e9]
    exact ⟨⟨by omega, by omega⟩, fun z => ⟨⟨v0, by omega⟩, ⟨by omega, by omega⟩, hJ _ fun _ => md (by omega)⟩, fun z => hJ _ fun w => absurd w z⟩
theorem sL_cell {L p : Int} {xi : Int → Int} {σ : St} {K : Int → Prop} (hL : 0 ≤ L ∧ L ≤ 260) (hp : 0 ≤ p ∧ p ≤ 100) (h : ∀ y : Int, K y) : f_L_cell L xi p σ K := ⟨⟨by omega, by omega⟩, ⟨by omega, by omega⟩, fun _ => h _, fun _ => ⟨⟨by omega, by omega⟩, h _⟩⟩
/-! ===== the start ===== -/
def vRow : Int → Int := fun i => if i = 0 then 3 else if i = 1 then 1 else if i = 2 then 20 else if i = 3 then 5 else if i = 6 then 100 else if i = 7 then 100 else if i = 8 then 5 else if 15 ≤ i ∧ i < 111 ∧ (i - 15) % 8 = 0 then (i - 15) / 8 else if 15 ≤ i ∧ i < 111 ∧ (i - 15) % 8 = 1 then -1 else 0
theorem vRow_rk {k : Int} (h0 : 0 ≤ k) (h1 : k < 12) : vRow (15 + 8 * k) = k := by
  unfold vRow
  rw [if_neg (by omega), if_neg (by omega), if_neg (by omega), if_neg (by omega), if_neg (by omega), if_neg (by omega), if_neg (by omega), if_pos (by omega)]
  omega
theorem vRow_gp {k : Int} (h0 : 0 ≤ k) (h1 : k < 12) : vRow (15 + 8 * k + 1) = -1 := by
  unfold vRow
  rw [if_neg (by omega), if_neg (by omega), if_neg (by omega), if_neg (by omega), if_neg (by omega), if_neg (by omega), if_neg (by omega), if_neg (by omega), if_pos (by omega)]
theorem vRow_nl {k : Int} (h0 : 0 ≤ k) (h1 : k < 12) : vRow (15 + 8 * k + 2) = 0 := by
  unfold vRow
  rw [if_neg (by omega), if_neg (by omega), if_neg (by omega), if_neg (by omega), if_neg (by omega), if_neg (by omega), if_neg (by omega), if_neg (by omega), if_neg (by omega)]
theorem vRow_wy {g : Int} (h0 : 0 ≤ g) (h1 : g < 5) : vRow (10 + g) = 0 := by
  unfold vRow
  rw [if_neg (by omega), if_neg (by omega), if_neg (by omega), if_neg (by omega), if_neg (by omega), if_neg (by omega), if_neg (by omega), if_neg (by omega), if_neg (by omega)]
theorem Dm_vRow : Dm vRow := by
  have r1 : ∀ k : Int, 0 ≤ k → k < 12 → rk vRow k = k := fun k h0 h1 => vRow_rk h0 h1
  have r2 : ∀ k : Int, 0 ≤ k → k < 12 → gp vRow k = -1 := fun k h0 h1 => vRow_gp h0 h1
  have r3 : ∀ k : Int, 0 ≤ k → k < 12 → nl vRow k = 0 := fun k h0 h1 => vRow_nl h0 h1
  refine ⟨by decide, by decide, by decide, by decide, by decide, by decide, by decide, by decide, by decide, by decide, fun g g0 g1 => ?_, fun k k0 k1 => ?_, fun k k0 k1 => ?_⟩
  · rw [vRow_wy g0 g1]; decide
  · rw [r1 k k0 k1, r2 k k0 k1, r3 k k0 k1]
    exact ⟨⟨by omega, by omega⟩, by decide, by decide, fun i i0 i1 => by omega, fun i i0 i1 => by omega⟩
  · have e : vRow 9 = 0 := by decide
    omega
theorem C60 : C6 σ0 vRow := by
  have c0 : σ0 0 = fun _ => 0 := rfl
  have c1 : σ0 1 = fun _ => 0 := rfl
  have c7 : σ0 7 = vRank := rfl
  have c8 : σ0 8 = vGroup := rfl
  have c9 : σ0 9 = fun _ => 0 := rfl
  have c11 : σ0 11 = fun _ => 0 := rfl
  have c12 : σ0 12 = vWin := rfl
  have c13 : σ0 13 = vSet := rfl
  have c14 : σ0 14 = fun _ => 0 := rfl
  have c24 : σ0 24 = fun _ => 0 := rfl
  have e9 : vRow 9 = 0 := by decide
  refine ⟨?_, ⟨0, fun _ => vRow, ⟨by rw [c0]; decide, by rw [c0], by decide, fun j j0 j1 => by omega⟩⟩, Or.inl (by rw [c14]), by rw [c24]; decide⟩
  refine ⟨?_, fun k k0 k1 => by omega, fun k k0 k1 => ⟨?_, ?_, ?_, fun i i0 i1 => ?_⟩, fun g g0 g1 => ?_, fun j j0 j1 => ?_, fun j j0 j1 => ?_⟩
  · show σ0 1 5 = vRow 9
    rw [c1, e9]
  · show σ0 7 k = vRow (15 + 8 * k)
    rw [c7, vRow_rk k0 k1]
    unfold vRank
    rw [if_pos ⟨k0, k1⟩]
  · show σ0 8 k = vRow (15 + 8 * k + 1)
    rw [c8, vRow_gp k0 k1]
    unfold vGroup
    rw [if_pos ⟨k0, k1⟩]
  · show σ0 9 k = vRow (15 + 8 * k + 2)
    rw [c9, vRow_nl k0 k1]
  · have e : nl vRow k = 0 := vRow_nl k0 k1
    omega
  · show σ0 11 g = vRow (10 + g)
    rw [c11, vRow_wy g0 g1]
  · show σ0 12 j = vRow (4 + j)
    rw [c12]
    have : j = 0 ∨ j = 1 ∨ j = 2 ∨ j = 3 ∨ j = 4 := by omega
    rcases this with e | e | e | e | e <;> subst e <;> decide
  · show σ0 13 j = vRow j
    rw [c13]
    have : j = 0 ∨ j = 1 ∨ j = 2 ∨ j = 3 := by omega
    rcases this with e | e | e | e <;> subst e <;> decide
theorem sL_begins {K : St → Prop} (h : ∀ τ : St, REL τ vRow → K τ) : f_L_begins σ0 K := by
  unfold f_L_begins
  intro s1 e1 s2 e2 s3 e3 s4 e4 s5 e5 s6 e6 s7 e7
  have z1 : σ0 161 = fun _ => 0 := rfl
  have z2 : σ0 162 = fun _ => 0 := rfl
  have z3 : σ0 163 = fun _ => 0 := rfl
  have kc : ∀ c : Nat, c ≠ 161 → s7 c = σ0 c := fun c hc => by rw [e7, up_c hc, e6, up_c hc, e5, up_c hc, e4, up_c hc, e3, up_c hc, e2, up_c hc, e1, up_c hc]
  have ki : ∀ i : Int, s7 161 i = if i = 8 then 5 else if i = 7 then 100 else if i = 6 then 100 else if i = 3 then 5 else if i = 2 then 20 else if i = 1 then 1 else if i = 0 then 3 else 0 := fun i => by
    rw [e7, up_if, e6, up_if, e5, up_if, e4, up_if, e3, up_if, e2, up_if, e1, up_if, z1]
  clear e1 e2 e3 e4 e5 e6 e7 s1 s2 s3 s4 s5 s6
  refine wl1s_inv (fun k τ => (0 ≤ k ∧ k ≤ 4) ∧ (∀ c : Nat, c ≠ 162 → τ c = s7 c) ∧ (∀ j : Int, 0 ≤ j → j < k → τ 162 (8 * j) = j ∧ τ 162 (8 * j + 1) = -1) ∧ ∀ j : Int, τ 162 (8 * j + 2) = 0) (fun k _ => (4 - k).toNat) ?_ ⟨by decide, fun _ _ => rfl, fun j j0 j1 => by omega, fun j => by rw [kc 162 (by decide), z2]⟩
  rintro k τ ag ⟨hk, tc, t1, t2⟩ hag
  refine ⟨⟨by omega, by omega⟩, fun q => ?_, fun q => ⟨by omega, fun s10 e10 => ⟨by omega, fun s11 e11 => hag _ _ ⟨by omega, fun c hc => by rw [e11, up_c hc, e10, up_c hc]; exact tc c hc, fun j j0 j1 => ?_, fun j => by rw [e11, up_i (by omega), e10, up_i (by omega)]; exact t2 j⟩ (by omega)⟩⟩⟩
  · have e4 : k = 4 := by omega
    subst e4
    have e9 : vRow 9 = 0 := by decide
    refine h τ ⟨⟨fun i i0 i1 => ?_, fun j j0 j1 => ?_, fun j j0 j1 => by omega, fun i i0 i1 => ?_⟩, ⟨Dm_vRow, by rw [e9]; decide, fun j j0 j1 => ?_, fun j j0 j1 => ?_, fun j j0 j1 => by omega⟩, C60.go fun c hc => by rw [tc c (by omega), kc c (by omega)]⟩
    · rw [tc 161 (by decide), ki]
      have : i = 0 ∨ i = 1 ∨ i = 2 ∨ i = 3 ∨ i = 4 ∨ i = 5 ∨ i = 6 ∨ i = 7 ∨ i = 8 ∨ i = 9 ∨ i = 10 ∨ i = 11 ∨ i = 12 ∨ i = 13 ∨ i = 14 := by omega
      rcases this with e | e | e | e | e | e | e | e | e | e | e | e | e | e | e <;> subst e <;> decide
    · have r1 : rk vRow j = j := vRow_rk j0 (by omega)
      have r2 : gp vRow j = -1 := vRow_gp j0 (by omega)
      have r3 : nl vRow j = 0 := vRow_nl j0 (by omega)
      rw [r1, r2, r3]
      exact ⟨(t1 j j0 j1).1, (t1 j j0 j1).2, t2 j, fun i i0 i1 => by omega⟩
    · rw [tc 163 (by decide), kc 163 (by decide), z3]
      exact (by decide : (0 : Int) ≤ 0 ∧ (0 : Int) ≤ 200)
    · have r1 : rk vRow j = j := vRow_rk j0 (by omega)
      have r2 : gp vRow j = -1 := vRow_gp j0 (by omega)
      rw [r1, r2]; omega
    · have r1 : rk vRow j = j := vRow_rk (by omega) j1
      have r2 : gp vRow j = -1 := vRow_gp (by omega) j1
      exact ⟨r1, r2⟩
  · by_cases z : j = k
    · rw [z, e11, up_s, up_i (by omega), e10, up_s]
      exact ⟨rfl, rfl⟩
    · rw [e11, up_i (by omega), up_i (by omega), e10, up_i (by omega), up_i (by omega)]
      exact t1 j j0 (by omega)
theorem law_ok {L : Int} {xi : Int → Int} (hL : 0 ≤ L ∧ L ≤ 260) : f_L_law L xi σ0 := by
  unfold f_L_law
  refine sL_begins fun s1 h1 => sL_isSo h1 fun s3 h3 => ?_
  refine wl2s_invB 7 (fun is k τ => is = 1 ∧ (0 ≤ k ∧ k ≤ 6) ∧ ∃ t : Rw, REL τ t) (fun _ k _ => (6 - k).toNat) ?_ ⟨rfl, by decide, vRow, h3⟩ (by decide)
  rintro is k τ ag ⟨e1, hk, t, hR⟩ hag
  subst e1
  refine wj0_intro True (fun _ => sL_cell hL (by decide) fun y => sL_low (by decide) (by decide) fun r r0 r1 c ec => ?_) (fun J hJ => ⟨⟨by omega, by omega⟩, fun _ => hJ trivial, fun z => one_eq (sL_cell hL (by omega) fun y => ⟨bA_pos y, sL_acts hR fun ρ t2 h2 => hag _ _ _ ⟨rfl, by omega, t2, h2⟩ (by omega)⟩)⟩)
  clear hag ag
  refine wl2s_invB 54 (fun is i τ => is = 1 ∧ (0 ≤ i ∧ i ≤ c) ∧ ∃ t : Rw, REL τ t) (fun _ i _ => (c - i).toNat) ?_ ⟨rfl, by omega, t, hR⟩ (by omega)
  clear hR t
  rintro is i τ ag ⟨e1, hi, t, hR⟩ hag
  subst e1
  refine wj0_intro True (fun _ => one_eq (sL_isSo hR fun ρ h2 => one_eq trivial)) (fun J hJ => ⟨⟨by omega, by omega⟩, ⟨by omega, by omega⟩, fun _ => hJ trivial, fun z => one_eq (sL_cell hL (by omega) fun y => sL_acts hR fun ρ t2 h2 => one_eq ⟨⟨by omega, by omega⟩, ⟨by omega, by omega⟩, fun w => hag _ _ _ ⟨rfl, by omega, t2, h2⟩ (by omega), fun w => sL_isSo h2 fun ρ2 h4 => one_eq (hag _ _ _ ⟨rfl, by omega, t2, h4⟩ (by omega))⟩)⟩)
