/-! ===== the start: both are new ===== -/
theorem vRow_rk {k : Int} (h0 : 0 ≤ k) (h1 : k < 12) : vRow (15 + 8 * k) = k := by
  unfold vRow
  rw [if_neg (by omega), if_neg (by omega), if_neg (by omega), if_neg (by omega), if_neg (by omega), if_neg (by omega), if_neg (by omega), if_pos (by omega)]
  omega
theorem vRow_gp {k : Int} (h0 : 0 ≤ k) (h1 : k < 12) : vRow (15 + 8 * k + 1) = -1 := by
  unfold vRow
  rw [if_neg (by omega), if_neg (by omega), if_neg (by omega), if_neg (by omega), if_neg (by omega), if_neg (by omega), if_neg (by omega), if_neg (by omega), if_pos (by omega)]
theorem vRow_nl {k : Int} (h0 : 0 ≤ k) (h1 : k < 12) : vRow (15 + 8 * k + 2) = 0 := by
  unfold vRow
  rw [if_neg (by omega), if_neg (by omega), if_neg (by omega), if_neg (by omega), if_neg (by omega), if_neg (by omega), if_neg (by omega), if_neg (by omega), if_neg (by omega)]
theorem vRow_wy {g : Int} (h0 : 0 ≤ g) (h1 : g < 5) : vRow (10 + g) = 0 := by
  unfold vRow
  rw [if_neg (by omega), if_neg (by omega), if_neg (by omega), if_neg (by omega), if_neg (by omega), if_neg (by omega), if_neg (by omega), if_neg (by omega), if_neg (by omega)]
theorem Dm_vRow : Dm vRow := by
  have r1 : ∀ k : Int, 0 ≤ k → k < 12 → rk vRow k = k := fun k h0 h1 => vRow_rk h0 h1
  have r2 : ∀ k : Int, 0 ≤ k → k < 12 → gp vRow k = -1 := fun k h0 h1 => vRow_gp h0 h1
  have r3 : ∀ k : Int, 0 ≤ k → k < 12 → nl vRow k = 0 := fun k h0 h1 => vRow_nl h0 h1
  refine ⟨by decide, by decide, by decide, by decide, by decide, by decide, by decide, by decide, by decide, by decide, fun g g0 g1 => ?_, fun k k0 k1 => ?_, fun k k0 k1 => ?_⟩
  · rw [vRow_wy g0 g1]; decide
  · rw [r1 k k0 k1, r2 k k0 k1, r3 k k0 k1]
    exact ⟨⟨by omega, by omega⟩, by decide, by decide, fun i i0 i1 => by omega, fun i i0 i1 => by omega⟩
  · have e : vRow 9 = 0 := by decide
    omega
theorem REL0 : REL σ0 := by
  have c162 : σ0 162 = vRow := rfl
  have c0 : σ0 0 = fun _ => 0 := rfl
  have c1 : σ0 1 = fun _ => 0 := rfl
  have c7 : σ0 7 = vRank := rfl
  have c8 : σ0 8 = vGroup := rfl
  have c9 : σ0 9 = fun _ => 0 := rfl
  have c11 : σ0 11 = fun _ => 0 := rfl
  have c12 : σ0 12 = vWin := rfl
  have c13 : σ0 13 = vSet := rfl
  have c14 : σ0 14 = fun _ => 0 := rfl
  have c24 : σ0 24 = fun _ => 0 := rfl
  have c70 : σ0 70 = fun _ => 0 := rfl
  have c93 : σ0 93 = fun _ => 0 := rfl
  have c161 : σ0 161 = fun _ => 0 := rfl
  have e9 : vRow 9 = 0 := by decide
  refine ⟨by rw [c162]; exact Dm_vRow, ?_, ⟨0, fun _ => vRow, ⟨by rw [c0]; decide, by rw [c0], by decide, fun j j0 j1 => by omega⟩, ⟨by rw [c161], fun j i j0 j1 => by omega⟩⟩, ⟨by rw [c93]; decide, by rw [c93, c161], fun i i0 i1 => absurd (show i < 0 by rw [c93] at i1; exact i1) (by omega)⟩, Or.inl (by rw [c14]), by rw [c24]; decide, by rw [c70]; decide⟩
  rw [c162]
  refine ⟨?_, fun k k0 k1 => by omega, fun k k0 k1 => ⟨?_, ?_, ?_, fun i i0 i1 => ?_⟩, fun g g0 g1 => ?_, fun j j0 j1 => ?_, fun j j0 j1 => ?_⟩
  · show σ0 1 5 = vRow 9
    rw [c1, e9]
  · show σ0 7 k = vRow (15 + 8 * k)
    rw [c7, vRow_rk k0 k1]
    unfold vRank
    rw [if_pos ⟨k0, k1⟩]
  · show σ0 8 k = vRow (15 + 8 * k + 1)
    rw [c8, vRow_gp k0 k1]
    unfold vGroup
    rw [if_pos ⟨k0, k1⟩]
  · show σ0 9 k = vRow (15 + 8 * k + 2)
    rw [c9, vRow_nl k0 k1]
  · have e : nl vRow k = 0 := vRow_nl k0 k1
    omega
  · show σ0 11 g = vRow (10 + g)
    rw [c11, vRow_wy g0 g1]
  · show σ0 12 j = vRow (4 + j)
    rw [c12]
    have : j = 0 ∨ j = 1 ∨ j = 2 ∨ j = 3 ∨ j = 4 := by omega
    rcases this with e | e | e | e | e <;> subst e <;> decide
  · show σ0 13 j = vRow j
    rw [c13]
    have : j = 0 ∨ j = 1 ∨ j = 2 ∨ j = 3 := by omega
    rcases this with e | e | e | e <;> subst e <;> decide
theorem rg_i32 (x : Int32) : Rg x.toInt := ⟨by have := Int32.le_toInt x; omega, by have := Int32.toInt_lt x; omega⟩
