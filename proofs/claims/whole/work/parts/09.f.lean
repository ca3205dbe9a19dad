/-! what each method needs, as a proposition: printed by wip/whole/gen/gen.py from the listing -/
def f_X0_vanish (b : Nat) (σ : St) (K : St → Prop) : Prop :=
  ∀ s1, s1 = up2 σ b 0 (-1) → ∀ s2, s2 = up2 s1 b 1 (-1) → ∀ s3, s3 = up2 s2 b 2 (-1) → ∀ s4, s4 = up2 s3 b 3 (-1) → ∀ s5, s5 = up2 s4 b 4 (-1) → ∀ s6, s6 = up2 s5 b 5 (-1) → K s6

def f_X0_moveTo (b : Nat) (q1 : Nat) (p2 : Int) (σ : St) (K : St → Prop) : Prop :=
  ∀ s1, s1 = up2 σ b 0 p2 → (wj1 (fun x4 => (wj1 (fun x7 => (wj1 (fun x9 => ∀ s10, s10 = up2 s1 b 1 ((s1 (q1 + 11) 0) + x9) → (Rg x7 ∧ (x7 = 0 → ∀ s11, s11 = up2 s10 b 2 ((s10 (q1 + 11) 1) + 0) → K s11) ∧ (¬ x7 = 0 → ∀ s12, s12 = up2 s10 b 2 ((s10 (q1 + 11) 1) + ((s10 (q1 + 11) 3) - (s10 b 4))) → K s12))) (fun jj64 => (Rg x4 ∧ (x4 = 0 → jj64 0) ∧ (¬ x4 = 0 → jj64 ((s1 (q1 + 11) 2) - (s1 b 3))))))) (fun jj36 => (wj0 (jj36 1) (fun jj31 => (Rg p2 ∧ (p2 = 2 → jj31) ∧ (¬ p2 = 2 → (Rg p2 ∧ (p2 ≠ 3 → jj36 0) ∧ (¬ p2 ≠ 3 → jj31))))))))) (fun jj20 => (wj0 (jj20 1) (fun jj15 => (Rg p2 ∧ (p2 = 1 → jj15) ∧ (¬ p2 = 1 → (Rg p2 ∧ (p2 ≠ 3 → jj20 0) ∧ (¬ p2 ≠ 3 → jj15))))))))

def f_X0_covers (b : Nat) (q1 : Nat) (p2 : Int) (σ : St) (K : Int → Prop) : Prop :=
  (0 ≤ p2 ∧ p2 < 40) ∧ ∀ x1, x1 = (σ (q1 + 2) p2) - (σ b 1) → (0 ≤ p2 ∧ p2 < 40) ∧ ∀ x2, x2 = (σ (q1 + 3) p2) - (σ b 2) → (Rg (σ b 0) ∧ (σ b 0 = (-1) → K 0) ∧ (¬ σ b 0 = (-1) → (Rg x1 ∧ (x1 < 0 → K 0) ∧ (¬ x1 < 0 → (Rg x1 ∧ Rg (σ b 3) ∧ (x1 ≥ σ b 3 → K 0) ∧ (¬ x1 ≥ σ b 3 → (Rg x2 ∧ (x2 < 0 → K 0) ∧ (¬ x2 < 0 → (Rg x2 ∧ Rg (σ b 4) ∧ (x2 ≥ σ b 4 → K 0) ∧ (¬ x2 ≥ σ b 4 → K 1))))))))))

def f_X0_countCovered (b : Nat) (q1 : Nat) (q2 : Nat) (σ : St) (K : Int → Prop) : Prop :=
  (∃ n, wl2 (fun x1 x2 ag5 => (Rg x2 ∧ Rg (σ q1 5) ∧ (x2 ≥ σ q1 5 → K x1) ∧ (¬ x2 ≥ σ q1 5 → (0 ≤ x2 ∧ x2 < 40) ∧ (Rg (σ q2 x2) ∧ (σ q2 x2 = 0 → ag5 x1 (x2 + 1)) ∧ (¬ σ q2 x2 = 0 → f_X0_covers b q1 x2 σ (fun x3 => (Rg x3 ∧ (x3 = 0 → ag5 x1 (x2 + 1)) ∧ (¬ x3 = 0 → ag5 (x1 + 1) (x2 + 1))))))))) n 0 0)

def f_X0_place (b : Nat) (q1 : Nat) (q2 : Nat) (q3 : Nat) (σ : St) (K : St → Prop) : Prop :=
  (Rg (σ q2 0) ∧ (σ q2 0 > 0 → Rg ((σ (q1 + 12) 2) * (σ q2 9)) ∧ Rg (σ (q1 + 11) 2) ∧ ∀ s1, s1 = up2 σ b 3 ((if σ (q1 + 11) 2 < (σ (q1 + 12) 2) * (σ q2 9) then σ (q1 + 11) 2 else (σ (q1 + 12) 2) * (σ q2 9))) → Rg ((s1 (q1 + 12) 3) * (s1 q2 10)) ∧ Rg (s1 (q1 + 11) 3) ∧ ∀ s2, s2 = up2 s1 b 4 ((if s1 (q1 + 11) 3 < (s1 (q1 + 12) 3) * (s1 q2 10) then s1 (q1 + 11) 3 else (s1 (q1 + 12) 3) * (s1 q2 10))) → (∃ n, wl3s (fun x3 x4 x5 s6 ag70 => (Rg x5 ∧ (x5 ≥ 4 → f_X0_moveTo b q1 x3 s6 (fun s7 => ∀ s8, s8 = up2 s7 b 5 x4 → K s8)) ∧ (¬ x5 ≥ 4 → f_X0_moveTo b q1 x5 s6 (fun s9 => f_X0_countCovered b q1 q3 s9 (fun x10 => (Rg x10 ∧ Rg x4 ∧ (x10 ≥ x4 → ag70 x3 x4 (x5 + 1) s9) ∧ (¬ x10 ≥ x4 → ag70 x5 x10 (x5 + 1) s9))))))) n 0 41 0 s2)) ∧ (¬ σ q2 0 > 0 → f_X0_vanish b σ (fun s11 => K s11)))

def f_X0_fact (b : Nat) (p1 : Int) (σ : St) (K : Int → Prop) : Prop :=
  (Rg p1 ∧ (p1 = 0 → K (σ b 0)) ∧ (p1 = 1 → K (σ b 1)) ∧ (p1 = 2 → K (σ b 2)) ∧ (p1 = 3 → K (σ b 3)) ∧ (p1 = 4 → K (σ b 4)) ∧ (p1 < 0 ∨ 4 < p1 → K (σ b 5)))

def f_X3_isInWindow (b : Nat) (p1 : Int) (σ : St) (K : Int → Prop) : Prop :=
  (0 ≤ p1 ∧ p1 < 40) ∧ ∀ x1, x1 = (σ (b + 2) p1) - (σ (b + 11) 0) → (0 ≤ p1 ∧ p1 < 40) ∧ ∀ x2, x2 = (σ (b + 3) p1) - (σ (b + 11) 1) → (Rg x1 ∧ (x1 < 0 → K 0) ∧ (¬ x1 < 0 → (Rg x1 ∧ Rg (σ (b + 11) 2) ∧ (x1 ≥ σ (b + 11) 2 → K 0) ∧ (¬ x1 ≥ σ (b + 11) 2 → (Rg x2 ∧ (x2 < 0 → K 0) ∧ (¬ x2 < 0 → (Rg x2 ∧ Rg (σ (b + 11) 3) ∧ (x2 ≥ σ (b + 11) 3 → K 0) ∧ (¬ x2 ≥ σ (b + 11) 3 → K 1))))))))

def f_X3_isShown (b : Nat) (p1 : Int) (σ : St) (K : Int → Prop) : Prop :=
  (0 ≤ p1 ∧ p1 < 40) ∧ (Rg (σ (b + 5) p1) ∧ Rg (σ (b + 11) 4) ∧ (σ (b + 5) p1 > σ (b + 11) 4 → K 0) ∧ (¬ σ (b + 5) p1 > σ (b + 11) 4 → f_X3_isInWindow b p1 σ (fun x1 => (Rg x1 ∧ (x1 = 0 → K 0) ∧ (¬ x1 = 0 → K 1)))))

def f_X1_seeAllShown (b : Nat) (q1 : Nat) (σ : St) (K : St → Prop) : Prop :=
  ∀ s1, s1 = up2 σ b 3 0 → (∃ n, wl1s (fun x2 s3 ag7 => (Rg x2 ∧ (x2 ≥ 40 → K s3) ∧ (¬ x2 ≥ 40 → (wj1 (fun x7 => (0 ≤ x2 ∧ x2 < 40) ∧ Bl x7 ∧ ∀ s8, s8 = up2 s3 (b + 1) x2 x7 → (0 ≤ x2 ∧ x2 < 40) ∧ (0 ≤ x2 ∧ x2 < 40) ∧ Bl (s8 (b + 1) x2) ∧ ∀ s9, s9 = up2 s8 (b + 2) x2 (s8 (b + 1) x2) → (0 ≤ x2 ∧ x2 < 40) ∧ (Rg (s9 (b + 1) x2) ∧ (s9 (b + 1) x2 = 0 → ∀ s10, s10 = up2 s9 b 3 ((s9 b 3) + 0) → ag7 (x2 + 1) s10) ∧ (¬ s9 (b + 1) x2 = 0 → ∀ s11, s11 = up2 s9 b 3 ((s9 b 3) + 1) → ag7 (x2 + 1) s11))) (fun jj39 => (wj0 (jj39 0) (fun jj38 => (Rg x2 ∧ Rg (s3 q1 5) ∧ (x2 ≥ s3 q1 5 → jj38) ∧ (¬ x2 ≥ s3 q1 5 → f_X3_isShown q1 x2 s3 (fun x6 => (Rg x6 ∧ (x6 = 0 → jj38) ∧ (¬ x6 = 0 → jj39 1)))))))))))) n 0 s1)

def f_X1_hideCovered (b : Nat) (q1 : Nat) (σ : St) (K : St → Prop) : Prop :=
  (∃ n, wl1s (fun x1 s2 ag2 => (Rg x1 ∧ (x1 ≥ 40 → K s2) ∧ (¬ x1 ≥ 40 → (0 ≤ x1 ∧ x1 < 40) ∧ (Rg (s2 (b + 1) x1) ∧ (s2 (b + 1) x1 = 0 → (0 ≤ x1 ∧ x1 < 40) ∧ ∀ s3, s3 = up2 s2 (b + 2) x1 0 → ag2 (x1 + 1) s3) ∧ (¬ s2 (b + 1) x1 = 0 → f_X0_covers (b + 32) q1 x1 s2 (fun x4 => (Rg x4 ∧ (x4 ≠ 0 → (0 ≤ x1 ∧ x1 < 40) ∧ ∀ s5, s5 = up2 s2 (b + 2) x1 0 → ag2 (x1 + 1) s5) ∧ (¬ x4 ≠ 0 → (0 ≤ x1 ∧ x1 < 40) ∧ ∀ s6, s6 = up2 s2 (b + 2) x1 1 → ag2 (x1 + 1) s6)))))))) n 0 σ)

def f_X2_copyFrom (b : Nat) (q1 : Nat) (σ : St) (K : St → Prop) : Prop :=
  ∀ s1, s1 = up2 σ b 0 (σ q1 0) → (∃ n, wl1s (fun x2 s3 ag10 => (Rg x2 ∧ Rg (s3 b 0) ∧ (x2 ≥ s3 b 0 → K s3) ∧ (¬ x2 ≥ s3 b 0 → (0 ≤ x2 ∧ x2 < 77) ∧ (0 ≤ x2 ∧ x2 < 77) ∧ ∀ s4, s4 = up2 s3 (b + 1) x2 (s3 (q1 + 1) x2) → (0 ≤ x2 ∧ x2 < 77) ∧ (0 ≤ x2 ∧ x2 < 77) ∧ ∀ s5, s5 = up2 s4 (b + 2) x2 (s4 (q1 + 2) x2) → (0 ≤ x2 ∧ x2 < 77) ∧ (0 ≤ x2 ∧ x2 < 77) ∧ ∀ s6, s6 = up2 s5 (b + 3) x2 (s5 (q1 + 3) x2) → (0 ≤ x2 ∧ x2 < 77) ∧ (0 ≤ x2 ∧ x2 < 77) ∧ ∀ s7, s7 = up2 s6 (b + 4) x2 (s6 (q1 + 4) x2) → (0 ≤ x2 ∧ x2 < 77) ∧ (0 ≤ x2 ∧ x2 < 77) ∧ ∀ s8, s8 = up2 s7 (b + 5) x2 (s7 (q1 + 5) x2) → ag10 (x2 + 1) s8))) n 0 s1)

def f_X3_classOf (b : Nat) (p1 : Int) (σ : St) (K : Int → Prop) : Prop :=
  (0 ≤ p1 ∧ p1 < 40) ∧ ∀ x1, x1 = σ (b + 1) p1 → (∃ n, wl2 (fun x2 x3 ag12 => (0 ≤ x1 ∧ x1 < 12) ∧ (Rg x3 ∧ Rg (σ (b + 8) x1) ∧ (x3 ≥ σ (b + 8) x1 → K x2) ∧ (¬ x3 ≥ σ (b + 8) x1 → (0 ≤ (x1 * 5) + x3 ∧ (x1 * 5) + x3 < 60) ∧ (0 ≤ p1 ∧ p1 < 40) ∧ (Rg (σ (b + 9) ((x1 * 5) + x3)) ∧ Rg (σ (b + 4) p1) ∧ (σ (b + 9) ((x1 * 5) + x3) > σ (b + 4) p1 → ag12 x2 (x3 + 1)) ∧ (¬ σ (b + 9) ((x1 * 5) + x3) > σ (b + 4) p1 → ag12 (x2 + 1) (x3 + 1)))))) n 0 0)

def f_X4_countSigns (b : Nat) (q1 : Nat) (q2 : Nat) (σ : St) (K : St → Prop) : Prop :=
  (∃ n, wl1s (fun x1 s2 ag2 => (Rg x1 ∧ (x1 ≥ 12 → (∃ n, wl1s (fun x3 s4 ag23 => (Rg x3 ∧ (x3 ≥ 72 → (∃ n, wl1s (fun x5 s6 ag44 => (Rg x5 ∧ Rg (s6 q1 5) ∧ (x5 ≥ s6 q1 5 → K s6) ∧ (¬ x5 ≥ s6 q1 5 → (0 ≤ x5 ∧ x5 < 40) ∧ (Rg (s6 q2 x5) ∧ (s6 q2 x5 = 0 → ag44 (x5 + 1) s6) ∧ (¬ s6 q2 x5 = 0 → (0 ≤ x5 ∧ x5 < 40) ∧ ∀ x7, x7 = s6 (q1 + 1) x5 → (0 ≤ x7 ∧ x7 < 12) ∧ (0 ≤ x7 ∧ x7 < 12) ∧ ∀ s8, s8 = up2 s6 (b + 1) x7 ((s6 (b + 1) x7) + 1) → f_X3_classOf q1 x5 s8 (fun x9 => (0 ≤ (x7 * 6) + x9 ∧ (x7 * 6) + x9 < 72) ∧ (0 ≤ (x7 * 6) + x9 ∧ (x7 * 6) + x9 < 72) ∧ ∀ s10, s10 = up2 s8 (b + 2) ((x7 * 6) + x9) ((s8 (b + 2) ((x7 * 6) + x9)) + 1) → ag44 (x5 + 1) s10)))))) n 0 s4)) ∧ (¬ x3 ≥ 72 → (0 ≤ x3 ∧ x3 < 72) ∧ ∀ s11, s11 = up2 s4 (b + 2) x3 0 → ag23 (x3 + 1) s11))) n 0 s2)) ∧ (¬ x1 ≥ 12 → (0 ≤ x1 ∧ x1 < 12) ∧ ∀ s12, s12 = up2 s2 (b + 1) x1 0 → ag2 (x1 + 1) s12))) n 0 σ)

def f_X4_takeClasses (b : Nat) (p1 : Int) (σ : St) (K : St → Prop) : Prop :=
  ∀ x1, x1 = p1 * 6 → (0 ≤ p1 ∧ p1 < 12) ∧ ∀ s2, s2 = up2 σ (b + 3) p1 0 → (∃ n, wl1s (fun x3 s4 ag14 => (Rg x3 ∧ (x3 ≥ 6 → K s4) ∧ (¬ x3 ≥ 6 → (0 ≤ x1 + x3 ∧ x1 + x3 < 72) ∧ (Rg (s4 (b + 2) (x1 + x3)) ∧ (s4 (b + 2) (x1 + x3) ≤ 0 → ag14 (x3 + 1) s4) ∧ (¬ s4 (b + 2) (x1 + x3) ≤ 0 → (0 ≤ p1 ∧ p1 < 12) ∧ ∀ x5, x5 = x1 + (s4 (b + 3) p1) → (0 ≤ x5 ∧ x5 < 72) ∧ ∀ s6, s6 = up2 s4 (b + 4) x5 x3 → (0 ≤ x5 ∧ x5 < 72) ∧ ∀ s7, s7 = up2 s6 (b + 5) x5 x3 → (0 ≤ x1 + x3 ∧ x1 + x3 < 72) ∧ (0 ≤ x5 ∧ x5 < 72) ∧ ∀ s8, s8 = up2 s7 (b + 6) x5 (s7 (b + 2) (x1 + x3)) → (0 ≤ p1 ∧ p1 < 12) ∧ (0 ≤ p1 ∧ p1 < 12) ∧ ∀ s9, s9 = up2 s8 (b + 3) p1 ((s8 (b + 3) p1) + 1) → ag14 (x3 + 1) s9))))) n 0 s2)

def f_X4_joinFewest (b : Nat) (p1 : Int) (σ : St) (K : St → Prop) : Prop :=
  ∀ x1, x1 = p1 * 6 → (0 ≤ p1 ∧ p1 < 12) ∧ ∀ x2, x2 = x1 + (σ (b + 3) p1) → ∀ x3, x3 = x1 + 1 → (∃ n, wl2 (fun x4 x5 ag22 => (Rg (x5 + 1) ∧ Rg x2 ∧ (x5 + 1 ≥ x2 → (0 ≤ x4 + 1 ∧ x4 + 1 < 72) ∧ (0 ≤ x4 ∧ x4 < 72) ∧ ∀ s6, s6 = up2 σ (b + 5) x4 (σ (b + 5) (x4 + 1)) → (0 ≤ x4 ∧ x4 < 72) ∧ (0 ≤ x4 + 1 ∧ x4 + 1 < 72) ∧ (0 ≤ x4 ∧ x4 < 72) ∧ ∀ s7, s7 = up2 s6 (b + 6) x4 ((s6 (b + 6) x4) + (s6 (b + 6) (x4 + 1))) → ∀ x8, x8 = x4 + 1 → (∃ n, wl1s (fun x9 s10 ag118 => (Rg (x9 + 1) ∧ Rg x2 ∧ (x9 + 1 ≥ x2 → (0 ≤ p1 ∧ p1 < 12) ∧ (0 ≤ p1 ∧ p1 < 12) ∧ ∀ s11, s11 = up2 s10 (b + 3) p1 ((s10 (b + 3) p1) - 1) → K s11) ∧ (¬ x9 + 1 ≥ x2 → (0 ≤ x9 + 1 ∧ x9 + 1 < 72) ∧ (0 ≤ x9 ∧ x9 < 72) ∧ ∀ s12, s12 = up2 s10 (b + 4) x9 (s10 (b + 4) (x9 + 1)) → (0 ≤ x9 + 1 ∧ x9 + 1 < 72) ∧ (0 ≤ x9 ∧ x9 < 72) ∧ ∀ s13, s13 = up2 s12 (b + 5) x9 (s12 (b + 5) (x9 + 1)) → (0 ≤ x9 + 1 ∧ x9 + 1 < 72) ∧ (0 ≤ x9 ∧ x9 < 72) ∧ ∀ s14, s14 = up2 s13 (b + 6) x9 (s13 (b + 6) (x9 + 1)) → ag118 (x9 + 1) s14))) n x8 s7)) ∧ (¬ x5 + 1 ≥ x2 → (0 ≤ x5 ∧ x5 < 72) ∧ (0 ≤ x5 + 1 ∧ x5 + 1 < 72) ∧ (0 ≤ x4 ∧ x4 < 72) ∧ (0 ≤ x4 + 1 ∧ x4 + 1 < 72) ∧ (Rg ((σ (b + 6) x5) + (σ (b + 6) (x5 + 1))) ∧ Rg ((σ (b + 6) x4) + (σ (b + 6) (x4 + 1))) ∧ ((σ (b + 6) x5) + (σ (b + 6) (x5 + 1)) ≥ (σ (b + 6) x4) + (σ (b + 6) (x4 + 1)) → ag22 x4 (x5 + 1)) ∧ (¬ (σ (b + 6) x5) + (σ (b + 6) (x5 + 1)) ≥ (σ (b + 6) x4) + (σ (b + 6) (x4 + 1)) → ag22 x5 (x5 + 1)))))) n x1 x3)

def f_X4_build (b : Nat) (q1 : Nat) (q2 : Nat) (σ : St) (K : St → Prop) : Prop :=
  f_X4_countSigns b q1 q2 σ (fun s1 => (∃ n, wl1s (fun x2 s3 ag8 => (Rg x2 ∧ (x2 ≥ 12 → K s3) ∧ (¬ x2 ≥ 12 → f_X4_takeClasses b x2 s3 (fun s4 => Rg (s4 (q1 + 12) 0) ∧ ∀ x5, x5 = (if s4 (q1 + 12) 0 < 1 then 1 else s4 (q1 + 12) 0) → (∃ n, wl1s (fun x6 s7 ag34 => (Rg x6 ∧ (x6 ≥ 6 → ag8 (x2 + 1) s7) ∧ (¬ x6 ≥ 6 → (0 ≤ x2 ∧ x2 < 12) ∧ (Rg (s7 (b + 3) x2) ∧ Rg x5 ∧ (s7 (b + 3) x2 ≤ x5 → ag8 (x2 + 1) s7) ∧ (¬ s7 (b + 3) x2 ≤ x5 → f_X4_joinFewest b x2 s7 (fun s8 => ag34 (x6 + 1) s8)))))) n 0 s4))))) n 0 s1))

def f_X2_orderKinds (b : Nat) (q1 : Nat) (q2 : Nat) (σ : St) (K : St → Prop) : Prop :=
  ∀ s1, s1 = up2 σ b 12 0 → (∃ n, wl1s (fun x2 s3 ag7 => (Rg x2 ∧ (x2 ≥ 12 → K s3) ∧ (¬ x2 ≥ 12 → (0 ≤ x2 ∧ x2 < 12) ∧ (Rg (s3 (q2 + 3) x2) ∧ (s3 (q2 + 3) x2 ≤ 0 → ag7 (x2 + 1) s3) ∧ (¬ s3 (q2 + 3) x2 ≤ 0 → ∀ x4, x4 = s3 b 12 → (∃ n, wl1s (fun x5 s6 ag28 => (wj0 ((0 ≤ x5 ∧ x5 < 12) ∧ ∀ s9, s9 = up2 s6 (b + 9) x5 x2 → ∀ s10, s10 = up2 s9 b 12 ((s9 b 12) + 1) → ag7 (x2 + 1) s10) (fun jj78 => (Rg x5 ∧ (x5 ≤ 0 → jj78) ∧ (¬ x5 ≤ 0 → (0 ≤ x5 - 1 ∧ x5 - 1 < 12) ∧ (0 ≤ s6 (b + 9) (x5 - 1) ∧ s6 (b + 9) (x5 - 1) < 12) ∧ (0 ≤ x2 ∧ x2 < 12) ∧ (Rg (s6 (q1 + 6) (s6 (b + 9) (x5 - 1))) ∧ Rg (s6 (q1 + 6) x2) ∧ (s6 (q1 + 6) (s6 (b + 9) (x5 - 1)) ≤ s6 (q1 + 6) x2 → jj78) ∧ (¬ s6 (q1 + 6) (s6 (b + 9) (x5 - 1)) ≤ s6 (q1 + 6) x2 → (0 ≤ x5 - 1 ∧ x5 - 1 < 12) ∧ (0 ≤ x5 ∧ x5 < 12) ∧ ∀ s8, s8 = up2 s6 (b + 9) x5 (s6 (b + 9) (x5 - 1)) → ag28 (x5 + (-1)) s8))))))) n x4 s3)))))) n 0 s1)

def f_X2_add (b : Nat) (p1 : Int) (p2 : Int) (p3 : Int) (p4 : Int) (p5 : Int) (p6 : Int) (σ : St) (K : St → Prop) : Prop :=
  (Rg (σ b 0) ∧ (σ b 0 < 77 → (0 ≤ σ b 0 ∧ σ b 0 < 77) ∧ ∀ s1, s1 = up2 σ (b + 1) (σ b 0) p1 → (0 ≤ s1 b 0 ∧ s1 b 0 < 77) ∧ ∀ s2, s2 = up2 s1 (b + 2) (s1 b 0) p2 → (0 ≤ s2 b 0 ∧ s2 b 0 < 77) ∧ ∀ s3, s3 = up2 s2 (b + 3) (s2 b 0) p3 → (0 ≤ s3 b 0 ∧ s3 b 0 < 77) ∧ ∀ s4, s4 = up2 s3 (b + 4) (s3 b 0) p4 → (0 ≤ s4 b 0 ∧ s4 b 0 < 77) ∧ ∀ s5, s5 = up2 s4 (b + 5) (s4 b 0) p5 → (0 ≤ s5 b 0 ∧ s5 b 0 < 77) ∧ ∀ s6, s6 = up2 s5 (b + 6) (s5 b 0) p6 → ∀ s7, s7 = up2 s6 b 0 ((s6 b 0) + 1) → K s7) ∧ (¬ σ b 0 < 77 → K σ))

def f_X2_addKindLines (b : Nat) (p1 : Int) (p2 : Int) (q3 : Nat) (σ : St) (K : St → Prop) : Prop :=
  ∀ x1, x1 = p1 * 6 → (∃ n, wl1s (fun x2 s3 ag10 => (0 ≤ p1 ∧ p1 < 12) ∧ (Rg x2 ∧ Rg (x1 + (s3 (q3 + 3) p1)) ∧ (x2 ≥ x1 + (s3 (q3 + 3) p1) → K s3) ∧ (¬ x2 ≥ x1 + (s3 (q3 + 3) p1) → (0 ≤ x2 ∧ x2 < 72) ∧ (0 ≤ x2 ∧ x2 < 72) ∧ (0 ≤ x2 ∧ x2 < 72) ∧ f_X2_add b 0 p1 p2 (s3 (q3 + 4) x2) (s3 (q3 + 5) x2) (s3 (q3 + 6) x2) s3 (fun s4 => ag10 (x2 + 1) s4)))) n x1 σ)

def f_X2_addGroup (b : Nat) (q1 : Nat) (p2 : Int) (q3 : Nat) (σ : St) (K : St → Prop) : Prop :=
  (∃ n, wl4 (fun x1 x2 x3 x4 ag12 => (Rg x4 ∧ (x4 ≥ 12 → (0 ≤ p2 ∧ p2 < 5) ∧ (wj0 ((wj0s (fun s9 => (∃ n, wl1s (fun x10 s11 ag125 => (Rg x10 ∧ Rg (s11 b 12) ∧ (x10 ≥ s11 b 12 → K s11) ∧ (¬ x10 ≥ s11 b 12 → (0 ≤ x10 ∧ x10 < 12) ∧ (0 ≤ s11 (b + 9) x10 ∧ s11 (b + 9) x10 < 12) ∧ (Rg (s11 (q1 + 7) (s11 (b + 9) x10)) ∧ Rg p2 ∧ (s11 (q1 + 7) (s11 (b + 9) x10) ≠ p2 → ag125 (x10 + 1) s11) ∧ (¬ s11 (q1 + 7) (s11 (b + 9) x10) ≠ p2 → (0 ≤ x10 ∧ x10 < 12) ∧ f_X2_addKindLines b (s11 (b + 9) x10) p2 q3 s11 (fun s12 => ag125 (x10 + 1) s12)))))) n 0 s9)) (fun jj122 => (Rg x2 ∧ (x2 < 2 → jj122 σ) ∧ (¬ x2 < 2 → f_X2_add b 1 (-1) p2 (-1) (-1) 0 σ (fun s8 => jj122 s8)))))) (fun jj106 => (Rg (σ (q1 + 10) p2) ∧ (σ (q1 + 10) p2 ≠ 1 → jj106) ∧ (¬ σ (q1 + 10) p2 ≠ 1 → (Rg x2 ∧ (x2 < 2 → jj106) ∧ (¬ x2 < 2 → (Rg x2 ∧ Rg x1 ∧ (x2 ≠ x1 → jj106) ∧ (¬ x2 ≠ x1 → f_X2_add b 2 (-1) p2 (-1) (-1) x3 σ (fun s6 => K s6)))))))))) ∧ (¬ x4 ≥ 12 → (0 ≤ x4 ∧ x4 < 12) ∧ (Rg (σ (q1 + 7) x4) ∧ Rg p2 ∧ (σ (q1 + 7) x4 ≠ p2 → ag12 x1 x2 x3 (x4 + 1)) ∧ (¬ σ (q1 + 7) x4 ≠ p2 → (0 ≤ x4 ∧ x4 < 12) ∧ (wj1 (fun x14 => ∀ x15, x15 = x2 + x14 → (0 ≤ x4 ∧ x4 < 12) ∧ ∀ x16, x16 = x3 + (σ (q3 + 1) x4) → ag12 (x1 + 1) x15 x16 (x4 + 1)) (fun jj50 => (Rg (σ (q3 + 3) x4) ∧ (σ (q3 + 3) x4 ≤ 0 → jj50 0) ∧ (¬ σ (q3 + 3) x4 ≤ 0 → jj50 1))))))))) n 0 0 0 0)

def f_X2_compose (b : Nat) (q1 : Nat) (q2 : Nat) (σ : St) (K : St → Prop) : Prop :=
  ∀ s1, s1 = up2 σ b 0 0 → f_X2_orderKinds b q1 q2 s1 (fun s2 => (∃ n, wl1s (fun x3 s4 ag13 => (Rg x3 ∧ (x3 ≥ 5 → (∃ n, wl1s (fun x5 s6 ag33 => (Rg x5 ∧ Rg (s6 b 12) ∧ (x5 ≥ s6 b 12 → K s6) ∧ (¬ x5 ≥ s6 b 12 → (0 ≤ x5 ∧ x5 < 12) ∧ ∀ x7, x7 = s6 (b + 9) x5 → (0 ≤ x7 ∧ x7 < 12) ∧ ∀ x8, x8 = s6 (q1 + 7) x7 → (wj0 (f_X2_addKindLines b x7 (-1) q2 s6 (fun s12 => ag33 (x5 + 1) s12)) (fun jj69 => (Rg x8 ∧ (x8 < 0 → jj69) ∧ (¬ x8 < 0 → (Rg x8 ∧ (x8 < 5 → (0 ≤ x8 ∧ x8 < 5) ∧ (Rg (s6 (b + 10) x8) ∧ (s6 (b + 10) x8 ≠ 0 → ag33 (x5 + 1) s6) ∧ (¬ s6 (b + 10) x8 ≠ 0 → (0 ≤ x8 ∧ x8 < 5) ∧ ∀ s10, s10 = up2 s6 (b + 10) x8 1 → f_X2_addGroup b q1 x8 q2 s10 (fun s11 => ag33 (x5 + 1) s11)))) ∧ (¬ x8 < 5 → jj69))))))))) n 0 s4)) ∧ (¬ x3 ≥ 5 → (0 ≤ x3 ∧ x3 < 5) ∧ ∀ s13, s13 = up2 s4 (b + 10) x3 0 → ag13 (x3 + 1) s13))) n 0 s2))

def f_X2_layOut (b : Nat) (p1 : Int) (σ : St) (K : St → Prop) : Prop :=
  (wj1 (fun x2 => ∀ s3, s3 = up2 σ b 10 0 → (∃ n, wl3s (fun x4 x5 x6 s7 ag35 => (Rg x6 ∧ Rg (s7 b 0) ∧ (x6 ≥ s7 b 0 → (Rg (s7 b 0) ∧ (s7 b 0 ≤ 0 → ∀ s8, s8 = up2 s7 b 9 0 → K s8) ∧ (¬ s7 b 0 ≤ 0 → ∀ s9, s9 = up2 s7 b 9 (x4 + 1) → K s9))) ∧ (¬ x6 ≥ s7 b 0 → (wj1 (fun x13 => (wj2 (fun x15 x16 => (0 ≤ x6 ∧ x6 < 77) ∧ ∀ s17, s17 = up2 s7 (b + 7) x6 x15 → (0 ≤ x6 ∧ x6 < 77) ∧ ∀ s18, s18 = up2 s17 (b + 8) x6 x16 → Rg (s18 b 10) ∧ Rg (x16 + 1) ∧ ∀ s19, s19 = up2 s18 b 10 (if s18 b 10 < x16 + 1 then x16 + 1 else s18 b 10) → ag35 x15 (x16 + 1) (x6 + 1) s19) (fun jj100 => (Rg x13 ∧ (x13 = 0 → jj100 x4 x5) ∧ (¬ x13 = 0 → (Rg x4 ∧ Rg (p1 - 1) ∧ (x4 ≥ p1 - 1 → jj100 x4 x5) ∧ (¬ x4 ≥ p1 - 1 → jj100 (x4 + 1) 0))))))) (fun jj80 => (wj0 (jj80 1) (fun jj75 => (Rg x5 ∧ Rg x2 ∧ (x5 ≥ x2 → jj75) ∧ (¬ x5 ≥ x2 → (0 ≤ x6 ∧ x6 < 77) ∧ (wj0 (jj80 0) (fun jj79 => (Rg (s7 (b + 1) x6) ∧ (s7 (b + 1) x6 ≠ 1 → jj79) ∧ (¬ s7 (b + 1) x6 ≠ 1 → (Rg x5 ∧ (x5 < 1 → jj79) ∧ (¬ x5 < 1 → (Rg x5 ∧ Rg (x2 - 1) ∧ (x5 < x2 - 1 → jj79) ∧ (¬ x5 < x2 - 1 → jj75))))))))))))))))) n 0 0 0 s3)) (fun jj21 => (Rg p1 ∧ (p1 ≤ 0 → jj21 (σ b 0)) ∧ (¬ p1 ≤ 0 → (0 ≤ ((σ b 0) + p1) - 1 ∧ ((σ b 0) + p1) - 1 ≤ 2147483647) ∧ (0 < p1 ∧ p1 ≤ 2147483647) ∧ jj21 ((((σ b 0) + p1) - 1) / p1)))))

def f_X2_isSameAs (b : Nat) (q1 : Nat) (σ : St) (K : Int → Prop) : Prop :=
  (Rg (σ b 0) ∧ Rg (σ q1 0) ∧ (σ b 0 = σ q1 0 → (∃ n, wl1 (fun x1 ag15 => (Rg x1 ∧ Rg (σ b 0) ∧ (x1 ≥ σ b 0 → K 1) ∧ (¬ x1 ≥ σ b 0 → (0 ≤ x1 ∧ x1 < 77) ∧ (0 ≤ x1 ∧ x1 < 77) ∧ (Rg (σ (b + 1) x1) ∧ Rg (σ (q1 + 1) x1) ∧ (σ (b + 1) x1 ≠ σ (q1 + 1) x1 → K 0) ∧ (¬ σ (b + 1) x1 ≠ σ (q1 + 1) x1 → (0 ≤ x1 ∧ x1 < 77) ∧ (0 ≤ x1 ∧ x1 < 77) ∧ (Rg (σ (b + 2) x1) ∧ Rg (σ (q1 + 2) x1) ∧ (σ (b + 2) x1 ≠ σ (q1 + 2) x1 → K 0) ∧ (¬ σ (b + 2) x1 ≠ σ (q1 + 2) x1 → (0 ≤ x1 ∧ x1 < 77) ∧ (0 ≤ x1 ∧ x1 < 77) ∧ (Rg (σ (b + 3) x1) ∧ Rg (σ (q1 + 3) x1) ∧ (σ (b + 3) x1 ≠ σ (q1 + 3) x1 → K 0) ∧ (¬ σ (b + 3) x1 ≠ σ (q1 + 3) x1 → (0 ≤ x1 ∧ x1 < 77) ∧ (0 ≤ x1 ∧ x1 < 77) ∧ (Rg (σ (b + 4) x1) ∧ Rg (σ (q1 + 4) x1) ∧ (σ (b + 4) x1 ≠ σ (q1 + 4) x1 → K 0) ∧ (¬ σ (b + 4) x1 ≠ σ (q1 + 4) x1 → (0 ≤ x1 ∧ x1 < 77) ∧ (0 ≤ x1 ∧ x1 < 77) ∧ (Rg (σ (b + 5) x1) ∧ Rg (σ (q1 + 5) x1) ∧ (σ (b + 5) x1 = σ (q1 + 5) x1 → ag15 (x1 + 1)) ∧ (¬ σ (b + 5) x1 = σ (q1 + 5) x1 → K 0))))))))))))) n 0)) ∧ (¬ σ b 0 = σ q1 0 → K 0))

def f_X1_makeRound (b : Nat) (q1 : Nat) (p2 : Int) (σ : St) (K : St → Prop) : Prop :=
  f_X2_copyFrom (b + 21) (b + 10) σ (fun s1 => f_X4_build (b + 3) q1 (b + 2) s1 (fun s2 => f_X2_compose (b + 10) q1 (b + 3) s2 (fun s3 => f_X2_layOut (b + 10) (s3 (q1 + 12) 1) s3 (fun s4 => f_X0_place (b + 32) q1 (b + 10) (b + 1) s4 (fun s5 => ∀ s6, s6 = up2 s5 b 9 p2 → (Rg p2 ∧ (p2 ≠ 1 → f_X2_isSameAs (b + 10) (b + 21) s6 (fun x7 => Bl x7 ∧ ∀ s8, s8 = up2 s6 b 10 x7 → K s8)) ∧ (¬ p2 ≠ 1 → ∀ s9, s9 = up2 s6 b 11 (s6 (b + 10) 0) → K s9)))))))

def f_X1_make (b : Nat) (q1 : Nat) (σ : St) (K : St → Prop) : Prop :=
  (Rg (σ b 0) ∧ (σ b 0 = 0 → f_X1_seeAllShown b q1 σ (fun s1 => ∀ s2, s2 = up2 s1 b 10 0 → (∃ n, wl1s (fun x3 s4 ag20 => (wj0 (∀ s10, s10 = up2 s4 b 4 0 → (∃ n, wl1s (fun x11 s12 ag62 => (Rg x11 ∧ (x11 ≥ 40 → ∀ s13, s13 = up2 s12 b 0 1 → K s13) ∧ (¬ x11 ≥ 40 → (0 ≤ x11 ∧ x11 < 40) ∧ (Rg (s12 (b + 2) x11) ∧ (s12 (b + 2) x11 = 0 → ∀ s14, s14 = up2 s12 b 4 ((s12 b 4) + 0) → ag62 (x11 + 1) s14) ∧ (¬ s12 (b + 2) x11 = 0 → ∀ s15, s15 = up2 s12 b 4 ((s12 b 4) + 1) → ag62 (x11 + 1) s15))))) n 0 s10)) (fun jj55 => (Rg x3 ∧ (x3 > 8 → jj55) ∧ (¬ x3 > 8 → (Rg (s4 b 10) ∧ (s4 b 10 ≠ 0 → jj55) ∧ (¬ s4 b 10 ≠ 0 → (wj0s (fun s8 => f_X1_makeRound b q1 x3 s8 (fun s9 => ag20 (x3 + 1) s9)) (fun jj43 => (Rg x3 ∧ (x3 ≤ 1 → jj43 s4) ∧ (¬ x3 ≤ 1 → f_X1_hideCovered b q1 s4 (fun s7 => jj43 s7)))))))))))) n 1 s2))) ∧ (¬ σ b 0 = 0 → K σ))

def f_X1_countCoveredInSight (b : Nat) (q1 : Nat) (σ : St) (K : Int → Prop) : Prop :=
  f_X0_countCovered (b + 32) q1 (b + 2) σ (fun x1 => K x1)

def f_X1_lineOf (b : Nat) (q1 : Nat) (p2 : Int) (σ : St) (K : Int → Prop) : Prop :=
  (0 ≤ p2 ∧ p2 < 40) ∧ (Rg (σ (b + 2) p2) ∧ (σ (b + 2) p2 ≠ 0 → (0 ≤ p2 ∧ p2 < 40) ∧ ∀ x1, x1 = σ (q1 + 1) p2 → f_X3_classOf q1 p2 σ (fun x2 => (∃ n, wl1 (fun x3 ag28 => (Rg x3 ∧ Rg (σ (b + 10) 0) ∧ (x3 ≥ σ (b + 10) 0 → K (-1)) ∧ (¬ x3 ≥ σ (b + 10) 0 → (0 ≤ x3 ∧ x3 < 77) ∧ (wj0 ((0 ≤ x3 ∧ x3 < 77) ∧ (Rg (σ (b + 12) x3) ∧ Rg x1 ∧ (σ (b + 12) x3 ≠ x1 → ag28 (x3 + 1)) ∧ (¬ σ (b + 12) x3 ≠ x1 → (0 ≤ x3 ∧ x3 < 77) ∧ (Rg (σ (b + 14) x3) ∧ Rg x2 ∧ (σ (b + 14) x3 > x2 → ag28 (x3 + 1)) ∧ (¬ σ (b + 14) x3 > x2 → (0 ≤ x3 ∧ x3 < 77) ∧ (Rg x2 ∧ Rg (σ (b + 15) x3) ∧ (x2 > σ (b + 15) x3 → ag28 (x3 + 1)) ∧ (¬ x2 > σ (b + 15) x3 → K x3))))))) (fun jj76 => (Rg (σ (b + 11) x3) ∧ (σ (b + 11) x3 ≠ 2 → jj76) ∧ (¬ σ (b + 11) x3 ≠ 2 → (0 ≤ x3 ∧ x3 < 77) ∧ (0 ≤ x1 ∧ x1 < 12) ∧ (Rg (σ (b + 13) x3) ∧ Rg (σ (q1 + 7) x1) ∧ (σ (b + 13) x3 ≠ σ (q1 + 7) x1 → jj76) ∧ (¬ σ (b + 13) x3 ≠ σ (q1 + 7) x1 → K x3))))))))) n 0))) ∧ (¬ σ (b + 2) p2 ≠ 0 → K (-1)))

def f_X2_countOfKind (b : Nat) (p1 : Int) (σ : St) (K : Int → Prop) : Prop :=
  (∃ n, wl2 (fun x1 x2 ag4 => (Rg x2 ∧ Rg (σ b 0) ∧ (x2 ≥ σ b 0 → K x1) ∧ (¬ x2 ≥ σ b 0 → (0 ≤ x2 ∧ x2 < 77) ∧ (Rg (σ (b + 1) x2) ∧ (σ (b + 1) x2 ≠ 0 → ag4 x1 (x2 + 1)) ∧ (¬ σ (b + 1) x2 ≠ 0 → (0 ≤ x2 ∧ x2 < 77) ∧ (Rg (σ (b + 2) x2) ∧ Rg p1 ∧ (σ (b + 2) x2 ≠ p1 → ag4 x1 (x2 + 1)) ∧ (¬ σ (b + 2) x2 ≠ p1 → ag4 (x1 + 1) (x2 + 1)))))))) n 0 0)

def f_X2_fact (b : Nat) (p1 : Int) (p2 : Int) (σ : St) (K : Int → Prop) : Prop :=
  (Rg p1 ∧ (p1 < 0 → K (-1)) ∧ (¬ p1 < 0 → (Rg p1 ∧ Rg (σ b 0) ∧ (p1 < σ b 0 → (Rg p2 ∧ (p2 = 0 → (0 ≤ p1 ∧ p1 < 77) ∧ K (σ (b + 1) p1)) ∧ (p2 = 1 → (0 ≤ p1 ∧ p1 < 77) ∧ K (σ (b + 2) p1)) ∧ (p2 = 2 → (0 ≤ p1 ∧ p1 < 77) ∧ K (σ (b + 3) p1)) ∧ (p2 = 3 → (0 ≤ p1 ∧ p1 < 77) ∧ K (σ (b + 4) p1)) ∧ (p2 = 4 → (0 ≤ p1 ∧ p1 < 77) ∧ K (σ (b + 5) p1)) ∧ (p2 = 5 → (0 ≤ p1 ∧ p1 < 77) ∧ K (σ (b + 6) p1)) ∧ (p2 = 6 → (0 ≤ p1 ∧ p1 < 77) ∧ K (σ (b + 7) p1)) ∧ (p2 < 0 ∨ 6 < p2 → (0 ≤ p1 ∧ p1 < 77) ∧ K (σ (b + 8) p1)))) ∧ (¬ p1 < σ b 0 → K (-1)))))

def f_X3_takeSigns (b : Nat) (q1 : Nat) (σ : St) (K : St → Prop) : Prop :=
  ∀ s1, s1 = cpy2 σ (q1 + 1) 0 (b + 1) 0 40 → ∀ s2, s2 = cpy2 s1 (q1 + 2) 0 (b + 2) 0 40 → ∀ s3, s3 = cpy2 s2 (q1 + 3) 0 (b + 3) 0 40 → ∀ s4, s4 = cpy2 s3 (q1 + 4) 0 (b + 4) 0 40 → ∀ s5, s5 = cpy2 s4 (q1 + 5) 0 (b + 5) 0 40 → ∀ s6, s6 = up2 s5 b 5 (s5 q1 5) → K s6

def f_X3_copyFrom (b : Nat) (q1 : Nat) (σ : St) (K : St → Prop) : Prop :=
  f_X3_takeSigns b q1 σ (fun s1 => ∀ s2, s2 = cpy2 s1 (q1 + 6) 0 (b + 6) 0 12 → ∀ s3, s3 = cpy2 s2 (q1 + 7) 0 (b + 7) 0 12 → ∀ s4, s4 = cpy2 s3 (q1 + 8) 0 (b + 8) 0 12 → ∀ s5, s5 = cpy2 s4 (q1 + 9) 0 (b + 9) 0 60 → ∀ s6, s6 = cpy2 s5 (q1 + 10) 0 (b + 10) 0 5 → ∀ s7, s7 = cpy2 s6 (q1 + 11) 0 (b + 11) 0 5 → ∀ s8, s8 = cpy2 s7 (q1 + 12) 0 (b + 12) 0 4 → K s8)

def f_X3_putSign (b : Nat) (p1 : Int) (p2 : Int) (p3 : Int) (p4 : Int) (p5 : Int) (σ : St) (K : St → Prop) : Prop :=
  (Rg (σ b 5) ∧ (σ b 5 < 0 → K σ) ∧ (¬ σ b 5 < 0 → (Rg (σ b 5) ∧ (σ b 5 < 40 → (0 ≤ σ b 5 ∧ σ b 5 < 40) ∧ ∀ s1, s1 = up2 σ (b + 1) (σ b 5) p1 → (0 ≤ s1 b 5 ∧ s1 b 5 < 40) ∧ ∀ s2, s2 = up2 s1 (b + 2) (s1 b 5) p2 → (0 ≤ s2 b 5 ∧ s2 b 5 < 40) ∧ ∀ s3, s3 = up2 s2 (b + 3) (s2 b 5) p3 → (0 ≤ s3 b 5 ∧ s3 b 5 < 40) ∧ ∀ s4, s4 = up2 s3 (b + 4) (s3 b 5) p4 → (0 ≤ s4 b 5 ∧ s4 b 5 < 40) ∧ ∀ s5, s5 = up2 s4 (b + 5) (s4 b 5) p5 → ∀ s6, s6 = up2 s5 b 5 ((s5 b 5) + 1) → K s6) ∧ (¬ σ b 5 < 40 → K σ))))

def f_X3_dropSign (b : Nat) (p1 : Int) (σ : St) (K : St → Prop) : Prop :=
  (Rg p1 ∧ (p1 < 0 → K σ) ∧ (¬ p1 < 0 → (Rg p1 ∧ Rg (σ b 5) ∧ (p1 < σ b 5 → (∃ n, wl1s (fun x1 s2 ag15 => (Rg (x1 + 1) ∧ Rg (s2 b 5) ∧ (x1 + 1 ≥ s2 b 5 → ∀ s3, s3 = up2 s2 b 5 ((s2 b 5) - 1) → K s3) ∧ (¬ x1 + 1 ≥ s2 b 5 → (0 ≤ x1 + 1 ∧ x1 + 1 < 40) ∧ (0 ≤ x1 ∧ x1 < 40) ∧ ∀ s4, s4 = up2 s2 (b + 1) x1 (s2 (b + 1) (x1 + 1)) → (0 ≤ x1 + 1 ∧ x1 + 1 < 40) ∧ (0 ≤ x1 ∧ x1 < 40) ∧ ∀ s5, s5 = up2 s4 (b + 2) x1 (s4 (b + 2) (x1 + 1)) → (0 ≤ x1 + 1 ∧ x1 + 1 < 40) ∧ (0 ≤ x1 ∧ x1 < 40) ∧ ∀ s6, s6 = up2 s5 (b + 3) x1 (s5 (b + 3) (x1 + 1)) → (0 ≤ x1 + 1 ∧ x1 + 1 < 40) ∧ (0 ≤ x1 ∧ x1 < 40) ∧ ∀ s7, s7 = up2 s6 (b + 4) x1 (s6 (b + 4) (x1 + 1)) → (0 ≤ x1 + 1 ∧ x1 + 1 < 40) ∧ (0 ≤ x1 ∧ x1 < 40) ∧ ∀ s8, s8 = up2 s7 (b + 5) x1 (s7 (b + 5) (x1 + 1)) → ag15 (x1 + 1) s8))) n p1 σ)) ∧ (¬ p1 < σ b 5 → K σ))))

def f_X3_countShown (b : Nat) (σ : St) (K : Int → Prop) : Prop :=
  (∃ n, wl2 (fun x1 x2 ag4 => (Rg x2 ∧ Rg (σ b 5) ∧ (x2 ≥ σ b 5 → K x1) ∧ (¬ x2 ≥ σ b 5 → f_X3_isShown b x2 σ (fun x3 => (Rg x3 ∧ (x3 = 0 → ag4 x1 (x2 + 1)) ∧ (¬ x3 = 0 → ag4 (x1 + 1) (x2 + 1))))))) n 0 0)

def f_X3_limitAt (b : Nat) (p1 : Int) (p2 : Int) (σ : St) (K : Int → Prop) : Prop :=
  (Rg p2 ∧ (p2 < 0 → K (-1)) ∧ (¬ p2 < 0 → (0 ≤ p1 ∧ p1 < 12) ∧ (Rg p2 ∧ Rg (σ (b + 8) p1) ∧ (p2 ≥ σ (b + 8) p1 → K (-1)) ∧ (¬ p2 ≥ σ (b + 8) p1 → (0 ≤ (p1 * 5) + p2 ∧ (p1 * 5) + p2 < 60) ∧ K (σ (b + 9) ((p1 * 5) + p2))))))

def f_X3_hasLimit (b : Nat) (p1 : Int) (p2 : Int) (σ : St) (K : Int → Prop) : Prop :=
  (∃ n, wl1 (fun x1 ag2 => (0 ≤ p1 ∧ p1 < 12) ∧ (Rg x1 ∧ Rg (σ (b + 8) p1) ∧ (x1 ≥ σ (b + 8) p1 → K 0) ∧ (¬ x1 ≥ σ (b + 8) p1 → (0 ≤ (p1 * 5) + x1 ∧ (p1 * 5) + x1 < 60) ∧ (Rg (σ (b + 9) ((p1 * 5) + x1)) ∧ Rg p2 ∧ (σ (b + 9) ((p1 * 5) + x1) ≠ p2 → ag2 (x1 + 1)) ∧ (¬ σ (b + 9) ((p1 * 5) + x1) ≠ p2 → K 1))))) n 0)

def f_X3_putLimit (b : Nat) (p1 : Int) (p2 : Int) (σ : St) (K : St → Prop) : Prop :=
  (0 ≤ p1 ∧ p1 < 12) ∧ (Rg (σ (b + 8) p1) ∧ (σ (b + 8) p1 < 5 → ∀ x1, x1 = p1 * 5 → (0 ≤ p1 ∧ p1 < 12) ∧ ∀ x2, x2 = x1 + (σ (b + 8) p1) → (∃ n, wl1s (fun x3 s4 ag25 => (wj0 ((0 ≤ x3 ∧ x3 < 60) ∧ ∀ s7, s7 = up2 s4 (b + 9) x3 p2 → (0 ≤ p1 ∧ p1 < 12) ∧ (0 ≤ p1 ∧ p1 < 12) ∧ ∀ s8, s8 = up2 s7 (b + 8) p1 ((s7 (b + 8) p1) + 1) → K s8) (fun jj66 => (Rg x3 ∧ Rg x1 ∧ (x3 ≤ x1 → jj66) ∧ (¬ x3 ≤ x1 → (0 ≤ x3 - 1 ∧ x3 - 1 < 60) ∧ (Rg (s4 (b + 9) (x3 - 1)) ∧ Rg p2 ∧ (s4 (b + 9) (x3 - 1) ≤ p2 → jj66) ∧ (¬ s4 (b + 9) (x3 - 1) ≤ p2 → (0 ≤ x3 - 1 ∧ x3 - 1 < 60) ∧ (0 ≤ x3 ∧ x3 < 60) ∧ ∀ s6, s6 = up2 s4 (b + 9) x3 (s4 (b + 9) (x3 - 1)) → ag25 (x3 + (-1)) s6))))))) n x2 σ)) ∧ (¬ σ (b + 8) p1 < 5 → K σ))

def f_X3_dropLimit (b : Nat) (p1 : Int) (p2 : Int) (σ : St) (K : St → Prop) : Prop :=
  ∀ x1, x1 = p1 * 5 → (∃ n, wl2s (fun x2 x3 s4 ag10 => (0 ≤ p1 ∧ p1 < 12) ∧ (Rg x3 ∧ Rg (s4 (b + 8) p1) ∧ (x3 ≥ s4 (b + 8) p1 → (0 ≤ p1 ∧ p1 < 12) ∧ ∀ s5, s5 = up2 s4 (b + 8) p1 x2 → K s5) ∧ (¬ x3 ≥ s4 (b + 8) p1 → (0 ≤ x1 + x3 ∧ x1 + x3 < 60) ∧ ∀ x6, x6 = s4 (b + 9) (x1 + x3) → (Rg x6 ∧ Rg p2 ∧ (x6 = p2 → ag10 x2 (x3 + 1) s4) ∧ (¬ x6 = p2 → (0 ≤ x1 + x2 ∧ x1 + x2 < 60) ∧ ∀ s7, s7 = up2 s4 (b + 9) (x1 + x2) x6 → ag10 (x2 + 1) (x3 + 1) s7))))) n 0 0 σ)

def f_X5_put (p1 : Int) (σ : St) (K : St → Prop) : Prop :=
  (Rg (σ 93 1) ∧ (σ 93 1 < 0 → K σ) ∧ (¬ σ 93 1 < 0 → (Rg (σ 93 1) ∧ (σ 93 1 ≥ 160 → K σ) ∧ (¬ σ 93 1 ≥ 160 → (0 ≤ σ 93 1 ∧ σ 93 1 < 160) ∧ ∀ s1, s1 = up2 σ 94 (σ 93 1) p1 → ∀ s2, s2 = up2 s1 93 1 ((s1 93 1) + 1) → K s2))))

def f_X5_isDigit (p1 : Int) (σ : St) (K : Int → Prop) : Prop :=
  (Rg p1 ∧ (p1 < 0 → K 0) ∧ (¬ p1 < 0 → (Rg p1 ∧ Rg (σ 93 1) ∧ (p1 ≥ σ 93 1 → K 0) ∧ (¬ p1 ≥ σ 93 1 → (0 ≤ p1 ∧ p1 < 160) ∧ (Rg (σ 94 p1) ∧ (σ 94 p1 < 48 → K 0) ∧ (¬ σ 94 p1 < 48 → (0 ≤ p1 ∧ p1 < 160) ∧ (Rg (σ 94 p1) ∧ (σ 94 p1 > 57 → K 0) ∧ (¬ σ 94 p1 > 57 → K 1))))))))

def f_X5_readNumber (p1 : Int) (p2 : Int) (σ : St) (K : Int → St → Prop) : Prop :=
  (Rg (σ 93 3) ∧ (σ 93 3 = (-1) → ∀ x1, x1 = σ 93 4 → (∃ n, wl2s (fun x2 x3 s4 ag21 => (wj0 ((Rg (s4 93 4) ∧ Rg x1 ∧ (s4 93 4 = x1 → ∀ s9, s9 = up2 s4 93 3 (s4 93 4) → K x2 s9) ∧ (¬ s4 93 4 = x1 → f_X5_isDigit (s4 93 4) s4 (fun x10 => (Rg x10 ∧ (x10 = 0 → (Rg x2 ∧ Rg p2 ∧ (x2 < p2 → K x2 s4) ∧ (¬ x2 < p2 → ∀ s11, s11 = up2 s4 93 3 x1 → K x2 s11))) ∧ (¬ x10 = 0 → ∀ s12, s12 = up2 s4 93 3 (s4 93 4) → K x2 s12)))))) (fun jj74 => (Rg x3 ∧ Rg p1 ∧ (x3 ≥ p1 → jj74) ∧ (¬ x3 ≥ p1 → f_X5_isDigit (s4 93 4) s4 (fun x6 => (Rg x6 ∧ (x6 = 0 → jj74) ∧ (¬ x6 = 0 → (0 ≤ s4 93 4 ∧ s4 93 4 < 160) ∧ ∀ x7, x7 = (x2 * 10) + ((s4 94 (s4 93 4)) - 48) → ∀ s8, s8 = up2 s4 93 4 ((s4 93 4) + 1) → ag21 x7 (x3 + 1) s8)))))))) n 0 0 σ)) ∧ (¬ σ 93 3 = (-1) → K 0 σ))

def f_X5_readByte (p1 : Int) (σ : St) (K : St → Prop) : Prop :=
  (Rg (σ 93 3) ∧ (σ 93 3 = (-1) → (Rg (σ 93 4) ∧ (σ 93 4 < 0 → ∀ s1, s1 = up2 σ 93 3 (σ 93 4) → K s1) ∧ (¬ σ 93 4 < 0 → (Rg (σ 93 4) ∧ Rg (σ 93 1) ∧ (σ 93 4 ≥ σ 93 1 → ∀ s2, s2 = up2 σ 93 3 (σ 93 4) → K s2) ∧ (¬ σ 93 4 ≥ σ 93 1 → (0 ≤ σ 93 4 ∧ σ 93 4 < 160) ∧ (Rg (σ 94 (σ 93 4)) ∧ Rg p1 ∧ (σ 94 (σ 93 4) ≠ p1 → ∀ s3, s3 = up2 σ 93 3 (σ 93 4) → K s3) ∧ (¬ σ 94 (σ 93 4) ≠ p1 → ∀ s4, s4 = up2 σ 93 4 ((σ 93 4) + 1) → K s4))))))) ∧ (¬ σ 93 3 = (-1) → K σ))

def f_X5_readLevel (σ : St) (K : Int → St → Prop) : Prop :=
  (Rg (σ 93 3) ∧ (σ 93 3 = (-1) → f_X5_isDigit (σ 93 4) σ (fun x1 => (wj1 (fun x3 => (Rg x3 ∧ (x3 < 6 → ∀ s4, s4 = up2 σ 93 4 ((σ 93 4) + 1) → K x3 s4) ∧ (¬ x3 < 6 → ∀ s5, s5 = up2 σ 93 3 (σ 93 4) → K 0 s5))) (fun jj38 => (Rg x1 ∧ (x1 = 0 → jj38 6) ∧ (¬ x1 = 0 → (0 ≤ σ 93 4 ∧ σ 93 4 < 160) ∧ jj38 ((σ 94 (σ 93 4)) - 48))))))) ∧ (¬ σ 93 3 = (-1) → K 0 σ))

def f_X5_readSign (σ : St) (K : St → Prop) : Prop :=
  f_X5_readNumber 2 12 σ (fun x1 s2 => f_X5_readByte 44 s2 (fun s3 => f_X5_readNumber 3 200 s3 (fun x4 s5 => f_X5_readByte 44 s5 (fun s6 => f_X5_readNumber 3 200 s6 (fun x7 s8 => f_X5_readByte 44 s8 (fun s9 => f_X5_readNumber 4 10000 s9 (fun x10 s11 => f_X5_readByte 44 s11 (fun s12 => f_X5_readLevel s12 (fun x13 s14 => f_X5_readByte 59 s14 (fun s15 => (Rg (s15 93 3) ∧ (s15 93 3 ≠ (-1) → K s15) ∧ (¬ s15 93 3 ≠ (-1) → f_X3_putSign 95 x1 x4 x7 x10 x13 s15 (fun s16 => K s16)))))))))))))

def f_X5_read (σ : St) (K : St → Prop) : Prop :=
  ∀ s1, s1 = up2 σ 93 4 0 → ∀ s2, s2 = up2 s1 93 3 (-1) → ∀ s3, s3 = up2 s2 95 5 0 → (∃ n, wl1s (fun x4 s5 ag20 => (Rg x4 ∧ (x4 > 40 → K s5) ∧ (¬ x4 > 40 → (Rg (s5 93 4) ∧ Rg (s5 93 1) ∧ (s5 93 4 ≥ s5 93 1 → K s5) ∧ (¬ s5 93 4 ≥ s5 93 1 → (Rg (s5 93 3) ∧ (s5 93 3 ≠ (-1) → K s5) ∧ (¬ s5 93 3 ≠ (-1) → (Rg x4 ∧ (x4 ≥ 40 → ∀ s6, s6 = up2 s5 93 3 (s5 93 4) → ag20 (x4 + 1) s6) ∧ (¬ x4 ≥ 40 → f_X5_readSign s5 (fun s7 => ag20 (x4 + 1) s7)))))))))) n 0 s3)

def f_X6_demandKind (p1 : Int) (σ : St) (K : Prop) (X : Nat → Prop) : Prop :=
  (Rg p1 ∧ (p1 < 0 → X 1) ∧ (¬ p1 < 0 → (Rg p1 ∧ (p1 < 12 → K) ∧ (¬ p1 < 12 → X 1))))

def f_X6_demandBelow (p1 : Int) (p2 : Int) (σ : St) (K : Prop) (X : Nat → Prop) : Prop :=
  (Rg p1 ∧ (p1 < 0 → X 2) ∧ (¬ p1 < 0 → (Rg p1 ∧ Rg p2 ∧ (p1 < p2 → K) ∧ (¬ p1 < p2 → X 2))))

def f_X6_saveState (σ : St) (K : St → Prop) : Prop :=
  (wj0s (fun s4 => (0 ≤ (s4 0 6) + (s4 0 7) ∧ (s4 0 6) + (s4 0 7) ≤ 2147483647) ∧ (0 ≤ ((s4 0 6) + (s4 0 7)) % 4 ∧ ((s4 0 6) + (s4 0 7)) % 4 < 4) ∧ ∀ r5 : Nat, r5 = 109 + 13 * (((s4 0 6) + (s4 0 7)) % 4).toNat → f_X3_copyFrom r5 1 s4 (fun s6 => ∀ s7, s7 = up2 s6 0 7 ((s6 0 7) + 1) → ∀ s8, s8 = up2 s7 14 0 0 → K s8)) (fun jj30 => (Rg (σ 0 7) ∧ (σ 0 7 ≠ 4 → jj30 σ) ∧ (¬ σ 0 7 ≠ 4 → (0 ≤ (σ 0 6) + 1 ∧ (σ 0 6) + 1 ≤ 2147483647) ∧ ∀ s2, s2 = up2 σ 0 6 (((σ 0 6) + 1) % 4) → ∀ s3, s3 = up2 s2 0 7 ((s2 0 7) - 1) → jj30 s3))))

def f_X6_addSign (p1 : Int) (p2 : Int) (p3 : Int) (p4 : Int) (p5 : Int) (σ : St) (K : Int → St → Prop) (X : Nat → St → Prop) : Prop :=
  f_X6_demandKind p1 σ (f_X6_demandBelow p2 200 σ (f_X6_demandBelow p3 200 σ (f_X6_demandBelow p4 10000 σ (f_X6_demandBelow p5 6 σ ((Rg (σ 1 5) ∧ (σ 1 5 < 40 → f_X6_saveState σ (fun s1 => f_X3_putSign 1 p1 p2 p3 p4 p5 s1 (fun s2 => K ((s2 1 5) - 1) s2))) ∧ (¬ σ 1 5 < 40 → X 3 σ))) (fun c => X c σ)) (fun c => X c σ)) (fun c => X c σ)) (fun c => X c σ)) (fun c => X c σ)

def f_X6_demandSign (p1 : Int) (σ : St) (K : Prop) (X : Nat → Prop) : Prop :=
  (Rg p1 ∧ (p1 < 0 → X 1) ∧ (¬ p1 < 0 → (Rg p1 ∧ Rg (σ 1 5) ∧ (p1 < σ 1 5 → K) ∧ (¬ p1 < σ 1 5 → X 1))))

def f_X6_removeSign (p1 : Int) (σ : St) (K : Int → St → Prop) (X : Nat → St → Prop) : Prop :=
  f_X6_demandSign p1 σ (f_X6_saveState σ (fun s1 => f_X3_dropSign 1 p1 s1 (fun s2 => K (s2 1 5) s2))) (fun c => X c σ)

def f_X6_moveSign (p1 : Int) (p2 : Int) (p3 : Int) (σ : St) (K : Int → St → Prop) (X : Nat → St → Prop) : Prop :=
  f_X6_demandSign p1 σ (f_X6_demandBelow p2 200 σ (f_X6_demandBelow p3 200 σ (f_X6_saveState σ (fun s1 => (0 ≤ p1 ∧ p1 < 40) ∧ ∀ x2, x2 = s1 3 p1 → (0 ≤ p1 ∧ p1 < 40) ∧ ∀ s3, s3 = up2 s1 3 p1 p2 → (0 ≤ p1 ∧ p1 < 40) ∧ ∀ s4, s4 = up2 s3 4 p1 p3 → K x2 s4)) (fun c => X c σ)) (fun c => X c σ)) (fun c => X c σ)

def f_X6_demandSpan (p1 : Int) (σ : St) (K : Prop) (X : Nat → Prop) : Prop :=
  (Rg p1 ∧ (p1 < 10 → X 2) ∧ (¬ p1 < 10 → (Rg p1 ∧ (p1 ≤ 200 → K) ∧ (¬ p1 ≤ 200 → X 2))))

def f_X6_setWindow (p1 : Int) (p2 : Int) (p3 : Int) (p4 : Int) (p5 : Int) (σ : St) (K : Int → St → Prop) (X : Nat → St → Prop) : Prop :=
  f_X6_demandBelow p1 200 σ (f_X6_demandBelow p2 200 σ (f_X6_demandSpan p3 σ (f_X6_demandSpan p4 σ (f_X6_demandBelow p5 6 σ (f_X6_saveState σ (fun s1 => ∀ s2, s2 = up2 s1 12 0 p1 → ∀ s3, s3 = up2 s2 12 1 p2 → ∀ s4, s4 = up2 s3 12 2 p3 → ∀ s5, s5 = up2 s4 12 3 p4 → ∀ s6, s6 = up2 s5 12 4 p5 → f_X3_countShown 1 s6 (fun x7 => K x7 s6))) (fun c => X c σ)) (fun c => X c σ)) (fun c => X c σ)) (fun c => X c σ)) (fun c => X c σ)

def f_X6_set (p1 : Int) (p2 : Int) (σ : St) (K : Int → St → Prop) (X : Nat → St → Prop) : Prop :=
  f_X6_demandBelow p1 4 σ ((Rg p2 ∧ (p2 < 1 → X 2 σ) ∧ (¬ p2 < 1 → (0 ≤ p1 ∧ p1 < 4) ∧ (Rg p2 ∧ Rg (hsetI p1) ∧ (p2 ≤ hsetI p1 → f_X6_saveState σ (fun s1 => (0 ≤ p1 ∧ p1 < 4) ∧ ∀ x2, x2 = s1 13 p1 → (0 ≤ p1 ∧ p1 < 4) ∧ ∀ s3, s3 = up2 s1 13 p1 p2 → K x2 s3)) ∧ (¬ p2 ≤ hsetI p1 → X 2 σ))))) (fun c => X c σ)

def f_X6_setKind (p1 : Int) (p2 : Int) (p3 : Int) (σ : St) (K : Int → St → Prop) (X : Nat → St → Prop) : Prop :=
  f_X6_demandKind p1 σ (f_X6_demandBelow p2 100 σ ((wj0 (f_X6_saveState σ (fun s2 => (0 ≤ p1 ∧ p1 < 12) ∧ ∀ x3, x3 = s2 7 p1 → (0 ≤ p1 ∧ p1 < 12) ∧ ∀ s4, s4 = up2 s2 7 p1 p2 → (0 ≤ p1 ∧ p1 < 12) ∧ ∀ s5, s5 = up2 s4 8 p1 p3 → K x3 s5)) (fun jj20 => (Rg p3 ∧ (p3 = (-1) → jj20) ∧ (¬ p3 = (-1) → f_X6_demandBelow p3 5 σ (jj20) (fun c => X c σ)))))) (fun c => X c σ)) (fun c => X c σ)

def f_X6_setWay (p1 : Int) (p2 : Int) (σ : St) (K : Int → St → Prop) (X : Nat → St → Prop) : Prop :=
  (Rg p1 ∧ (p1 < 0 → X 1 σ) ∧ (¬ p1 < 0 → (Rg p1 ∧ (p1 < 5 → f_X6_demandBelow p2 2 σ (f_X6_saveState σ (fun s1 => (0 ≤ p1 ∧ p1 < 5) ∧ ∀ x2, x2 = s1 11 p1 → (0 ≤ p1 ∧ p1 < 5) ∧ ∀ s3, s3 = up2 s1 11 p1 p2 → K x2 s3)) (fun c => X c σ)) ∧ (¬ p1 < 5 → X 1 σ))))

def f_X6_limit (p1 : Int) (p2 : Int) (σ : St) (K : Int → St → Prop) (X : Nat → St → Prop) : Prop :=
  f_X6_demandKind p1 σ ((Rg p2 ∧ (p2 < 1 → X 2 σ) ∧ (¬ p2 < 1 → (Rg p2 ∧ (p2 < 10000 → f_X3_hasLimit 1 p1 p2 σ (fun x1 => (wj0 (f_X6_saveState σ (fun s3 => (Rg x1 ∧ (x1 = 0 → f_X3_putLimit 1 p1 p2 s3 (fun s4 => (0 ≤ p1 ∧ p1 < 12) ∧ K (s4 9 p1) s4)) ∧ (¬ x1 = 0 → f_X3_dropLimit 1 p1 p2 s3 (fun s5 => (0 ≤ p1 ∧ p1 < 12) ∧ K (s5 9 p1) s5))))) (fun jj63 => (Rg x1 ∧ (x1 ≠ 0 → jj63) ∧ (¬ x1 ≠ 0 → (0 ≤ p1 ∧ p1 < 12) ∧ (Rg (σ 9 p1) ∧ (σ 9 p1 < 5 → jj63) ∧ (¬ σ 9 p1 < 5 → X 3 σ)))))))) ∧ (¬ p2 < 10000 → X 2 σ))))) (fun c => X c σ)

def f_X6_numberOf (p1 : Int) (σ : St) (K : Int → Prop) : Prop :=
  (Rg p1 ∧ (p1 ≥ 4 → (Rg p1 ∧ (p1 ≥ 9 → (Rg p1 ∧ (p1 = 9 → K (σ 1 5)) ∧ (p1 = 10 → K (σ 14 3)) ∧ (p1 ≠ 9 ∧ p1 ≠ 10 → K (σ 14 4)))) ∧ (¬ p1 ≥ 9 → (0 ≤ p1 - 4 ∧ p1 - 4 < 5) ∧ K (σ 12 (p1 - 4))))) ∧ (¬ p1 ≥ 4 → (Rg p1 ∧ (p1 < 0 → K (-1)) ∧ (¬ p1 < 0 → (0 ≤ p1 ∧ p1 < 4) ∧ K (σ 13 p1)))))

def f_X6_value (p1 : Int) (σ : St) (K : Int → St → Prop) (X : Nat → St → Prop) : Prop :=
  f_X6_demandBelow p1 12 σ (f_X1_make 14 1 σ (fun s1 => f_X6_numberOf p1 s1 (fun x2 => K x2 s1))) (fun c => X c σ)

def f_X6_signFact (p1 : Int) (p2 : Int) (σ : St) (K : Int → Prop) : Prop :=
  (Rg p1 ∧ (p1 < 0 → K (-1)) ∧ (¬ p1 < 0 → (Rg p1 ∧ (p1 < 40 → (Rg p2 ∧ (p2 = 0 → (0 ≤ p1 ∧ p1 < 40) ∧ K (σ 2 p1)) ∧ (p2 = 1 → (0 ≤ p1 ∧ p1 < 40) ∧ K (σ 3 p1)) ∧ (p2 = 2 → (0 ≤ p1 ∧ p1 < 40) ∧ K (σ 4 p1)) ∧ (p2 = 3 → (0 ≤ p1 ∧ p1 < 40) ∧ K (σ 5 p1)) ∧ (p2 = 4 → (0 ≤ p1 ∧ p1 < 40) ∧ K (σ 6 p1)) ∧ (p2 = 5 → f_X3_classOf 1 p1 σ (fun x1 => K x1)) ∧ (p2 = 6 → (0 ≤ p1 ∧ p1 < 40) ∧ (Rg (σ 15 p1) ∧ (σ 15 p1 = 0 → K 0) ∧ (¬ σ 15 p1 = 0 → K 1))) ∧ (p2 = 7 → (0 ≤ p1 ∧ p1 < 40) ∧ (Rg (σ 16 p1) ∧ (σ 16 p1 = 0 → K 0) ∧ (¬ σ 16 p1 = 0 → K 1))) ∧ (p2 < 0 ∨ 7 < p2 → f_X1_lineOf 14 1 p1 σ (fun x2 => K x2)))) ∧ (¬ p1 < 40 → K (-1)))))

def f_X6_sign (p1 : Int) (p2 : Int) (σ : St) (K : Int → St → Prop) (X : Nat → St → Prop) : Prop :=
  f_X6_demandSign p1 σ (f_X6_demandBelow p2 9 σ (f_X1_make 14 1 σ (fun s1 => f_X6_signFact p1 p2 s1 (fun x2 => K x2 s1))) (fun c => X c σ)) (fun c => X c σ)

def f_X6_kindFact (p1 : Int) (p2 : Int) (σ : St) (K : Int → Prop) : Prop :=
  (Rg p1 ∧ (p1 < 0 → K (-1)) ∧ (¬ p1 < 0 → (Rg p1 ∧ (p1 < 12 → (Rg p2 ∧ (p2 = 0 → (0 ≤ p1 ∧ p1 < 12) ∧ K (σ 7 p1)) ∧ (p2 = 1 → (0 ≤ p1 ∧ p1 < 12) ∧ K (σ 8 p1)) ∧ (p2 = 2 → (0 ≤ p1 ∧ p1 < 12) ∧ K (σ 9 p1)) ∧ (p2 = 3 → f_X3_limitAt 1 p1 (p2 - 3) σ (fun x1 => K x1)) ∧ (p2 = 4 → f_X3_limitAt 1 p1 (p2 - 3) σ (fun x2 => K x2)) ∧ (p2 = 5 → f_X3_limitAt 1 p1 (p2 - 3) σ (fun x3 => K x3)) ∧ (p2 = 6 → f_X3_limitAt 1 p1 (p2 - 3) σ (fun x4 => K x4)) ∧ (p2 = 7 → f_X3_limitAt 1 p1 (p2 - 3) σ (fun x5 => K x5)) ∧ (p2 = 8 → f_X2_countOfKind 24 p1 σ (fun x6 => K x6)) ∧ (p2 = 9 → (0 ≤ p1 ∧ p1 < 12) ∧ K (σ 18 p1)) ∧ (p2 < 0 ∨ 9 < p2 → f_X3_limitAt 1 p1 (p2 - 3) σ (fun x7 => K x7)))) ∧ (¬ p1 < 12 → K (-1)))))

def f_X6_kind (p1 : Int) (p2 : Int) (σ : St) (K : Int → St → Prop) (X : Nat → St → Prop) : Prop :=
  f_X6_demandKind p1 σ (f_X6_demandBelow p2 10 σ (f_X1_make 14 1 σ (fun s1 => f_X6_kindFact p1 p2 s1 (fun x2 => K x2 s1))) (fun c => X c σ)) (fun c => X c σ)

def f_X6_lines (σ : St) (K : Int → St → Prop) : Prop :=
  f_X1_make 14 1 σ (fun s1 => K (s1 24 0) s1)

def f_X6_line (p1 : Int) (p2 : Int) (σ : St) (K : Int → St → Prop) (X : Nat → St → Prop) : Prop :=
  f_X1_make 14 1 σ (fun s1 => (Rg p1 ∧ (p1 < 0 → X 1 s1) ∧ (¬ p1 < 0 → (Rg p1 ∧ Rg (s1 24 0) ∧ (p1 < s1 24 0 → f_X6_demandBelow p2 8 s1 (f_X2_fact 24 p1 p2 s1 (fun x2 => K x2 s1)) (fun c => X c s1)) ∧ (¬ p1 < s1 24 0 → X 1 s1)))))

def f_X6_box (p1 : Int) (σ : St) (K : Int → St → Prop) (X : Nat → St → Prop) : Prop :=
  f_X6_demandBelow p1 6 σ (f_X1_make 14 1 σ (fun s1 => f_X0_fact 46 p1 s1 (fun x2 => K x2 s1))) (fun c => X c σ)

def f_X6_roundFact (p1 : Int) (σ : St) (K : Int → Prop) : Prop :=
  (Rg p1 ∧ (p1 = 0 → K (σ 14 9)) ∧ (p1 = 1 → (Rg (σ 14 10) ∧ (σ 14 10 = 0 → K 0) ∧ (¬ σ 14 10 = 0 → K 1))) ∧ (p1 ≠ 0 ∧ p1 ≠ 1 → f_X1_countCoveredInSight 14 1 σ (fun x1 => K x1)))

def f_X6_rounds (p1 : Int) (σ : St) (K : Int → St → Prop) (X : Nat → St → Prop) : Prop :=
  f_X6_demandBelow p1 3 σ (f_X1_make 14 1 σ (fun s1 => f_X6_roundFact p1 s1 (fun x2 => K x2 s1))) (fun c => X c σ)

def f_X6_firstLines (σ : St) (K : Int → St → Prop) : Prop :=
  f_X1_make 14 1 σ (fun s1 => K (s1 14 11) s1)

def f_X6_explained (σ : St) (K : UInt64 → St → Prop) : Prop :=
  f_X1_make 14 1 σ (fun s1 => ∀ x2, x2 = s1 14 3 → (Rg x2 ∧ (x2 ≤ 0 → K (FP.dconst1) s1) ∧ (¬ x2 ≤ 0 → vf_n64 (FP.ddiv (FP.i2d (iI (s1 14 4))) (FP.i2d (iI x2))) ∧ K (FP.ddiv (FP.i2d (iI (s1 14 4))) (FP.i2d (iI x2))) s1)))

def f_X6_linesAt (p1 : Int) (p2 : Int) (σ : St) (K : Int → St → Prop) (X : Nat → St → Prop) : Prop :=
  f_X6_demandBelow p1 200 σ (f_X6_demandBelow p2 200 σ (f_X3_copyFrom 47 1 σ (fun s1 => ∀ s2, s2 = up2 s1 58 0 p1 → ∀ s3, s3 = up2 s2 58 1 p2 → ∀ s4, s4 = up2 s3 60 0 0 → f_X1_make 60 47 s4 (fun s5 => K (s5 70 0) s5))) (fun c => X c σ)) (fun c => X c σ)

def f_X6_bestColumns (σ : St) (K : Int → St → Prop) : Prop :=
  f_X3_copyFrom 47 1 σ (fun s1 => (∃ n, wl3s (fun x2 x3 x4 s5 ag17 => (Rg x4 ∧ Rg (hsetI 1) ∧ (x4 > hsetI 1 → K x2 s5) ∧ (¬ x4 > hsetI 1 → ∀ s6, s6 = up2 s5 59 1 x4 → ∀ s7, s7 = up2 s6 60 0 0 → f_X1_make 60 47 s7 (fun s8 => (Rg (s8 60 4) ∧ Rg x3 ∧ (s8 60 4 ≤ x3 → ag17 x2 x3 (x4 + 1) s8) ∧ (¬ s8 60 4 ≤ x3 → ∀ x9, x9 = s8 60 4 → ag17 x4 x9 (x4 + 1) s8)))))) n 0 (-1) 1 s1))

def f_X6_zoomFor (p1 : Int) (σ : St) (K : Int → Prop) (X : Nat → Prop) : Prop :=
  f_X6_demandKind p1 σ ((∃ n, wl2 (fun x1 x2 ag8 => (Rg x2 ∧ Rg (σ 1 5) ∧ (x2 ≥ σ 1 5 → K x1) ∧ (¬ x2 ≥ σ 1 5 → (0 ≤ x2 ∧ x2 < 40) ∧ (Rg (σ 2 x2) ∧ Rg p1 ∧ (σ 2 x2 ≠ p1 → ag8 x1 (x2 + 1)) ∧ (¬ σ 2 x2 ≠ p1 → f_X3_isInWindow 1 x2 σ (fun x3 => (Rg x3 ∧ (x3 = 0 → ag8 x1 (x2 + 1)) ∧ (¬ x3 = 0 → (0 ≤ x2 ∧ x2 < 40) ∧ Rg x1 ∧ Rg (σ 6 x2) ∧ ∀ x4, x4 = (if x1 < σ 6 x2 then σ 6 x2 else x1) → ag8 x4 (x2 + 1))))))))) n 0 0)) X

def f_X6_linesSaved (p1 : Int) (σ : St) (K : Int → St → Prop) (X : Nat → St → Prop) : Prop :=
  f_X6_demandSign p1 σ (f_X1_make 14 1 σ (fun s1 => f_X3_copyFrom 47 1 s1 (fun s2 => f_X3_dropSign 47 p1 s2 (fun s3 => ∀ s4, s4 = up2 s3 60 0 0 → f_X1_make 60 47 s4 (fun s5 => K ((s5 24 0) - (s5 70 0)) s5))))) (fun c => X c σ)

def f_X6_append (p1 : Int) (σ : St) (K : Int → St → Prop) (X : Nat → St → Prop) : Prop :=
  f_X6_demandBelow p1 128 σ ((Rg (σ 93 1) ∧ (σ 93 1 < 160 → f_X5_put p1 σ (fun s1 => K (s1 93 1) s1)) ∧ (¬ σ 93 1 < 160 → X 3 σ))) (fun c => X c σ)

def f_X6_clearText (σ : St) (K : Int → St → Prop) : Prop :=
  ∀ x1, x1 = σ 93 1 → ∀ s2, s2 = up2 σ 93 1 0 → K x1 s2

def f_X6_parse (σ : St) (K : Int → St → Prop) : Prop :=
  f_X5_read σ (fun s1 => (Rg (s1 93 3) ∧ (s1 93 3 = (-1) → f_X6_saveState s1 (fun s2 => f_X3_takeSigns 1 95 s2 (fun s3 => K (s3 1 5) s3))) ∧ (¬ s1 93 3 = (-1) → K ((-10) - (s1 93 3)) s1)))

def f_X6_undo (σ : St) (K : Int → St → Prop) (X : Nat → St → Prop) : Prop :=
  (Rg (σ 0 7) ∧ (σ 0 7 > 0 → ∀ s1, s1 = up2 σ 0 7 ((σ 0 7) - 1) → (0 ≤ (s1 0 6) + (s1 0 7) ∧ (s1 0 6) + (s1 0 7) ≤ 2147483647) ∧ (0 ≤ ((s1 0 6) + (s1 0 7)) % 4 ∧ ((s1 0 6) + (s1 0 7)) % 4 < 4) ∧ ∀ r2 : Nat, r2 = 109 + 13 * (((s1 0 6) + (s1 0 7)) % 4).toNat → f_X3_copyFrom 1 r2 s1 (fun s3 => ∀ s4, s4 = up2 s3 14 0 0 → K (s4 0 7) s4)) ∧ (¬ σ 0 7 > 0 → X 3 σ))

def f_X6_hashOfKinds (p1 : Int) (σ : St) (K : Int → Prop) : Prop :=
  (∃ n, wl2 (fun x1 x2 ag5 => (Rg x2 ∧ (x2 ≥ 12 → K x1) ∧ (¬ x2 ≥ 12 → (∃ n, wl2 (fun x3 x4 ag15 => (Rg x4 ∧ (x4 ≥ 10 → ag5 x3 (x2 + 1)) ∧ (¬ x4 ≥ 10 → f_X6_kindFact x2 x4 σ (fun x5 => Rg x5 ∧ ∀ x6, x6 = (31 * x3) + x5 → ag15 x6 (x4 + 1))))) n x1 0)))) n p1 0)

def f_X6_hashOfSigns (p1 : Int) (σ : St) (K : Int → Prop) : Prop :=
  (∃ n, wl2 (fun x1 x2 ag5 => (Rg x2 ∧ Rg (σ 1 5) ∧ (x2 ≥ σ 1 5 → K x1) ∧ (¬ x2 ≥ σ 1 5 → (∃ n, wl2 (fun x3 x4 ag20 => (Rg x4 ∧ (x4 ≥ 9 → ag5 x3 (x2 + 1)) ∧ (¬ x4 ≥ 9 → f_X6_signFact x2 x4 σ (fun x5 => Rg x5 ∧ ∀ x6, x6 = (31 * x3) + x5 → ag20 x6 (x4 + 1))))) n x1 0)))) n p1 0)

def f_X6_hashOfLines (p1 : Int) (σ : St) (K : Int → Prop) : Prop :=
  (∃ n, wl2 (fun x1 x2 ag5 => (Rg x2 ∧ Rg (σ 24 0) ∧ (x2 ≥ σ 24 0 → K x1) ∧ (¬ x2 ≥ σ 24 0 → (∃ n, wl2 (fun x3 x4 ag23 => (Rg x4 ∧ (x4 ≥ 8 → ag5 x3 (x2 + 1)) ∧ (¬ x4 ≥ 8 → f_X2_fact 24 x2 x4 σ (fun x5 => Rg x5 ∧ ∀ x6, x6 = (31 * x3) + x5 → ag23 x6 (x4 + 1))))) n x1 0)))) n p1 0)

def f_X6_digest (σ : St) (K : Int → St → Prop) : Prop :=
  f_X1_make 14 1 σ (fun s1 => Rg (s1 93 1) ∧ ∀ x2, x2 = 105121 + (s1 93 1) → (∃ n, wl2 (fun x3 x4 ag26 => (Rg x4 ∧ (x4 ≥ 12 → (∃ n, wl2 (fun x5 x6 ag53 => (Rg x6 ∧ (x6 ≥ 5 → f_X6_hashOfKinds x5 s1 (fun x7 => f_X6_hashOfSigns x7 s1 (fun x8 => f_X6_hashOfLines x8 s1 (fun x9 => (∃ n, wl2 (fun x10 x11 ag101 => (Rg x11 ∧ (x11 ≥ 6 → (∃ n, wl2 (fun x12 x13 ag134 => (Rg x13 ∧ (x13 ≥ 3 → Rg (s1 0 7) ∧ K ((31 * x12) + (s1 0 7)) s1) ∧ (¬ x13 ≥ 3 → f_X6_roundFact x13 s1 (fun x14 => Rg x14 ∧ ∀ x15, x15 = (31 * x12) + x14 → ag134 x15 (x13 + 1))))) n x10 0)) ∧ (¬ x11 ≥ 6 → f_X0_fact 46 x11 s1 (fun x16 => Rg x16 ∧ ∀ x17, x17 = (31 * x10) + x16 → ag101 x17 (x11 + 1))))) n x9 0))))) ∧ (¬ x6 ≥ 5 → (0 ≤ x6 ∧ x6 < 5) ∧ Rg (s1 11 x6) ∧ ∀ x18, x18 = (31 * x5) + (s1 11 x6) → ag53 x18 (x6 + 1)))) n x3 0)) ∧ (¬ x4 ≥ 12 → f_X6_numberOf x4 s1 (fun x19 => Rg x19 ∧ ∀ x20, x20 = (31 * x3) + x19 → ag26 x20 (x4 + 1))))) n x2 0))

def f_X7_thrown (σ : St) (K : Int → Prop) : Prop :=
  K (σ 161 7)

def f_X7_in (p1 : Int) (p2 : Int) (p3 : Int) (σ : St) (K : Int → Prop) : Prop :=
  (Rg p1 ∧ Rg p2 ∧ (p1 < p2 → K 0) ∧ (¬ p1 < p2 → (Rg p1 ∧ Rg p3 ∧ (p1 > p3 → K 0) ∧ (¬ p1 > p3 → K 1))))

def f_X7_fails (p1 : Int) (σ : St) (K : Int → St → Prop) : Prop :=
  ∀ s1, s1 = up2 σ 161 7 p1 → K 0 s1

def f_X7_tells (p1 : Int) (σ : St) (K : Int → St → Prop) : Prop :=
  ∀ s1, s1 = up2 σ 161 7 0 → K p1 s1

def f_X7_copies (q1 : Nat) (q2 : Nat) (σ : St) (K : St → Prop) : Prop :=
  (∃ n, wl1s (fun x1 s2 ag2 => (Rg x1 ∧ (x1 ≥ 311 → K s2) ∧ (¬ x1 ≥ 311 → (0 ≤ x1 ∧ x1 < 311) ∧ (0 ≤ x1 ∧ x1 < 311) ∧ ∀ s3, s3 = up2 s2 q1 x1 (s2 q2 x1) → ag2 (x1 + 1) s3))) n 0 σ)

def f_X7_hold (σ : St) (K : St → Prop) : Prop :=
  f_X7_copies 164 162 σ (fun s1 => K s1)

def f_X7_ends (p1 : Int) (σ : St) (K : Int → St → Prop) : Prop :=
  (wj0s (fun s6 => (∃ n, wl1s (fun x7 s8 ag51 => (Rg x7 ∧ (x7 ≥ 311 → ∀ s9, s9 = up2 s8 161 4 ((s8 161 4) + 1) → f_X7_tells p1 s9 (fun x10 s11 => K x10 s11)) ∧ (¬ x7 ≥ 311 → (0 ≤ x7 ∧ x7 < 311) ∧ (0 ≤ (311 * (s8 161 4)) + x7 ∧ (311 * (s8 161 4)) + x7 < 1244) ∧ ∀ s12, s12 = up2 s8 163 ((311 * (s8 161 4)) + x7) (s8 164 x7) → ag51 (x7 + 1) s12))) n 0 s6)) (fun jj49 => (Rg (σ 161 4) ∧ (σ 161 4 ≠ 4 → jj49 σ) ∧ (¬ σ 161 4 ≠ 4 → (∃ n, wl1s (fun x2 s3 ag10 => (Rg x2 ∧ (x2 ≥ 933 → ∀ s4, s4 = up2 s3 161 4 ((s3 161 4) - 1) → jj49 s4) ∧ (¬ x2 ≥ 933 → (0 ≤ x2 + 311 ∧ x2 + 311 < 1244) ∧ (0 ≤ x2 ∧ x2 < 1244) ∧ ∀ s5, s5 = up2 s3 163 x2 (s3 163 (x2 + 311)) → ag10 (x2 + 1) s5))) n 0 σ)))))

def f_X7_isKind (p1 : Int) (σ : St) (K : Int → Prop) : Prop :=
  f_X7_in p1 0 11 σ (fun x1 => Bl x1 ∧ K x1)

def f_X7_isSign (p1 : Int) (σ : St) (K : Int → Prop) : Prop :=
  (Rg p1 ∧ (p1 < 0 → K 0) ∧ (¬ p1 < 0 → (Rg p1 ∧ Rg (σ 162 9) ∧ (p1 ≥ σ 162 9 → K 0) ∧ (¬ p1 ≥ σ 162 9 → K 1))))

def f_X7_of (p1 : Int) (p2 : Int) (σ : St) (K : Int → Prop) : Prop :=
  (0 ≤ (111 + (5 * p1)) + p2 ∧ (111 + (5 * p1)) + p2 < 311) ∧ K (σ 162 ((111 + (5 * p1)) + p2))

def f_X7_rankOf (p1 : Int) (σ : St) (K : Int → Prop) : Prop :=
  (0 ≤ 15 + (8 * p1) ∧ 15 + (8 * p1) < 311) ∧ K (σ 162 (15 + (8 * p1)))

def f_X7_groupOf (p1 : Int) (σ : St) (K : Int → Prop) : Prop :=
  (0 ≤ (15 + (8 * p1)) + 1 ∧ (15 + (8 * p1)) + 1 < 311) ∧ K (σ 162 ((15 + (8 * p1)) + 1))

def f_X7_classOf (p1 : Int) (σ : St) (K : Int → Prop) : Prop :=
  f_X7_of p1 0 σ (fun x1 => ∀ x2, x2 = 15 + (8 * x1) → (∃ n, wl2 (fun x3 x4 ag18 => (0 ≤ x2 + 2 ∧ x2 + 2 < 311) ∧ (Rg x4 ∧ Rg (σ 162 (x2 + 2)) ∧ (x4 ≥ σ 162 (x2 + 2) → K x3) ∧ (¬ x4 ≥ σ 162 (x2 + 2) → (0 ≤ (x2 + 3) + x4 ∧ (x2 + 3) + x4 < 311) ∧ f_X7_of p1 3 σ (fun x5 => (Rg (σ 162 ((x2 + 3) + x4)) ∧ Rg x5 ∧ (σ 162 ((x2 + 3) + x4) > x5 → ∀ x6, x6 = x3 + 0 → ag18 x6 (x4 + 1)) ∧ (¬ σ 162 ((x2 + 3) + x4) > x5 → ∀ x7, x7 = x3 + 1 → ag18 x7 (x4 + 1))))))) n 0 0))

def f_X7_isWithin (p1 : Int) (σ : St) (K : Int → Prop) : Prop :=
  f_X7_of p1 1 σ (fun x1 => f_X7_in (x1 - (σ 162 4)) 0 ((σ 162 6) - 1) σ (fun x2 => (Rg x2 ∧ (x2 = 0 → K 0) ∧ (¬ x2 = 0 → f_X7_of p1 2 σ (fun x3 => f_X7_in (x3 - (σ 162 5)) 0 ((σ 162 7) - 1) σ (fun x4 => (Rg x4 ∧ (x4 = 0 → K 0) ∧ (¬ x4 = 0 → K 1))))))))

def f_X7_isShown (p1 : Int) (σ : St) (K : Int → Prop) : Prop :=
  f_X7_of p1 4 σ (fun x1 => (Rg x1 ∧ Rg (σ 162 8) ∧ (x1 > σ 162 8 → K 0) ∧ (¬ x1 > σ 162 8 → f_X7_isWithin p1 σ (fun x2 => (Rg x2 ∧ (x2 = 0 → K 0) ∧ (¬ x2 = 0 → K 1))))))

def f_X7_shownMany (σ : St) (K : Int → Prop) : Prop :=
  (∃ n, wl2 (fun x1 x2 ag4 => (Rg x2 ∧ Rg (σ 162 9) ∧ (x2 ≥ σ 162 9 → K x1) ∧ (¬ x2 ≥ σ 162 9 → f_X7_isShown x2 σ (fun x3 => (Rg x3 ∧ (x3 = 0 → ∀ x4, x4 = x1 + 0 → ag4 x4 (x2 + 1)) ∧ (¬ x3 = 0 → ∀ x5, x5 = x1 + 1 → ag4 x5 (x2 + 1))))))) n 0 0)

def f_X7_isInSight (p1 : Int) (σ : St) (K : Int → Prop) : Prop :=
  (∃ n, wl2 (fun x1 x2 ag4 => (Rg x2 ∧ Rg (σ 162 9) ∧ (x2 ≥ σ 162 9 → Bl x1 ∧ K x1) ∧ (¬ x2 ≥ σ 162 9 → (Rg x1 ∧ (x1 ≠ 0 → ag4 1 (x2 + 1)) ∧ (¬ x1 ≠ 0 → (0 ≤ x2 ∧ x2 < 40) ∧ (Rg (σ 167 x2) ∧ (σ 167 x2 = 0 → ag4 0 (x2 + 1)) ∧ (¬ σ 167 x2 = 0 → f_X7_of x2 0 σ (fun x3 => (Rg x3 ∧ Rg p1 ∧ (x3 ≠ p1 → ag4 0 (x2 + 1)) ∧ (¬ x3 ≠ p1 → ag4 1 (x2 + 1))))))))))) n 0 0)

def f_X7_adds (p1 : Int) (p2 : Int) (p3 : Int) (p4 : Int) (p5 : Int) (σ : St) (K : St → Prop) : Prop :=
  (0 ≤ 5 * (σ 161 13) ∧ 5 * (σ 161 13) < 400) ∧ ∀ s1, s1 = up2 σ 168 (5 * (σ 161 13)) p1 → (0 ≤ (5 * (s1 161 13)) + 1 ∧ (5 * (s1 161 13)) + 1 < 400) ∧ ∀ s2, s2 = up2 s1 168 ((5 * (s1 161 13)) + 1) p2 → (0 ≤ (5 * (s2 161 13)) + 2 ∧ (5 * (s2 161 13)) + 2 < 400) ∧ ∀ s3, s3 = up2 s2 168 ((5 * (s2 161 13)) + 2) p3 → (0 ≤ (5 * (s3 161 13)) + 3 ∧ (5 * (s3 161 13)) + 3 < 400) ∧ ∀ s4, s4 = up2 s3 168 ((5 * (s3 161 13)) + 3) p4 → (0 ≤ (5 * (s4 161 13)) + 4 ∧ (5 * (s4 161 13)) + 4 < 400) ∧ ∀ s5, s5 = up2 s4 168 ((5 * (s4 161 13)) + 4) p5 → ∀ s6, s6 = up2 s5 161 13 ((s5 161 13) + 1) → K s6

def f_X7_signsOf (p1 : Int) (p2 : Int) (p3 : Int) (σ : St) (K : Int → Prop) : Prop :=
  (∃ n, wl2 (fun x1 x2 ag6 => (Rg x2 ∧ Rg (σ 162 9) ∧ (x2 ≥ σ 162 9 → K x1) ∧ (¬ x2 ≥ σ 162 9 → (0 ≤ x2 ∧ x2 < 40) ∧ (Rg (σ 167 x2) ∧ (σ 167 x2 = 0 → ∀ x3, x3 = x1 + 0 → ag6 x3 (x2 + 1)) ∧ (¬ σ 167 x2 = 0 → f_X7_of x2 0 σ (fun x4 => (Rg x4 ∧ Rg p1 ∧ (x4 ≠ p1 → ∀ x5, x5 = x1 + 0 → ag6 x5 (x2 + 1)) ∧ (¬ x4 ≠ p1 → f_X7_classOf x2 σ (fun x6 => f_X7_in x6 p2 p3 σ (fun x7 => (Rg x7 ∧ (x7 = 0 → ∀ x8, x8 = x1 + 0 → ag6 x8 (x2 + 1)) ∧ (¬ x7 = 0 → ∀ x9, x9 = x1 + 1 → ag6 x9 (x2 + 1))))))))))))) n 0 0)

def f_X7_addsKind (p1 : Int) (σ : St) (K : St → Prop) : Prop :=
  (∃ n, wl2s (fun x1 x2 s3 ag4 => (Rg x2 ∧ (x2 ≥ 6 → (∃ n, wl1s (fun x4 s5 ag55 => (Rg x4 ∧ Rg (s5 162 0) ∧ (x4 ≤ s5 162 0 → (∃ n, wl1s (fun x6 s7 ag230 => (Rg x6 ∧ Rg x4 ∧ (x6 ≥ x4 → K s7) ∧ (¬ x6 ≥ x4 → f_X7_groupOf p1 s7 (fun x8 => (0 ≤ x6 ∧ x6 < 6) ∧ (0 ≤ x6 ∧ x6 < 6) ∧ f_X7_adds 0 p1 x8 (s7 172 x6) (s7 173 x6) s7 (fun s9 => ag230 (x6 + 1) s9))))) n 0 s5)) ∧ (¬ x4 ≤ s5 162 0 → (∃ n, wl2 (fun x10 x11 ag70 => (Rg (x11 + 1) ∧ Rg x4 ∧ (x11 + 1 ≥ x4 → (0 ≤ x10 + 1 ∧ x10 + 1 < 6) ∧ (0 ≤ x10 ∧ x10 < 6) ∧ ∀ s12, s12 = up2 s5 173 x10 (s5 173 (x10 + 1)) → (0 ≤ x10 ∧ x10 < 6) ∧ (0 ≤ x10 + 1 ∧ x10 + 1 < 6) ∧ (0 ≤ x10 ∧ x10 < 6) ∧ ∀ s13, s13 = up2 s12 174 x10 ((s12 174 x10) + (s12 174 (x10 + 1))) → ∀ x14, x14 = x10 + 1 → (∃ n, wl1s (fun x15 s16 ag165 => (Rg x15 ∧ Rg (x4 + (-1)) ∧ (x15 ≥ x4 + (-1) → ag55 (x4 + (-1)) s16) ∧ (¬ x15 ≥ x4 + (-1) → (0 ≤ x15 + 1 ∧ x15 + 1 < 6) ∧ (0 ≤ x15 ∧ x15 < 6) ∧ ∀ s17, s17 = up2 s16 172 x15 (s16 172 (x15 + 1)) → (0 ≤ x15 + 1 ∧ x15 + 1 < 6) ∧ (0 ≤ x15 ∧ x15 < 6) ∧ ∀ s18, s18 = up2 s17 173 x15 (s17 173 (x15 + 1)) → (0 ≤ x15 + 1 ∧ x15 + 1 < 6) ∧ (0 ≤ x15 ∧ x15 < 6) ∧ ∀ s19, s19 = up2 s18 174 x15 (s18 174 (x15 + 1)) → ag165 (x15 + 1) s19))) n x14 s13)) ∧ (¬ x11 + 1 ≥ x4 → (0 ≤ x11 ∧ x11 < 6) ∧ (0 ≤ x11 + 1 ∧ x11 + 1 < 6) ∧ (0 ≤ x10 ∧ x10 < 6) ∧ (0 ≤ x10 + 1 ∧ x10 + 1 < 6) ∧ (Rg ((s5 174 x11) + (s5 174 (x11 + 1))) ∧ Rg ((s5 174 x10) + (s5 174 (x10 + 1))) ∧ ((s5 174 x11) + (s5 174 (x11 + 1)) ≥ (s5 174 x10) + (s5 174 (x10 + 1)) → ag70 x10 (x11 + 1)) ∧ (¬ (s5 174 x11) + (s5 174 (x11 + 1)) ≥ (s5 174 x10) + (s5 174 (x10 + 1)) → ag70 x11 (x11 + 1)))))) n 0 1)))) n x1 s3)) ∧ (¬ x2 ≥ 6 → f_X7_signsOf p1 x2 x2 s3 (fun x20 => (Rg x20 ∧ (x20 ≤ 0 → ag4 x1 (x2 + 1) s3) ∧ (¬ x20 ≤ 0 → (0 ≤ x1 ∧ x1 < 6) ∧ ∀ s21, s21 = up2 s3 172 x1 x2 → (0 ≤ x1 ∧ x1 < 6) ∧ ∀ s22, s22 = up2 s21 173 x1 x2 → (0 ≤ x1 ∧ x1 < 6) ∧ ∀ s23, s23 = up2 s22 174 x1 x20 → ag4 (x1 + 1) (x2 + 1) s23)))))) n 0 0 σ)

def f_X7_lowest (p1 : Int) (σ : St) (K : Int → Prop) : Prop :=
  (∃ n, wl2 (fun x1 x2 ag4 => (Rg x2 ∧ (x2 ≥ 12 → K x1) ∧ (¬ x2 ≥ 12 → (0 ≤ x2 ∧ x2 < 12) ∧ (wj1 (fun x7 => (Rg x7 ∧ (x7 = 0 → ag4 x1 (x2 + 1)) ∧ (¬ x7 = 0 → (Rg x1 ∧ (x1 = (-1) → ag4 x2 (x2 + 1)) ∧ (¬ x1 = (-1) → f_X7_rankOf x2 σ (fun x8 => f_X7_rankOf x1 σ (fun x9 => (Rg x8 ∧ Rg x9 ∧ (x8 ≥ x9 → ag4 x1 (x2 + 1)) ∧ (¬ x8 ≥ x9 → ag4 x2 (x2 + 1)))))))))) (fun jj38 => (wj0 (jj38 0) (fun jj37 => (Rg (σ 175 x2) ∧ (σ 175 x2 = 0 → jj37) ∧ (¬ σ 175 x2 = 0 → (wj0 (jj38 1) (fun jj33 => (Rg p1 ∧ (p1 = (-1) → jj33) ∧ (¬ p1 = (-1) → f_X7_groupOf x2 σ (fun x6 => (Rg x6 ∧ Rg p1 ∧ (x6 ≠ p1 → jj37) ∧ (¬ x6 ≠ p1 → jj33)))))))))))))))) n (-1) 0)

def f_X7_addsGroup (p1 : Int) (σ : St) (K : St → Prop) : Prop :=
  (∃ n, wl3 (fun x1 x2 x3 ag7 => (Rg x3 ∧ (x3 ≥ 12 → (0 ≤ 10 + p1 ∧ 10 + p1 < 311) ∧ (wj1 (fun x6 => (wj0s (fun s11 => f_X7_lowest p1 s11 (fun x12 => (∃ n, wl1s (fun x13 s14 ag126 => (Rg x13 ∧ (x13 = (-1) → K s14) ∧ (¬ x13 = (-1) → (0 ≤ x13 ∧ x13 < 12) ∧ ∀ s15, s15 = up2 s14 175 x13 0 → (Rg x6 ∧ (x6 ≠ 0 → f_X7_lowest p1 s15 (fun x16 => ag126 x16 s15)) ∧ (¬ x6 ≠ 0 → f_X7_addsKind x13 s15 (fun s17 => f_X7_lowest p1 s17 (fun x18 => ag126 x18 s17))))))) n x12 s11))) (fun jj119 => (Rg x1 ∧ (x1 ≤ 1 → jj119 σ) ∧ (¬ x1 ≤ 1 → (wj1 (fun x9 => f_X7_adds x9 (-1) p1 (-1) (-1) σ (fun s10 => jj119 s10)) (fun jj112 => (Rg x6 ∧ (x6 = 0 → jj112 1) ∧ (¬ x6 = 0 → jj112 2))))))))) (fun jj94 => (wj0 (jj94 0) (fun jj93 => (Rg (σ 162 (10 + p1)) ∧ (σ 162 (10 + p1) ≠ 1 → jj93) ∧ (¬ σ 162 (10 + p1) ≠ 1 → (Rg x1 ∧ (x1 ≤ 1 → jj93) ∧ (¬ x1 ≤ 1 → (Rg x1 ∧ Rg x2 ∧ (x1 ≠ x2 → jj93) ∧ (¬ x1 ≠ x2 → jj94 1))))))))))) ∧ (¬ x3 ≥ 12 → f_X7_groupOf x3 σ (fun x19 => (wj1 (fun x21 => ∀ x22, x22 = x2 + x21 → f_X7_groupOf x3 σ (fun x23 => (Rg x23 ∧ Rg p1 ∧ (x23 ≠ p1 → ∀ x24, x24 = x1 + 0 → ag7 x24 x22 (x3 + 1)) ∧ (¬ x23 ≠ p1 → (0 ≤ x3 ∧ x3 < 12) ∧ (Rg (σ 175 x3) ∧ (σ 175 x3 = 0 → ∀ x25, x25 = x1 + 0 → ag7 x25 x22 (x3 + 1)) ∧ (¬ σ 175 x3 = 0 → ∀ x26, x26 = x1 + 1 → ag7 x26 x22 (x3 + 1))))))) (fun jj30 => (Rg x19 ∧ Rg p1 ∧ (x19 ≠ p1 → jj30 0) ∧ (¬ x19 ≠ p1 → jj30 1)))))))) n 0 0 0)

def f_X7_listsLines (σ : St) (K : St → Prop) : Prop :=
  ∀ s1, s1 = up2 σ 161 13 0 → (∃ n, wl1s (fun x2 s3 ag7 => (Rg x2 ∧ (x2 ≥ 12 → f_X7_lowest (-1) s3 (fun x4 => (∃ n, wl1s (fun x5 s6 ag36 => (Rg x5 ∧ (x5 = (-1) → K s6) ∧ (¬ x5 = (-1) → f_X7_groupOf x5 s6 (fun x7 => (Rg x7 ∧ (x7 ≠ (-1) → f_X7_groupOf x5 s6 (fun x8 => f_X7_addsGroup x8 s6 (fun s9 => f_X7_lowest (-1) s9 (fun x10 => ag36 x10 s9)))) ∧ (¬ x7 ≠ (-1) → (0 ≤ x5 ∧ x5 < 12) ∧ ∀ s11, s11 = up2 s6 175 x5 0 → f_X7_addsKind x5 s11 (fun s12 => f_X7_lowest (-1) s12 (fun x13 => ag36 x13 s12)))))))) n x4 s3))) ∧ (¬ x2 ≥ 12 → f_X7_isInSight x2 s3 (fun x14 => (0 ≤ x2 ∧ x2 < 12) ∧ Bl x14 ∧ ∀ s15, s15 = up2 s3 175 x2 x14 → ag7 (x2 + 1) s15)))) n 0 s1)

def f_X7_isCovered (p1 : Int) (σ : St) (K : Int → Prop) : Prop :=
  (Rg (σ 161 18) ∧ (σ 161 18 = (-1) → K 0) ∧ (¬ σ 161 18 = (-1) → f_X7_of p1 1 σ (fun x1 => f_X7_in (x1 - (σ 161 19)) 0 ((σ 161 21) - 1) σ (fun x2 => (Rg x2 ∧ (x2 = 0 → K 0) ∧ (¬ x2 = 0 → f_X7_of p1 2 σ (fun x3 => f_X7_in (x3 - (σ 161 20)) 0 ((σ 161 22) - 1) σ (fun x4 => (Rg x4 ∧ (x4 = 0 → K 0) ∧ (¬ x4 = 0 → K 1))))))))))

def f_X7_coveredMany (σ : St) (K : Int → Prop) : Prop :=
  (∃ n, wl2 (fun x1 x2 ag4 => (Rg x2 ∧ Rg (σ 162 9) ∧ (x2 ≥ σ 162 9 → K x1) ∧ (¬ x2 ≥ σ 162 9 → f_X7_isShown x2 σ (fun x3 => (Rg x3 ∧ (x3 = 0 → ∀ x4, x4 = x1 + 0 → ag4 x4 (x2 + 1)) ∧ (¬ x3 = 0 → f_X7_isCovered x2 σ (fun x5 => (Rg x5 ∧ (x5 = 0 → ∀ x6, x6 = x1 + 0 → ag4 x6 (x2 + 1)) ∧ (¬ x5 = 0 → ∀ x7, x7 = x1 + 1 → ag4 x7 (x2 + 1)))))))))) n 0 0)

def f_X7_stands (p1 : Int) (σ : St) (K : St → Prop) : Prop :=
  ∀ s1, s1 = up2 σ 161 18 p1 → (0 ≤ p1 ∧ p1 ≤ 2147483647) ∧ (wj1 (fun x3 => ∀ s4, s4 = up2 s1 161 19 x3 → (Rg p1 ∧ (p1 ≥ 2 → ∀ s5, s5 = up2 s4 161 20 (((s4 162 5) + (s4 162 7)) - (s4 161 22)) → K s5) ∧ (¬ p1 ≥ 2 → ∀ s6, s6 = up2 s4 161 20 (s4 162 5) → K s6))) (fun jj40 => (Rg (p1 % 2) ∧ (p1 % 2 ≠ 0 → jj40 (((s1 162 4) + (s1 162 6)) - (s1 161 21))) ∧ (¬ p1 % 2 ≠ 0 → jj40 (s1 162 4)))))

def f_X7_laysBox (σ : St) (K : St → Prop) : Prop :=
  ∀ s1, s1 = up2 σ 161 18 (-1) → (Rg (s1 161 13) ∧ (s1 161 13 ≠ 0 → (0 ≤ ((s1 161 13) + (s1 162 1)) - 1 ∧ ((s1 161 13) + (s1 162 1)) - 1 ≤ 2147483647) ∧ (0 < s1 162 1 ∧ s1 162 1 ≤ 2147483647) ∧ ∀ x2, x2 = (((s1 161 13) + (s1 162 1)) - 1) / (s1 162 1) → (∃ n, wl4s (fun x3 x4 x5 x6 s7 ag44 => (Rg x6 ∧ Rg (s7 161 13) ∧ (x6 ≥ s7 161 13 → ∀ x8, x8 = (s7 162 2) * (x3 + 1) → ∀ x9, x9 = (s7 162 3) * x5 → (wj1 (fun x11 => ∀ s12, s12 = up2 s7 161 21 x11 → (wj1 (fun x14 => ∀ s15, s15 = up2 s12 161 22 x14 → (∃ n, wl3s (fun x16 x17 x18 s19 ag239 => (Rg x18 ∧ (x18 ≥ 4 → f_X7_stands x16 s19 (fun s20 => K s20)) ∧ (¬ x18 ≥ 4 → f_X7_stands x18 s19 (fun s21 => f_X7_coveredMany s21 (fun x22 => (wj1 (fun x24 => (Rg x22 ∧ Rg x17 ∧ (x22 ≥ x17 → ag239 x24 x17 (x18 + 1) s21) ∧ (¬ x22 ≥ x17 → ag239 x24 x22 (x18 + 1) s21))) (fun jj271 => (Rg x22 ∧ Rg x17 ∧ (x22 ≥ x17 → jj271 x16) ∧ (¬ x22 ≥ x17 → jj271 x18))))))))) n 0 41 0 s15)) (fun jj226 => (Rg x9 ∧ Rg (s12 162 7) ∧ (x9 ≥ s12 162 7 → jj226 (s12 162 7)) ∧ (¬ x9 ≥ s12 162 7 → jj226 x9))))) (fun jj198 => (Rg x8 ∧ Rg (s7 162 6) ∧ (x8 ≥ s7 162 6 → jj198 (s7 162 6)) ∧ (¬ x8 ≥ s7 162 6 → jj198 x8))))) ∧ (¬ x6 ≥ s7 161 13 → (0 ≤ 5 * x6 ∧ 5 * x6 < 400) ∧ (wj1 (fun x26 => (wj2 (fun x29 x30 => (0 ≤ x6 ∧ x6 < 80) ∧ ∀ s31, s31 = up2 s7 170 x6 x29 → (0 ≤ x6 ∧ x6 < 80) ∧ ∀ s32, s32 = up2 s31 171 x6 x30 → (Rg (x30 + 1) ∧ Rg x5 ∧ (x30 + 1 ≤ x5 → ag44 x29 (x30 + 1) x5 (x6 + 1) s32) ∧ (¬ x30 + 1 ≤ x5 → ∀ x33, x33 = x30 + 1 → ag44 x29 (x30 + 1) x33 (x6 + 1) s32))) (fun jj111 => (Rg x3 ∧ Rg ((s7 162 1) - 1) ∧ (x3 ≥ (s7 162 1) - 1 → jj111 x3 x4) ∧ (¬ x3 ≥ (s7 162 1) - 1 → (wj0 (jj111 (x3 + 1) 0) (fun jj106 => (Rg x4 ∧ Rg x2 ∧ (x4 = x2 → jj106) ∧ (¬ x4 = x2 → (Rg x26 ∧ (x26 = 0 → jj111 x3 x4) ∧ (¬ x26 = 0 → (Rg x4 ∧ (x4 ≤ 0 → jj111 x3 x4) ∧ (¬ x4 ≤ 0 → (Rg x4 ∧ Rg (x2 - 1) ∧ (x4 ≠ x2 - 1 → jj111 x3 x4) ∧ (¬ x4 ≠ x2 - 1 → jj106))))))))))))))) (fun jj71 => (Rg (s7 168 (5 * x6)) ∧ (s7 168 (5 * x6) ≠ 1 → jj71 0) ∧ (¬ s7 168 (5 * x6) ≠ 1 → jj71 1))))))) n 0 0 0 0 s1)) ∧ (¬ s1 161 13 ≠ 0 → K s1))

def f_X7_areSame (σ : St) (K : Int → Prop) : Prop :=
  (wj1 (fun x2 => (∃ n, wl2 (fun x3 x4 ag19 => (Rg x4 ∧ Rg (5 * (σ 161 13)) ∧ (x4 ≥ 5 * (σ 161 13) → Bl x3 ∧ K x3) ∧ (¬ x4 ≥ 5 * (σ 161 13) → (Rg x3 ∧ (x3 = 0 → Bl x3 ∧ K x3) ∧ (¬ x3 = 0 → (0 ≤ x4 ∧ x4 < 400) ∧ (0 ≤ x4 ∧ x4 < 400) ∧ (Rg (σ 168 x4) ∧ Rg (σ 169 x4) ∧ (σ 168 x4 ≠ σ 169 x4 → ag19 0 (x4 + 1)) ∧ (¬ σ 168 x4 ≠ σ 169 x4 → ag19 1 (x4 + 1)))))))) n x2 0)) (fun jj16 => (Rg (σ 161 13) ∧ Rg (σ 161 14) ∧ (σ 161 13 ≠ σ 161 14 → jj16 0) ∧ (¬ σ 161 13 ≠ σ 161 14 → jj16 1))))

def f_X7_round (σ : St) (K : St → Prop) : Prop :=
  (∃ n, wl1s (fun x1 s2 ag2 => (Rg x1 ∧ (x1 ≥ 40 → (∃ n, wl1s (fun x3 s4 ag54 => (Rg x3 ∧ Rg (5 * (s4 161 13)) ∧ (x3 ≥ 5 * (s4 161 13) → ∀ s5, s5 = up2 s4 161 14 (s4 161 13) → f_X7_listsLines s5 (fun s6 => f_X7_laysBox s6 (fun s7 => ∀ s8, s8 = up2 s7 161 16 ((s7 161 16) + 1) → K s8))) ∧ (¬ x3 ≥ 5 * (s4 161 13) → (0 ≤ x3 ∧ x3 < 400) ∧ (0 ≤ x3 ∧ x3 < 400) ∧ ∀ s9, s9 = up2 s4 169 x3 (s4 168 x3) → ag54 (x3 + 1) s9))) n 0 s2)) ∧ (¬ x1 ≥ 40 → (Rg x1 ∧ Rg (s2 162 9) ∧ (x1 ≥ s2 162 9 → (0 ≤ x1 ∧ x1 < 40) ∧ ∀ s10, s10 = up2 s2 167 x1 0 → ag2 (x1 + 1) s10) ∧ (¬ x1 ≥ s2 162 9 → f_X7_isShown x1 s2 (fun x11 => (Rg x11 ∧ (x11 = 0 → (0 ≤ x1 ∧ x1 < 40) ∧ ∀ s12, s12 = up2 s2 167 x1 0 → ag2 (x1 + 1) s12) ∧ (¬ x11 = 0 → f_X7_isCovered x1 s2 (fun x13 => (Rg x13 ∧ (x13 ≠ 0 → (0 ≤ x1 ∧ x1 < 40) ∧ ∀ s14, s14 = up2 s2 167 x1 0 → ag2 (x1 + 1) s14) ∧ (¬ x13 ≠ 0 → (0 ≤ x1 ∧ x1 < 40) ∧ ∀ s15, s15 = up2 s2 167 x1 1 → ag2 (x1 + 1) s15))))))))))) n 0 σ)

def f_X7_makes (σ : St) (K : St → Prop) : Prop :=
  ∀ s1, s1 = up2 σ 161 18 (-1) → ∀ s2, s2 = up2 s1 161 13 0 → ∀ s3, s3 = up2 s2 161 16 0 → ∀ s4, s4 = up2 s3 161 17 0 → f_X7_round s4 (fun s5 => ∀ s6, s6 = up2 s5 161 15 (s5 161 13) → (∃ n, wl0s (fun s7 ag32 => (Rg (s7 161 16) ∧ (s7 161 16 ≥ 8 → K s7) ∧ (¬ s7 161 16 ≥ 8 → (Rg (s7 161 17) ∧ (s7 161 17 ≠ 0 → K s7) ∧ (¬ s7 161 17 ≠ 0 → f_X7_round s7 (fun s8 => f_X7_areSame s8 (fun x9 => Bl x9 ∧ ∀ s10, s10 = up2 s8 161 17 x9 → ag32 s10))))))) n s6))

def f_X7_explainedMany (σ : St) (K : Int → Prop) : Prop :=
  (∃ n, wl2 (fun x1 x2 ag4 => (Rg x2 ∧ (x2 ≥ 40 → K x1) ∧ (¬ x2 ≥ 40 → (0 ≤ x2 ∧ x2 < 40) ∧ (Rg (σ 167 x2) ∧ (σ 167 x2 = 0 → ∀ x3, x3 = x1 + 0 → ag4 x3 (x2 + 1)) ∧ (¬ σ 167 x2 = 0 → ∀ x4, x4 = x1 + 1 → ag4 x4 (x2 + 1)))))) n 0 0)

def f_X7_addSign (p1 : Int) (p2 : Int) (p3 : Int) (p4 : Int) (p5 : Int) (σ : St) (K : Int → St → Prop) : Prop :=
  f_X7_isKind p1 σ (fun x1 => (Rg x1 ∧ (x1 ≠ 0 → f_X7_in p2 0 199 σ (fun x2 => (Rg x2 ∧ (x2 = 0 → f_X7_fails 2 σ (fun x3 s4 => K x3 s4)) ∧ (¬ x2 = 0 → f_X7_in p3 0 199 σ (fun x5 => (Rg x5 ∧ (x5 = 0 → f_X7_fails 2 σ (fun x6 s7 => K x6 s7)) ∧ (¬ x5 = 0 → f_X7_in p4 0 9999 σ (fun x8 => (Rg x8 ∧ (x8 = 0 → f_X7_fails 2 σ (fun x9 s10 => K x9 s10)) ∧ (¬ x8 = 0 → f_X7_in p5 0 5 σ (fun x11 => (Rg x11 ∧ (x11 ≠ 0 → (Rg (σ 162 9) ∧ (σ 162 9 ≠ 40 → f_X7_hold σ (fun s12 => ∀ x13, x13 = 111 + (5 * (s12 162 9)) → (0 ≤ x13 ∧ x13 < 311) ∧ ∀ s14, s14 = up2 s12 162 x13 p1 → (0 ≤ x13 + 1 ∧ x13 + 1 < 311) ∧ ∀ s15, s15 = up2 s14 162 (x13 + 1) p2 → (0 ≤ x13 + 2 ∧ x13 + 2 < 311) ∧ ∀ s16, s16 = up2 s15 162 (x13 + 2) p3 → (0 ≤ x13 + 3 ∧ x13 + 3 < 311) ∧ ∀ s17, s17 = up2 s16 162 (x13 + 3) p4 → (0 ≤ x13 + 4 ∧ x13 + 4 < 311) ∧ ∀ s18, s18 = up2 s17 162 (x13 + 4) p5 → ∀ s19, s19 = up2 s18 162 9 ((s18 162 9) + 1) → f_X7_ends ((s19 162 9) - 1) s19 (fun x20 s21 => K x20 s21))) ∧ (¬ σ 162 9 ≠ 40 → f_X7_fails 3 σ (fun x22 s23 => K x22 s23)))) ∧ (¬ x11 ≠ 0 → f_X7_fails 2 σ (fun x24 s25 => K x24 s25)))))))))))))) ∧ (¬ x1 ≠ 0 → f_X7_fails 1 σ (fun x26 s27 => K x26 s27))))

def f_X7_drops (p1 : Int) (σ : St) (K : St → Prop) : Prop :=
  ∀ s1, s1 = up2 σ 162 9 ((σ 162 9) - 1) → ∀ x2, x2 = 111 + (5 * p1) → (∃ n, wl1s (fun x3 s4 ag18 => (Rg x3 ∧ Rg (111 + (5 * (s4 162 9))) ∧ (x3 ≥ 111 + (5 * (s4 162 9)) → K s4) ∧ (¬ x3 ≥ 111 + (5 * (s4 162 9)) → (0 ≤ x3 + 5 ∧ x3 + 5 < 311) ∧ (0 ≤ x3 ∧ x3 < 311) ∧ ∀ s5, s5 = up2 s4 162 x3 (s4 162 (x3 + 5)) → ag18 (x3 + 1) s5))) n x2 s1)

def f_X7_removeSign (p1 : Int) (σ : St) (K : Int → St → Prop) : Prop :=
  f_X7_isSign p1 σ (fun x1 => (Rg x1 ∧ (x1 ≠ 0 → f_X7_hold σ (fun s2 => f_X7_drops p1 s2 (fun s3 => f_X7_ends (s3 162 9) s3 (fun x4 s5 => K x4 s5)))) ∧ (¬ x1 ≠ 0 → f_X7_fails 1 σ (fun x6 s7 => K x6 s7))))

def f_X7_moveSign (p1 : Int) (p2 : Int) (p3 : Int) (σ : St) (K : Int → St → Prop) : Prop :=
  f_X7_isSign p1 σ (fun x1 => (Rg x1 ∧ (x1 ≠ 0 → f_X7_in p2 0 199 σ (fun x2 => (Rg x2 ∧ (x2 = 0 → f_X7_fails 2 σ (fun x3 s4 => K x3 s4)) ∧ (¬ x2 = 0 → f_X7_in p3 0 199 σ (fun x5 => (Rg x5 ∧ (x5 ≠ 0 → f_X7_hold σ (fun s6 => f_X7_of p1 1 s6 (fun x7 => (0 ≤ (111 + (5 * p1)) + 1 ∧ (111 + (5 * p1)) + 1 < 311) ∧ ∀ s8, s8 = up2 s6 162 ((111 + (5 * p1)) + 1) p2 → (0 ≤ (111 + (5 * p1)) + 2 ∧ (111 + (5 * p1)) + 2 < 311) ∧ ∀ s9, s9 = up2 s8 162 ((111 + (5 * p1)) + 2) p3 → f_X7_ends x7 s9 (fun x10 s11 => K x10 s11)))) ∧ (¬ x5 ≠ 0 → f_X7_fails 2 σ (fun x12 s13 => K x12 s13)))))))) ∧ (¬ x1 ≠ 0 → f_X7_fails 1 σ (fun x14 s15 => K x14 s15))))

def f_X7_setWindow (p1 : Int) (p2 : Int) (p3 : Int) (p4 : Int) (p5 : Int) (σ : St) (K : Int → St → Prop) : Prop :=
  f_X7_in p1 0 199 σ (fun x1 => (Rg x1 ∧ (x1 = 0 → f_X7_fails 1 σ (fun x2 s3 => K x2 s3)) ∧ (¬ x1 = 0 → f_X7_in p2 0 199 σ (fun x4 => (Rg x4 ∧ (x4 = 0 → f_X7_fails 1 σ (fun x5 s6 => K x5 s6)) ∧ (¬ x4 = 0 → f_X7_in p3 10 200 σ (fun x7 => (Rg x7 ∧ (x7 = 0 → f_X7_fails 1 σ (fun x8 s9 => K x8 s9)) ∧ (¬ x7 = 0 → f_X7_in p4 10 200 σ (fun x10 => (Rg x10 ∧ (x10 = 0 → f_X7_fails 1 σ (fun x11 s12 => K x11 s12)) ∧ (¬ x10 = 0 → f_X7_in p5 0 5 σ (fun x13 => (Rg x13 ∧ (x13 ≠ 0 → f_X7_hold σ (fun s14 => ∀ s15, s15 = up2 s14 162 4 p1 → ∀ s16, s16 = up2 s15 162 5 p2 → ∀ s17, s17 = up2 s16 162 6 p3 → ∀ s18, s18 = up2 s17 162 7 p4 → ∀ s19, s19 = up2 s18 162 8 p5 → f_X7_shownMany s19 (fun x20 => f_X7_ends x20 s19 (fun x21 s22 => K x21 s22)))) ∧ (¬ x13 ≠ 0 → f_X7_fails 1 σ (fun x23 s24 => K x23 s24))))))))))))))))

def f_X7_mostOf (p1 : Int) (σ : St) (K : Int → Prop) : Prop :=
  (Rg p1 ∧ (p1 ≠ 0 → (Rg p1 ∧ (p1 ≠ 1 → (Rg p1 ∧ (p1 ≠ 2 → K 20) ∧ (¬ p1 ≠ 2 → K 60))) ∧ (¬ p1 ≠ 1 → K 4))) ∧ (¬ p1 ≠ 0 → K 6))

def f_X7_set (p1 : Int) (p2 : Int) (σ : St) (K : Int → St → Prop) : Prop :=
  f_X7_in p1 0 3 σ (fun x1 => (Rg x1 ∧ (x1 = 0 → f_X7_fails 1 σ (fun x2 s3 => K x2 s3)) ∧ (¬ x1 = 0 → f_X7_mostOf p1 σ (fun x4 => f_X7_in p2 1 x4 σ (fun x5 => (Rg x5 ∧ (x5 ≠ 0 → f_X7_hold σ (fun s6 => (0 ≤ p1 ∧ p1 < 311) ∧ ∀ x7, x7 = s6 162 p1 → (0 ≤ p1 ∧ p1 < 311) ∧ ∀ s8, s8 = up2 s6 162 p1 p2 → f_X7_ends x7 s8 (fun x9 s10 => K x9 s10))) ∧ (¬ x5 ≠ 0 → f_X7_fails 1 σ (fun x11 s12 => K x11 s12))))))))

def f_X7_setKind (p1 : Int) (p2 : Int) (p3 : Int) (σ : St) (K : Int → St → Prop) : Prop :=
  f_X7_isKind p1 σ (fun x1 => (Rg x1 ∧ (x1 ≠ 0 → f_X7_in p2 0 99 σ (fun x2 => (Rg x2 ∧ (x2 = 0 → f_X7_fails 2 σ (fun x3 s4 => K x3 s4)) ∧ (¬ x2 = 0 → f_X7_in p3 (-1) 4 σ (fun x5 => (Rg x5 ∧ (x5 ≠ 0 → f_X7_hold σ (fun s6 => f_X7_rankOf p1 s6 (fun x7 => (0 ≤ 15 + (8 * p1) ∧ 15 + (8 * p1) < 311) ∧ ∀ s8, s8 = up2 s6 162 (15 + (8 * p1)) p2 → (0 ≤ (15 + (8 * p1)) + 1 ∧ (15 + (8 * p1)) + 1 < 311) ∧ ∀ s9, s9 = up2 s8 162 ((15 + (8 * p1)) + 1) p3 → f_X7_ends x7 s9 (fun x10 s11 => K x10 s11)))) ∧ (¬ x5 ≠ 0 → f_X7_fails 2 σ (fun x12 s13 => K x12 s13)))))))) ∧ (¬ x1 ≠ 0 → f_X7_fails 1 σ (fun x14 s15 => K x14 s15))))

def f_X7_setWay (p1 : Int) (p2 : Int) (σ : St) (K : Int → St → Prop) : Prop :=
  f_X7_in p1 0 4 σ (fun x1 => (Rg x1 ∧ (x1 ≠ 0 → f_X7_in p2 0 1 σ (fun x2 => (Rg x2 ∧ (x2 ≠ 0 → f_X7_hold σ (fun s3 => (0 ≤ 10 + p1 ∧ 10 + p1 < 311) ∧ ∀ x4, x4 = s3 162 (10 + p1) → (0 ≤ 10 + p1 ∧ 10 + p1 < 311) ∧ ∀ s5, s5 = up2 s3 162 (10 + p1) p2 → f_X7_ends x4 s5 (fun x6 s7 => K x6 s7))) ∧ (¬ x2 ≠ 0 → f_X7_fails 2 σ (fun x8 s9 => K x8 s9))))) ∧ (¬ x1 ≠ 0 → f_X7_fails 1 σ (fun x10 s11 => K x10 s11))))

def f_X7_limit (p1 : Int) (p2 : Int) (σ : St) (K : Int → St → Prop) : Prop :=
  f_X7_isKind p1 σ (fun x1 => (Rg x1 ∧ (x1 ≠ 0 → f_X7_in p2 1 9999 σ (fun x2 => (Rg x2 ∧ (x2 ≠ 0 → ∀ x3, x3 = (15 + (8 * p1)) + 2 → (∃ n, wl1 (fun x4 ag43 => (0 ≤ x3 ∧ x3 < 311) ∧ (wj0 ((0 ≤ x3 ∧ x3 < 311) ∧ (wj1 (fun x8 => (wj0 (f_X7_hold σ (fun s12 => (wj0s (fun s24 => (0 ≤ x3 ∧ x3 < 311) ∧ f_X7_ends (s24 162 x3) s24 (fun x25 s26 => K x25 s26)) (fun jj259 => (Rg x8 ∧ (x8 = 0 → (0 ≤ x3 ∧ x3 < 311) ∧ ∀ x14, x14 = s12 162 x3 → (∃ n, wl1s (fun x15 s16 ag204 => (Rg x15 ∧ Rg x4 ∧ (x15 ≤ x4 → (0 ≤ (x3 + 1) + x4 ∧ (x3 + 1) + x4 < 311) ∧ ∀ s17, s17 = up2 s16 162 ((x3 + 1) + x4) p2 → (0 ≤ x3 ∧ x3 < 311) ∧ (0 ≤ x3 ∧ x3 < 311) ∧ ∀ s18, s18 = up2 s17 162 x3 ((s17 162 x3) + 1) → jj259 s18) ∧ (¬ x15 ≤ x4 → (0 ≤ x3 + x15 ∧ x3 + x15 < 311) ∧ (0 ≤ (x3 + 1) + x15 ∧ (x3 + 1) + x15 < 311) ∧ ∀ s19, s19 = up2 s16 162 ((x3 + 1) + x15) (s16 162 (x3 + x15)) → ag204 (x15 + (-1)) s19))) n x14 s12)) ∧ (¬ x8 = 0 → (∃ n, wl1s (fun x20 s21 ag142 => (0 ≤ x3 ∧ x3 < 311) ∧ (Rg (x20 + 1) ∧ Rg (s21 162 x3) ∧ (x20 + 1 ≥ s21 162 x3 → (0 ≤ x3 ∧ x3 < 311) ∧ (0 ≤ x3 ∧ x3 < 311) ∧ ∀ s22, s22 = up2 s21 162 x3 ((s21 162 x3) - 1) → jj259 s22) ∧ (¬ x20 + 1 ≥ s21 162 x3 → (0 ≤ (x3 + 2) + x20 ∧ (x3 + 2) + x20 < 311) ∧ (0 ≤ (x3 + 1) + x20 ∧ (x3 + 1) + x20 < 311) ∧ ∀ s23, s23 = up2 s21 162 ((x3 + 1) + x20) (s21 162 ((x3 + 2) + x20)) → ag142 (x20 + 1) s23))) n x4 s12))))))) (fun jj129 => (Rg x8 ∧ (x8 ≠ 0 → jj129) ∧ (¬ x8 ≠ 0 → (0 ≤ x3 ∧ x3 < 311) ∧ (Rg (σ 162 x3) ∧ (σ 162 x3 ≠ 5 → jj129) ∧ (¬ σ 162 x3 ≠ 5 → f_X7_fails 3 σ (fun x10 s11 => K x10 s11)))))))) (fun jj106 => (wj0 (jj106 0) (fun jj105 => (Rg x4 ∧ Rg (σ 162 x3) ∧ (x4 ≥ σ 162 x3 → jj105) ∧ (¬ x4 ≥ σ 162 x3 → (0 ≤ (x3 + 1) + x4 ∧ (x3 + 1) + x4 < 311) ∧ (Rg (σ 162 ((x3 + 1) + x4)) ∧ Rg p2 ∧ (σ 162 ((x3 + 1) + x4) ≠ p2 → jj105) ∧ (¬ σ 162 ((x3 + 1) + x4) ≠ p2 → jj106 1))))))))) (fun jj75 => (Rg x4 ∧ Rg (σ 162 x3) ∧ (x4 ≥ σ 162 x3 → jj75) ∧ (¬ x4 ≥ σ 162 x3 → (0 ≤ (x3 + 1) + x4 ∧ (x3 + 1) + x4 < 311) ∧ (Rg (σ 162 ((x3 + 1) + x4)) ∧ Rg p2 ∧ (σ 162 ((x3 + 1) + x4) ≥ p2 → jj75) ∧ (¬ σ 162 ((x3 + 1) + x4) ≥ p2 → ag43 (x4 + 1)))))))) n 0)) ∧ (¬ x2 ≠ 0 → f_X7_fails 2 σ (fun x27 s28 => K x27 s28))))) ∧ (¬ x1 ≠ 0 → f_X7_fails 1 σ (fun x29 s30 => K x29 s30))))

def f_X7_valueOf (p1 : Int) (σ : St) (K : Int → Prop) : Prop :=
  (Rg p1 ∧ (p1 ≥ 10 → (Rg p1 ∧ (p1 ≠ 10 → f_X7_explainedMany σ (fun x1 => K x1)) ∧ (¬ p1 ≠ 10 → f_X7_shownMany σ (fun x2 => K x2)))) ∧ (¬ p1 ≥ 10 → (0 ≤ p1 ∧ p1 < 311) ∧ K (σ 162 p1)))

def f_X7_value (p1 : Int) (σ : St) (K : Int → St → Prop) : Prop :=
  f_X7_in p1 0 11 σ (fun x1 => (Rg x1 ∧ (x1 ≠ 0 → f_X7_makes σ (fun s2 => f_X7_valueOf p1 s2 (fun x3 => f_X7_tells x3 s2 (fun x4 s5 => K x4 s5)))) ∧ (¬ x1 ≠ 0 → f_X7_fails 1 σ (fun x6 s7 => K x6 s7))))

def f_X7_standsFor (p1 : Int) (p2 : Int) (σ : St) (K : Int → Prop) : Prop :=
  (0 ≤ p2 ∧ p2 < 40) ∧ (Rg (σ 167 p2) ∧ (σ 167 p2 = 0 → K 0) ∧ (¬ σ 167 p2 = 0 → (0 ≤ 5 * p1 ∧ 5 * p1 < 400) ∧ (Rg (σ 168 (5 * p1)) ∧ (σ 168 (5 * p1) ≠ 1 → (0 ≤ 5 * p1 ∧ 5 * p1 < 400) ∧ (Rg (σ 168 (5 * p1)) ∧ (σ 168 (5 * p1) ≠ 2 → (0 ≤ (5 * p1) + 1 ∧ (5 * p1) + 1 < 400) ∧ f_X7_of p2 0 σ (fun x1 => (Rg (σ 168 ((5 * p1) + 1)) ∧ Rg x1 ∧ (σ 168 ((5 * p1) + 1) ≠ x1 → K 0) ∧ (¬ σ 168 ((5 * p1) + 1) ≠ x1 → f_X7_classOf p2 σ (fun x2 => (0 ≤ (5 * p1) + 3 ∧ (5 * p1) + 3 < 400) ∧ (0 ≤ (5 * p1) + 4 ∧ (5 * p1) + 4 < 400) ∧ f_X7_in x2 (σ 168 ((5 * p1) + 3)) (σ 168 ((5 * p1) + 4)) σ (fun x3 => (Rg x3 ∧ (x3 = 0 → K 0) ∧ (¬ x3 = 0 → K 1)))))))) ∧ (¬ σ 168 (5 * p1) ≠ 2 → f_X7_of p2 0 σ (fun x4 => f_X7_groupOf x4 σ (fun x5 => (0 ≤ (5 * p1) + 2 ∧ (5 * p1) + 2 < 400) ∧ (Rg x5 ∧ Rg (σ 168 ((5 * p1) + 2)) ∧ (x5 ≠ σ 168 ((5 * p1) + 2) → K 0) ∧ (¬ x5 ≠ σ 168 ((5 * p1) + 2) → K 1))))))) ∧ (¬ σ 168 (5 * p1) ≠ 1 → K 0))))

def f_X7_lineFor (p1 : Int) (σ : St) (K : Int → Prop) : Prop :=
  (∃ n, wl1 (fun x1 ag2 => (Rg x1 ∧ Rg (σ 161 13) ∧ (x1 ≥ σ 161 13 → K (-1)) ∧ (¬ x1 ≥ σ 161 13 → f_X7_standsFor x1 p1 σ (fun x2 => (Rg x2 ∧ (x2 = 0 → ag2 (x1 + 1)) ∧ (¬ x2 = 0 → K x1)))))) n 0)

def f_X7_signOf (p1 : Int) (p2 : Int) (σ : St) (K : Int → Prop) : Prop :=
  (Rg p2 ∧ (p2 = 5 → f_X7_classOf p1 σ (fun x1 => K x1)) ∧ (p2 = 6 → f_X7_isShown p1 σ (fun x2 => (Rg x2 ∧ (x2 = 0 → K 0) ∧ (¬ x2 = 0 → K 1)))) ∧ (p2 = 7 → (0 ≤ p1 ∧ p1 < 40) ∧ (Rg (σ 167 p1) ∧ (σ 167 p1 = 0 → K 0) ∧ (¬ σ 167 p1 = 0 → K 1))) ∧ (p2 = 8 → f_X7_lineFor p1 σ (fun x3 => K x3)) ∧ (p2 < 5 ∨ 8 < p2 → f_X7_of p1 p2 σ (fun x4 => K x4)))

def f_X7_sign (p1 : Int) (p2 : Int) (σ : St) (K : Int → St → Prop) : Prop :=
  f_X7_isSign p1 σ (fun x1 => (Rg x1 ∧ (x1 ≠ 0 → f_X7_in p2 0 8 σ (fun x2 => (Rg x2 ∧ (x2 ≠ 0 → f_X7_makes σ (fun s3 => f_X7_signOf p1 p2 s3 (fun x4 => f_X7_tells x4 s3 (fun x5 s6 => K x5 s6)))) ∧ (¬ x2 ≠ 0 → f_X7_fails 2 σ (fun x7 s8 => K x7 s8))))) ∧ (¬ x1 ≠ 0 → f_X7_fails 1 σ (fun x9 s10 => K x9 s10))))

def f_X7_linesOf (p1 : Int) (σ : St) (K : Int → Prop) : Prop :=
  (∃ n, wl2 (fun x1 x2 ag4 => (Rg x2 ∧ Rg (σ 161 13) ∧ (x2 ≥ σ 161 13 → K x1) ∧ (¬ x2 ≥ σ 161 13 → (0 ≤ 5 * x2 ∧ 5 * x2 < 400) ∧ (Rg (σ 168 (5 * x2)) ∧ (σ 168 (5 * x2) ≠ 0 → ∀ x3, x3 = x1 + 0 → ag4 x3 (x2 + 1)) ∧ (¬ σ 168 (5 * x2) ≠ 0 → (0 ≤ (5 * x2) + 1 ∧ (5 * x2) + 1 < 400) ∧ (Rg (σ 168 ((5 * x2) + 1)) ∧ Rg p1 ∧ (σ 168 ((5 * x2) + 1) ≠ p1 → ∀ x4, x4 = x1 + 0 → ag4 x4 (x2 + 1)) ∧ (¬ σ 168 ((5 * x2) + 1) ≠ p1 → ∀ x5, x5 = x1 + 1 → ag4 x5 (x2 + 1)))))))) n 0 0)

def f_X7_kindOf (p1 : Int) (p2 : Int) (σ : St) (K : Int → Prop) : Prop :=
  ∀ x1, x1 = 15 + (8 * p1) → (Rg p2 ∧ (p2 ≥ 3 → (Rg p2 ∧ (p2 ≥ 8 → (Rg p2 ∧ (p2 ≠ 8 → f_X7_signsOf p1 0 5 σ (fun x2 => K x2)) ∧ (¬ p2 ≠ 8 → f_X7_linesOf p1 σ (fun x3 => K x3)))) ∧ (¬ p2 ≥ 8 → (0 ≤ x1 + 2 ∧ x1 + 2 < 311) ∧ (Rg (p2 - 3) ∧ Rg (σ 162 (x1 + 2)) ∧ (p2 - 3 ≥ σ 162 (x1 + 2) → K (-1)) ∧ (¬ p2 - 3 ≥ σ 162 (x1 + 2) → (0 ≤ x1 + p2 ∧ x1 + p2 < 311) ∧ K (σ 162 (x1 + p2))))))) ∧ (¬ p2 ≥ 3 → (0 ≤ x1 + p2 ∧ x1 + p2 < 311) ∧ K (σ 162 (x1 + p2))))

def f_X7_kind (p1 : Int) (p2 : Int) (σ : St) (K : Int → St → Prop) : Prop :=
  f_X7_isKind p1 σ (fun x1 => (Rg x1 ∧ (x1 ≠ 0 → f_X7_in p2 0 9 σ (fun x2 => (Rg x2 ∧ (x2 ≠ 0 → f_X7_makes σ (fun s3 => f_X7_kindOf p1 p2 s3 (fun x4 => f_X7_tells x4 s3 (fun x5 s6 => K x5 s6)))) ∧ (¬ x2 ≠ 0 → f_X7_fails 2 σ (fun x7 s8 => K x7 s8))))) ∧ (¬ x1 ≠ 0 → f_X7_fails 1 σ (fun x9 s10 => K x9 s10))))

def f_X7_lines (σ : St) (K : Int → St → Prop) : Prop :=
  f_X7_makes σ (fun s1 => f_X7_tells (s1 161 13) s1 (fun x2 s3 => K x2 s3))

def f_X7_lineOf (p1 : Int) (p2 : Int) (σ : St) (K : Int → Prop) : Prop :=
  (Rg p2 ∧ (p2 ≥ 5 → (Rg p2 ∧ (p2 ≤ 5 → (∃ n, wl2 (fun x1 x2 ag48 => (Rg x2 ∧ Rg (σ 162 9) ∧ (x2 ≥ σ 162 9 → K x1) ∧ (¬ x2 ≥ σ 162 9 → f_X7_standsFor p1 x2 σ (fun x3 => (Rg x3 ∧ (x3 = 0 → ∀ x4, x4 = x1 + 0 → ag48 x4 (x2 + 1)) ∧ (¬ x3 = 0 → ∀ x5, x5 = x1 + 1 → ag48 x5 (x2 + 1))))))) n 0 0)) ∧ (¬ p2 ≤ 5 → (Rg p2 ∧ (p2 ≠ 6 → (0 ≤ p1 ∧ p1 < 80) ∧ K (σ 171 p1)) ∧ (¬ p2 ≠ 6 → (0 ≤ p1 ∧ p1 < 80) ∧ K (σ 170 p1)))))) ∧ (¬ p2 ≥ 5 → (0 ≤ (5 * p1) + p2 ∧ (5 * p1) + p2 < 400) ∧ K (σ 168 ((5 * p1) + p2))))

def f_X7_line (p1 : Int) (p2 : Int) (σ : St) (K : Int → St → Prop) : Prop :=
  f_X7_makes σ (fun s1 => (Rg p1 ∧ (p1 < 0 → f_X7_fails 1 s1 (fun x2 s3 => K x2 s3)) ∧ (¬ p1 < 0 → (Rg p1 ∧ Rg (s1 161 13) ∧ (p1 < s1 161 13 → f_X7_in p2 0 7 s1 (fun x4 => (Rg x4 ∧ (x4 = 0 → f_X7_fails 2 s1 (fun x5 s6 => K x5 s6)) ∧ (¬ x4 = 0 → f_X7_lineOf p1 p2 s1 (fun x7 => f_X7_tells x7 s1 (fun x8 s9 => K x8 s9)))))) ∧ (¬ p1 < s1 161 13 → f_X7_fails 1 s1 (fun x10 s11 => K x10 s11))))))

def f_X7_boxOf (p1 : Int) (σ : St) (K : Int → Prop) : Prop :=
  (Rg (σ 161 18) ∧ (σ 161 18 ≠ (-1) → (Rg p1 ∧ (p1 = 0 → K (σ 161 18)) ∧ (p1 = 1 → K (σ 161 19)) ∧ (p1 = 2 → K (σ 161 20)) ∧ (p1 = 3 → K (σ 161 21)) ∧ (p1 = 4 → K (σ 161 22)) ∧ (p1 < 0 ∨ 4 < p1 → f_X7_coveredMany σ (fun x1 => K x1)))) ∧ (¬ σ 161 18 ≠ (-1) → K (-1)))

def f_X7_box (p1 : Int) (σ : St) (K : Int → St → Prop) : Prop :=
  f_X7_in p1 0 5 σ (fun x1 => (Rg x1 ∧ (x1 ≠ 0 → f_X7_makes σ (fun s2 => f_X7_boxOf p1 s2 (fun x3 => f_X7_tells x3 s2 (fun x4 s5 => K x4 s5)))) ∧ (¬ x1 ≠ 0 → f_X7_fails 1 σ (fun x6 s7 => K x6 s7))))

def f_X7_roundsOf (p1 : Int) (σ : St) (K : Int → Prop) : Prop :=
  (Rg p1 ∧ (p1 ≥ 2 → (∃ n, wl2 (fun x1 x2 ag33 => (Rg x2 ∧ Rg (σ 162 9) ∧ (x2 ≥ σ 162 9 → K x1) ∧ (¬ x2 ≥ σ 162 9 → (0 ≤ x2 ∧ x2 < 40) ∧ (Rg (σ 167 x2) ∧ (σ 167 x2 = 0 → ∀ x3, x3 = x1 + 0 → ag33 x3 (x2 + 1)) ∧ (¬ σ 167 x2 = 0 → f_X7_isCovered x2 σ (fun x4 => (Rg x4 ∧ (x4 = 0 → ∀ x5, x5 = x1 + 0 → ag33 x5 (x2 + 1)) ∧ (¬ x4 = 0 → ∀ x6, x6 = x1 + 1 → ag33 x6 (x2 + 1))))))))) n 0 0)) ∧ (¬ p1 ≥ 2 → (Rg p1 ∧ (p1 ≠ 0 → (Rg (σ 161 17) ∧ (σ 161 17 = 0 → K 0) ∧ (¬ σ 161 17 = 0 → K 1))) ∧ (¬ p1 ≠ 0 → K (σ 161 16)))))

def f_X7_rounds (p1 : Int) (σ : St) (K : Int → St → Prop) : Prop :=
  f_X7_in p1 0 2 σ (fun x1 => (Rg x1 ∧ (x1 ≠ 0 → f_X7_makes σ (fun s2 => f_X7_roundsOf p1 s2 (fun x3 => f_X7_tells x3 s2 (fun x4 s5 => K x4 s5)))) ∧ (¬ x1 ≠ 0 → f_X7_fails 1 σ (fun x6 s7 => K x6 s7))))

def f_X7_firstLines (σ : St) (K : Int → St → Prop) : Prop :=
  f_X7_makes σ (fun s1 => f_X7_tells (s1 161 15) s1 (fun x2 s3 => K x2 s3))

def f_X7_explained (σ : St) (K : UInt64 → St → Prop) : Prop :=
  ∀ s1, s1 = up2 σ 161 7 0 → f_X7_makes s1 (fun s2 => f_X7_shownMany s2 (fun x3 => (Rg x3 ∧ (x3 ≠ 0 → f_X7_explainedMany s2 (fun x4 => vf_n64 (FP.ddiv (FP.i2d (iI x4)) (FP.i2d (iI x3))) ∧ K (FP.ddiv (FP.i2d (iI x4)) (FP.i2d (iI x3))) s2)) ∧ (¬ x3 ≠ 0 → K (FP.dconst1) s2))))

def f_X7_linesAt (p1 : Int) (p2 : Int) (σ : St) (K : Int → St → Prop) : Prop :=
  f_X7_in p1 0 199 σ (fun x1 => (Rg x1 ∧ (x1 = 0 → f_X7_fails 1 σ (fun x2 s3 => K x2 s3)) ∧ (¬ x1 = 0 → f_X7_in p2 0 199 σ (fun x4 => (Rg x4 ∧ (x4 ≠ 0 → f_X7_copies 165 162 σ (fun s5 => ∀ s6, s6 = up2 s5 162 4 p1 → ∀ s7, s7 = up2 s6 162 5 p2 → f_X7_makes s7 (fun s8 => f_X7_copies 162 165 s8 (fun s9 => f_X7_tells (s9 161 13) s9 (fun x10 s11 => K x10 s11))))) ∧ (¬ x4 ≠ 0 → f_X7_fails 1 σ (fun x12 s13 => K x12 s13)))))))

def f_X7_bestColumns (σ : St) (K : Int → St → Prop) : Prop :=
  ∀ x1, x1 = σ 162 1 → (∃ n, wl3s (fun x2 x3 x4 s5 ag14 => (Rg x4 ∧ (x4 ≥ 5 → ∀ s6, s6 = up2 s5 162 1 x1 → f_X7_tells x2 s6 (fun x7 s8 => K x7 s8)) ∧ (¬ x4 ≥ 5 → ∀ s9, s9 = up2 s5 162 1 x4 → f_X7_makes s9 (fun s10 => f_X7_explainedMany s10 (fun x11 => (wj1 (fun x13 => (Rg x11 ∧ Rg x3 ∧ (x11 ≤ x3 → ag14 x13 x3 (x4 + 1) s10) ∧ (¬ x11 ≤ x3 → ag14 x13 x11 (x4 + 1) s10))) (fun jj50 => (Rg x11 ∧ Rg x3 ∧ (x11 ≤ x3 → jj50 x2) ∧ (¬ x11 ≤ x3 → jj50 x4))))))))) n 0 (-1) 1 σ)

def f_X7_zoomFor (p1 : Int) (σ : St) (K : Int → St → Prop) : Prop :=
  f_X7_isKind p1 σ (fun x1 => (Rg x1 ∧ (x1 ≠ 0 → (∃ n, wl2 (fun x2 x3 ag17 => (Rg x3 ∧ Rg (σ 162 9) ∧ (x3 ≥ σ 162 9 → f_X7_tells x2 σ (fun x4 s5 => K x4 s5)) ∧ (¬ x3 ≥ σ 162 9 → f_X7_of x3 0 σ (fun x6 => (Rg x6 ∧ Rg p1 ∧ (x6 ≠ p1 → ag17 x2 (x3 + 1)) ∧ (¬ x6 ≠ p1 → f_X7_isWithin x3 σ (fun x7 => (Rg x7 ∧ (x7 = 0 → ag17 x2 (x3 + 1)) ∧ (¬ x7 = 0 → f_X7_of x3 4 σ (fun x8 => (Rg x8 ∧ Rg x2 ∧ (x8 ≤ x2 → ag17 x2 (x3 + 1)) ∧ (¬ x8 ≤ x2 → f_X7_of x3 4 σ (fun x9 => ag17 x9 (x3 + 1)))))))))))))) n 0 0)) ∧ (¬ x1 ≠ 0 → f_X7_fails 1 σ (fun x10 s11 => K x10 s11))))

def f_X7_linesSaved (p1 : Int) (σ : St) (K : Int → St → Prop) : Prop :=
  f_X7_isSign p1 σ (fun x1 => (Rg x1 ∧ (x1 ≠ 0 → f_X7_makes σ (fun s2 => ∀ x3, x3 = s2 161 13 → f_X7_copies 165 162 s2 (fun s4 => f_X7_drops p1 s4 (fun s5 => f_X7_makes s5 (fun s6 => f_X7_copies 162 165 s6 (fun s7 => f_X7_tells (x3 - (s7 161 13)) s7 (fun x8 s9 => K x8 s9))))))) ∧ (¬ x1 ≠ 0 → f_X7_fails 1 σ (fun x10 s11 => K x10 s11))))

def f_X7_append (p1 : Int) (σ : St) (K : Int → St → Prop) : Prop :=
  f_X7_in p1 0 127 σ (fun x1 => (Rg x1 ∧ (x1 ≠ 0 → (Rg (σ 161 6) ∧ (σ 161 6 ≠ 160 → (0 ≤ σ 161 6 ∧ σ 161 6 < 160) ∧ ∀ s2, s2 = up2 σ 166 (σ 161 6) p1 → ∀ s3, s3 = up2 s2 161 6 ((s2 161 6) + 1) → f_X7_tells (s3 161 6) s3 (fun x4 s5 => K x4 s5)) ∧ (¬ σ 161 6 ≠ 160 → f_X7_fails 2 σ (fun x6 s7 => K x6 s7)))) ∧ (¬ x1 ≠ 0 → f_X7_fails 1 σ (fun x8 s9 => K x8 s9))))

def f_X7_clearText (σ : St) (K : Int → St → Prop) : Prop :=
  ∀ x1, x1 = σ 161 6 → ∀ s2, s2 = up2 σ 161 6 0 → f_X7_tells x1 s2 (fun x3 s4 => K x3 s4)

def f_X7_isDigit (σ : St) (K : Int → Prop) : Prop :=
  (Rg (σ 161 27) ∧ Rg (σ 161 6) ∧ (σ 161 27 ≥ σ 161 6 → K 0) ∧ (¬ σ 161 27 ≥ σ 161 6 → (0 ≤ σ 161 27 ∧ σ 161 27 < 160) ∧ f_X7_in (σ 166 (σ 161 27)) 48 57 σ (fun x1 => (Rg x1 ∧ (x1 = 0 → K 0) ∧ (¬ x1 = 0 → K 1)))))

def f_X7_isByte (p1 : Int) (σ : St) (K : Int → St → Prop) : Prop :=
  (Rg (σ 161 27) ∧ Rg (σ 161 6) ∧ (σ 161 27 ≥ σ 161 6 → K 0 σ) ∧ (¬ σ 161 27 ≥ σ 161 6 → (0 ≤ σ 161 27 ∧ σ 161 27 < 160) ∧ (Rg (σ 166 (σ 161 27)) ∧ Rg p1 ∧ (σ 166 (σ 161 27) ≠ p1 → K 0 σ) ∧ (¬ σ 166 (σ 161 27) ≠ p1 → ∀ s1, s1 = up2 σ 161 27 ((σ 161 27) + 1) → K 1 s1))))

def f_X7_isNumber (p1 : Int) (p2 : Int) (p3 : Int) (σ : St) (K : Int → St → Prop) : Prop :=
  ∀ x1, x1 = σ 161 27 → (0 ≤ p1 ∧ p1 < 311) ∧ ∀ s2, s2 = up2 σ 162 p1 0 → (∃ n, wl0s (fun s3 ag13 => f_X7_isDigit s3 (fun x4 => (wj0 ((Rg (s3 161 27) ∧ Rg x1 ∧ (s3 161 27 = x1 → K 0 s3) ∧ (¬ s3 161 27 = x1 → f_X7_isDigit s3 (fun x8 => (Rg x8 ∧ (x8 = 0 → (0 ≤ p1 ∧ p1 < 311) ∧ (Rg (s3 162 p1) ∧ Rg p3 ∧ (s3 162 p1 ≤ p3 → f_X7_isByte 44 s3 (fun x9 s10 => Bl x9 ∧ K x9 s10)) ∧ (¬ s3 162 p1 ≤ p3 → ∀ s11, s11 = up2 s3 161 27 x1 → K 0 s11))) ∧ (¬ x8 = 0 → K 0 s3)))))) (fun jj72 => (Rg x4 ∧ (x4 = 0 → jj72) ∧ (¬ x4 = 0 → (Rg ((s3 161 27) - x1) ∧ Rg p2 ∧ ((s3 161 27) - x1 ≥ p2 → jj72) ∧ (¬ (s3 161 27) - x1 ≥ p2 → (0 ≤ p1 ∧ p1 < 311) ∧ (0 ≤ s3 161 27 ∧ s3 161 27 < 160) ∧ (0 ≤ p1 ∧ p1 < 311) ∧ ∀ s6, s6 = up2 s3 162 p1 (((10 * (s3 162 p1)) + (s3 166 (s3 161 27))) - 48) → ∀ s7, s7 = up2 s6 161 27 ((s6 161 27) + 1) → ag13 s7)))))))) n s2)

def f_X7_isSignText (σ : St) (K : Int → St → Prop) : Prop :=
  (Rg (σ 162 9) ∧ (σ 162 9 ≠ 40 → ∀ x1, x1 = 111 + (5 * (σ 162 9)) → f_X7_isNumber x1 2 11 σ (fun x2 s3 => (Rg x2 ∧ (x2 = 0 → K 0 s3) ∧ (¬ x2 = 0 → f_X7_isNumber (x1 + 1) 3 199 s3 (fun x4 s5 => (Rg x4 ∧ (x4 = 0 → K 0 s5) ∧ (¬ x4 = 0 → f_X7_isNumber (x1 + 2) 3 199 s5 (fun x6 s7 => (Rg x6 ∧ (x6 = 0 → K 0 s7) ∧ (¬ x6 = 0 → f_X7_isNumber (x1 + 3) 4 9999 s7 (fun x8 s9 => (Rg x8 ∧ (x8 ≠ 0 → (Rg (s9 161 27) ∧ Rg (s9 161 6) ∧ (s9 161 27 = s9 161 6 → K 0 s9) ∧ (¬ s9 161 27 = s9 161 6 → (0 ≤ s9 161 27 ∧ s9 161 27 < 160) ∧ f_X7_in (s9 166 (s9 161 27)) 48 53 s9 (fun x10 => (Rg x10 ∧ (x10 ≠ 0 → (0 ≤ s9 161 27 ∧ s9 161 27 < 160) ∧ (0 ≤ x1 + 4 ∧ x1 + 4 < 311) ∧ ∀ s11, s11 = up2 s9 162 (x1 + 4) ((s9 166 (s9 161 27)) - 48) → ∀ s12, s12 = up2 s11 161 27 ((s11 161 27) + 1) → ∀ s13, s13 = up2 s12 162 9 ((s12 162 9) + 1) → f_X7_isByte 59 s13 (fun x14 s15 => Bl x14 ∧ K x14 s15)) ∧ (¬ x10 ≠ 0 → K 0 s9)))))) ∧ (¬ x8 ≠ 0 → K 0 s9))))))))))))) ∧ (¬ σ 162 9 ≠ 40 → K 0 σ))

def f_X7_parse (σ : St) (K : Int → St → Prop) : Prop :=
  f_X7_hold σ (fun s1 => ∀ s2, s2 = up2 s1 161 27 0 → ∀ s3, s3 = up2 s2 162 9 0 → (∃ n, wl0s (fun s4 ag17 => (Rg (s4 161 27) ∧ Rg (s4 161 6) ∧ (s4 161 27 ≥ s4 161 6 → f_X7_ends (s4 162 9) s4 (fun x5 s6 => K x5 s6)) ∧ (¬ s4 161 27 ≥ s4 161 6 → f_X7_isSignText s4 (fun x7 s8 => (Rg x7 ∧ (x7 ≠ 0 → ag17 s8) ∧ (¬ x7 ≠ 0 → f_X7_copies 162 164 s8 (fun s9 => f_X7_tells ((-10) - (s9 161 27)) s9 (fun x10 s11 => K x10 s11)))))))) n s3))

def f_X7_undo (σ : St) (K : Int → St → Prop) : Prop :=
  (Rg (σ 161 4) ∧ (σ 161 4 ≠ 0 → ∀ s1, s1 = up2 σ 161 4 ((σ 161 4) - 1) → (∃ n, wl1s (fun x2 s3 ag25 => (Rg x2 ∧ (x2 ≥ 311 → f_X7_tells (s3 161 4) s3 (fun x4 s5 => K x4 s5)) ∧ (¬ x2 ≥ 311 → (0 ≤ (311 * (s3 161 4)) + x2 ∧ (311 * (s3 161 4)) + x2 < 1244) ∧ (0 ≤ x2 ∧ x2 < 311) ∧ ∀ s6, s6 = up2 s3 162 x2 (s3 163 ((311 * (s3 161 4)) + x2)) → ag25 (x2 + 1) s6))) n 0 s1)) ∧ (¬ σ 161 4 ≠ 0 → f_X7_fails 1 σ (fun x7 s8 => K x7 s8)))

def f_X7_mix (p1 : Int) (σ : St) (K : St → Prop) : Prop :=
  Rg p1 ∧ ∀ s1, s1 = up2 σ 161 28 ((31 * (σ 161 28)) + p1) → K s1

def f_X7_mixLegend (σ : St) (K : St → Prop) : Prop :=
  (∃ n, wl1s (fun x1 s2 ag2 => (Rg x1 ∧ Rg (9 * (s2 162 9)) ∧ (x1 ≥ 9 * (s2 162 9) → (∃ n, wl1s (fun x3 s4 ag40 => (Rg x3 ∧ Rg (8 * (s4 161 13)) ∧ (x3 ≥ 8 * (s4 161 13) → (∃ n, wl1s (fun x5 s6 ag75 => (Rg x5 ∧ (x5 ≥ 6 → (∃ n, wl1s (fun x7 s8 ag98 => (Rg x7 ∧ (x7 ≥ 3 → K s8) ∧ (¬ x7 ≥ 3 → f_X7_roundsOf x7 s8 (fun x9 => f_X7_mix x9 s8 (fun s10 => ag98 (x7 + 1) s10))))) n 0 s6)) ∧ (¬ x5 ≥ 6 → f_X7_boxOf x5 s6 (fun x11 => f_X7_mix x11 s6 (fun s12 => ag75 (x5 + 1) s12))))) n 0 s4)) ∧ (¬ x3 ≥ 8 * (s4 161 13) → (0 ≤ x3 ∧ x3 ≤ 2147483647) ∧ (0 ≤ x3 ∧ x3 ≤ 2147483647) ∧ f_X7_lineOf (x3 / 8) (x3 % 8) s4 (fun x13 => f_X7_mix x13 s4 (fun s14 => ag40 (x3 + 1) s14))))) n 0 s2)) ∧ (¬ x1 ≥ 9 * (s2 162 9) → (0 ≤ x1 ∧ x1 ≤ 2147483647) ∧ (0 ≤ x1 ∧ x1 ≤ 2147483647) ∧ f_X7_signOf (x1 / 9) (x1 % 9) s2 (fun x15 => f_X7_mix x15 s2 (fun s16 => ag2 (x1 + 1) s16))))) n 0 σ)

def f_X7_digest (σ : St) (K : Int → St → Prop) : Prop :=
  ∀ s1, s1 = up2 σ 161 7 0 → f_X7_makes s1 (fun s2 => ∀ s3, s3 = up2 s2 161 28 3391 → f_X7_mix (s3 161 6) s3 (fun s4 => (∃ n, wl1s (fun x5 s6 ag26 => (Rg x5 ∧ (x5 ≥ 12 → (∃ n, wl1s (fun x7 s8 ag49 => (Rg x7 ∧ (x7 ≥ 5 → (∃ n, wl1s (fun x9 s10 ag75 => (Rg x9 ∧ (x9 ≥ 120 → f_X7_mixLegend s10 (fun s11 => f_X7_mix (s11 161 4) s11 (fun s12 => K (s12 161 28) s12))) ∧ (¬ x9 ≥ 120 → (0 ≤ x9 ∧ x9 ≤ 2147483647) ∧ (0 ≤ x9 ∧ x9 ≤ 2147483647) ∧ f_X7_kindOf (x9 / 10) (x9 % 10) s10 (fun x13 => f_X7_mix x13 s10 (fun s14 => ag75 (x9 + 1) s14))))) n 0 s8)) ∧ (¬ x7 ≥ 5 → (0 ≤ 10 + x7 ∧ 10 + x7 < 311) ∧ f_X7_mix (s8 162 (10 + x7)) s8 (fun s15 => ag49 (x7 + 1) s15)))) n 0 s6)) ∧ (¬ x5 ≥ 12 → f_X7_valueOf x5 s6 (fun x16 => f_X7_mix x16 s6 (fun s17 => ag26 (x5 + 1) s17))))) n 0 s4)))

def f_L_addSign (p2 : Int) (p3 : Int) (p4 : Int) (p5 : Int) (p6 : Int) (σ : St) (K : Int → St → Prop) : Prop :=
  f_X6_addSign p2 p3 p4 p5 p6 σ (fun x1 s2 => Rg x1 ∧ ∀ s3, s3 = up2 s2 176 0 x1 → K 0 s3) (fun c9 s9 => (c9 = 1 → K 1 s9) ∧ (c9 = 2 → K 2 s9) ∧ (c9 = 3 → K 3 s9) ∧ (c9 = 1 ∨ c9 = 2 ∨ c9 = 3))

def f_L_removeSign (p2 : Int) (σ : St) (K : Int → St → Prop) : Prop :=
  f_X6_removeSign p2 σ (fun x1 s2 => Rg x1 ∧ ∀ s3, s3 = up2 s2 176 0 x1 → K 0 s3) (fun c9 s9 => (c9 = 1 → K 1 s9) ∧ (c9 = 1))

def f_L_moveSign (p2 : Int) (p3 : Int) (p4 : Int) (σ : St) (K : Int → St → Prop) : Prop :=
  f_X6_moveSign p2 p3 p4 σ (fun x1 s2 => Rg x1 ∧ ∀ s3, s3 = up2 s2 176 0 x1 → K 0 s3) (fun c9 s9 => (c9 = 1 → K 1 s9) ∧ (c9 = 2 → K 2 s9) ∧ (c9 = 1 ∨ c9 = 2))

def f_L_setWindow (p2 : Int) (p3 : Int) (p4 : Int) (p5 : Int) (p6 : Int) (σ : St) (K : Int → St → Prop) : Prop :=
  f_X6_setWindow p2 p3 p4 p5 p6 σ (fun x1 s2 => Rg x1 ∧ ∀ s3, s3 = up2 s2 176 0 x1 → K 0 s3) (fun c9 s9 => (c9 = 2 → K 1 s9) ∧ (c9 = 2))

def f_L_set (p2 : Int) (p3 : Int) (σ : St) (K : Int → St → Prop) : Prop :=
  f_X6_set p2 p3 σ (fun x1 s2 => Rg x1 ∧ ∀ s3, s3 = up2 s2 176 0 x1 → K 0 s3) (fun c9 s9 => (c9 = 2 → K 1 s9) ∧ (c9 = 2))

def f_L_setKind (p2 : Int) (p3 : Int) (p4 : Int) (σ : St) (K : Int → St → Prop) : Prop :=
  f_X6_setKind p2 p3 p4 σ (fun x1 s2 => Rg x1 ∧ ∀ s3, s3 = up2 s2 176 0 x1 → K 0 s3) (fun c9 s9 => (c9 = 1 → K 1 s9) ∧ (c9 = 2 → K 2 s9) ∧ (c9 = 1 ∨ c9 = 2))

def f_L_setWay (p2 : Int) (p3 : Int) (σ : St) (K : Int → St → Prop) : Prop :=
  f_X6_setWay p2 p3 σ (fun x1 s2 => Rg x1 ∧ ∀ s3, s3 = up2 s2 176 0 x1 → K 0 s3) (fun c9 s9 => (c9 = 1 → K 1 s9) ∧ (c9 = 2 → K 2 s9) ∧ (c9 = 1 ∨ c9 = 2))

def f_L_limit (p2 : Int) (p3 : Int) (σ : St) (K : Int → St → Prop) : Prop :=
  f_X6_limit p2 p3 σ (fun x1 s2 => Rg x1 ∧ ∀ s3, s3 = up2 s2 176 0 x1 → K 0 s3) (fun c9 s9 => (c9 = 1 → K 1 s9) ∧ (c9 = 2 → K 2 s9) ∧ (c9 = 3 → K 3 s9) ∧ (c9 = 1 ∨ c9 = 2 ∨ c9 = 3))

def f_L_value (p2 : Int) (σ : St) (K : Int → St → Prop) : Prop :=
  f_X6_value p2 σ (fun x1 s2 => Rg x1 ∧ ∀ s3, s3 = up2 s2 176 0 x1 → K 0 s3) (fun c9 s9 => (c9 = 2 → K 1 s9) ∧ (c9 = 2))

def f_L_sign (p2 : Int) (p3 : Int) (σ : St) (K : Int → St → Prop) : Prop :=
  f_X6_sign p2 p3 σ (fun x1 s2 => Rg x1 ∧ ∀ s3, s3 = up2 s2 176 0 x1 → K 0 s3) (fun c9 s9 => (c9 = 1 → K 1 s9) ∧ (c9 = 2 → K 2 s9) ∧ (c9 = 1 ∨ c9 = 2))

def f_L_kind (p2 : Int) (p3 : Int) (σ : St) (K : Int → St → Prop) : Prop :=
  f_X6_kind p2 p3 σ (fun x1 s2 => Rg x1 ∧ ∀ s3, s3 = up2 s2 176 0 x1 → K 0 s3) (fun c9 s9 => (c9 = 1 → K 1 s9) ∧ (c9 = 2 → K 2 s9) ∧ (c9 = 1 ∨ c9 = 2))

def f_L_line (p2 : Int) (p3 : Int) (σ : St) (K : Int → St → Prop) : Prop :=
  f_X6_line p2 p3 σ (fun x1 s2 => Rg x1 ∧ ∀ s3, s3 = up2 s2 176 0 x1 → K 0 s3) (fun c9 s9 => (c9 = 1 → K 1 s9) ∧ (c9 = 2 → K 2 s9) ∧ (c9 = 1 ∨ c9 = 2))

def f_L_box (p2 : Int) (σ : St) (K : Int → St → Prop) : Prop :=
  f_X6_box p2 σ (fun x1 s2 => Rg x1 ∧ ∀ s3, s3 = up2 s2 176 0 x1 → K 0 s3) (fun c9 s9 => (c9 = 2 → K 1 s9) ∧ (c9 = 2))

def f_L_rounds (p2 : Int) (σ : St) (K : Int → St → Prop) : Prop :=
  f_X6_rounds p2 σ (fun x1 s2 => Rg x1 ∧ ∀ s3, s3 = up2 s2 176 0 x1 → K 0 s3) (fun c9 s9 => (c9 = 2 → K 1 s9) ∧ (c9 = 2))

def f_L_linesAt (p2 : Int) (p3 : Int) (σ : St) (K : Int → St → Prop) : Prop :=
  f_X6_linesAt p2 p3 σ (fun x1 s2 => Rg x1 ∧ ∀ s3, s3 = up2 s2 176 0 x1 → K 0 s3) (fun c9 s9 => (c9 = 2 → K 1 s9) ∧ (c9 = 2))

def f_L_zoomFor (p2 : Int) (σ : St) (K : Int → St → Prop) : Prop :=
  f_X6_zoomFor p2 σ (fun x1 => Rg x1 ∧ ∀ s2, s2 = up2 σ 176 0 x1 → K 0 s2) (fun c9 => (c9 = 1 → K 1 σ) ∧ (c9 = 1))

def f_L_linesSaved (p2 : Int) (σ : St) (K : Int → St → Prop) : Prop :=
  f_X6_linesSaved p2 σ (fun x1 s2 => Rg x1 ∧ ∀ s3, s3 = up2 s2 176 0 x1 → K 0 s3) (fun c9 s9 => (c9 = 1 → K 1 s9) ∧ (c9 = 1))

def f_L_append (p2 : Int) (σ : St) (K : Int → St → Prop) : Prop :=
  f_X6_append p2 σ (fun x1 s2 => Rg x1 ∧ ∀ s3, s3 = up2 s2 176 0 x1 → K 0 s3) (fun c9 s9 => (c9 = 2 → K 1 s9) ∧ (c9 = 3 → K 2 s9) ∧ (c9 = 2 ∨ c9 = 3))

def f_L_undo (σ : St) (K : Int → St → Prop) : Prop :=
  f_X6_undo σ (fun x1 s2 => Rg x1 ∧ ∀ s3, s3 = up2 s2 176 0 x1 → K 0 s3) (fun c9 s9 => (c9 = 3 → K 1 s9) ∧ (c9 = 3))

def f_L_law (L : Int) (xi : Int → Int) (σ : St) : Prop :=
  (∃ n, wl1s (fun x1 s2 ag23 => (Rg x1 ∧ Rg (L - 6) ∧ (x1 > L - 6 → True) ∧ (¬ x1 > L - 6 → (0 ≤ x1 ∧ x1 < L) ∧ (Rg ((xi x1) % 32) ∧ ((xi x1) % 32 = 0 → (0 ≤ x1 + 1 ∧ x1 + 1 < L) ∧ (0 ≤ x1 + 2 ∧ x1 + 2 < L) ∧ (0 ≤ x1 + 3 ∧ x1 + 3 < L) ∧ (0 ≤ x1 + 4 ∧ x1 + 4 < L) ∧ (0 ≤ x1 + 5 ∧ x1 + 5 < L) ∧ f_L_addSign (xi (x1 + 1)) (xi (x1 + 2)) (xi (x1 + 3)) (xi (x1 + 4)) (xi (x1 + 5)) s2 (fun x3 s4 => (0 ≤ x1 + 1 ∧ x1 + 1 < L) ∧ (0 ≤ x1 + 2 ∧ x1 + 2 < L) ∧ (0 ≤ x1 + 3 ∧ x1 + 3 < L) ∧ (0 ≤ x1 + 4 ∧ x1 + 4 < L) ∧ (0 ≤ x1 + 5 ∧ x1 + 5 < L) ∧ f_X7_addSign (xi (x1 + 1)) (xi (x1 + 2)) (xi (x1 + 3)) (xi (x1 + 4)) (xi (x1 + 5)) s4 (fun x5 s6 => f_X7_thrown s6 (fun x7 => (Rg x7 ∧ Rg x3 ∧ (x7 = x3 → (Rg x3 ∧ (x3 ≠ 0 → ag23 (x1 + 6) s6) ∧ (¬ x3 ≠ 0 → Rg x5 ∧ s6 176 0 = x5 ∧ ag23 (x1 + 6) s6))) ∧ (¬ x7 = x3 → False)))))) ∧ ((xi x1) % 32 = 1 → (0 ≤ x1 + 1 ∧ x1 + 1 < L) ∧ f_L_removeSign (xi (x1 + 1)) s2 (fun x8 s9 => (0 ≤ x1 + 1 ∧ x1 + 1 < L) ∧ f_X7_removeSign (xi (x1 + 1)) s9 (fun x10 s11 => f_X7_thrown s11 (fun x12 => (Rg x12 ∧ Rg x8 ∧ (x12 = x8 → (Rg x8 ∧ (x8 ≠ 0 → ag23 (x1 + 6) s11) ∧ (¬ x8 ≠ 0 → Rg x10 ∧ s11 176 0 = x10 ∧ ag23 (x1 + 6) s11))) ∧ (¬ x12 = x8 → False)))))) ∧ ((xi x1) % 32 = 2 → (0 ≤ x1 + 1 ∧ x1 + 1 < L) ∧ (0 ≤ x1 + 2 ∧ x1 + 2 < L) ∧ (0 ≤ x1 + 3 ∧ x1 + 3 < L) ∧ f_L_moveSign (xi (x1 + 1)) (xi (x1 + 2)) (xi (x1 + 3)) s2 (fun x13 s14 => (0 ≤ x1 + 1 ∧ x1 + 1 < L) ∧ (0 ≤ x1 + 2 ∧ x1 + 2 < L) ∧ (0 ≤ x1 + 3 ∧ x1 + 3 < L) ∧ f_X7_moveSign (xi (x1 + 1)) (xi (x1 + 2)) (xi (x1 + 3)) s14 (fun x15 s16 => f_X7_thrown s16 (fun x17 => (Rg x17 ∧ Rg x13 ∧ (x17 = x13 → (Rg x13 ∧ (x13 ≠ 0 → ag23 (x1 + 6) s16) ∧ (¬ x13 ≠ 0 → Rg x15 ∧ s16 176 0 = x15 ∧ ag23 (x1 + 6) s16))) ∧ (¬ x17 = x13 → False)))))) ∧ ((xi x1) % 32 = 3 → (0 ≤ x1 + 1 ∧ x1 + 1 < L) ∧ (0 ≤ x1 + 2 ∧ x1 + 2 < L) ∧ (0 ≤ x1 + 3 ∧ x1 + 3 < L) ∧ (0 ≤ x1 + 4 ∧ x1 + 4 < L) ∧ (0 ≤ x1 + 5 ∧ x1 + 5 < L) ∧ f_L_setWindow (xi (x1 + 1)) (xi (x1 + 2)) (xi (x1 + 3)) (xi (x1 + 4)) (xi (x1 + 5)) s2 (fun x18 s19 => (0 ≤ x1 + 1 ∧ x1 + 1 < L) ∧ (0 ≤ x1 + 2 ∧ x1 + 2 < L) ∧ (0 ≤ x1 + 3 ∧ x1 + 3 < L) ∧ (0 ≤ x1 + 4 ∧ x1 + 4 < L) ∧ (0 ≤ x1 + 5 ∧ x1 + 5 < L) ∧ f_X7_setWindow (xi (x1 + 1)) (xi (x1 + 2)) (xi (x1 + 3)) (xi (x1 + 4)) (xi (x1 + 5)) s19 (fun x20 s21 => f_X7_thrown s21 (fun x22 => (Rg x22 ∧ Rg x18 ∧ (x22 = x18 → (Rg x18 ∧ (x18 ≠ 0 → ag23 (x1 + 6) s21) ∧ (¬ x18 ≠ 0 → Rg x20 ∧ s21 176 0 = x20 ∧ ag23 (x1 + 6) s21))) ∧ (¬ x22 = x18 → False)))))) ∧ ((xi x1) % 32 = 4 → (0 ≤ x1 + 1 ∧ x1 + 1 < L) ∧ (0 ≤ x1 + 2 ∧ x1 + 2 < L) ∧ f_L_set (xi (x1 + 1)) (xi (x1 + 2)) s2 (fun x23 s24 => (0 ≤ x1 + 1 ∧ x1 + 1 < L) ∧ (0 ≤ x1 + 2 ∧ x1 + 2 < L) ∧ f_X7_set (xi (x1 + 1)) (xi (x1 + 2)) s24 (fun x25 s26 => f_X7_thrown s26 (fun x27 => (Rg x27 ∧ Rg x23 ∧ (x27 = x23 → (Rg x23 ∧ (x23 ≠ 0 → ag23 (x1 + 6) s26) ∧ (¬ x23 ≠ 0 → Rg x25 ∧ s26 176 0 = x25 ∧ ag23 (x1 + 6) s26))) ∧ (¬ x27 = x23 → False)))))) ∧ ((xi x1) % 32 = 5 → (0 ≤ x1 + 1 ∧ x1 + 1 < L) ∧ (0 ≤ x1 + 2 ∧ x1 + 2 < L) ∧ (0 ≤ x1 + 3 ∧ x1 + 3 < L) ∧ f_L_setKind (xi (x1 + 1)) (xi (x1 + 2)) (xi (x1 + 3)) s2 (fun x28 s29 => (0 ≤ x1 + 1 ∧ x1 + 1 < L) ∧ (0 ≤ x1 + 2 ∧ x1 + 2 < L) ∧ (0 ≤ x1 + 3 ∧ x1 + 3 < L) ∧ f_X7_setKind (xi (x1 + 1)) (xi (x1 + 2)) (xi (x1 + 3)) s29 (fun x30 s31 => f_X7_thrown s31 (fun x32 => (Rg x32 ∧ Rg x28 ∧ (x32 = x28 → (Rg x28 ∧ (x28 ≠ 0 → ag23 (x1 + 6) s31) ∧ (¬ x28 ≠ 0 → Rg x30 ∧ s31 176 0 = x30 ∧ ag23 (x1 + 6) s31))) ∧ (¬ x32 = x28 → False)))))) ∧ ((xi x1) % 32 = 6 → (0 ≤ x1 + 1 ∧ x1 + 1 < L) ∧ (0 ≤ x1 + 2 ∧ x1 + 2 < L) ∧ f_L_setWay (xi (x1 + 1)) (xi (x1 + 2)) s2 (fun x33 s34 => (0 ≤ x1 + 1 ∧ x1 + 1 < L) ∧ (0 ≤ x1 + 2 ∧ x1 + 2 < L) ∧ f_X7_setWay (xi (x1 + 1)) (xi (x1 + 2)) s34 (fun x35 s36 => f_X7_thrown s36 (fun x37 => (Rg x37 ∧ Rg x33 ∧ (x37 = x33 → (Rg x33 ∧ (x33 ≠ 0 → ag23 (x1 + 6) s36) ∧ (¬ x33 ≠ 0 → Rg x35 ∧ s36 176 0 = x35 ∧ ag23 (x1 + 6) s36))) ∧ (¬ x37 = x33 → False)))))) ∧ ((xi x1) % 32 = 7 → (0 ≤ x1 + 1 ∧ x1 + 1 < L) ∧ (0 ≤ x1 + 2 ∧ x1 + 2 < L) ∧ f_L_limit (xi (x1 + 1)) (xi (x1 + 2)) s2 (fun x38 s39 => (0 ≤ x1 + 1 ∧ x1 + 1 < L) ∧ (0 ≤ x1 + 2 ∧ x1 + 2 < L) ∧ f_X7_limit (xi (x1 + 1)) (xi (x1 + 2)) s39 (fun x40 s41 => f_X7_thrown s41 (fun x42 => (Rg x42 ∧ Rg x38 ∧ (x42 = x38 → (Rg x38 ∧ (x38 ≠ 0 → ag23 (x1 + 6) s41) ∧ (¬ x38 ≠ 0 → Rg x40 ∧ s41 176 0 = x40 ∧ ag23 (x1 + 6) s41))) ∧ (¬ x42 = x38 → False)))))) ∧ ((xi x1) % 32 = 8 → (0 ≤ x1 + 1 ∧ x1 + 1 < L) ∧ f_L_value (xi (x1 + 1)) s2 (fun x43 s44 => (0 ≤ x1 + 1 ∧ x1 + 1 < L) ∧ f_X7_value (xi (x1 + 1)) s44 (fun x45 s46 => f_X7_thrown s46 (fun x47 => (Rg x47 ∧ Rg x43 ∧ (x47 = x43 → (Rg x43 ∧ (x43 ≠ 0 → ag23 (x1 + 6) s46) ∧ (¬ x43 ≠ 0 → Rg x45 ∧ s46 176 0 = x45 ∧ ag23 (x1 + 6) s46))) ∧ (¬ x47 = x43 → False)))))) ∧ ((xi x1) % 32 = 9 → (0 ≤ x1 + 1 ∧ x1 + 1 < L) ∧ (0 ≤ x1 + 2 ∧ x1 + 2 < L) ∧ f_L_sign (xi (x1 + 1)) (xi (x1 + 2)) s2 (fun x48 s49 => (0 ≤ x1 + 1 ∧ x1 + 1 < L) ∧ (0 ≤ x1 + 2 ∧ x1 + 2 < L) ∧ f_X7_sign (xi (x1 + 1)) (xi (x1 + 2)) s49 (fun x50 s51 => f_X7_thrown s51 (fun x52 => (Rg x52 ∧ Rg x48 ∧ (x52 = x48 → (Rg x48 ∧ (x48 ≠ 0 → ag23 (x1 + 6) s51) ∧ (¬ x48 ≠ 0 → Rg x50 ∧ s51 176 0 = x50 ∧ ag23 (x1 + 6) s51))) ∧ (¬ x52 = x48 → False)))))) ∧ ((xi x1) % 32 = 10 → (0 ≤ x1 + 1 ∧ x1 + 1 < L) ∧ (0 ≤ x1 + 2 ∧ x1 + 2 < L) ∧ f_L_kind (xi (x1 + 1)) (xi (x1 + 2)) s2 (fun x53 s54 => (0 ≤ x1 + 1 ∧ x1 + 1 < L) ∧ (0 ≤ x1 + 2 ∧ x1 + 2 < L) ∧ f_X7_kind (xi (x1 + 1)) (xi (x1 + 2)) s54 (fun x55 s56 => f_X7_thrown s56 (fun x57 => (Rg x57 ∧ Rg x53 ∧ (x57 = x53 → (Rg x53 ∧ (x53 ≠ 0 → ag23 (x1 + 6) s56) ∧ (¬ x53 ≠ 0 → Rg x55 ∧ s56 176 0 = x55 ∧ ag23 (x1 + 6) s56))) ∧ (¬ x57 = x53 → False)))))) ∧ ((xi x1) % 32 = 11 → f_X6_lines s2 (fun x58 s59 => f_X7_lines s59 (fun x60 s61 => (Rg x58 ∧ Rg x60 ∧ (x58 = x60 → ag23 (x1 + 6) s61) ∧ (¬ x58 = x60 → False))))) ∧ ((xi x1) % 32 = 12 → (0 ≤ x1 + 1 ∧ x1 + 1 < L) ∧ (0 ≤ x1 + 2 ∧ x1 + 2 < L) ∧ f_L_line (xi (x1 + 1)) (xi (x1 + 2)) s2 (fun x62 s63 => (0 ≤ x1 + 1 ∧ x1 + 1 < L) ∧ (0 ≤ x1 + 2 ∧ x1 + 2 < L) ∧ f_X7_line (xi (x1 + 1)) (xi (x1 + 2)) s63 (fun x64 s65 => f_X7_thrown s65 (fun x66 => (Rg x66 ∧ Rg x62 ∧ (x66 = x62 → (Rg x62 ∧ (x62 ≠ 0 → ag23 (x1 + 6) s65) ∧ (¬ x62 ≠ 0 → Rg x64 ∧ s65 176 0 = x64 ∧ ag23 (x1 + 6) s65))) ∧ (¬ x66 = x62 → False)))))) ∧ ((xi x1) % 32 = 13 → (0 ≤ x1 + 1 ∧ x1 + 1 < L) ∧ f_L_box (xi (x1 + 1)) s2 (fun x67 s68 => (0 ≤ x1 + 1 ∧ x1 + 1 < L) ∧ f_X7_box (xi (x1 + 1)) s68 (fun x69 s70 => f_X7_thrown s70 (fun x71 => (Rg x71 ∧ Rg x67 ∧ (x71 = x67 → (Rg x67 ∧ (x67 ≠ 0 → ag23 (x1 + 6) s70) ∧ (¬ x67 ≠ 0 → Rg x69 ∧ s70 176 0 = x69 ∧ ag23 (x1 + 6) s70))) ∧ (¬ x71 = x67 → False)))))) ∧ ((xi x1) % 32 = 14 → (0 ≤ x1 + 1 ∧ x1 + 1 < L) ∧ f_L_rounds (xi (x1 + 1)) s2 (fun x72 s73 => (0 ≤ x1 + 1 ∧ x1 + 1 < L) ∧ f_X7_rounds (xi (x1 + 1)) s73 (fun x74 s75 => f_X7_thrown s75 (fun x76 => (Rg x76 ∧ Rg x72 ∧ (x76 = x72 → (Rg x72 ∧ (x72 ≠ 0 → ag23 (x1 + 6) s75) ∧ (¬ x72 ≠ 0 → Rg x74 ∧ s75 176 0 = x74 ∧ ag23 (x1 + 6) s75))) ∧ (¬ x76 = x72 → False)))))) ∧ ((xi x1) % 32 = 15 → f_X6_firstLines s2 (fun x77 s78 => f_X7_firstLines s78 (fun x79 s80 => (Rg x77 ∧ Rg x79 ∧ (x77 = x79 → ag23 (x1 + 6) s80) ∧ (¬ x77 = x79 → False))))) ∧ ((xi x1) % 32 = 16 → f_X6_explained s2 (fun x82 s83 => f_X7_explained s83 (fun x85 s86 => Op.cmpValue (FP.dcmp x82 x85) .l = 0 ∧ ag23 (x1 + 6) s86))) ∧ ((xi x1) % 32 = 17 → (0 ≤ x1 + 1 ∧ x1 + 1 < L) ∧ (0 ≤ x1 + 2 ∧ x1 + 2 < L) ∧ f_L_linesAt (xi (x1 + 1)) (xi (x1 + 2)) s2 (fun x87 s88 => (0 ≤ x1 + 1 ∧ x1 + 1 < L) ∧ (0 ≤ x1 + 2 ∧ x1 + 2 < L) ∧ f_X7_linesAt (xi (x1 + 1)) (xi (x1 + 2)) s88 (fun x89 s90 => f_X7_thrown s90 (fun x91 => (Rg x91 ∧ Rg x87 ∧ (x91 = x87 → (Rg x87 ∧ (x87 ≠ 0 → ag23 (x1 + 6) s90) ∧ (¬ x87 ≠ 0 → Rg x89 ∧ s90 176 0 = x89 ∧ ag23 (x1 + 6) s90))) ∧ (¬ x91 = x87 → False)))))) ∧ ((xi x1) % 32 = 18 → f_X6_bestColumns s2 (fun x92 s93 => f_X7_bestColumns s93 (fun x94 s95 => (Rg x92 ∧ Rg x94 ∧ (x92 = x94 → ag23 (x1 + 6) s95) ∧ (¬ x92 = x94 → False))))) ∧ ((xi x1) % 32 = 19 → (0 ≤ x1 + 1 ∧ x1 + 1 < L) ∧ f_L_zoomFor (xi (x1 + 1)) s2 (fun x96 s97 => (0 ≤ x1 + 1 ∧ x1 + 1 < L) ∧ f_X7_zoomFor (xi (x1 + 1)) s97 (fun x98 s99 => f_X7_thrown s99 (fun x100 => (Rg x100 ∧ Rg x96 ∧ (x100 = x96 → (Rg x96 ∧ (x96 ≠ 0 → ag23 (x1 + 6) s99) ∧ (¬ x96 ≠ 0 → Rg x98 ∧ s99 176 0 = x98 ∧ ag23 (x1 + 6) s99))) ∧ (¬ x100 = x96 → False)))))) ∧ ((xi x1) % 32 = 20 → (0 ≤ x1 + 1 ∧ x1 + 1 < L) ∧ f_L_linesSaved (xi (x1 + 1)) s2 (fun x101 s102 => (0 ≤ x1 + 1 ∧ x1 + 1 < L) ∧ f_X7_linesSaved (xi (x1 + 1)) s102 (fun x103 s104 => f_X7_thrown s104 (fun x105 => (Rg x105 ∧ Rg x101 ∧ (x105 = x101 → (Rg x101 ∧ (x101 ≠ 0 → ag23 (x1 + 6) s104) ∧ (¬ x101 ≠ 0 → Rg x103 ∧ s104 176 0 = x103 ∧ ag23 (x1 + 6) s104))) ∧ (¬ x105 = x101 → False)))))) ∧ ((xi x1) % 32 = 21 → (0 ≤ x1 + 1 ∧ x1 + 1 < L) ∧ f_L_append (xi (x1 + 1)) s2 (fun x106 s107 => (0 ≤ x1 + 1 ∧ x1 + 1 < L) ∧ f_X7_append (xi (x1 + 1)) s107 (fun x108 s109 => f_X7_thrown s109 (fun x110 => (Rg x110 ∧ Rg x106 ∧ (x110 = x106 → (Rg x106 ∧ (x106 ≠ 0 → ag23 (x1 + 6) s109) ∧ (¬ x106 ≠ 0 → Rg x108 ∧ s109 176 0 = x108 ∧ ag23 (x1 + 6) s109))) ∧ (¬ x110 = x106 → False)))))) ∧ ((xi x1) % 32 = 22 → f_X6_clearText s2 (fun x111 s112 => f_X7_clearText s112 (fun x113 s114 => (Rg x111 ∧ Rg x113 ∧ (x111 = x113 → ag23 (x1 + 6) s114) ∧ (¬ x111 = x113 → False))))) ∧ ((xi x1) % 32 = 23 → f_X6_parse s2 (fun x115 s116 => f_X7_parse s116 (fun x117 s118 => (Rg x115 ∧ Rg x117 ∧ (x115 = x117 → ag23 (x1 + 6) s118) ∧ (¬ x115 = x117 → False))))) ∧ ((xi x1) % 32 = 24 → f_L_undo s2 (fun x119 s120 => f_X7_undo s120 (fun x121 s122 => f_X7_thrown s122 (fun x123 => (Rg x123 ∧ Rg x119 ∧ (x123 = x119 → (Rg x119 ∧ (x119 ≠ 0 → ag23 (x1 + 6) s122) ∧ (¬ x119 ≠ 0 → Rg x121 ∧ s122 176 0 = x121 ∧ ag23 (x1 + 6) s122))) ∧ (¬ x123 = x119 → False)))))) ∧ ((xi x1) % 32 = 25 → f_X6_digest s2 (fun x124 s125 => f_X7_digest s125 (fun x126 s127 => x124 = x126 ∧ ag23 (x1 + 6) s127))) ∧ ((xi x1) % 32 < 0 ∨ 25 < (xi x1) % 32 → ag23 (x1 + 6) s2))))) n 0 σ)
