/-! A store: what the cells hold, as whole numbers; what a piece of code needs, as a proposition: joins (wj) and loops (wl) -/
abbrev St : Type := Nat → Int → Int
abbrev Rg (x : Int) : Prop := -2147483648 ≤ x ∧ x ≤ 2147483647
abbrev Bl (x : Int) : Prop := x = 0 ∨ x = 1
def iI (x : Int) : Int32 := Int32.ofInt x
def iJ (x : Int) : Int64 := Int64.ofInt x
def up2 (σ : St) (c : Nat) (i v : Int) : St := fun c1 i1 => if c1 = c ∧ i1 = i then v else σ c1 i1
def cpy2 (σ : St) (c0 : Nat) (sp : Int) (c1 : Nat) (dp n : Int) : St := fun c i => if c = c1 ∧ dp ≤ i ∧ i < dp + n then σ c0 (sp + (i - dp)) else σ c i
def hsetI (i : Int) : Int := if i = 0 then 6 else if i = 1 then 4 else if i = 2 then 60 else 20
def zr (σ : St) (N : Nat) : St := fun c i => if c = N then 0 else σ c i
/-! bits -/
def bA (x y : Int) : Int := (iI x &&& iI y).toInt
def bO (x y : Int) : Int := (iI x ||| iI y).toInt
def bX (x y : Int) : Int := (iI x ^^^ iI y).toInt
def bL (x y : Int) : Int := (iI x <<< (iI y &&& 31)).toInt
def bR (x y : Int) : Int := (iI x >>> (iI y &&& 31)).toInt
def wj0 (J : Prop) (B : Prop → Prop) : Prop := B J
theorem wj0_intro {J : Prop} {B : Prop → Prop} (P : Prop) (hJ : P → J) (hB : ∀ J1 : Prop, (P → J1) → B J1) : wj0 J B := hB J hJ
def wj0s (J : St → Prop) (B : (St → Prop) → Prop) : Prop := B J
theorem wj0s_intro {J : St → Prop} {B : (St → Prop) → Prop} (P : St → Prop) (hJ : ∀ (τ : St) , P τ → J τ) (hB : ∀ J1 : St → Prop, (∀ (τ : St) , P τ → J1 τ) → B J1) : wj0s J B := hB J hJ
def wl0s (f : St → (St → Prop) → Prop) : Nat → St → Prop
  | 0, _ => False
  | n + 1, τ => f τ (wl0s f n)
theorem wl0s_run {f : St → (St → Prop) → Prop} {P : St → Prop} (hs : ∀ (τ : St) (ag : St → Prop), (∀ (τ1 : St) , ag τ1 → P τ1) → f τ ag → P τ) {τ : St} (h : ∃ n, wl0s f n τ) : P τ := by
  obtain ⟨n, h⟩ := h
  induction n generalizing τ with
  | zero => exact h.elim
  | succ n ih => exact hs τ (wl0s f n) (fun τ1 h1 => ih h1) h
theorem wl0s_inv {f : St → (St → Prop) → Prop} (Inv : St → Prop) (μ : St → Nat) (hs : ∀ (τ : St) (ag : St → Prop), Inv τ → (∀ (τ1 : St) , Inv τ1 → μ τ1 < μ τ → ag τ1) → f τ ag) {τ : St} (h : Inv τ) : ∃ n, wl0s f n τ := by
  have key : ∀ N : Nat, ∀ (τ : St) , Inv τ → μ τ < N → wl0s f N τ := by
    intro N
    induction N with
    | zero => intro τ _ hl; exact absurd hl (Nat.not_lt_zero _)
    | succ N ih => intro τ hI hl; exact hs τ (wl0s f N) hI (fun τ1 hI1 hl1 => ih τ1 hI1 (by omega))
  exact ⟨μ τ + 1, key _ τ h (Nat.lt_succ_self _)⟩
theorem wl0s_invB {f : St → (St → Prop) → Prop} (B : Nat) (Inv : St → Prop) (μ : St → Nat) (hs : ∀ (τ : St) (ag : St → Prop), Inv τ → (∀ (τ1 : St) , Inv τ1 → μ τ1 < μ τ → ag τ1) → f τ ag) {τ : St} (h : Inv τ) (hB : μ τ + 1 ≤ B) : ∃ n, n ≤ B ∧ wl0s f n τ := by
  have key : ∀ N : Nat, ∀ (τ : St) , Inv τ → μ τ < N → wl0s f N τ := by
    intro N
    induction N with
    | zero => intro τ _ hl; exact absurd hl (Nat.not_lt_zero _)
    | succ N ih => intro τ hI hl; exact hs τ (wl0s f N) hI (fun τ1 hI1 hl1 => ih τ1 hI1 (by omega))
  exact ⟨μ τ + 1, hB, key _ τ h (Nat.lt_succ_self _)⟩
def wj1 (J : Int → Prop) (B : (Int → Prop) → Prop) : Prop := B J
theorem wj1_intro {J : Int → Prop} {B : (Int → Prop) → Prop} (P : Int → Prop) (hJ : ∀ (ya : Int) , P ya → J ya) (hB : ∀ J1 : Int → Prop, (∀ (ya : Int) , P ya → J1 ya) → B J1) : wj1 J B := hB J hJ
def wl1 (f : Int → (Int → Prop) → Prop) : Nat → Int → Prop
  | 0, _ => False
  | n + 1, ya => f ya (wl1 f n)
theorem wl1_run {f : Int → (Int → Prop) → Prop} {P : Int → Prop} (hs : ∀ (ya : Int) (ag : Int → Prop), (∀ (ya1 : Int) , ag ya1 → P ya1) → f ya ag → P ya) {ya : Int} (h : ∃ n, wl1 f n ya) : P ya := by
  obtain ⟨n, h⟩ := h
  induction n generalizing ya with
  | zero => exact h.elim
  | succ n ih => exact hs ya (wl1 f n) (fun ya1 h1 => ih h1) h
theorem wl1_inv {f : Int → (Int → Prop) → Prop} (Inv : Int → Prop) (μ : Int → Nat) (hs : ∀ (ya : Int) (ag : Int → Prop), Inv ya → (∀ (ya1 : Int) , Inv ya1 → μ ya1 < μ ya → ag ya1) → f ya ag) {ya : Int} (h : Inv ya) : ∃ n, wl1 f n ya := by
  have key : ∀ N : Nat, ∀ (ya : Int) , Inv ya → μ ya < N → wl1 f N ya := by
    intro N
    induction N with
    | zero => intro ya _ hl; exact absurd hl (Nat.not_lt_zero _)
    | succ N ih => intro ya hI hl; exact hs ya (wl1 f N) hI (fun ya1 hI1 hl1 => ih ya1 hI1 (by omega))
  exact ⟨μ ya + 1, key _ ya h (Nat.lt_succ_self _)⟩
theorem wl1_invB {f : Int → (Int → Prop) → Prop} (B : Nat) (Inv : Int → Prop) (μ : Int → Nat) (hs : ∀ (ya : Int) (ag : Int → Prop), Inv ya → (∀ (ya1 : Int) , Inv ya1 → μ ya1 < μ ya → ag ya1) → f ya ag) {ya : Int} (h : Inv ya) (hB : μ ya + 1 ≤ B) : ∃ n, n ≤ B ∧ wl1 f n ya := by
  have key : ∀ N : Nat, ∀ (ya : Int) , Inv ya → μ ya < N → wl1 f N ya := by
    intro N
    induction N with
    | zero => intro ya _ hl; exact absurd hl (Nat.not_lt_zero _)
    | succ N ih => intro ya hI hl; exact hs ya (wl1 f N) hI (fun ya1 hI1 hl1 => ih ya1 hI1 (by omega))
  exact ⟨μ ya + 1, hB, key _ ya h (Nat.lt_succ_self _)⟩
def wj1s (J : Int → St → Prop) (B : (Int → St → Prop) → Prop) : Prop := B J
theorem wj1s_intro {J : Int → St → Prop} {B : (Int → St → Prop) → Prop} (P : Int → St → Prop) (hJ : ∀ (ya : Int) (τ : St) , P ya τ → J ya τ) (hB : ∀ J1 : Int → St → Prop, (∀ (ya : Int) (τ : St) , P ya τ → J1 ya τ) → B J1) : wj1s J B := hB J hJ
def wl1s (f : Int → St → (Int → St → Prop) → Prop) : Nat → Int → St → Prop
  | 0, _, _ => False
  | n + 1, ya, τ => f ya τ (wl1s f n)
theorem wl1s_run {f : Int → St → (Int → St → Prop) → Prop} {P : Int → St → Prop} (hs : ∀ (ya : Int) (τ : St) (ag : Int → St → Prop), (∀ (ya1 : Int) (τ1 : St) , ag ya1 τ1 → P ya1 τ1) → f ya τ ag → P ya τ) {ya : Int} {τ : St} (h : ∃ n, wl1s f n ya τ) : P ya τ := by
  obtain ⟨n, h⟩ := h
  induction n generalizing ya τ with
  | zero => exact h.elim
  | succ n ih => exact hs ya τ (wl1s f n) (fun ya1 τ1 h1 => ih h1) h
theorem wl1s_inv {f : Int → St → (Int → St → Prop) → Prop} (Inv : Int → St → Prop) (μ : Int → St → Nat) (hs : ∀ (ya : Int) (τ : St) (ag : Int → St → Prop), Inv ya τ → (∀ (ya1 : Int) (τ1 : St) , Inv ya1 τ1 → μ ya1 τ1 < μ ya τ → ag ya1 τ1) → f ya τ ag) {ya : Int} {τ : St} (h : Inv ya τ) : ∃ n, wl1s f n ya τ := by
  have key : ∀ N : Nat, ∀ (ya : Int) (τ : St) , Inv ya τ → μ ya τ < N → wl1s f N ya τ := by
    intro N
    induction N with
    | zero => intro ya τ _ hl; exact absurd hl (Nat.not_lt_zero _)
    | succ N ih => intro ya τ hI hl; exact hs ya τ (wl1s f N) hI (fun ya1 τ1 hI1 hl1 => ih ya1 τ1 hI1 (by omega))
  exact ⟨μ ya τ + 1, key _ ya τ h (Nat.lt_succ_self _)⟩
theorem wl1s_invB {f : Int → St → (Int → St → Prop) → Prop} (B : Nat) (Inv : Int → St → Prop) (μ : Int → St → Nat) (hs : ∀ (ya : Int) (τ : St) (ag : Int → St → Prop), Inv ya τ → (∀ (ya1 : Int) (τ1 : St) , Inv ya1 τ1 → μ ya1 τ1 < μ ya τ → ag ya1 τ1) → f ya τ ag) {ya : Int} {τ : St} (h : Inv ya τ) (hB : μ ya τ + 1 ≤ B) : ∃ n, n ≤ B ∧ wl1s f n ya τ := by
  have key : ∀ N : Nat, ∀ (ya : Int) (τ : St) , Inv ya τ → μ ya τ < N → wl1s f N ya τ := by
    intro N
    induction N with
    | zero => intro ya τ _ hl; exact absurd hl (Nat.not_lt_zero _)
    | succ N ih => intro ya τ hI hl; exact hs ya τ (wl1s f N) hI (fun ya1 τ1 hI1 hl1 => ih ya1 τ1 hI1 (by omega))
  exact ⟨μ ya τ + 1, hB, key _ ya τ h (Nat.lt_succ_self _)⟩
def wj2 (J : Int → Int → Prop) (B : (Int → Int → Prop) → Prop) : Prop := B J
theorem wj2_intro {J : Int → Int → Prop} {B : (Int → Int → Prop) → Prop} (P : Int → Int → Prop) (hJ : ∀ (ya yb : Int) , P ya yb → J ya yb) (hB : ∀ J1 : Int → Int → Prop, (∀ (ya yb : Int) , P ya yb → J1 ya yb) → B J1) : wj2 J B := hB J hJ
def wl2 (f : Int → Int → (Int → Int → Prop) → Prop) : Nat → Int → Int → Prop
  | 0, _, _ => False
  | n + 1, ya, yb => f ya yb (wl2 f n)
theorem wl2_run {f : Int → Int → (Int → Int → Prop) → Prop} {P : Int → Int → Prop} (hs : ∀ (ya yb : Int) (ag : Int → Int → Prop), (∀ (ya1 yb1 : Int) , ag ya1 yb1 → P ya1 yb1) → f ya yb ag → P ya yb) {ya yb : Int} (h : ∃ n, wl2 f n ya yb) : P ya yb := by
  obtain ⟨n, h⟩ := h
  induction n generalizing ya yb with
  | zero => exact h.elim
  | succ n ih => exact hs ya yb (wl2 f n) (fun ya1 yb1 h1 => ih h1) h
theorem wl2_inv {f : Int → Int → (Int → Int → Prop) → Prop} (Inv : Int → Int → Prop) (μ : Int → Int → Nat) (hs : ∀ (ya yb : Int) (ag : Int → Int → Prop), Inv ya yb → (∀ (ya1 yb1 : Int) , Inv ya1 yb1 → μ ya1 yb1 < μ ya yb → ag ya1 yb1) → f ya yb ag) {ya yb : Int} (h : Inv ya yb) : ∃ n, wl2 f n ya yb := by
  have key : ∀ N : Nat, ∀ (ya yb : Int) , Inv ya yb → μ ya yb < N → wl2 f N ya yb := by
    intro N
    induction N with
    | zero => intro ya yb _ hl; exact absurd hl (Nat.not_lt_zero _)
    | succ N ih => intro ya yb hI hl; exact hs ya yb (wl2 f N) hI (fun ya1 yb1 hI1 hl1 => ih ya1 yb1 hI1 (by omega))
  exact ⟨μ ya yb + 1, key _ ya yb h (Nat.lt_succ_self _)⟩
theorem wl2_invB {f : Int → Int → (Int → Int → Prop) → Prop} (B : Nat) (Inv : Int → Int → Prop) (μ : Int → Int → Nat) (hs : ∀ (ya yb : Int) (ag : Int → Int → Prop), Inv ya yb → (∀ (ya1 yb1 : Int) , Inv ya1 yb1 → μ ya1 yb1 < μ ya yb → ag ya1 yb1) → f ya yb ag) {ya yb : Int} (h : Inv ya yb) (hB : μ ya yb + 1 ≤ B) : ∃ n, n ≤ B ∧ wl2 f n ya yb := by
  have key : ∀ N : Nat, ∀ (ya yb : Int) , Inv ya yb → μ ya yb < N → wl2 f N ya yb := by
    intro N
    induction N with
    | zero => intro ya yb _ hl; exact absurd hl (Nat.not_lt_zero _)
    | succ N ih => intro ya yb hI hl; exact hs ya yb (wl2 f N) hI (fun ya1 yb1 hI1 hl1 => ih ya1 yb1 hI1 (by omega))
  exact ⟨μ ya yb + 1, hB, key _ ya yb h (Nat.lt_succ_self _)⟩
def wj2s (J : Int → Int → St → Prop) (B : (Int → Int → St → Prop) → Prop) : Prop := B J
theorem wj2s_intro {J : Int → Int → St → Prop} {B : (Int → Int → St → Prop) → Prop} (P : Int → Int → St → Prop) (hJ : ∀ (ya yb : Int) (τ : St) , P ya yb τ → J ya yb τ) (hB : ∀ J1 : Int → Int → St → Prop, (∀ (ya yb : Int) (τ : St) , P ya yb τ → J1 ya yb τ) → B J1) : wj2s J B := hB J hJ
def wl2s (f : Int → Int → St → (Int → Int → St → Prop) → Prop) : Nat → Int → Int → St → Prop
  | 0, _, _, _ => False
  | n + 1, ya, yb, τ => f ya yb τ (wl2s f n)
theorem wl2s_run {f : Int → Int → St → (Int → Int → St → Prop) → Prop} {P : Int → Int → St → Prop} (hs : ∀ (ya yb : Int) (τ : St) (ag : Int → Int → St → Prop), (∀ (ya1 yb1 : Int) (τ1 : St) , ag ya1 yb1 τ1 → P ya1 yb1 τ1) → f ya yb τ ag → P ya yb τ) {ya yb : Int} {τ : St} (h : ∃ n, wl2s f n ya yb τ) : P ya yb τ := by
  obtain ⟨n, h⟩ := h
  induction n generalizing ya yb τ with
  | zero => exact h.elim
  | succ n ih => exact hs ya yb τ (wl2s f n) (fun ya1 yb1 τ1 h1 => ih h1) h
theorem wl2s_inv {f : Int → Int → St → (Int → Int → St → Prop) → Prop} (Inv : Int → Int → St → Prop) (μ : Int → Int → St → Nat) (hs : ∀ (ya yb : Int) (τ : St) (ag : Int → Int → St → Prop), Inv ya yb τ → (∀ (ya1 yb1 : Int) (τ1 : St) , Inv ya1 yb1 τ1 → μ ya1 yb1 τ1 < μ ya yb τ → ag ya1 yb1 τ1) → f ya yb τ ag) {ya yb : Int} {τ : St} (h : Inv ya yb τ) : ∃ n, wl2s f n ya yb τ := by
  have key : ∀ N : Nat, ∀ (ya yb : Int) (τ : St) , Inv ya yb τ → μ ya yb τ < N → wl2s f N ya yb τ := by
    intro N
    induction N with
    | zero => intro ya yb τ _ hl; exact absurd hl (Nat.not_lt_zero _)
    | succ N ih => intro ya yb τ hI hl; exact hs ya yb τ (wl2s f N) hI (fun ya1 yb1 τ1 hI1 hl1 => ih ya1 yb1 τ1 hI1 (by omega))
  exact ⟨μ ya yb τ + 1, key _ ya yb τ h (Nat.lt_succ_self _)⟩
theorem wl2s_invB {f : Int → Int → St → (Int → Int → St → Prop) → Prop} (B : Nat) (Inv : Int → Int → St → Prop) (μ : Int → Int → St → Nat) (hs : ∀ (ya yb : Int) (τ : St) (ag : Int → Int → St → Prop), Inv ya yb τ → (∀ (ya1 yb1 : Int) (τ1 : St) , Inv ya1 yb1 τ1 → μ ya1 yb1 τ1 < μ ya yb τ → ag ya1 yb1 τ1) → f ya yb τ ag) {ya yb : Int} {τ : St} (h : Inv ya yb τ) (hB : μ ya yb τ + 1 ≤ B) : ∃ n, n ≤ B ∧ wl2s f n ya yb τ := by
  have key : ∀ N : Nat, ∀ (ya yb : Int) (τ : St) , Inv ya yb τ → μ ya yb τ < N → wl2s f N ya yb τ := by
    intro N
    induction N with
    | zero => intro ya yb τ _ hl; exact absurd hl (Nat.not_lt_zero _)
    | succ N ih => intro ya yb τ hI hl; exact hs ya yb τ (wl2s f N) hI (fun ya1 yb1 τ1 hI1 hl1 => ih ya1 yb1 τ1 hI1 (by omega))
  exact ⟨μ ya yb τ + 1, hB, key _ ya yb τ h (Nat.lt_succ_self _)⟩
def wj3 (J : Int → Int → Int → Prop) (B : (Int → Int → Int → Prop) → Prop) : Prop := B J
theorem wj3_intro {J : Int → Int → Int → Prop} {B : (Int → Int → Int → Prop) → Prop} (P : Int → Int → Int → Prop) (hJ : ∀ (ya yb yc : Int) , P ya yb yc → J ya yb yc) (hB : ∀ J1 : Int → Int → Int → Prop, (∀ (ya yb yc : Int) , P ya yb yc → J1 ya yb yc) → B J1) : wj3 J B := hB J hJ
def wl3 (f : Int → Int → Int → (Int → Int → Int → Prop) → Prop) : Nat → Int → Int → Int → Prop
  | 0, _, _, _ => False
  | n + 1, ya, yb, yc => f ya yb yc (wl3 f n)
theorem wl3_run {f : Int → Int → Int → (Int → Int → Int → Prop) → Prop} {P : Int → Int → Int → Prop} (hs : ∀ (ya yb yc : Int) (ag : Int → Int → Int → Prop), (∀ (ya1 yb1 yc1 : Int) , ag ya1 yb1 yc1 → P ya1 yb1 yc1) → f ya yb yc ag → P ya yb yc) {ya yb yc : Int} (h : ∃ n, wl3 f n ya yb yc) : P ya yb yc := by
  obtain ⟨n, h⟩ := h
  induction n generalizing ya yb yc with
  | zero => exact h.elim
  | succ n ih => exact hs ya yb yc (wl3 f n) (fun ya1 yb1 yc1 h1 => ih h1) h
theorem wl3_inv {f : Int → Int → Int → (Int → Int → Int → Prop) → Prop} (Inv : Int → Int → Int → Prop) (μ : Int → Int → Int → Nat) (hs : ∀ (ya yb yc : Int) (ag : Int → Int → Int → Prop), Inv ya yb yc → (∀ (ya1 yb1 yc1 : Int) , Inv ya1 yb1 yc1 → μ ya1 yb1 yc1 < μ ya yb yc → ag ya1 yb1 yc1) → f ya yb yc ag) {ya yb yc : Int} (h : Inv ya yb yc) : ∃ n, wl3 f n ya yb yc := by
  have key : ∀ N : Nat, ∀ (ya yb yc : Int) , Inv ya yb yc → μ ya yb yc < N → wl3 f N ya yb yc := by
    intro N
    induction N with
    | zero => intro ya yb yc _ hl; exact absurd hl (Nat.not_lt_zero _)
    | succ N ih => intro ya yb yc hI hl; exact hs ya yb yc (wl3 f N) hI (fun ya1 yb1 yc1 hI1 hl1 => ih ya1 yb1 yc1 hI1 (by omega))
  exact ⟨μ ya yb yc + 1, key _ ya yb yc h (Nat.lt_succ_self _)⟩
theorem wl3_invB {f : Int → Int → Int → (Int → Int → Int → Prop) → Prop} (B : Nat) (Inv : Int → Int → Int → Prop) (μ : Int → Int → Int → Nat) (hs : ∀ (ya yb yc : Int) (ag : Int → Int → Int → Prop), Inv ya yb yc → (∀ (ya1 yb1 yc1 : Int) , Inv ya1 yb1 yc1 → μ ya1 yb1 yc1 < μ ya yb yc → ag ya1 yb1 yc1) → f ya yb yc ag) {ya yb yc : Int} (h : Inv ya yb yc) (hB : μ ya yb yc + 1 ≤ B) : ∃ n, n ≤ B ∧ wl3 f n ya yb yc := by
  have key : ∀ N : Nat, ∀ (ya yb yc : Int) , Inv ya yb yc → μ ya yb yc < N → wl3 f N ya yb yc := by
    intro N
    induction N with
    | zero => intro ya yb yc _ hl; exact absurd hl (Nat.not_lt_zero _)
    | succ N ih => intro ya yb yc hI hl; exact hs ya yb yc (wl3 f N) hI (fun ya1 yb1 yc1 hI1 hl1 => ih ya1 yb1 yc1 hI1 (by omega))
  exact ⟨μ ya yb yc + 1, hB, key _ ya yb yc h (Nat.lt_succ_self _)⟩
def wj3s (J : Int → Int → Int → St → Prop) (B : (Int → Int → Int → St → Prop) → Prop) : Prop := B J
theorem wj3s_intro {J : Int → Int → Int → St → Prop} {B : (Int → Int → Int → St → Prop) → Prop} (P : Int → Int → Int → St → Prop) (hJ : ∀ (ya yb yc : Int) (τ : St) , P ya yb yc τ → J ya yb yc τ) (hB : ∀ J1 : Int → Int → Int → St → Prop, (∀ (ya yb yc : Int) (τ : St) , P ya yb yc τ → J1 ya yb yc τ) → B J1) : wj3s J B := hB J hJ
def wl3s (f : Int → Int → Int → St → (Int → Int → Int → St → Prop) → Prop) : Nat → Int → Int → Int → St → Prop
  | 0, _, _, _, _ => False
  | n + 1, ya, yb, yc, τ => f ya yb yc τ (wl3s f n)
theorem wl3s_run {f : Int → Int → Int → St → (Int → Int → Int → St → Prop) → Prop} {P : Int → Int → Int → St → Prop} (hs : ∀ (ya yb yc : Int) (τ : St) (ag : Int → Int → Int → St → Prop), (∀ (ya1 yb1 yc1 : Int) (τ1 : St) , ag ya1 yb1 yc1 τ1 → P ya1 yb1 yc1 τ1) → f ya yb yc τ ag → P ya yb yc τ) {ya yb yc : Int} {τ : St} (h : ∃ n, wl3s f n ya yb yc τ) : P ya yb yc τ := by
  obtain ⟨n, h⟩ := h
  induction n generalizing ya yb yc τ with
  | zero => exact h.elim
  | succ n ih => exact hs ya yb yc τ (wl3s f n) (fun ya1 yb1 yc1 τ1 h1 => ih h1) h
theorem wl3s_inv {f : Int → Int → Int → St → (Int → Int → Int → St → Prop) → Prop} (Inv : Int → Int → Int → St → Prop) (μ : Int → Int → Int → St → Nat) (hs : ∀ (ya yb yc : Int) (τ : St) (ag : Int → Int → Int → St → Prop), Inv ya yb yc τ → (∀ (ya1 yb1 yc1 : Int) (τ1 : St) , Inv ya1 yb1 yc1 τ1 → μ ya1 yb1 yc1 τ1 < μ ya yb yc τ → ag ya1 yb1 yc1 τ1) → f ya yb yc τ ag) {ya yb yc : Int} {τ : St} (h : Inv ya yb yc τ) : ∃ n, wl3s f n ya yb yc τ := by
  have key : ∀ N : Nat, ∀ (ya yb yc : Int) (τ : St) , Inv ya yb yc τ → μ ya yb yc τ < N → wl3s f N ya yb yc τ := by
    intro N
    induction N with
    | zero => intro ya yb yc τ _ hl; exact absurd hl (Nat.not_lt_zero _)
    | succ N ih => intro ya yb yc τ hI hl; exact hs ya yb yc τ (wl3s f N) hI (fun ya1 yb1 yc1 τ1 hI1 hl1 => ih ya1 yb1 yc1 τ1 hI1 (by omega))
  exact ⟨μ ya yb yc τ + 1, key _ ya yb yc τ h (Nat.lt_succ_self _)⟩
theorem wl3s_invB {f : Int → Int → Int → St → (Int → Int → Int → St → Prop) → Prop} (B : Nat) (Inv : Int → Int → Int → St → Prop) (μ : Int → Int → Int → St → Nat) (hs : ∀ (ya yb yc : Int) (τ : St) (ag : Int → Int → Int → St → Prop), Inv ya yb yc τ → (∀ (ya1 yb1 yc1 : Int) (τ1 : St) , Inv ya1 yb1 yc1 τ1 → μ ya1 yb1 yc1 τ1 < μ ya yb yc τ → ag ya1 yb1 yc1 τ1) → f ya yb yc τ ag) {ya yb yc : Int} {τ : St} (h : Inv ya yb yc τ) (hB : μ ya yb yc τ + 1 ≤ B) : ∃ n, n ≤ B ∧ wl3s f n ya yb yc τ := by
  have key : ∀ N : Nat, ∀ (ya yb yc : Int) (τ : St) , Inv ya yb yc τ → μ ya yb yc τ < N → wl3s f N ya yb yc τ := by
    intro N
    induction N with
    | zero => intro ya yb yc τ _ hl; exact absurd hl (Nat.not_lt_zero _)
    | succ N ih => intro ya yb yc τ hI hl; exact hs ya yb yc τ (wl3s f N) hI (fun ya1 yb1 yc1 τ1 hI1 hl1 => ih ya1 yb1 yc1 τ1 hI1 (by omega))
  exact ⟨μ ya yb yc τ + 1, hB, key _ ya yb yc τ h (Nat.lt_succ_self _)⟩
def wj4 (J : Int → Int → Int → Int → Prop) (B : (Int → Int → Int → Int → Prop) → Prop) : Prop := B J
theorem wj4_intro {J : Int → Int → Int → Int → Prop} {B : (Int → Int → Int → Int → Prop) → Prop} (P : Int → Int → Int → Int → Prop) (hJ : ∀ (ya yb yc yd : Int) , P ya yb yc yd → J ya yb yc yd) (hB : ∀ J1 : Int → Int → Int → Int → Prop, (∀ (ya yb yc yd : Int) , P ya yb yc yd → J1 ya yb yc yd) → B J1) : wj4 J B := hB J hJ
def wl4 (f : Int → Int → Int → Int → (Int → Int → Int → Int → Prop) → Prop) : Nat → Int → Int → Int → Int → Prop
  | 0, _, _, _, _ => False
  | n + 1, ya, yb, yc, yd => f ya yb yc yd (wl4 f n)
theorem wl4_run {f : Int → Int → Int → Int → (Int → Int → Int → Int → Prop) → Prop} {P : Int → Int → Int → Int → Prop} (hs : ∀ (ya yb yc yd : Int) (ag : Int → Int → Int → Int → Prop), (∀ (ya1 yb1 yc1 yd1 : Int) , ag ya1 yb1 yc1 yd1 → P ya1 yb1 yc1 yd1) → f ya yb yc yd ag → P ya yb yc yd) {ya yb yc yd : Int} (h : ∃ n, wl4 f n ya yb yc yd) : P ya yb yc yd := by
  obtain ⟨n, h⟩ := h
  induction n generalizing ya yb yc yd with
  | zero => exact h.elim
  | succ n ih => exact hs ya yb yc yd (wl4 f n) (fun ya1 yb1 yc1 yd1 h1 => ih h1) h
theorem wl4_inv {f : Int → Int → Int → Int → (Int → Int → Int → Int → Prop) → Prop} (Inv : Int → Int → Int → Int → Prop) (μ : Int → Int → Int → Int → Nat) (hs : ∀ (ya yb yc yd : Int) (ag : Int → Int → Int → Int → Prop), Inv ya yb yc yd → (∀ (ya1 yb1 yc1 yd1 : Int) , Inv ya1 yb1 yc1 yd1 → μ ya1 yb1 yc1 yd1 < μ ya yb yc yd → ag ya1 yb1 yc1 yd1) → f ya yb yc yd ag) {ya yb yc yd : Int} (h : Inv ya yb yc yd) : ∃ n, wl4 f n ya yb yc yd := by
  have key : ∀ N : Nat, ∀ (ya yb yc yd : Int) , Inv ya yb yc yd → μ ya yb yc yd < N → wl4 f N ya yb yc yd := by
    intro N
    induction N with
    | zero => intro ya yb yc yd _ hl; exact absurd hl (Nat.not_lt_zero _)
    | succ N ih => intro ya yb yc yd hI hl; exact hs ya yb yc yd (wl4 f N) hI (fun ya1 yb1 yc1 yd1 hI1 hl1 => ih ya1 yb1 yc1 yd1 hI1 (by omega))
  exact ⟨μ ya yb yc yd + 1, key _ ya yb yc yd h (Nat.lt_succ_self _)⟩
theorem wl4_invB {f : Int → Int → Int → Int → (Int → Int → Int → Int → Prop) → Prop} (B : Nat) (Inv : Int → Int → Int → Int → Prop) (μ : Int → Int → Int → Int → Nat) (hs : ∀ (ya yb yc yd : Int) (ag : Int → Int → Int → Int → Prop), Inv ya yb yc yd → (∀ (ya1 yb1 yc1 yd1 : Int) , Inv ya1 yb1 yc1 yd1 → μ ya1 yb1 yc1 yd1 < μ ya yb yc yd → ag ya1 yb1 yc1 yd1) → f ya yb yc yd ag) {ya yb yc yd : Int} (h : Inv ya yb yc yd) (hB : μ ya yb yc yd + 1 ≤ B) : ∃ n, n ≤ B ∧ wl4 f n ya yb yc yd := by
  have key : ∀ N : Nat, ∀ (ya yb yc yd : Int) , Inv ya yb yc yd → μ ya yb yc yd < N → wl4 f N ya yb yc yd := by
    intro N
    induction N with
    | zero => intro ya yb yc yd _ hl; exact absurd hl (Nat.not_lt_zero _)
    | succ N ih => intro ya yb yc yd hI hl; exact hs ya yb yc yd (wl4 f N) hI (fun ya1 yb1 yc1 yd1 hI1 hl1 => ih ya1 yb1 yc1 yd1 hI1 (by omega))
  exact ⟨μ ya yb yc yd + 1, hB, key _ ya yb yc yd h (Nat.lt_succ_self _)⟩
def wj4s (J : Int → Int → Int → Int → St → Prop) (B : (Int → Int → Int → Int → St → Prop) → Prop) : Prop := B J
theorem wj4s_intro {J : Int → Int → Int → Int → St → Prop} {B : (Int → Int → Int → Int → St → Prop) → Prop} (P : Int → Int → Int → Int → St → Prop) (hJ : ∀ (ya yb yc yd : Int) (τ : St) , P ya yb yc yd τ → J ya yb yc yd τ) (hB : ∀ J1 : Int → Int → Int → Int → St → Prop, (∀ (ya yb yc yd : Int) (τ : St) , P ya yb yc yd τ → J1 ya yb yc yd τ) → B J1) : wj4s J B := hB J hJ
def wl4s (f : Int → Int → Int → Int → St → (Int → Int → Int → Int → St → Prop) → Prop) : Nat → Int → Int → Int → Int → St → Prop
  | 0, _, _, _, _, _ => False
  | n + 1, ya, yb, yc, yd, τ => f ya yb yc yd τ (wl4s f n)
theorem wl4s_run {f : Int → Int → Int → Int → St → (Int → Int → Int → Int → St → Prop) → Prop} {P : Int → Int → Int → Int → St → Prop} (hs : ∀ (ya yb yc yd : Int) (τ : St) (ag : Int → Int → Int → Int → St → Prop), (∀ (ya1 yb1 yc1 yd1 : Int) (τ1 : St) , ag ya1 yb1 yc1 yd1 τ1 → P ya1 yb1 yc1 yd1 τ1) → f ya yb yc yd τ ag → P ya yb yc yd τ) {ya yb yc yd : Int} {τ : St} (h : ∃ n, wl4s f n ya yb yc yd τ) : P ya yb yc yd τ := by
  obtain ⟨n, h⟩ := h
  induction n generalizing ya yb yc yd τ with
  | zero => exact h.elim
  | succ n ih => exact hs ya yb yc yd τ (wl4s f n) (fun ya1 yb1 yc1 yd1 τ1 h1 => ih h1) h
theorem wl4s_inv {f : Int → Int → Int → Int → St → (Int → Int → Int → Int → St → Prop) → Prop} (Inv : Int → Int → Int → Int → St → Prop) (μ : Int → Int → Int → Int → St → Nat) (hs : ∀ (ya yb yc yd : Int) (τ : St) (ag : Int → Int → Int → Int → St → Prop), Inv ya yb yc yd τ → (∀ (ya1 yb1 yc1 yd1 : Int) (τ1 : St) , Inv ya1 yb1 yc1 yd1 τ1 → μ ya1 yb1 yc1 yd1 τ1 < μ ya yb yc yd τ → ag ya1 yb1 yc1 yd1 τ1) → f ya yb yc yd τ ag) {ya yb yc yd : Int} {τ : St} (h : Inv ya yb yc yd τ) : ∃ n, wl4s f n ya yb yc yd τ := by
  have key : ∀ N : Nat, ∀ (ya yb yc yd : Int) (τ : St) , Inv ya yb yc yd τ → μ ya yb yc yd τ < N → wl4s f N ya yb yc yd τ := by
    intro N
    induction N with
    | zero => intro ya yb yc yd τ _ hl; exact absurd hl (Nat.not_lt_zero _)
    | succ N ih => intro ya yb yc yd τ hI hl; exact hs ya yb yc yd τ (wl4s f N) hI (fun ya1 yb1 yc1 yd1 τ1 hI1 hl1 => ih ya1 yb1 yc1 yd1 τ1 hI1 (by omega))
  exact ⟨μ ya yb yc yd τ + 1, key _ ya yb yc yd τ h (Nat.lt_succ_self _)⟩
theorem wl4s_invB {f : Int → Int → Int → Int → St → (Int → Int → Int → Int → St → Prop) → Prop} (B : Nat) (Inv : Int → Int → Int → Int → St → Prop) (μ : Int → Int → Int → Int → St → Nat) (hs : ∀ (ya yb yc yd : Int) (τ : St) (ag : Int → Int → Int → Int → St → Prop), Inv ya yb yc yd τ → (∀ (ya1 yb1 yc1 yd1 : Int) (τ1 : St) , Inv ya1 yb1 yc1 yd1 τ1 → μ ya1 yb1 yc1 yd1 τ1 < μ ya yb yc yd τ → ag ya1 yb1 yc1 yd1 τ1) → f ya yb yc yd τ ag) {ya yb yc yd : Int} {τ : St} (h : Inv ya yb yc yd τ) (hB : μ ya yb yc yd τ + 1 ≤ B) : ∃ n, n ≤ B ∧ wl4s f n ya yb yc yd τ := by
  have key : ∀ N : Nat, ∀ (ya yb yc yd : Int) (τ : St) , Inv ya yb yc yd τ → μ ya yb yc yd τ < N → wl4s f N ya yb yc yd τ := by
    intro N
    induction N with
    | zero => intro ya yb yc yd τ _ hl; exact absurd hl (Nat.not_lt_zero _)
    | succ N ih => intro ya yb yc yd τ hI hl; exact hs ya yb yc yd τ (wl4s f N) hI (fun ya1 yb1 yc1 yd1 τ1 hI1 hl1 => ih ya1 yb1 yc1 yd1 τ1 hI1 (by omega))
  exact ⟨μ ya yb yc yd τ + 1, hB, key _ ya yb yc yd τ h (Nat.lt_succ_self _)⟩
def wj5 (J : Int → Int → Int → Int → Int → Prop) (B : (Int → Int → Int → Int → Int → Prop) → Prop) : Prop := B J
theorem wj5_intro {J : Int → Int → Int → Int → Int → Prop} {B : (Int → Int → Int → Int → Int → Prop) → Prop} (P : Int → Int → Int → Int → Int → Prop) (hJ : ∀ (ya yb yc yd ye : Int) , P ya yb yc yd ye → J ya yb yc yd ye) (hB : ∀ J1 : Int → Int → Int → Int → Int → Prop, (∀ (ya yb yc yd ye : Int) , P ya yb yc yd ye → J1 ya yb yc yd ye) → B J1) : wj5 J B := hB J hJ
def wl5 (f : Int → Int → Int → Int → Int → (Int → Int → Int → Int → Int → Prop) → Prop) : Nat → Int → Int → Int → Int → Int → Prop
  | 0, _, _, _, _, _ => False
  | n + 1, ya, yb, yc, yd, ye => f ya yb yc yd ye (wl5 f n)
theorem wl5_run {f : Int → Int → Int → Int → Int → (Int → Int → Int → Int → Int → Prop) → Prop} {P : Int → Int → Int → Int → Int → Prop} (hs : ∀ (ya yb yc yd ye : Int) (ag : Int → Int → Int → Int → Int → Prop), (∀ (ya1 yb1 yc1 yd1 ye1 : Int) , ag ya1 yb1 yc1 yd1 ye1 → P ya1 yb1 yc1 yd1 ye1) → f ya yb yc yd ye ag → P ya yb yc yd ye) {ya yb yc yd ye : Int} (h : ∃ n, wl5 f n ya yb yc yd ye) : P ya yb yc yd ye := by
  obtain ⟨n, h⟩ := h
  induction n generalizing ya yb yc yd ye with
  | zero => exact h.elim
  | succ n ih => exact hs ya yb yc yd ye (wl5 f n) (fun ya1 yb1 yc1 yd1 ye1 h1 => ih h1) h
theorem wl5_inv {f : Int → Int → Int → Int → Int → (Int → Int → Int → Int → Int → Prop) → Prop} (Inv : Int → Int → Int → Int → Int → Prop) (μ : Int → Int → Int → Int → Int → Nat) (hs : ∀ (ya yb yc yd ye : Int) (ag : Int → Int → Int → Int → Int → Prop), Inv ya yb yc yd ye → (∀ (ya1 yb1 yc1 yd1 ye1 : Int) , Inv ya1 yb1 yc1 yd1 ye1 → μ ya1 yb1 yc1 yd1 ye1 < μ ya yb yc yd ye → ag ya1 yb1 yc1 yd1 ye1) → f ya yb yc yd ye ag) {ya yb yc yd ye : Int} (h : Inv ya yb yc yd ye) : ∃ n, wl5 f n ya yb yc yd ye := by
  have key : ∀ N : Nat, ∀ (ya yb yc yd ye : Int) , Inv ya yb yc yd ye → μ ya yb yc yd ye < N → wl5 f N ya yb yc yd ye := by
    intro N
    induction N with
    | zero => intro ya yb yc yd ye _ hl; exact absurd hl (Nat.not_lt_zero _)
    | succ N ih => intro ya yb yc yd ye hI hl; exact hs ya yb yc yd ye (wl5 f N) hI (fun ya1 yb1 yc1 yd1 ye1 hI1 hl1 => ih ya1 yb1 yc1 yd1 ye1 hI1 (by omega))
  exact ⟨μ ya yb yc yd ye + 1, key _ ya yb yc yd ye h (Nat.lt_succ_self _)⟩
theorem wl5_invB {f : Int → Int → Int → Int → Int → (Int → Int → Int → Int → Int → Prop) → Prop} (B : Nat) (Inv : Int → Int → Int → Int → Int → Prop) (μ : Int → Int → Int → Int → Int → Nat) (hs : ∀ (ya yb yc yd ye : Int) (ag : Int → Int → Int → Int → Int → Prop), Inv ya yb yc yd ye → (∀ (ya1 yb1 yc1 yd1 ye1 : Int) , Inv ya1 yb1 yc1 yd1 ye1 → μ ya1 yb1 yc1 yd1 ye1 < μ ya yb yc yd ye → ag ya1 yb1 yc1 yd1 ye1) → f ya yb yc yd ye ag) {ya yb yc yd ye : Int} (h : Inv ya yb yc yd ye) (hB : μ ya yb yc yd ye + 1 ≤ B) : ∃ n, n ≤ B ∧ wl5 f n ya yb yc yd ye := by
  have key : ∀ N : Nat, ∀ (ya yb yc yd ye : Int) , Inv ya yb yc yd ye → μ ya yb yc yd ye < N → wl5 f N ya yb yc yd ye := by
    intro N
    induction N with
    | zero => intro ya yb yc yd ye _ hl; exact absurd hl (Nat.not_lt_zero _)
    | succ N ih => intro ya yb yc yd ye hI hl; exact hs ya yb yc yd ye (wl5 f N) hI (fun ya1 yb1 yc1 yd1 ye1 hI1 hl1 => ih ya1 yb1 yc1 yd1 ye1 hI1 (by omega))
  exact ⟨μ ya yb yc yd ye + 1, hB, key _ ya yb yc yd ye h (Nat.lt_succ_self _)⟩
def wj5s (J : Int → Int → Int → Int → Int → St → Prop) (B : (Int → Int → Int → Int → Int → St → Prop) → Prop) : Prop := B J
theorem wj5s_intro {J : Int → Int → Int → Int → Int → St → Prop} {B : (Int → Int → Int → Int → Int → St → Prop) → Prop} (P : Int → Int → Int → Int → Int → St → Prop) (hJ : ∀ (ya yb yc yd ye : Int) (τ : St) , P ya yb yc yd ye τ → J ya yb yc yd ye τ) (hB : ∀ J1 : Int → Int → Int → Int → Int → St → Prop, (∀ (ya yb yc yd ye : Int) (τ : St) , P ya yb yc yd ye τ → J1 ya yb yc yd ye τ) → B J1) : wj5s J B := hB J hJ
def wl5s (f : Int → Int → Int → Int → Int → St → (Int → Int → Int → Int → Int → St → Prop) → Prop) : Nat → Int → Int → Int → Int → Int → St → Prop
  | 0, _, _, _, _, _, _ => False
  | n + 1, ya, yb, yc, yd, ye, τ => f ya yb yc yd ye τ (wl5s f n)
theorem wl5s_run {f : Int → Int → Int → Int → Int → St → (Int → Int → Int → Int → Int → St → Prop) → Prop} {P : Int → Int → Int → Int → Int → St → Prop} (hs : ∀ (ya yb yc yd ye : Int) (τ : St) (ag : Int → Int → Int → Int → Int → St → Prop), (∀ (ya1 yb1 yc1 yd1 ye1 : Int) (τ1 : St) , ag ya1 yb1 yc1 yd1 ye1 τ1 → P ya1 yb1 yc1 yd1 ye1 τ1) → f ya yb yc yd ye τ ag → P ya yb yc yd ye τ) {ya yb yc yd ye : Int} {τ : St} (h : ∃ n, wl5s f n ya yb yc yd ye τ) : P ya yb yc yd ye τ := by
  obtain ⟨n, h⟩ := h
  induction n generalizing ya yb yc yd ye τ with
  | zero => exact h.elim
  | succ n ih => exact hs ya yb yc yd ye τ (wl5s f n) (fun ya1 yb1 yc1 yd1 ye1 τ1 h1 => ih h1) h
theorem wl5s_inv {f : Int → Int → Int → Int → Int → St → (Int → Int → Int → Int → Int → St → Prop) → Prop} (Inv : Int → Int → Int → Int → Int → St → Prop) (μ : Int → Int → Int → Int → Int → St → Nat) (hs : ∀ (ya yb yc yd ye : Int) (τ : St) (ag : Int → Int → Int → Int → Int → St → Prop), Inv ya yb yc yd ye τ → (∀ (ya1 yb1 yc1 yd1 ye1 : Int) (τ1 : St) , Inv ya1 yb1 yc1 yd1 ye1 τ1 → μ ya1 yb1 yc1 yd1 ye1 τ1 < μ ya yb yc yd ye τ → ag ya1 yb1 yc1 yd1 ye1 τ1) → f ya yb yc yd ye τ ag) {ya yb yc yd ye : Int} {τ : St} (h : Inv ya yb yc yd ye τ) : ∃ n, wl5s f n ya yb yc yd ye τ := by
  have key : ∀ N : Nat, ∀ (ya yb yc yd ye : Int) (τ : St) , Inv ya yb yc yd ye τ → μ ya yb yc yd ye τ < N → wl5s f N ya yb yc yd ye τ := by
    intro N
    induction N with
    | zero => intro ya yb yc yd ye τ _ hl; exact absurd hl (Nat.not_lt_zero _)
    | succ N ih => intro ya yb yc yd ye τ hI hl; exact hs ya yb yc yd ye τ (wl5s f N) hI (fun ya1 yb1 yc1 yd1 ye1 τ1 hI1 hl1 => ih ya1 yb1 yc1 yd1 ye1 τ1 hI1 (by omega))
  exact ⟨μ ya yb yc yd ye τ + 1, key _ ya yb yc yd ye τ h (Nat.lt_succ_self _)⟩
theorem wl5s_invB {f : Int → Int → Int → Int → Int → St → (Int → Int → Int → Int → Int → St → Prop) → Prop} (B : Nat) (Inv : Int → Int → Int → Int → Int → St → Prop) (μ : Int → Int → Int → Int → Int → St → Nat) (hs : ∀ (ya yb yc yd ye : Int) (τ : St) (ag : Int → Int → Int → Int → Int → St → Prop), Inv ya yb yc yd ye τ → (∀ (ya1 yb1 yc1 yd1 ye1 : Int) (τ1 : St) , Inv ya1 yb1 yc1 yd1 ye1 τ1 → μ ya1 yb1 yc1 yd1 ye1 τ1 < μ ya yb yc yd ye τ → ag ya1 yb1 yc1 yd1 ye1 τ1) → f ya yb yc yd ye τ ag) {ya yb yc yd ye : Int} {τ : St} (h : Inv ya yb yc yd ye τ) (hB : μ ya yb yc yd ye τ + 1 ≤ B) : ∃ n, n ≤ B ∧ wl5s f n ya yb yc yd ye τ := by
  have key : ∀ N : Nat, ∀ (ya yb yc yd ye : Int) (τ : St) , Inv ya yb yc yd ye τ → μ ya yb yc yd ye τ < N → wl5s f N ya yb yc yd ye τ := by
    intro N
    induction N with
    | zero => intro ya yb yc yd ye τ _ hl; exact absurd hl (Nat.not_lt_zero _)
    | succ N ih => intro ya yb yc yd ye τ hI hl; exact hs ya yb yc yd ye τ (wl5s f N) hI (fun ya1 yb1 yc1 yd1 ye1 τ1 hI1 hl1 => ih ya1 yb1 yc1 yd1 ye1 τ1 hI1 (by omega))
  exact ⟨μ ya yb yc yd ye τ + 1, hB, key _ ya yb yc yd ye τ h (Nat.lt_succ_self _)⟩
def wj6 (J : Int → Int → Int → Int → Int → Int → Prop) (B : (Int → Int → Int → Int → Int → Int → Prop) → Prop) : Prop := B J
theorem wj6_intro {J : Int → Int → Int → Int → Int → Int → Prop} {B : (Int → Int → Int → Int → Int → Int → Prop) → Prop} (P : Int → Int → Int → Int → Int → Int → Prop) (hJ : ∀ (ya yb yc yd ye yf : Int) , P ya yb yc yd ye yf → J ya yb yc yd ye yf) (hB : ∀ J1 : Int → Int → Int → Int → Int → Int → Prop, (∀ (ya yb yc yd ye yf : Int) , P ya yb yc yd ye yf → J1 ya yb yc yd ye yf) → B J1) : wj6 J B := hB J hJ
def wl6 (f : Int → Int → Int → Int → Int → Int → (Int → Int → Int → Int → Int → Int → Prop) → Prop) : Nat → Int → Int → Int → Int → Int → Int → Prop
  | 0, _, _, _, _, _, _ => False
  | n + 1, ya, yb, yc, yd, ye, yf => f ya yb yc yd ye yf (wl6 f n)
theorem wl6_run {f : Int → Int → Int → Int → Int → Int → (Int → Int → Int → Int → Int → Int → Prop) → Prop} {P : Int → Int → Int → Int → Int → Int → Prop} (hs : ∀ (ya yb yc yd ye yf : Int) (ag : Int → Int → Int → Int → Int → Int → Prop), (∀ (ya1 yb1 yc1 yd1 ye1 yf1 : Int) , ag ya1 yb1 yc1 yd1 ye1 yf1 → P ya1 yb1 yc1 yd1 ye1 yf1) → f ya yb yc yd ye yf ag → P ya yb yc yd ye yf) {ya yb yc yd ye yf : Int} (h : ∃ n, wl6 f n ya yb yc yd ye yf) : P ya yb yc yd ye yf := by
  obtain ⟨n, h⟩ := h
  induction n generalizing ya yb yc yd ye yf with
  | zero => exact h.elim
  | succ n ih => exact hs ya yb yc yd ye yf (wl6 f n) (fun ya1 yb1 yc1 yd1 ye1 yf1 h1 => ih h1) h
theorem wl6_inv {f : Int → Int → Int → Int → Int → Int → (Int → Int → Int → Int → Int → Int → Prop) → Prop} (Inv : Int → Int → Int → Int → Int → Int → Prop) (μ : Int → Int → Int → Int → Int → Int → Nat) (hs : ∀ (ya yb yc yd ye yf : Int) (ag : Int → Int → Int → Int → Int → Int → Prop), Inv ya yb yc yd ye yf → (∀ (ya1 yb1 yc1 yd1 ye1 yf1 : Int) , Inv ya1 yb1 yc1 yd1 ye1 yf1 → μ ya1 yb1 yc1 yd1 ye1 yf1 < μ ya yb yc yd ye yf → ag ya1 yb1 yc1 yd1 ye1 yf1) → f ya yb yc yd ye yf ag) {ya yb yc yd ye yf : Int} (h : Inv ya yb yc yd ye yf) : ∃ n, wl6 f n ya yb yc yd ye yf := by
  have key : ∀ N : Nat, ∀ (ya yb yc yd ye yf : Int) , Inv ya yb yc yd ye yf → μ ya yb yc yd ye yf < N → wl6 f N ya yb yc yd ye yf := by
    intro N
    induction N with
    | zero => intro ya yb yc yd ye yf _ hl; exact absurd hl (Nat.not_lt_zero _)
    | succ N ih => intro ya yb yc yd ye yf hI hl; exact hs ya yb yc yd ye yf (wl6 f N) hI (fun ya1 yb1 yc1 yd1 ye1 yf1 hI1 hl1 => ih ya1 yb1 yc1 yd1 ye1 yf1 hI1 (by omega))
  exact ⟨μ ya yb yc yd ye yf + 1, key _ ya yb yc yd ye yf h (Nat.lt_succ_self _)⟩
theorem wl6_invB {f : Int → Int → Int → Int → Int → Int → (Int → Int → Int → Int → Int → Int → Prop) → Prop} (B : Nat) (Inv : Int → Int → Int → Int → Int → Int → Prop) (μ : Int → Int → Int → Int → Int → Int → Nat) (hs : ∀ (ya yb yc yd ye yf : Int) (ag : Int → Int → Int → Int → Int → Int → Prop), Inv ya yb yc yd ye yf → (∀ (ya1 yb1 yc1 yd1 ye1 yf1 : Int) , Inv ya1 yb1 yc1 yd1 ye1 yf1 → μ ya1 yb1 yc1 yd1 ye1 yf1 < μ ya yb yc yd ye yf → ag ya1 yb1 yc1 yd1 ye1 yf1) → f ya yb yc yd ye yf ag) {ya yb yc yd ye yf : Int} (h : Inv ya yb yc yd ye yf) (hB : μ ya yb yc yd ye yf + 1 ≤ B) : ∃ n, n ≤ B ∧ wl6 f n ya yb yc yd ye yf := by
  have key : ∀ N : Nat, ∀ (ya yb yc yd ye yf : Int) , Inv ya yb yc yd ye yf → μ ya yb yc yd ye yf < N → wl6 f N ya yb yc yd ye yf := by
    intro N
    induction N with
    | zero => intro ya yb yc yd ye yf _ hl; exact absurd hl (Nat.not_lt_zero _)
    | succ N ih => intro ya yb yc yd ye yf hI hl; exact hs ya yb yc yd ye yf (wl6 f N) hI (fun ya1 yb1 yc1 yd1 ye1 yf1 hI1 hl1 => ih ya1 yb1 yc1 yd1 ye1 yf1 hI1 (by omega))
  exact ⟨μ ya yb yc yd ye yf + 1, hB, key _ ya yb yc yd ye yf h (Nat.lt_succ_self _)⟩
def wj6s (J : Int → Int → Int → Int → Int → Int → St → Prop) (B : (Int → Int → Int → Int → Int → Int → St → Prop) → Prop) : Prop := B J
theorem wj6s_intro {J : Int → Int → Int → Int → Int → Int → St → Prop} {B : (Int → Int → Int → Int → Int → Int → St → Prop) → Prop} (P : Int → Int → Int → Int → Int → Int → St → Prop) (hJ : ∀ (ya yb yc yd ye yf : Int) (τ : St) , P ya yb yc yd ye yf τ → J ya yb yc yd ye yf τ) (hB : ∀ J1 : Int → Int → Int → Int → Int → Int → St → Prop, (∀ (ya yb yc yd ye yf : Int) (τ : St) , P ya yb yc yd ye yf τ → J1 ya yb yc yd ye yf τ) → B J1) : wj6s J B := hB J hJ
def wl6s (f : Int → Int → Int → Int → Int → Int → St → (Int → Int → Int → Int → Int → Int → St → Prop) → Prop) : Nat → Int → Int → Int → Int → Int → Int → St → Prop
  | 0, _, _, _, _, _, _, _ => False
  | n + 1, ya, yb, yc, yd, ye, yf, τ => f ya yb yc yd ye yf τ (wl6s f n)
theorem wl6s_run {f : Int → Int → Int → Int → Int → Int → St → (Int → Int → Int → Int → Int → Int → St → Prop) → Prop} {P : Int → Int → Int → Int → Int → Int → St → Prop} (hs : ∀ (ya yb yc yd ye yf : Int) (τ : St) (ag : Int → Int → Int → Int → Int → Int → St → Prop), (∀ (ya1 yb1 yc1 yd1 ye1 yf1 : Int) (τ1 : St) , ag ya1 yb1 yc1 yd1 ye1 yf1 τ1 → P ya1 yb1 yc1 yd1 ye1 yf1 τ1) → f ya yb yc yd ye yf τ ag → P ya yb yc yd ye yf τ) {ya yb yc yd ye yf : Int} {τ : St} (h : ∃ n, wl6s f n ya yb yc yd ye yf τ) : P ya yb yc yd ye yf τ := by
  obtain ⟨n, h⟩ := h
  induction n generalizing ya yb yc yd ye yf τ with
  | zero => exact h.elim
  | succ n ih => exact hs ya yb yc yd ye yf τ (wl6s f n) (fun ya1 yb1 yc1 yd1 ye1 yf1 τ1 h1 => ih h1) h
theorem wl6s_inv {f : Int → Int → Int → Int → Int → Int → St → (Int → Int → Int → Int → Int → Int → St → Prop) → Prop} (Inv : Int → Int → Int → Int → Int → Int → St → Prop) (μ : Int → Int → Int → Int → Int → Int → St → Nat) (hs : ∀ (ya yb yc yd ye yf : Int) (τ : St) (ag : Int → Int → Int → Int → Int → Int → St → Prop), Inv ya yb yc yd ye yf τ → (∀ (ya1 yb1 yc1 yd1 ye1 yf1 : Int) (τ1 : St) , Inv ya1 yb1 yc1 yd1 ye1 yf1 τ1 → μ ya1 yb1 yc1 yd1 ye1 yf1 τ1 < μ ya yb yc yd ye yf τ → ag ya1 yb1 yc1 yd1 ye1 yf1 τ1) → f ya yb yc yd ye yf τ ag) {ya yb yc yd ye yf : Int} {τ : St} (h : Inv ya yb yc yd ye yf τ) : ∃ n, wl6s f n ya yb yc yd ye yf τ := by
  have key : ∀ N : Nat, ∀ (ya yb yc yd ye yf : Int) (τ : St) , Inv ya yb yc yd ye yf τ → μ ya yb yc yd ye yf τ < N → wl6s f N ya yb yc yd ye yf τ := by
    intro N
    induction N with
    | zero => intro ya yb yc yd ye yf τ _ hl; exact absurd hl (Nat.not_lt_zero _)
    | succ N ih => intro ya yb yc yd ye yf τ hI hl; exact hs ya yb yc yd ye yf τ (wl6s f N) hI (fun ya1 yb1 yc1 yd1 ye1 yf1 τ1 hI1 hl1 => ih ya1 yb1 yc1 yd1 ye1 yf1 τ1 hI1 (by omega))
  exact ⟨μ ya yb yc yd ye yf τ + 1, key _ ya yb yc yd ye yf τ h (Nat.lt_succ_self _)⟩
theorem wl6s_invB {f : Int → Int → Int → Int → Int → Int → St → (Int → Int → Int → Int → Int → Int → St → Prop) → Prop} (B : Nat) (Inv : Int → Int → Int → Int → Int → Int → St → Prop) (μ : Int → Int → Int → Int → Int → Int → St → Nat) (hs : ∀ (ya yb yc yd ye yf : Int) (τ : St) (ag : Int → Int → Int → Int → Int → Int → St → Prop), Inv ya yb yc yd ye yf τ → (∀ (ya1 yb1 yc1 yd1 ye1 yf1 : Int) (τ1 : St) , Inv ya1 yb1 yc1 yd1 ye1 yf1 τ1 → μ ya1 yb1 yc1 yd1 ye1 yf1 τ1 < μ ya yb yc yd ye yf τ → ag ya1 yb1 yc1 yd1 ye1 yf1 τ1) → f ya yb yc yd ye yf τ ag) {ya yb yc yd ye yf : Int} {τ : St} (h : Inv ya yb yc yd ye yf τ) (hB : μ ya yb yc yd ye yf τ + 1 ≤ B) : ∃ n, n ≤ B ∧ wl6s f n ya yb yc yd ye yf τ := by
  have key : ∀ N : Nat, ∀ (ya yb yc yd ye yf : Int) (τ : St) , Inv ya yb yc yd ye yf τ → μ ya yb yc yd ye yf τ < N → wl6s f N ya yb yc yd ye yf τ := by
    intro N
    induction N with
    | zero => intro ya yb yc yd ye yf τ _ hl; exact absurd hl (Nat.not_lt_zero _)
    | succ N ih => intro ya yb yc yd ye yf τ hI hl; exact hs ya yb yc yd ye yf τ (wl6s f N) hI (fun ya1 yb1 yc1 yd1 ye1 yf1 τ1 hI1 hl1 => ih ya1 yb1 yc1 yd1 ye1 yf1 τ1 hI1 (by omega))
  exact ⟨μ ya yb yc yd ye yf τ + 1, hB, key _ ya yb yc yd ye yf τ h (Nat.lt_succ_self _)⟩
def wj7 (J : Int → Int → Int → Int → Int → Int → Int → Prop) (B : (Int → Int → Int → Int → Int → Int → Int → Prop) → Prop) : Prop := B J
theorem wj7_intro {J : Int → Int → Int → Int → Int → Int → Int → Prop} {B : (Int → Int → Int → Int → Int → Int → Int → Prop) → Prop} (P : Int → Int → Int → Int → Int → Int → Int → Prop) (hJ : ∀ (ya yb yc yd ye yf yg : Int) , P ya yb yc yd ye yf yg → J ya yb yc yd ye yf yg) (hB : ∀ J1 : Int → Int → Int → Int → Int → Int → Int → Prop, (∀ (ya yb yc yd ye yf yg : Int) , P ya yb yc yd ye yf yg → J1 ya yb yc yd ye yf yg) → B J1) : wj7 J B := hB J hJ
def wl7 (f : Int → Int → Int → Int → Int → Int → Int → (Int → Int → Int → Int → Int → Int → Int → Prop) → Prop) : Nat → Int → Int → Int → Int → Int → Int → Int → Prop
  | 0, _, _, _, _, _, _, _ => False
  | n + 1, ya, yb, yc, yd, ye, yf, yg => f ya yb yc yd ye yf yg (wl7 f n)
theorem wl7_run {f : Int → Int → Int → Int → Int → Int → Int → (Int → Int → Int → Int → Int → Int → Int → Prop) → Prop} {P : Int → Int → Int → Int → Int → Int → Int → Prop} (hs : ∀ (ya yb yc yd ye yf yg : Int) (ag : Int → Int → Int → Int → Int → Int → Int → Prop), (∀ (ya1 yb1 yc1 yd1 ye1 yf1 yg1 : Int) , ag ya1 yb1 yc1 yd1 ye1 yf1 yg1 → P ya1 yb1 yc1 yd1 ye1 yf1 yg1) → f ya yb yc yd ye yf yg ag → P ya yb yc yd ye yf yg) {ya yb yc yd ye yf yg : Int} (h : ∃ n, wl7 f n ya yb yc yd ye yf yg) : P ya yb yc yd ye yf yg := by
  obtain ⟨n, h⟩ := h
  induction n generalizing ya yb yc yd ye yf yg with
  | zero => exact h.elim
  | succ n ih => exact hs ya yb yc yd ye yf yg (wl7 f n) (fun ya1 yb1 yc1 yd1 ye1 yf1 yg1 h1 => ih h1) h
theorem wl7_inv {f : Int → Int → Int → Int → Int → Int → Int → (Int → Int → Int → Int → Int → Int → Int → Prop) → Prop} (Inv : Int → Int → Int → Int → Int → Int → Int → Prop) (μ : Int → Int → Int → Int → Int → Int → Int → Nat) (hs : ∀ (ya yb yc yd ye yf yg : Int) (ag : Int → Int → Int → Int → Int → Int → Int → Prop), Inv ya yb yc yd ye yf yg → (∀ (ya1 yb1 yc1 yd1 ye1 yf1 yg1 : Int) , Inv ya1 yb1 yc1 yd1 ye1 yf1 yg1 → μ ya1 yb1 yc1 yd1 ye1 yf1 yg1 < μ ya yb yc yd ye yf yg → ag ya1 yb1 yc1 yd1 ye1 yf1 yg1) → f ya yb yc yd ye yf yg ag) {ya yb yc yd ye yf yg : Int} (h : Inv ya yb yc yd ye yf yg) : ∃ n, wl7 f n ya yb yc yd ye yf yg := by
  have key : ∀ N : Nat, ∀ (ya yb yc yd ye yf yg : Int) , Inv ya yb yc yd ye yf yg → μ ya yb yc yd ye yf yg < N → wl7 f N ya yb yc yd ye yf yg := by
    intro N
    induction N with
    | zero => intro ya yb yc yd ye yf yg _ hl; exact absurd hl (Nat.not_lt_zero _)
    | succ N ih => intro ya yb yc yd ye yf yg hI hl; exact hs ya yb yc yd ye yf yg (wl7 f N) hI (fun ya1 yb1 yc1 yd1 ye1 yf1 yg1 hI1 hl1 => ih ya1 yb1 yc1 yd1 ye1 yf1 yg1 hI1 (by omega))
  exact ⟨μ ya yb yc yd ye yf yg + 1, key _ ya yb yc yd ye yf yg h (Nat.lt_succ_self _)⟩
theorem wl7_invB {f : Int → Int → Int → Int → Int → Int → Int → (Int → Int → Int → Int → Int → Int → Int → Prop) → Prop} (B : Nat) (Inv : Int → Int → Int → Int → Int → Int → Int → Prop) (μ : Int → Int → Int → Int → Int → Int → Int → Nat) (hs : ∀ (ya yb yc yd ye yf yg : Int) (ag : Int → Int → Int → Int → Int → Int → Int → Prop), Inv ya yb yc yd ye yf yg → (∀ (ya1 yb1 yc1 yd1 ye1 yf1 yg1 : Int) , Inv ya1 yb1 yc1 yd1 ye1 yf1 yg1 → μ ya1 yb1 yc1 yd1 ye1 yf1 yg1 < μ ya yb yc yd ye yf yg → ag ya1 yb1 yc1 yd1 ye1 yf1 yg1) → f ya yb yc yd ye yf yg ag) {ya yb yc yd ye yf yg : Int} (h : Inv ya yb yc yd ye yf yg) (hB : μ ya yb yc yd ye yf yg + 1 ≤ B) : ∃ n, n ≤ B ∧ wl7 f n ya yb yc yd ye yf yg := by
  have key : ∀ N : Nat, ∀ (ya yb yc yd ye yf yg : Int) , Inv ya yb yc yd ye yf yg → μ ya yb yc yd ye yf yg < N → wl7 f N ya yb yc yd ye yf yg := by
    intro N
    induction N with
    | zero => intro ya yb yc yd ye yf yg _ hl; exact absurd hl (Nat.not_lt_zero _)
    | succ N ih => intro ya yb yc yd ye yf yg hI hl; exact hs ya yb yc yd ye yf yg (wl7 f N) hI (fun ya1 yb1 yc1 yd1 ye1 yf1 yg1 hI1 hl1 => ih ya1 yb1 yc1 yd1 ye1 yf1 yg1 hI1 (by omega))
  exact ⟨μ ya yb yc yd ye yf yg + 1, hB, key _ ya yb yc yd ye yf yg h (Nat.lt_succ_self _)⟩
def wj7s (J : Int → Int → Int → Int → Int → Int → Int → St → Prop) (B : (Int → Int → Int → Int → Int → Int → Int → St → Prop) → Prop) : Prop := B J
theorem wj7s_intro {J : Int → Int → Int → Int → Int → Int → Int → St → Prop} {B : (Int → Int → Int → Int → Int → Int → Int → St → Prop) → Prop} (P : Int → Int → Int → Int → Int → Int → Int → St → Prop) (hJ : ∀ (ya yb yc yd ye yf yg : Int) (τ : St) , P ya yb yc yd ye yf yg τ → J ya yb yc yd ye yf yg τ) (hB : ∀ J1 : Int → Int → Int → Int → Int → Int → Int → St → Prop, (∀ (ya yb yc yd ye yf yg : Int) (τ : St) , P ya yb yc yd ye yf yg τ → J1 ya yb yc yd ye yf yg τ) → B J1) : wj7s J B := hB J hJ
def wl7s (f : Int → Int → Int → Int → Int → Int → Int → St → (Int → Int → Int → Int → Int → Int → Int → St → Prop) → Prop) : Nat → Int → Int → Int → Int → Int → Int → Int → St → Prop
  | 0, _, _, _, _, _, _, _, _ => False
  | n + 1, ya, yb, yc, yd, ye, yf, yg, τ => f ya yb yc yd ye yf yg τ (wl7s f n)
theorem wl7s_run {f : Int → Int → Int → Int → Int → Int → Int → St → (Int → Int → Int → Int → Int → Int → Int → St → Prop) → Prop} {P : Int → Int → Int → Int → Int → Int → Int → St → Prop} (hs : ∀ (ya yb yc yd ye yf yg : Int) (τ : St) (ag : Int → Int → Int → Int → Int → Int → Int → St → Prop), (∀ (ya1 yb1 yc1 yd1 ye1 yf1 yg1 : Int) (τ1 : St) , ag ya1 yb1 yc1 yd1 ye1 yf1 yg1 τ1 → P ya1 yb1 yc1 yd1 ye1 yf1 yg1 τ1) → f ya yb yc yd ye yf yg τ ag → P ya yb yc yd ye yf yg τ) {ya yb yc yd ye yf yg : Int} {τ : St} (h : ∃ n, wl7s f n ya yb yc yd ye yf yg τ) : P ya yb yc yd ye yf yg τ := by
  obtain ⟨n, h⟩ := h
  induction n generalizing ya yb yc yd ye yf yg τ with
  | zero => exact h.elim
  | succ n ih => exact hs ya yb yc yd ye yf yg τ (wl7s f n) (fun ya1 yb1 yc1 yd1 ye1 yf1 yg1 τ1 h1 => ih h1) h
theorem wl7s_inv {f : Int → Int → Int → Int → Int → Int → Int → St → (Int → Int → Int → Int → Int → Int → Int → St → Prop) → Prop} (Inv : Int → Int → Int → Int → Int → Int → Int → St → Prop) (μ : Int → Int → Int → Int → Int → Int → Int → St → Nat) (hs : ∀ (ya yb yc yd ye yf yg : Int) (τ : St) (ag : Int → Int → Int → Int → Int → Int → Int → St → Prop), Inv ya yb yc yd ye yf yg τ → (∀ (ya1 yb1 yc1 yd1 ye1 yf1 yg1 : Int) (τ1 : St) , Inv ya1 yb1 yc1 yd1 ye1 yf1 yg1 τ1 → μ ya1 yb1 yc1 yd1 ye1 yf1 yg1 τ1 < μ ya yb yc yd ye yf yg τ → ag ya1 yb1 yc1 yd1 ye1 yf1 yg1 τ1) → f ya yb yc yd ye yf yg τ ag) {ya yb yc yd ye yf yg : Int} {τ : St} (h : Inv ya yb yc yd ye yf yg τ) : ∃ n, wl7s f n ya yb yc yd ye yf yg τ := by
  have key : ∀ N : Nat, ∀ (ya yb yc yd ye yf yg : Int) (τ : St) , Inv ya yb yc yd ye yf yg τ → μ ya yb yc yd ye yf yg τ < N → wl7s f N ya yb yc yd ye yf yg τ := by
    intro N
    induction N with
    | zero => intro ya yb yc yd ye yf yg τ _ hl; exact absurd hl (Nat.not_lt_zero _)
    | succ N ih => intro ya yb yc yd ye yf yg τ hI hl; exact hs ya yb yc yd ye yf yg τ (wl7s f N) hI (fun ya1 yb1 yc1 yd1 ye1 yf1 yg1 τ1 hI1 hl1 => ih ya1 yb1 yc1 yd1 ye1 yf1 yg1 τ1 hI1 (by omega))
  exact ⟨μ ya yb yc yd ye yf yg τ + 1, key _ ya yb yc yd ye yf yg τ h (Nat.lt_succ_self _)⟩
theorem wl7s_invB {f : Int → Int → Int → Int → Int → Int → Int → St → (Int → Int → Int → Int → Int → Int → Int → St → Prop) → Prop} (B : Nat) (Inv : Int → Int → Int → Int → Int → Int → Int → St → Prop) (μ : Int → Int → Int → Int → Int → Int → Int → St → Nat) (hs : ∀ (ya yb yc yd ye yf yg : Int) (τ : St) (ag : Int → Int → Int → Int → Int → Int → Int → St → Prop), Inv ya yb yc yd ye yf yg τ → (∀ (ya1 yb1 yc1 yd1 ye1 yf1 yg1 : Int) (τ1 : St) , Inv ya1 yb1 yc1 yd1 ye1 yf1 yg1 τ1 → μ ya1 yb1 yc1 yd1 ye1 yf1 yg1 τ1 < μ ya yb yc yd ye yf yg τ → ag ya1 yb1 yc1 yd1 ye1 yf1 yg1 τ1) → f ya yb yc yd ye yf yg τ ag) {ya yb yc yd ye yf yg : Int} {τ : St} (h : Inv ya yb yc yd ye yf yg τ) (hB : μ ya yb yc yd ye yf yg τ + 1 ≤ B) : ∃ n, n ≤ B ∧ wl7s f n ya yb yc yd ye yf yg τ := by
  have key : ∀ N : Nat, ∀ (ya yb yc yd ye yf yg : Int) (τ : St) , Inv ya yb yc yd ye yf yg τ → μ ya yb yc yd ye yf yg τ < N → wl7s f N ya yb yc yd ye yf yg τ := by
    intro N
    induction N with
    | zero => intro ya yb yc yd ye yf yg τ _ hl; exact absurd hl (Nat.not_lt_zero _)
    | succ N ih => intro ya yb yc yd ye yf yg τ hI hl; exact hs ya yb yc yd ye yf yg τ (wl7s f N) hI (fun ya1 yb1 yc1 yd1 ye1 yf1 yg1 τ1 hI1 hl1 => ih ya1 yb1 yc1 yd1 ye1 yf1 yg1 τ1 hI1 (by omega))
  exact ⟨μ ya yb yc yd ye yf yg τ + 1, hB, key _ ya yb yc yd ye yf yg τ h (Nat.lt_succ_self _)⟩
def wj8 (J : Int → Int → Int → Int → Int → Int → Int → Int → Prop) (B : (Int → Int → Int → Int → Int → Int → Int → Int → Prop) → Prop) : Prop := B J
theorem wj8_intro {J : Int → Int → Int → Int → Int → Int → Int → Int → Prop} {B : (Int → Int → Int → Int → Int → Int → Int → Int → Prop) → Prop} (P : Int → Int → Int → Int → Int → Int → Int → Int → Prop) (hJ : ∀ (ya yb yc yd ye yf yg yh : Int) , P ya yb yc yd ye yf yg yh → J ya yb yc yd ye yf yg yh) (hB : ∀ J1 : Int → Int → Int → Int → Int → Int → Int → Int → Prop, (∀ (ya yb yc yd ye yf yg yh : Int) , P ya yb yc yd ye yf yg yh → J1 ya yb yc yd ye yf yg yh) → B J1) : wj8 J B := hB J hJ
def wl8 (f : Int → Int → Int → Int → Int → Int → Int → Int → (Int → Int → Int → Int → Int → Int → Int → Int → Prop) → Prop) : Nat → Int → Int → Int → Int → Int → Int → Int → Int → Prop
  | 0, _, _, _, _, _, _, _, _ => False
  | n + 1, ya, yb, yc, yd, ye, yf, yg, yh => f ya yb yc yd ye yf yg yh (wl8 f n)
theorem wl8_run {f : Int → Int → Int → Int → Int → Int → Int → Int → (Int → Int → Int → Int → Int → Int → Int → Int → Prop) → Prop} {P : Int → Int → Int → Int → Int → Int → Int → Int → Prop} (hs : ∀ (ya yb yc yd ye yf yg yh : Int) (ag : Int → Int → Int → Int → Int → Int → Int → Int → Prop), (∀ (ya1 yb1 yc1 yd1 ye1 yf1 yg1 yh1 : Int) , ag ya1 yb1 yc1 yd1 ye1 yf1 yg1 yh1 → P ya1 yb1 yc1 yd1 ye1 yf1 yg1 yh1) → f ya yb yc yd ye yf yg yh ag → P ya yb yc yd ye yf yg yh) {ya yb yc yd ye yf yg yh : Int} (h : ∃ n, wl8 f n ya yb yc yd ye yf yg yh) : P ya yb yc yd ye yf yg yh := by
  obtain ⟨n, h⟩ := h
  induction n generalizing ya yb yc yd ye yf yg yh with
  | zero => exact h.elim
  | succ n ih => exact hs ya yb yc yd ye yf yg yh (wl8 f n) (fun ya1 yb1 yc1 yd1 ye1 yf1 yg1 yh1 h1 => ih h1) h
theorem wl8_inv {f : Int → Int → Int → Int → Int → Int → Int → Int → (Int → Int → Int → Int → Int → Int → Int → Int → Prop) → Prop} (Inv : Int → Int → Int → Int → Int → Int → Int → Int → Prop) (μ : Int → Int → Int → Int → Int → Int → Int → Int → Nat) (hs : ∀ (ya yb yc yd ye yf yg yh : Int) (ag : Int → Int → Int → Int → Int → Int → Int → Int → Prop), Inv ya yb yc yd ye yf yg yh → (∀ (ya1 yb1 yc1 yd1 ye1 yf1 yg1 yh1 : Int) , Inv ya1 yb1 yc1 yd1 ye1 yf1 yg1 yh1 → μ ya1 yb1 yc1 yd1 ye1 yf1 yg1 yh1 < μ ya yb yc yd ye yf yg yh → ag ya1 yb1 yc1 yd1 ye1 yf1 yg1 yh1) → f ya yb yc yd ye yf yg yh ag) {ya yb yc yd ye yf yg yh : Int} (h : Inv ya yb yc yd ye yf yg yh) : ∃ n, wl8 f n ya yb yc yd ye yf yg yh := by
  have key : ∀ N : Nat, ∀ (ya yb yc yd ye yf yg yh : Int) , Inv ya yb yc yd ye yf yg yh → μ ya yb yc yd ye yf yg yh < N → wl8 f N ya yb yc yd ye yf yg yh := by
    intro N
    induction N with
    | zero => intro ya yb yc yd ye yf yg yh _ hl; exact absurd hl (Nat.not_lt_zero _)
    | succ N ih => intro ya yb yc yd ye yf yg yh hI hl; exact hs ya yb yc yd ye yf yg yh (wl8 f N) hI (fun ya1 yb1 yc1 yd1 ye1 yf1 yg1 yh1 hI1 hl1 => ih ya1 yb1 yc1 yd1 ye1 yf1 yg1 yh1 hI1 (by omega))
  exact ⟨μ ya yb yc yd ye yf yg yh + 1, key _ ya yb yc yd ye yf yg yh h (Nat.lt_succ_self _)⟩
theorem wl8_invB {f : Int → Int → Int → Int → Int → Int → Int → Int → (Int → Int → Int → Int → Int → Int → Int → Int → Prop) → Prop} (B : Nat) (Inv : Int → Int → Int → Int → Int → Int → Int → Int → Prop) (μ : Int → Int → Int → Int → Int → Int → Int → Int → Nat) (hs : ∀ (ya yb yc yd ye yf yg yh : Int) (ag : Int → Int → Int → Int → Int → Int → Int → Int → Prop), Inv ya yb yc yd ye yf yg yh → (∀ (ya1 yb1 yc1 yd1 ye1 yf1 yg1 yh1 : Int) , Inv ya1 yb1 yc1 yd1 ye1 yf1 yg1 yh1 → μ ya1 yb1 yc1 yd1 ye1 yf1 yg1 yh1 < μ ya yb yc yd ye yf yg yh → ag ya1 yb1 yc1 yd1 ye1 yf1 yg1 yh1) → f ya yb yc yd ye yf yg yh ag) {ya yb yc yd ye yf yg yh : Int} (h : Inv ya yb yc yd ye yf yg yh) (hB : μ ya yb yc yd ye yf yg yh + 1 ≤ B) : ∃ n, n ≤ B ∧ wl8 f n ya yb yc yd ye yf yg yh := by
  have key : ∀ N : Nat, ∀ (ya yb yc yd ye yf yg yh : Int) , Inv ya yb yc yd ye yf yg yh → μ ya yb yc yd ye yf yg yh < N → wl8 f N ya yb yc yd ye yf yg yh := by
    intro N
    induction N with
    | zero => intro ya yb yc yd ye yf yg yh _ hl; exact absurd hl (Nat.not_lt_zero _)
    | succ N ih => intro ya yb yc yd ye yf yg yh hI hl; exact hs ya yb yc yd ye yf yg yh (wl8 f N) hI (fun ya1 yb1 yc1 yd1 ye1 yf1 yg1 yh1 hI1 hl1 => ih ya1 yb1 yc1 yd1 ye1 yf1 yg1 yh1 hI1 (by omega))
  exact ⟨μ ya yb yc yd ye yf yg yh + 1, hB, key _ ya yb yc yd ye yf yg yh h (Nat.lt_succ_self _)⟩
def wj8s (J : Int → Int → Int → Int → Int → Int → Int → Int → St → Prop) (B : (Int → Int → Int → Int → Int → Int → Int → Int → St → Prop) → Prop) : Prop := B J
theorem wj8s_intro {J : Int → Int → Int → Int → Int → Int → Int → Int → St → Prop} {B : (Int → Int → Int → Int → Int → Int → Int → Int → St → Prop) → Prop} (P : Int → Int → Int → Int → Int → Int → Int → Int → St → Prop) (hJ : ∀ (ya yb yc yd ye yf yg yh : Int) (τ : St) , P ya yb yc yd ye yf yg yh τ → J ya yb yc yd ye yf yg yh τ) (hB : ∀ J1 : Int → Int → Int → Int → Int → Int → Int → Int → St → Prop, (∀ (ya yb yc yd ye yf yg yh : Int) (τ : St) , P ya yb yc yd ye yf yg yh τ → J1 ya yb yc yd ye yf yg yh τ) → B J1) : wj8s J B := hB J hJ
def wl8s (f : Int → Int → Int → Int → Int → Int → Int → Int → St → (Int → Int → Int → Int → Int → Int → Int → Int → St → Prop) → Prop) : Nat → Int → Int → Int → Int → Int → Int → Int → Int → St → Prop
  | 0, _, _, _, _, _, _, _, _, _ => False
  | n + 1, ya, yb, yc, yd, ye, yf, yg, yh, τ => f ya yb yc yd ye yf yg yh τ (wl8s f n)
theorem wl8s_run {f : Int → Int → Int → Int → Int → Int → Int → Int → St → (Int → Int → Int → Int → Int → Int → Int → Int → St → Prop) → Prop} {P : Int → Int → Int → Int → Int → Int → Int → Int → St → Prop} (hs : ∀ (ya yb yc yd ye yf yg yh : Int) (τ : St) (ag : Int → Int → Int → Int → Int → Int → Int → Int → St → Prop), (∀ (ya1 yb1 yc1 yd1 ye1 yf1 yg1 yh1 : Int) (τ1 : St) , ag ya1 yb1 yc1 yd1 ye1 yf1 yg1 yh1 τ1 → P ya1 yb1 yc1 yd1 ye1 yf1 yg1 yh1 τ1) → f ya yb yc yd ye yf yg yh τ ag → P ya yb yc yd ye yf yg yh τ) {ya yb yc yd ye yf yg yh : Int} {τ : St} (h : ∃ n, wl8s f n ya yb yc yd ye yf yg yh τ) : P ya yb yc yd ye yf yg yh τ := by
  obtain ⟨n, h⟩ := h
  induction n generalizing ya yb yc yd ye yf yg yh τ with
  | zero => exact h.elim
  | succ n ih => exact hs ya yb yc yd ye yf yg yh τ (wl8s f n) (fun ya1 yb1 yc1 yd1 ye1 yf1 yg1 yh1 τ1 h1 => ih h1) h
theorem wl8s_inv {f : Int → Int → Int → Int → Int → Int → Int → Int → St → (Int → Int → Int → Int → Int → Int → Int → Int → St → Prop) → Prop} (Inv : Int → Int → Int → Int → Int → Int → Int → Int → St → Prop) (μ : Int → Int → Int → Int → Int → Int → Int → Int → St → Nat) (hs : ∀ (ya yb yc yd ye yf yg yh : Int) (τ : St) (ag : Int → Int → Int → Int → Int → Int → Int → Int → St → Prop), Inv ya yb yc yd ye yf yg yh τ → (∀ (ya1 yb1 yc1 yd1 ye1 yf1 yg1 yh1 : Int) (τ1 : St) , Inv ya1 yb1 yc1 yd1 ye1 yf1 yg1 yh1 τ1 → μ ya1 yb1 yc1 yd1 ye1 yf1 yg1 yh1 τ1 < μ ya yb yc yd ye yf yg yh τ → ag ya1 yb1 yc1 yd1 ye1 yf1 yg1 yh1 τ1) → f ya yb yc yd ye yf yg yh τ ag) {ya yb yc yd ye yf yg yh : Int} {τ : St} (h : Inv ya yb yc yd ye yf yg yh τ) : ∃ n, wl8s f n ya yb yc yd ye yf yg yh τ := by
  have key : ∀ N : Nat, ∀ (ya yb yc yd ye yf yg yh : Int) (τ : St) , Inv ya yb yc yd ye yf yg yh τ → μ ya yb yc yd ye yf yg yh τ < N → wl8s f N ya yb yc yd ye yf yg yh τ := by
    intro N
    induction N with
    | zero => intro ya yb yc yd ye yf yg yh τ _ hl; exact absurd hl (Nat.not_lt_zero _)
    | succ N ih => intro ya yb yc yd ye yf yg yh τ hI hl; exact hs ya yb yc yd ye yf yg yh τ (wl8s f N) hI (fun ya1 yb1 yc1 yd1 ye1 yf1 yg1 yh1 τ1 hI1 hl1 => ih ya1 yb1 yc1 yd1 ye1 yf1 yg1 yh1 τ1 hI1 (by omega))
  exact ⟨μ ya yb yc yd ye yf yg yh τ + 1, key _ ya yb yc yd ye yf yg yh τ h (Nat.lt_succ_self _)⟩
theorem wl8s_invB {f : Int → Int → Int → Int → Int → Int → Int → Int → St → (Int → Int → Int → Int → Int → Int → Int → Int → St → Prop) → Prop} (B : Nat) (Inv : Int → Int → Int → Int → Int → Int → Int → Int → St → Prop) (μ : Int → Int → Int → Int → Int → Int → Int → Int → St → Nat) (hs : ∀ (ya yb yc yd ye yf yg yh : Int) (τ : St) (ag : Int → Int → Int → Int → Int → Int → Int → Int → St → Prop), Inv ya yb yc yd ye yf yg yh τ → (∀ (ya1 yb1 yc1 yd1 ye1 yf1 yg1 yh1 : Int) (τ1 : St) , Inv ya1 yb1 yc1 yd1 ye1 yf1 yg1 yh1 τ1 → μ ya1 yb1 yc1 yd1 ye1 yf1 yg1 yh1 τ1 < μ ya yb yc yd ye yf yg yh τ → ag ya1 yb1 yc1 yd1 ye1 yf1 yg1 yh1 τ1) → f ya yb yc yd ye yf yg yh τ ag) {ya yb yc yd ye yf yg yh : Int} {τ : St} (h : Inv ya yb yc yd ye yf yg yh τ) (hB : μ ya yb yc yd ye yf yg yh τ + 1 ≤ B) : ∃ n, n ≤ B ∧ wl8s f n ya yb yc yd ye yf yg yh τ := by
  have key : ∀ N : Nat, ∀ (ya yb yc yd ye yf yg yh : Int) (τ : St) , Inv ya yb yc yd ye yf yg yh τ → μ ya yb yc yd ye yf yg yh τ < N → wl8s f N ya yb yc yd ye yf yg yh τ := by
    intro N
    induction N with
    | zero => intro ya yb yc yd ye yf yg yh τ _ hl; exact absurd hl (Nat.not_lt_zero _)
    | succ N ih => intro ya yb yc yd ye yf yg yh τ hI hl; exact hs ya yb yc yd ye yf yg yh τ (wl8s f N) hI (fun ya1 yb1 yc1 yd1 ye1 yf1 yg1 yh1 τ1 hI1 hl1 => ih ya1 yb1 yc1 yd1 ye1 yf1 yg1 yh1 τ1 hI1 (by omega))
  exact ⟨μ ya yb yc yd ye yf yg yh τ + 1, hB, key _ ya yb yc yd ye yf yg yh τ h (Nat.lt_succ_self _)⟩
