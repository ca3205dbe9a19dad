/-! ===== questions ===== -/
def EQ' (x y : Int) (t : St) (J : St → Prop) : Prop := Rg x ∧ Rg y ∧ (x = y → J t) ∧ (¬ x = y → False)
theorem tells_eq {r : Int} {σ : St} {J : St → Prop} (hR : REL σ) (hJ : ∀ τ : St, REL τ → J τ) (rr : Rg r) : f_X7_tells r σ (fun x s => EQ' r x s J) := by
  intro s1 e1
  have hR1 : REL s1 := by rw [e1]; exact hR.u7 0
  exact ⟨rr, rr, fun _ => hJ _ hR1, fun z => absurd rfl z⟩
theorem o_value {w : Int} {σ : St} {Kx : Int → St → Prop} {J : St → Prop} (hw : Rg w) (hR : REL σ) (hJ : ∀ τ : St, REL τ → J τ) (hK : ∀ (x : Int) (s : St), f_X7_value w s (fun y t => TL x y t J) → Kx x s) : f_L_value w σ Kx := by
  unfold f_L_value f_X6_value
  refine s6_demandBelow hw ⟨by decide, by decide⟩ (fun q => q_cls hR fun τ hT hL e _ => s6_numberOf hT.m hL (by omega) ⟨nbW_rg hT.d (by omega), fun s3 e3 => hK _ _ ?_⟩) (fun q => ⟨fun _ => hK _ _ ?_, rfl⟩)
  · have hR3 : REL s3 := by rw [e3]; exact hT.u176 _
    unfold f_X7_value
    refine in_ok hw ⟨by decide, by decide⟩ ⟨by decide, by decide⟩ (by omega) (ok_ne (q_mod hR3 fun ρ hρ hl e2 hf => s7_valueOf hρ.d hl (by omega) (tells_ok hρ hJ (nbW_rg hρ.d (by omega)) ?_)))
    rw [hf.1 176 (by decide), e2, e3, up_s, up_c (by decide)]
  · unfold f_X7_value
    exact in_no hw ⟨by decide, by decide⟩ ⟨by decide, by decide⟩ (by omega) (no_ne (fails_ok hR hJ (by decide)))
theorem o_sign {k w : Int} {σ : St} {Kx : Int → St → Prop} {J : St → Prop} (hk : Rg k) (hw : Rg w) (hR : REL σ) (hJ : ∀ τ : St, REL τ → J τ) (hK : ∀ (x : Int) (s : St), f_X7_sign k w s (fun y t => TL x y t J) → Kx x s) : f_L_sign k w σ Kx := by
  unfold f_L_sign f_X6_sign
  refine s6_demandSign hR.d hR.m hk (fun q1 => s6_demandBelow hw ⟨by decide, by decide⟩ (fun q => q_cls hR fun τ hT hL e _ => s6_signFact hT.d hT.m hL q1.1 (by rw [e]; exact q1.2) (by omega) ⟨sgW_rg hT.d q1.1 (by rw [e]; exact q1.2), fun s3 e3 => hK _ _ ?_⟩) (fun q => ⟨fun z => absurd z (by decide), fun _ => hK _ _ ?_, Or.inr rfl⟩)) (fun q => ⟨fun _ => hK _ _ ?_, fun z => absurd z (by decide), Or.inl rfl⟩)
  · have hR3 : REL s3 := by rw [e3]; exact hT.u176 _
    have e4 : s3 162 = σ 162 := by rw [e3, up_c (by decide)]; exact e
    unfold f_X7_sign
    refine sign_ok hR3.d (by rw [e4]; exact q1) (ok_ne (in_ok hw ⟨by decide, by decide⟩ ⟨by decide, by decide⟩ (by omega) (ok_ne (q_mod hR3 fun ρ hρ hl e2 hf => s7_signOf hρ.d hl q1.1 (by rw [e2, e4]; exact q1.2) (by omega) (tells_ok hρ hJ (sgW_rg hρ.d q1.1 (by rw [e2, e4]; exact q1.2)) ?_)))))
    rw [hf.1 176 (by decide), e2, e4, ← e, e3, up_s]
  · unfold f_X7_sign
    exact sign_ok hR.d q1 (ok_ne (in_no hw ⟨by decide, by decide⟩ ⟨by decide, by decide⟩ (by omega) (no_ne (fails_ok hR hJ (by decide)))))
  · unfold f_X7_sign
    exact sign_no hR.d hk q (no_ne (fails_ok hR hJ (by decide)))
theorem o_kind {k w : Int} {σ : St} {Kx : Int → St → Prop} {J : St → Prop} (hk : Rg k) (hw : Rg w) (hR : REL σ) (hJ : ∀ τ : St, REL τ → J τ) (hK : ∀ (x : Int) (s : St), f_X7_kind k w s (fun y t => TL x y t J) → Kx x s) : f_L_kind k w σ Kx := by
  unfold f_L_kind f_X6_kind
  refine s6_demandKind hk (fun q1 => s6_demandBelow hw ⟨by decide, by decide⟩ (fun q => q_cls hR fun τ hT hL e _ => s6_kindFact hT.d hT.m hL q1.1 q1.2 (by omega) ⟨kdW_rg hT.d q1.1 q1.2 q.1, fun s3 e3 => hK _ _ ?_⟩) (fun q => ⟨fun z => absurd z (by decide), fun _ => hK _ _ ?_, Or.inr rfl⟩)) (fun q => ⟨fun _ => hK _ _ ?_, fun z => absurd z (by decide), Or.inl rfl⟩)
  · have hR3 : REL s3 := by rw [e3]; exact hT.u176 _
    unfold f_X7_kind
    refine kind_ok q1 (ok_ne (in_ok hw ⟨by decide, by decide⟩ ⟨by decide, by decide⟩ (by omega) (ok_ne (q_mod hR3 fun ρ hρ hl e2 hf => s7_kindOf hρ.d hl q1.1 q1.2 (by omega) (tells_ok hρ hJ (kdW_rg hρ.d q1.1 q1.2 q.1) ?_)))))
    rw [hf.1 176 (by decide), e2, e3, up_s, up_c (by decide)]
  · unfold f_X7_kind
    exact kind_ok q1 (ok_ne (in_no hw ⟨by decide, by decide⟩ ⟨by decide, by decide⟩ (by omega) (no_ne (fails_ok hR hJ (by decide)))))
  · unfold f_X7_kind
    exact kind_no hk q (no_ne (fails_ok hR hJ (by decide)))
theorem o_box {w : Int} {σ : St} {Kx : Int → St → Prop} {J : St → Prop} (hw : Rg w) (hR : REL σ) (hJ : ∀ τ : St, REL τ → J τ) (hK : ∀ (x : Int) (s : St), f_X7_box w s (fun y t => TL x y t J) → Kx x s) : f_L_box w σ Kx := by
  unfold f_L_box f_X6_box
  refine s6_demandBelow hw ⟨by decide, by decide⟩ (fun q => q_cls hR fun τ hT hL e _ => s0_fact hL.bx hL.cv (by omega) ⟨bxW_rg hT.d, fun s3 e3 => hK _ _ ?_⟩) (fun q => ⟨fun _ => hK _ _ ?_, rfl⟩)
  · have hR3 : REL s3 := by rw [e3]; exact hT.u176 _
    unfold f_X7_box
    refine in_ok hw ⟨by decide, by decide⟩ ⟨by decide, by decide⟩ (by omega) (ok_ne (q_mod hR3 fun ρ hρ hl e2 hf => s7_boxOf hρ.d hl (by omega) (tells_ok hρ hJ (bxW_rg hρ.d) ?_)))
    rw [hf.1 176 (by decide), e2, e3, up_s, up_c (by decide)]
  · unfold f_X7_box
    exact in_no hw ⟨by decide, by decide⟩ ⟨by decide, by decide⟩ (by omega) (no_ne (fails_ok hR hJ (by decide)))
theorem o_rounds {w : Int} {σ : St} {Kx : Int → St → Prop} {J : St → Prop} (hw : Rg w) (hR : REL σ) (hJ : ∀ τ : St, REL τ → J τ) (hK : ∀ (x : Int) (s : St), f_X7_rounds w s (fun y t => TL x y t J) → Kx x s) : f_L_rounds w σ Kx := by
  unfold f_L_rounds f_X6_rounds
  refine s6_demandBelow hw ⟨by decide, by decide⟩ (fun q => q_cls hR fun τ hT hL e _ => s6_roundFact hT.d hT.m hL (by omega) ⟨rdW_rg hT.d, fun s3 e3 => hK _ _ ?_⟩) (fun q => ⟨fun _ => hK _ _ ?_, rfl⟩)
  · have hR3 : REL s3 := by rw [e3]; exact hT.u176 _
    unfold f_X7_rounds
    refine in_ok hw ⟨by decide, by decide⟩ ⟨by decide, by decide⟩ (by omega) (ok_ne (q_mod hR3 fun ρ hρ hl e2 hf => s7_roundsOf hρ.d hl (by omega) (tells_ok hρ hJ (rdW_rg hρ.d) ?_)))
    rw [hf.1 176 (by decide), e2, e3, up_s, up_c (by decide)]
  · unfold f_X7_rounds
    exact in_no hw ⟨by decide, by decide⟩ ⟨by decide, by decide⟩ (by omega) (no_ne (fails_ok hR hJ (by decide)))
theorem o_line {i w : Int} {σ : St} {Kx : Int → St → Prop} {J : St → Prop} (hi : Rg i) (hw : Rg w) (hR : REL σ) (hJ : ∀ τ : St, REL τ → J τ) (hK : ∀ (x : Int) (s : St), f_X7_line i w s (fun y t => TL x y t J) → Kx x s) : f_L_line i w σ Kx := by
  unfold f_L_line f_X6_line
  refine q_cls hR fun τ hT hL e _ => ?_
  have hlen := LF_len hT.d
  have hcl := hL.cl
  have e24 : τ 24 0 = (LF (τ 162)).length := hcl.1
  rw [e24]
  have bad : ¬ (0 ≤ i ∧ i < (LF (τ 162)).length) → Kx 1 τ := fun z => by
    refine hK _ _ ?_
    unfold f_X7_line
    refine q_mod hT fun ρ hρ hl e2 hf => ?_
    have e13 : ρ 161 13 = (LF (τ 162)).length := by rw [hl.ml.1, e2]
    rw [e13]
    exact ⟨hi, fun _ => fails_ok hρ hJ (by decide), fun _ => ⟨hi, ⟨by omega, by omega⟩, fun z2 => by omega, fun _ => fails_ok hρ hJ (by decide)⟩⟩
  refine ⟨hi, fun z => ⟨fun _ => bad (by omega), fun z => absurd z (by decide), Or.inl rfl⟩, fun z => ⟨hi, ⟨by omega, by omega⟩, fun z2 => s6_demandBelow hw ⟨by decide, by decide⟩ (fun q => s2_fact hcl hL.ly hlen (by omega) z2 (by omega) ⟨lnW_rg hT.d (by omega) z2, fun s3 e3 => hK _ _ ?_⟩) (fun q => ⟨fun z => absurd z (by decide), fun _ => hK _ _ ?_, Or.inr rfl⟩), fun z2 => ⟨fun _ => bad (by omega), fun z => absurd z (by decide), Or.inl rfl⟩⟩⟩
  · have hR3 : REL s3 := by rw [e3]; exact hT.u176 _
    have e4 : s3 162 = τ 162 := by rw [e3, up_c (by decide)]
    unfold f_X7_line
    refine q_mod hR3 fun ρ hρ hl e2 hf => ?_
    have e13 : ρ 161 13 = (LF (τ 162)).length := by rw [hl.ml.1, e2, e4]
    rw [e13]
    have e5 : ρ 162 = τ 162 := e2.trans e4
    refine ⟨hi, fun z => by omega, fun _ => ⟨hi, ⟨by omega, by omega⟩, fun _ => in_ok hw ⟨by decide, by decide⟩ ⟨by decide, by decide⟩ (by omega) (ok_eq (s7_lineOf hρ.d hl (by omega) (by rw [e5]; exact z2) (by omega) (tells_ok hρ hJ (lnW_rg hρ.d (by omega) (by rw [e5]; exact z2)) ?_))), fun z => by omega⟩⟩
    rw [hf.1 176 (by decide), e5, e3, up_s]
  · unfold f_X7_line
    refine q_mod hT fun ρ hρ hl e2 hf => ?_
    have e13 : ρ 161 13 = (LF (τ 162)).length := by rw [hl.ml.1, e2]
    rw [e13]
    exact ⟨hi, fun z => by omega, fun _ => ⟨hi, ⟨by omega, by omega⟩, fun _ => in_no hw ⟨by decide, by decide⟩ ⟨by decide, by decide⟩ (by omega) (no_eq (fails_ok hρ hJ (by decide))), fun z => by omega⟩⟩
theorem o_lines {σ : St} {J : St → Prop} (hR : REL σ) (hJ : ∀ τ : St, REL τ → J τ) : f_X6_lines σ (fun x s => f_X7_lines s (fun y t => EQ' x y t J)) := by
  unfold f_X6_lines f_X7_lines
  refine q_cls hR fun τ hT hL e _ => q_mod hT fun ρ hρ hl e2 hf => ?_
  have hlen := LF_len hT.d
  have e24 : τ 24 0 = (LF (τ 162)).length := hL.cl.1
  have e13 : ρ 161 13 = (LF (τ 162)).length := by rw [hl.ml.1, e2]
  rw [e24, e13]
  exact tells_eq hρ hJ ⟨by omega, by omega⟩
theorem o_firstLines {σ : St} {J : St → Prop} (hR : REL σ) (hJ : ∀ τ : St, REL τ → J τ) : f_X6_firstLines σ (fun x s => f_X7_firstLines s (fun y t => EQ' x y t J)) := by
  unfold f_X6_firstLines f_X7_firstLines
  refine q_cls hR fun τ hT hL e _ => q_mod hT fun ρ hρ hl e2 hf => ?_
  have hlen := LL_len hT.d 0
  rw [hL.n11, hl.n15, e2]
  exact tells_eq hρ hJ ⟨by omega, by omega⟩
theorem o_explained {σ : St} {J : St → Prop} (hR : REL σ) (hJ : ∀ τ : St, REL τ → J τ) : f_X6_explained σ (fun x s => f_X7_explained s (fun y t => Op.cmpValue (FP.dcmp x y) .l = 0 ∧ J t)) := by
  unfold f_X6_explained f_X7_explained
  refine q_cls hR fun τ hT hL e _ => ?_
  have h1 := cI_bd (shw (τ 162)) (i := 40) (by decide)
  have h2 := cI_bd (vF (τ 162)) (i := 40) (by decide)
  intro x2 e2
  rw [hL.n3] at e2
  rw [hL.n4]
  subst e2
  refine ⟨⟨by omega, by omega⟩, fun q => ?_, fun q => ⟨(share_ok h2 (by omega)).1, ?_⟩⟩
  · intro s1 e1
    have hR1 : REL s1 := by rw [e1]; exact hT.u7 0
    have e3 : s1 162 = τ 162 := by rw [e1, up_c (by decide)]
    refine q_mod hR1 fun ρ hρ hl e4 hf => s7_shownMany hρ.d ?_
    rw [e4, e3, ← shw_many hT.d]
    exact ⟨⟨by omega, by omega⟩, fun z => by omega, fun _ => ⟨share_1, hJ _ hρ⟩⟩
  · intro s1 e1
    have hR1 : REL s1 := by rw [e1]; exact hT.u7 0
    have e3 : s1 162 = τ 162 := by rw [e1, up_c (by decide)]
    refine q_mod hR1 fun ρ hρ hl e4 hf => s7_shownMany hρ.d ?_
    rw [e4, e3, ← shw_many hT.d]
    refine ⟨⟨by omega, by omega⟩, fun _ => s7_explainedMany hl.v ?_, fun z => by omega⟩
    rw [e4, e3]
    exact ⟨(share_ok h2 (by omega)).1, (share_ok h2 (by omega)).2, hJ _ hρ⟩
/-! the smallest zoom -/
def zmN (s : Rw) (k : Int) : Nat → Int
  | 0 => 0
  | n + 1 => if kd s n = k ∧ wi s n = true ∧ zmN s k n < le' s n then le' s n else zmN s k n
def zmI (s : Rw) (k i : Int) : Int := zmN s k i.toNat
theorem zmI_S {s : Rw} {k i : Int} (h : 0 ≤ i) : zmI s k (i + 1) = if kd s i = k ∧ wi s i = true ∧ zmI s k i < le' s i then le' s i else zmI s k i := by
  have e : (i + 1).toNat = i.toNat + 1 := by omega
  have e2 : ((i.toNat : Nat) : Int) = i := by omega
  unfold zmI
  rw [e]
  show (if kd s (i.toNat : Nat) = k ∧ wi s (i.toNat : Nat) = true ∧ zmN s k i.toNat < le' s (i.toNat : Nat) then le' s (i.toNat : Nat) else zmN s k i.toNat) = _
  rw [e2]
theorem o_zoomFor {k : Int} {σ : St} {Kx : Int → St → Prop} {J : St → Prop} (hk : Rg k) (hR : REL σ) (hJ : ∀ τ : St, REL τ → J τ) (hK : ∀ (x : Int) (s : St), f_X7_zoomFor k s (fun y t => TL x y t J) → Kx x s) : f_L_zoomFor k σ Kx := by
  have hd := hR.d
  have hm := hR.m
  have hn := hd.n
  unfold f_L_zoomFor f_X6_zoomFor
  refine s6_demandKind hk (fun q => ?_) (fun q => ⟨fun _ => hK _ _ ?_, rfl⟩)
  · rw [hm.n]
    refine wl2_inv (fun x i => (0 ≤ i ∧ i ≤ σ 162 9) ∧ x = zmI (σ 162) k i ∧ (0 ≤ x ∧ x ≤ 5)) (fun _ i => (σ 162 9 - i).toNat) ?_ ⟨by omega, rfl, by decide⟩
    rintro x i ag ⟨hi, hx, hb⟩ hag
    refine ⟨⟨by omega, by omega⟩, ⟨by omega, by omega⟩, fun z => ⟨⟨by omega, by omega⟩, fun s2 e2 => hK _ _ ?_⟩, fun z => ⟨by omega, ?_⟩⟩
    · have e : i = σ 162 9 := by omega
      subst e
      have hR3 : REL s2 := by rw [e2]; exact hR.u176 _
      have e4 : s2 162 = σ 162 := by rw [e2, up_c (by decide)]
      unfold f_X7_zoomFor
      refine kind_ok q (ok_ne ?_)
      rw [e4]
      clear hag
      refine wl2_inv (fun y i => (0 ≤ i ∧ i ≤ σ 162 9) ∧ y = zmI (σ 162) k i ∧ (0 ≤ y ∧ y ≤ 5)) (fun _ i => (σ 162 9 - i).toNat) ?_ ⟨by omega, rfl, by decide⟩
      rintro y i ag ⟨hi, hy, hby⟩ hag
      refine ⟨⟨by omega, by omega⟩, ⟨by omega, by omega⟩, fun z => ?_, fun z => s7_of0 ⟨hi.1, by omega⟩ ?_⟩
      · have e : i = σ 162 9 := by omega
        subst e
        rw [← hx] at hy
        subst hy
        exact tells_ok hR3 hJ ⟨by omega, by omega⟩ (by rw [e2, up_s])
      · have hs := hd.sign i hi.1 (by omega)
        have hS := zmI_S (s := σ 162) (k := k) hi.1
        rw [← hy] at hS
        rw [e4]
        refine ⟨⟨by omega, by omega⟩, hk, fun z2 => hag _ _ ⟨by omega, by rw [hS, if_neg (fun t => z2 t.1)], hby⟩ (by omega), fun z2 => s7_isWithin hR3.d hi.1 (by rw [e4]; omega) (b01_split (fun r => ?_) (fun r => s7_of4 ⟨hi.1, by omega⟩ ?_))⟩
        · rw [e4] at r
          exact hag _ _ ⟨by omega, by rw [hS, if_neg (by rw [r]; exact fun t => absurd t.2.1 (by decide))], hby⟩ (by omega)
        · rw [e4] at r
          rw [e4]
          refine ⟨⟨by omega, by omega⟩, ⟨by omega, by omega⟩, fun z3 => hag _ _ ⟨by omega, by rw [hS, if_neg (by omega)], hby⟩ (by omega), fun z3 => s7_of4 ⟨hi.1, by omega⟩ ?_⟩
          rw [e4]
          exact hag _ _ ⟨by omega, by rw [hS, if_pos ⟨Decidable.not_not.mp z2, r, by omega⟩], by omega⟩ (by omega)
    · have hs := hd.sign i hi.1 (by omega)
      have ms := hm.sign i hi.1 (by omega)
      have hS := zmI_S (s := σ 162) (k := k) hi.1
      rw [← hx] at hS
      have e2 : σ 2 i = kd (σ 162) i := ms.1
      have e6 : σ 6 i = le' (σ 162) i := ms.2.2.2.2
      rw [e2, e6]
      refine ⟨⟨by omega, by omega⟩, hk, fun z2 => hag _ _ ⟨by omega, by rw [hS, if_neg (fun t => z2 t.1)], hb⟩ (by omega), fun z2 => s3_isInWindow hd hm hi.1 (by omega) (b01_split (fun r => ?_) (fun r => ⟨by omega, ⟨by omega, by omega⟩, ⟨by omega, by omega⟩, ?_⟩))⟩
      · exact hag _ _ ⟨by omega, by rw [hS, if_neg (by rw [r]; exact fun t => absurd t.2.1 (by decide))], hb⟩ (by omega)
      · intro x4 e4
        refine hag _ _ ⟨by omega, ?_, by rw [e4]; split <;> omega⟩ (by omega)
        rw [hS, e4]
        by_cases z3 : x < le' (σ 162) i
        · rw [if_pos z3, if_pos ⟨Decidable.not_not.mp z2, r, z3⟩]
        · rw [if_neg z3, if_neg (fun t => z3 t.2.2)]
  · unfold f_X7_zoomFor
    exact kind_no hk q (no_ne (fails_ok hR hJ (by decide)))
