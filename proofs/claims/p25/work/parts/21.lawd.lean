theorem by_v {n : Int} {tb : Int → Int → Int} {a b : Int} (ha : 0 ≤ a) (ha2 : a < n) (hb : 0 ≤ b) (hb2 : b < n) (w : Int) : byS n tb a b w = if w = 0 then sumS n a b else if w = 1 then difS n a b else if w = 2 then tb a b else if w = 3 then onfS (facS n tb true a b) else if w = 4 then onfS (facS n tb false a b) else -1000001 := by
  unfold byS
  rw [if_neg (by rw [inN_t ha ha2]; decide), if_neg (by rw [inN_t hb hb2]; decide)]
theorem onf_in {n : Int} {tb : Int → Int → Int} {r : Bool} {a b : Int} (hn : okN n) : -1000004 ≤ onfS (facS n tb r a b) ∧ onfS (facS n tb r a b) < 9 := by
  have h := facS_in (tb := tb) (r := r) (a := a) (b := b) hn
  unfold onfS
  split <;> omega
theorem dif_add {n a b : Int} (hn : okN n) (ha : 0 ≤ a) (ha2 : a < n) (hb : 0 ≤ b) (hb2 : b < n) : sumS n (difS n a b) b = a := by
  have h := difS_in hn ha ha2 hb hb2
  rw [sum_comm hn h.1 h.2 hb hb2]
  exact sum_dif hn ha ha2 hb hb2
theorem zer_in {n : Int} {tb : Int → Int → Int} (hn : okN n) : 0 ≤ zeroS n tb ∧ zeroS n tb ≤ 1000 := by
  have hl := okN_lo hn
  have h := sum_bound (f := fun a => sumF (fun b => if tb a b = 0 then 1 else 0) n.toNat 0) (B := 9) n.toNat 0 (fun j _ _ => by
    have h := sum_bound (f := fun b => if tb j b = 0 then 1 else 0) (B := 1) n.toNat 0 (fun j _ _ => by (try dsimp only); split <;> decide)
    exact ⟨h.1, by omega⟩)
  unfold zeroS
  omega
theorem unl_in {n : Int} {tb : Int → Int → Int} (hn : okN n) : 0 ≤ unlS n tb ∧ unlS n tb ≤ 1000 := by
  have hl := okN_lo hn
  have h := sum_bound (f := fun a => sumF (fun b => if tb a b = fpS n a b then 0 else 1) n.toNat 0) (B := 9) n.toNat 0 (fun j _ _ => by
    have h := sum_bound (f := fun b => if tb j b = fpS n j b then 0 else 1) (B := 1) n.toNat 0 (fun j _ _ => by (try dsimp only); split <;> decide)
    exact ⟨h.1, by omega⟩)
  unfold unlS
  omega
theorem a_by0 {X : Nat × Nat × (Nat → Int32)} {n : Int} {T : Int → Int} {h : HS} {t : TS} {x : XS} {M : MS} {tb : Int → Int → Int} {a b : Int} (hR : repC n T tb) (ha : 0 ≤ a) (ha2 : a < n) (hb : 0 ≤ b) (hb2 : b < n) : m_Run X 34 [.inr (.inl 0), .inl a, .inl b, .inl 0] (mW (n, T, h, t, x) M) (m_V (sumS n a b) (mW (n, T, h, t, x) M)) := by
  have hl := okN_lo hR.1
  have h := k_by (X := X) (h := h) (t := t) (x := x) (M := M) (a := a) (b := b) (wh := 0) ⟨by omega, by omega⟩ ⟨by omega, by omega⟩ ⟨by omega, by omega⟩ hR
  rw [by_v ha ha2 hb hb2] at h
  exact h
theorem a_by1 {X : Nat × Nat × (Nat → Int32)} {n : Int} {T : Int → Int} {h : HS} {t : TS} {x : XS} {M : MS} {tb : Int → Int → Int} {a b : Int} (hR : repC n T tb) (ha : 0 ≤ a) (ha2 : a < n) (hb : 0 ≤ b) (hb2 : b < n) : m_Run X 34 [.inr (.inl 0), .inl a, .inl b, .inl 1] (mW (n, T, h, t, x) M) (m_V (difS n a b) (mW (n, T, h, t, x) M)) := by
  have hl := okN_lo hR.1
  have h := k_by (X := X) (h := h) (t := t) (x := x) (M := M) (a := a) (b := b) (wh := 1) ⟨by omega, by omega⟩ ⟨by omega, by omega⟩ ⟨by omega, by omega⟩ hR
  rw [by_v ha ha2 hb hb2] at h
  exact h
theorem a_by2 {X : Nat × Nat × (Nat → Int32)} {n : Int} {T : Int → Int} {h : HS} {t : TS} {x : XS} {M : MS} {tb : Int → Int → Int} {a b : Int} (hR : repC n T tb) (ha : 0 ≤ a) (ha2 : a < n) (hb : 0 ≤ b) (hb2 : b < n) : m_Run X 34 [.inr (.inl 0), .inl a, .inl b, .inl 2] (mW (n, T, h, t, x) M) (m_V (tb a b) (mW (n, T, h, t, x) M)) := by
  have hl := okN_lo hR.1
  have h := k_by (X := X) (h := h) (t := t) (x := x) (M := M) (a := a) (b := b) (wh := 2) ⟨by omega, by omega⟩ ⟨by omega, by omega⟩ ⟨by omega, by omega⟩ hR
  rw [by_v ha ha2 hb hb2] at h
  exact h
theorem a_by3 {X : Nat × Nat × (Nat → Int32)} {n : Int} {T : Int → Int} {h : HS} {t : TS} {x : XS} {M : MS} {tb : Int → Int → Int} {a b : Int} (hR : repC n T tb) (ha : 0 ≤ a) (ha2 : a < n) (hb : 0 ≤ b) (hb2 : b < n) : m_Run X 34 [.inr (.inl 0), .inl a, .inl b, .inl 3] (mW (n, T, h, t, x) M) (m_V (onfS (facS n tb true a b)) (mW (n, T, h, t, x) M)) := by
  have hl := okN_lo hR.1
  have h := k_by (X := X) (h := h) (t := t) (x := x) (M := M) (a := a) (b := b) (wh := 3) ⟨by omega, by omega⟩ ⟨by omega, by omega⟩ ⟨by omega, by omega⟩ hR
  rw [by_v ha ha2 hb hb2] at h
  exact h
theorem a_by4 {X : Nat × Nat × (Nat → Int32)} {n : Int} {T : Int → Int} {h : HS} {t : TS} {x : XS} {M : MS} {tb : Int → Int → Int} {a b : Int} (hR : repC n T tb) (ha : 0 ≤ a) (ha2 : a < n) (hb : 0 ≤ b) (hb2 : b < n) : m_Run X 34 [.inr (.inl 0), .inl a, .inl b, .inl 4] (mW (n, T, h, t, x) M) (m_V (onfS (facS n tb false a b)) (mW (n, T, h, t, x) M)) := by
  have hl := okN_lo hR.1
  have h := k_by (X := X) (h := h) (t := t) (x := x) (M := M) (a := a) (b := b) (wh := 4) ⟨by omega, by omega⟩ ⟨by omega, by omega⟩ ⟨by omega, by omega⟩ hR
  rw [by_v ha ha2 hb hb2] at h
  exact h
theorem a_by5 {X : Nat × Nat × (Nat → Int32)} {n : Int} {T : Int → Int} {h : HS} {t : TS} {x : XS} {M : MS} {tb : Int → Int → Int} {a b : Int} (hR : repC n T tb) (ha : 0 ≤ a) (ha2 : a < n) (hb : 0 ≤ b) (hb2 : b < n) : m_Run X 34 [.inr (.inl 0), .inl a, .inl b, .inl 5] (mW (n, T, h, t, x) M) (m_V (-1000001) (mW (n, T, h, t, x) M)) := by
  have hl := okN_lo hR.1
  have h := k_by (X := X) (h := h) (t := t) (x := x) (M := M) (a := a) (b := b) (wh := 5) ⟨by omega, by omega⟩ ⟨by omega, by omega⟩ ⟨by omega, by omega⟩ hR
  rw [by_v ha ha2 hb hb2] at h
  exact h
theorem a_byX {X : Nat × Nat × (Nat → Int32)} {n : Int} {T : Int → Int} {h : HS} {t : TS} {x : XS} {M : MS} {tb : Int → Int → Int} {a b : Int} (hR : repC n T tb) (ha : -1 ≤ a) (ha2 : a ≤ n) (hb : -1 ≤ b) (hb2 : b ≤ n) (hx : a = n ∨ b = -1) : m_Run X 34 [.inr (.inl 0), .inl a, .inl b, .inl 0] (mW (n, T, h, t, x) M) (m_V (-1000001) (mW (n, T, h, t, x) M)) := by
  have hl := okN_lo hR.1
  have h := k_by (X := X) (h := h) (t := t) (x := x) (M := M) (a := a) (b := b) (wh := 0) ⟨by omega, by omega⟩ ⟨by omega, by omega⟩ ⟨by omega, by omega⟩ hR
  have e : byS n tb a b 0 = -1000001 := by
    unfold byS
    by_cases hc : inN n a = false
    · rw [if_pos hc]
    · rw [if_neg hc]
      have h1 := inN_i.mp (show inN n a = true by
        cases h8 : inN n a with
        | true => rfl
        | false => exact absurd h8 hc)
      rw [if_pos (inN_f (by omega))]
  rw [e] at h
  exact h
theorem a_cnt0 {X : Nat × Nat × (Nat → Int32)} {n : Int} {T : Int → Int} {hc : Int} {hs hp : Int → Int} {ln : Int} {sg : Int → Int} {x : XS} {M : MS} {tb : Int → Int → Int} (hR : repC n T tb) : m_Run X 38 [.inr (.inl 0), .inl 0] (mW (n, T, (hc, hs, hp), (ln, sg), x) M) (m_V (n) (mW (n, T, (hc, hs, hp), (ln, sg), x) M)) := by
  have h := k_cnt (X := X) (hc := hc) (hs := hs) (hp := hp) (ln := ln) (sg := sg) (x := x) (M := M) (wh := 0) ⟨by omega, by omega⟩ hR
  rw [show cntS n tb hc ln 0 = n by unfold cntS; simp] at h
  exact h
theorem a_cnt1 {X : Nat × Nat × (Nat → Int32)} {n : Int} {T : Int → Int} {hc : Int} {hs hp : Int → Int} {ln : Int} {sg : Int → Int} {x : XS} {M : MS} {tb : Int → Int → Int} (hR : repC n T tb) : m_Run X 38 [.inr (.inl 0), .inl 1] (mW (n, T, (hc, hs, hp), (ln, sg), x) M) (m_V (NP n) (mW (n, T, (hc, hs, hp), (ln, sg), x) M)) := by
  have h := k_cnt (X := X) (hc := hc) (hs := hs) (hp := hp) (ln := ln) (sg := sg) (x := x) (M := M) (wh := 1) ⟨by omega, by omega⟩ hR
  rw [show cntS n tb hc ln 1 = NP n by unfold cntS; simp] at h
  exact h
theorem a_cnt2 {X : Nat × Nat × (Nat → Int32)} {n : Int} {T : Int → Int} {hc : Int} {hs hp : Int → Int} {ln : Int} {sg : Int → Int} {x : XS} {M : MS} {tb : Int → Int → Int} (hR : repC n T tb) : m_Run X 38 [.inr (.inl 0), .inl 2] (mW (n, T, (hc, hs, hp), (ln, sg), x) M) (m_V (unlS n tb) (mW (n, T, (hc, hs, hp), (ln, sg), x) M)) := by
  have h := k_cnt (X := X) (hc := hc) (hs := hs) (hp := hp) (ln := ln) (sg := sg) (x := x) (M := M) (wh := 2) ⟨by omega, by omega⟩ hR
  rw [show cntS n tb hc ln 2 = unlS n tb by unfold cntS; simp] at h
  exact h
theorem a_cnt3 {X : Nat × Nat × (Nat → Int32)} {n : Int} {T : Int → Int} {hc : Int} {hs hp : Int → Int} {ln : Int} {sg : Int → Int} {x : XS} {M : MS} {tb : Int → Int → Int} (hR : repC n T tb) : m_Run X 38 [.inr (.inl 0), .inl 3] (mW (n, T, (hc, hs, hp), (ln, sg), x) M) (m_V (zeroS n tb) (mW (n, T, (hc, hs, hp), (ln, sg), x) M)) := by
  have h := k_cnt (X := X) (hc := hc) (hs := hs) (hp := hp) (ln := ln) (sg := sg) (x := x) (M := M) (wh := 3) ⟨by omega, by omega⟩ hR
  rw [show cntS n tb hc ln 3 = zeroS n tb by unfold cntS; simp] at h
  exact h
theorem a_cnt5 {X : Nat × Nat × (Nat → Int32)} {n : Int} {T : Int → Int} {hc : Int} {hs hp : Int → Int} {ln : Int} {sg : Int → Int} {x : XS} {M : MS} {tb : Int → Int → Int} (hR : repC n T tb) : m_Run X 38 [.inr (.inl 0), .inl 5] (mW (n, T, (hc, hs, hp), (ln, sg), x) M) (m_V (ln) (mW (n, T, (hc, hs, hp), (ln, sg), x) M)) := by
  have h := k_cnt (X := X) (hc := hc) (hs := hs) (hp := hp) (ln := ln) (sg := sg) (x := x) (M := M) (wh := 5) ⟨by omega, by omega⟩ hR
  rw [show cntS n tb hc ln 5 = ln by unfold cntS; simp] at h
  exact h
theorem a_cnt6 {X : Nat × Nat × (Nat → Int32)} {n : Int} {T : Int → Int} {hc : Int} {hs hp : Int → Int} {ln : Int} {sg : Int → Int} {x : XS} {M : MS} {tb : Int → Int → Int} (hR : repC n T tb) : m_Run X 38 [.inr (.inl 0), .inl 6] (mW (n, T, (hc, hs, hp), (ln, sg), x) M) (m_V (-1000001) (mW (n, T, (hc, hs, hp), (ln, sg), x) M)) := by
  have h := k_cnt (X := X) (hc := hc) (hs := hs) (hp := hp) (ln := ln) (sg := sg) (x := x) (M := M) (wh := 6) ⟨by omega, by omega⟩ hR
  rw [show cntS n tb hc ln 6 = -1000001 by unfold cntS; simp] at h
  exact h
theorem m_upI {P : Int → Prop} (lo hi : Int) (h1 : P lo) (h2 : ∀ i, lo < i → i ≤ hi → P (i + (-1)) → P i) : ∀ i, lo ≤ i → i ≤ hi → P i := by
  have key : ∀ (k : Nat) (i : Int), lo + k = i → i ≤ hi → P i := by
    intro k
    induction k with
    | zero => intro i h _; rw [show i = lo by omega]; exact h1
    | succ k ih => intro i h h'; exact h2 i (by omega) h' (ih (i + (-1)) (by omega) (by omega))
  intro i h h'
  exact key (i - lo).toNat i (by omega) h'
set_option maxHeartbeats 4000000 in
set_option maxRecDepth 100000 in
theorem a_soX {X : Nat × Nat × (Nat → Int32)} {n : Int} {T : Int → Int} {h : HS} {t : TS} {x : XS} {g : Int → Int} {f : Nat → Int64} {J : mPW} {tb : Int → Int → Int} {a b z : Int} {Q : Option mPV → mPW → Prop} (hg : g 0 = n) (hL : repL n f tb) (ha : 0 ≤ a) (ha2 : a < n) (hb : 0 ≤ b) (hb2 : b < n) (K : m_Sem X 60 (106, [some (.inr (.inl 0)), some (.inr (.inl 13)), some (.inr (.inl 14)), some (.inl n), some (.inl z), some (.inl 1), some (.inl a), some (.inl b), some (.inl (onfS (facS n tb true a b))), some (.inl (onfS (facS n tb false a b))), some (.inl (-1))], [], mW (n, T, h, t, x) (.inl (0, 1, .inl g) :: .inl (2, 9, .inr f) :: J), 0, 0) Q) : ∀ xv : Int, -1 ≤ xv → xv ≤ n - 1 → ∀ (lf rt : Int) (e1 : lf = onfS (fstF (fun i => decide (sideS tb true a i = b)) (n - (xv + 1)).toNat (xv + 1))) (e2 : rt = onfS (fstF (fun i => decide (sideS tb false a i = b)) (n - (xv + 1)).toNat (xv + 1))), m_Sem X 60 (51, [some (.inr (.inl 0)), some (.inr (.inl 13)), some (.inr (.inl 14)), some (.inl n), some (.inl z), some (.inl 1), some (.inl a), some (.inl b), some (.inl lf), some (.inl rt), some (.inl xv)], [], mW (n, T, h, t, x) (.inl (0, 1, .inl g) :: .inl (2, 9, .inr f) :: J), 0, 0) (Q) := by
  have hn := hL.1
  have hl := okN_lo hn
  refine m_upI (-1) (n - 1) ?_ ?_
  · intro lf rt e1 e2
    have e1 : lf = onfS (facS n tb true a b) := by rw [e1, show (-1 : Int) + 1 = 0 by omega, z_sub]; rfl
    have e2 : rt = onfS (facS n tb false a b) := by rw [e2, show (-1 : Int) + 1 = 0 by omega, z_sub]; rfl
    subst e1
    subst e2
    show m_Sem X 60 (51, [some (.inr (.inl 0)), some (.inr (.inl 13)), some (.inr (.inl 14)), some (.inl n), some (.inl z), some (.inl 1), some (.inl a), some (.inl b), some (.inl (onfS (facS n tb true a b))), some (.inl (onfS (facS n tb false a b))), some (.inl (-1))], [], mW (n, T, h, t, x) (.inl (0, 1, .inl g) :: .inl (2, 9, .inr f) :: J), 0, 0) _
    refine m_run 1 (ps' := (53, [some (.inr (.inl 0)), some (.inr (.inl 13)), some (.inr (.inl 14)), some (.inl n), some (.inl z), some (.inl 1), some (.inl a), some (.inl b), some (.inl (onfS (facS n tb true a b))), some (.inl (onfS (facS n tb false a b))), some (.inl (-1))], [.inl (-1)], mW (n, T, h, t, x) (.inl (0, 1, .inl g) :: .inl (2, 9, .inr f) :: J), 0, 0)) rfl ?_
    refine m_if rfl ⟨by omega, by omega⟩ (fun (zc1 : (-1) < 0) => ?_) (fun (zc1 : ¬ (-1) < 0) => absurd zc1 (not_not_intro (by omega)))
    refine m_weak [some (.inr (.inl 0)), some (.inr (.inl 13)), some (.inr (.inl 14)), some (.inl n), some (.inl z), some (.inl 1), some (.inl a), some (.inl b), some (.inl (onfS (facS n tb true a b))), some (.inl (onfS (facS n tb false a b))), some (.inl (-1))] ⟨rfl, ⟨rfl, ⟨rfl, ⟨rfl, ⟨rfl, ⟨rfl, ⟨rfl, ⟨rfl, ⟨rfl, ⟨rfl, ⟨rfl, trivial⟩⟩⟩⟩⟩⟩⟩⟩⟩⟩⟩ ?_
    exact K
  · intro xv hi1 hi2 ih lf rt e1 e2
    have s1 := (hL.2 a xv ha ha2 (by omega) (by omega)).2
    refine m_run 1 (ps' := (53, [some (.inr (.inl 0)), some (.inr (.inl 13)), some (.inr (.inl 14)), some (.inl n), some (.inl z), some (.inl 1), some (.inl a), some (.inl b), some (.inl lf), some (.inl rt), some (.inl xv)], [.inl xv], mW (n, T, h, t, x) (.inl (0, 1, .inl g) :: .inl (2, 9, .inr f) :: J), 0, 0)) rfl ?_
    refine m_if rfl ⟨by omega, by omega⟩ (fun (zc1 : xv < 0) => absurd zc1 (by omega)) (fun (zc1 : ¬ xv < 0) => ?_)
    refine m_run 3 (ps' := (61, [some (.inr (.inl 0)), some (.inr (.inl 13)), some (.inr (.inl 14)), some (.inl n), some (.inl z), some (.inl 1), some (.inl a), some (.inl b), some (.inl lf), some (.inl rt), some (.inl xv)], [.inl xv, .inl a, .inr (.inl 14)], mW (n, T, h, t, x) (.inl (0, 1, .inl g) :: .inl (2, 9, .inr f) :: J), 0, 0)) rfl ?_
    refine m_callSF [.inr (.inl 14), .inl a, .inl xv] [] rfl rfl rfl (a_of (a := a) (b := xv) hL (by omega) (by omega) (by omega) (by omega)) ?_
    have zt1 := (hL.2 a xv (by omega) (by omega) (by omega) (by omega)).2
    show m_Sem X 60 (64, [some (.inr (.inl 0)), some (.inr (.inl 13)), some (.inr (.inl 14)), some (.inl n), some (.inl z), some (.inl 1), some (.inl a), some (.inl b), some (.inl lf), some (.inl rt), some (.inl xv)], [.inl (tb a xv)], mW (n, T, h, t, x) (.inl (0, 1, .inl g) :: .inl (2, 9, .inr f) :: J), 0, 0) _
    refine m_run 1 (ps' := (66, [some (.inr (.inl 0)), some (.inr (.inl 13)), some (.inr (.inl 14)), some (.inl n), some (.inl z), some (.inl 1), some (.inl a), some (.inl b), some (.inl lf), some (.inl rt), some (.inl xv)], [.inl b, .inl (tb a xv)], mW (n, T, h, t, x) (.inl (0, 1, .inl g) :: .inl (2, 9, .inr f) :: J), 0, 0)) rfl ?_
    refine m_icmp rfl ⟨by omega, by omega⟩ ⟨by omega, by omega⟩ (fun (zc2 : ¬ (tb a xv) = b) => ?_) (fun (zc2 : ¬ ¬ (tb a xv) = b) => ?_)
    · refine m_run 5 (ps' := (83, [some (.inr (.inl 0)), some (.inr (.inl 13)), some (.inr (.inl 14)), some (.inl n), some (.inl z), some (.inl 1), some (.inl a), some (.inl b), some (.inl lf), some (.inl rt), some (.inl xv)], [.inl a, .inl xv, .inr (.inl 14)], mW (n, T, h, t, x) (.inl (0, 1, .inl g) :: .inl (2, 9, .inr f) :: J), 0, 0)) rfl ?_
      refine m_callSF [.inr (.inl 14), .inl xv, .inl a] [] rfl rfl rfl (a_of (a := xv) (b := a) hL (by omega) (by omega) (by omega) (by omega)) ?_
      have zt2 := (hL.2 xv a (by omega) (by omega) (by omega) (by omega)).2
      show m_Sem X 60 (86, [some (.inr (.inl 0)), some (.inr (.inl 13)), some (.inr (.inl 14)), some (.inl n), some (.inl z), some (.inl 1), some (.inl a), some (.inl b), some (.inl lf), some (.inl rt), some (.inl xv)], [.inl (tb xv a)], mW (n, T, h, t, x) (.inl (0, 1, .inl g) :: .inl (2, 9, .inr f) :: J), 0, 0) _
      refine m_run 1 (ps' := (88, [some (.inr (.inl 0)), some (.inr (.inl 13)), some (.inr (.inl 14)), some (.inl n), some (.inl z), some (.inl 1), some (.inl a), some (.inl b), some (.inl lf), some (.inl rt), some (.inl xv)], [.inl b, .inl (tb xv a)], mW (n, T, h, t, x) (.inl (0, 1, .inl g) :: .inl (2, 9, .inr f) :: J), 0, 0)) rfl ?_
      refine m_icmp rfl ⟨by omega, by omega⟩ ⟨by omega, by omega⟩ (fun (zc3 : ¬ (tb xv a) = b) => ?_) (fun (zc3 : ¬ ¬ (tb xv a) = b) => ?_)
      · refine m_run 4 (ps' := (51, [some (.inr (.inl 0)), some (.inr (.inl 13)), some (.inr (.inl 14)), some (.inl n), some (.inl z), some (.inl 1), some (.inl a), some (.inl b), some (.inl lf), some (.inl rt), some (.inl (xv + (-1)))], [], mW (n, T, h, t, x) (.inl (0, 1, .inl g) :: .inl (2, 9, .inr f) :: J), 0, 0)) rfl ?_
        refine m_weak [some (.inr (.inl 0)), some (.inr (.inl 13)), some (.inr (.inl 14)), some (.inl n), some (.inl z), some (.inl 1), some (.inl a), some (.inl b), some (.inl lf), some (.inl rt), some (.inl (xv + (-1)))] ⟨rfl, ⟨rfl, ⟨rfl, ⟨rfl, ⟨rfl, ⟨rfl, ⟨rfl, ⟨rfl, ⟨rfl, ⟨rfl, ⟨rfl, trivial⟩⟩⟩⟩⟩⟩⟩⟩⟩⟩⟩ ?_
        rw [show xv + (-1) + 1 = xv by omega] at ih
        refine ih _ _ ?_ ?_
        · rw [fst_f (show xv < n by omega) (decide_eq_false (by show ¬ tb a xv = b; omega))]
          exact e1
        · rw [fst_f (show xv < n by omega) (decide_eq_false (by show ¬ tb xv a = b; omega))]
          exact e2
      · replace zc3 : (tb xv a) = b := Decidable.not_not.mp zc3
        refine m_run 5 (ps' := (51, [some (.inr (.inl 0)), some (.inr (.inl 13)), some (.inr (.inl 14)), some (.inl n), some (.inl z), some (.inl 1), some (.inl a), some (.inl b), some (.inl lf), some (.inl xv), some (.inl (xv + (-1)))], [], mW (n, T, h, t, x) (.inl (0, 1, .inl g) :: .inl (2, 9, .inr f) :: J), 0, 0)) rfl ?_
        refine m_weak [some (.inr (.inl 0)), some (.inr (.inl 13)), some (.inr (.inl 14)), some (.inl n), some (.inl z), some (.inl 1), some (.inl a), some (.inl b), some (.inl lf), some (.inl xv), some (.inl (xv + (-1)))] ⟨rfl, ⟨rfl, ⟨rfl, ⟨rfl, ⟨rfl, ⟨rfl, ⟨rfl, ⟨rfl, ⟨rfl, ⟨rfl, ⟨rfl, trivial⟩⟩⟩⟩⟩⟩⟩⟩⟩⟩⟩ ?_
        rw [show xv + (-1) + 1 = xv by omega] at ih
        refine ih _ _ ?_ ?_
        · rw [fst_f (show xv < n by omega) (decide_eq_false (by show ¬ tb a xv = b; omega))]
          exact e1
        · rw [fst_t (show xv < n by omega) (decide_eq_true (by show tb xv a = b; omega))]
          exact (if_neg (by omega)).symm
    · replace zc2 : (tb a xv) = b := Decidable.not_not.mp zc2
      refine m_run 6 (ps' := (83, [some (.inr (.inl 0)), some (.inr (.inl 13)), some (.inr (.inl 14)), some (.inl n), some (.inl z), some (.inl 1), some (.inl a), some (.inl b), some (.inl xv), some (.inl rt), some (.inl xv)], [.inl a, .inl xv, .inr (.inl 14)], mW (n, T, h, t, x) (.inl (0, 1, .inl g) :: .inl (2, 9, .inr f) :: J), 0, 0)) rfl ?_
      refine m_callSF [.inr (.inl 14), .inl xv, .inl a] [] rfl rfl rfl (a_of (a := xv) (b := a) hL (by omega) (by omega) (by omega) (by omega)) ?_
      have zt2 := (hL.2 xv a (by omega) (by omega) (by omega) (by omega)).2
      show m_Sem X 60 (86, [some (.inr (.inl 0)), some (.inr (.inl 13)), some (.inr (.inl 14)), some (.inl n), some (.inl z), some (.inl 1), some (.inl a), some (.inl b), some (.inl xv), some (.inl rt), some (.inl xv)], [.inl (tb xv a)], mW (n, T, h, t, x) (.inl (0, 1, .inl g) :: .inl (2, 9, .inr f) :: J), 0, 0) _
      refine m_run 1 (ps' := (88, [some (.inr (.inl 0)), some (.inr (.inl 13)), some (.inr (.inl 14)), some (.inl n), some (.inl z), some (.inl 1), some (.inl a), some (.inl b), some (.inl xv), some (.inl rt), some (.inl xv)], [.inl b, .inl (tb xv a)], mW (n, T, h, t, x) (.inl (0, 1, .inl g) :: .inl (2, 9, .inr f) :: J), 0, 0)) rfl ?_
      refine m_icmp rfl ⟨by omega, by omega⟩ ⟨by omega, by omega⟩ (fun (zc3 : ¬ (tb xv a) = b) => ?_) (fun (zc3 : ¬ ¬ (tb xv a) = b) => ?_)
      · refine m_run 4 (ps' := (51, [some (.inr (.inl 0)), some (.inr (.inl 13)), some (.inr (.inl 14)), some (.inl n), some (.inl z), some (.inl 1), some (.inl a), some (.inl b), some (.inl xv), some (.inl rt), some (.inl (xv + (-1)))], [], mW (n, T, h, t, x) (.inl (0, 1, .inl g) :: .inl (2, 9, .inr f) :: J), 0, 0)) rfl ?_
        refine m_weak [some (.inr (.inl 0)), some (.inr (.inl 13)), some (.inr (.inl 14)), some (.inl n), some (.inl z), some (.inl 1), some (.inl a), some (.inl b), some (.inl xv), some (.inl rt), some (.inl (xv + (-1)))] ⟨rfl, ⟨rfl, ⟨rfl, ⟨rfl, ⟨rfl, ⟨rfl, ⟨rfl, ⟨rfl, ⟨rfl, ⟨rfl, ⟨rfl, trivial⟩⟩⟩⟩⟩⟩⟩⟩⟩⟩⟩ ?_
        rw [show xv + (-1) + 1 = xv by omega] at ih
        refine ih _ _ ?_ ?_
        · rw [fst_t (show xv < n by omega) (decide_eq_true (by show tb a xv = b; omega))]
          exact (if_neg (by omega)).symm
        · rw [fst_f (show xv < n by omega) (decide_eq_false (by show ¬ tb xv a = b; omega))]
          exact e2
      · replace zc3 : (tb xv a) = b := Decidable.not_not.mp zc3
        refine m_run 5 (ps' := (51, [some (.inr (.inl 0)), some (.inr (.inl 13)), some (.inr (.inl 14)), some (.inl n), some (.inl z), some (.inl 1), some (.inl a), some (.inl b), some (.inl xv), some (.inl xv), some (.inl (xv + (-1)))], [], mW (n, T, h, t, x) (.inl (0, 1, .inl g) :: .inl (2, 9, .inr f) :: J), 0, 0)) rfl ?_
        refine m_weak [some (.inr (.inl 0)), some (.inr (.inl 13)), some (.inr (.inl 14)), some (.inl n), some (.inl z), some (.inl 1), some (.inl a), some (.inl b), some (.inl xv), some (.inl xv), some (.inl (xv + (-1)))] ⟨rfl, ⟨rfl, ⟨rfl, ⟨rfl, ⟨rfl, ⟨rfl, ⟨rfl, ⟨rfl, ⟨rfl, ⟨rfl, ⟨rfl, trivial⟩⟩⟩⟩⟩⟩⟩⟩⟩⟩⟩ ?_
        rw [show xv + (-1) + 1 = xv by omega] at ih
        refine ih _ _ ?_ ?_
        · rw [fst_t (show xv < n by omega) (decide_eq_true (by show tb a xv = b; omega))]
          exact (if_neg (by omega)).symm
        · rw [fst_t (show xv < n by omega) (decide_eq_true (by show tb xv a = b; omega))]
          exact (if_neg (by omega)).symm
set_option maxHeartbeats 4000000 in
set_option maxRecDepth 100000 in
theorem a_soB {X : Nat × Nat × (Nat → Int32)} {n : Int} {T : Int → Int} {h : HS} {t : TS} {x : XS} {g : Int → Int} {f : Nat → Int64} {J : mPW} {tb : Int → Int → Int} {a v : Int} {Q : Option mPV → mPW → Prop} (hg : g 0 = n) (hL : repL n f tb) (hR : repC n T tb) (ha : 0 ≤ a) (ha2 : a < n) (K : m_Sem X 60 (13, [some (.inr (.inl 0)), some (.inr (.inl 13)), some (.inr (.inl 14)), some (.inl n), some (.inl v), some (.inl 1), some (.inl (a + 1)), none, none, none, none], [], mW (n, T, h, t, x) (.inl (0, 1, .inl g) :: .inl (2, 9, .inr f) :: J), 0, 0) Q) : ∀ b : Int, 0 ≤ b → b ≤ n → ∀ (z : Int) (hu : z + sumF (fun b => if tb a b = 0 then 1 else 0) (n - b).toNat b = v), m_Sem X 60 (27, [some (.inr (.inl 0)), some (.inr (.inl 13)), some (.inr (.inl 14)), some (.inl n), some (.inl z), some (.inl 1), some (.inl a), some (.inl b), none, none, none], [], mW (n, T, h, t, x) (.inl (0, 1, .inl g) :: .inl (2, 9, .inr f) :: J), 0, 0) (Q) := by
  have hn := hL.1
  have hl := okN_lo hn
  refine m_down 0 n ?_ ?_
  · intro z hu
    rw [sum_end] at hu
    have hu : z = v := by omega
    subst hu
    show m_Sem X 60 (27, [some (.inr (.inl 0)), some (.inr (.inl 13)), some (.inr (.inl 14)), some (.inl n), some (.inl z), some (.inl 1), some (.inl a), some (.inl n), none, none, none], [], mW (n, T, h, t, x) (.inl (0, 1, .inl g) :: .inl (2, 9, .inr f) :: J), 0, 0) _
    refine m_run 2 (ps' := (30, [some (.inr (.inl 0)), some (.inr (.inl 13)), some (.inr (.inl 14)), some (.inl n), some (.inl z), some (.inl 1), some (.inl a), some (.inl n), none, none, none], [.inl n, .inl n], mW (n, T, h, t, x) (.inl (0, 1, .inl g) :: .inl (2, 9, .inr f) :: J), 0, 0)) rfl ?_
    refine m_icmp rfl ⟨by omega, by omega⟩ ⟨by omega, by omega⟩ (fun (zc1 : n ≤ n) => ?_) (fun (zc1 : ¬ n ≤ n) => absurd zc1 (not_not_intro (by omega)))
    refine m_run 2 (ps' := (13, [some (.inr (.inl 0)), some (.inr (.inl 13)), some (.inr (.inl 14)), some (.inl n), some (.inl z), some (.inl 1), some (.inl (a + 1)), some (.inl n), none, none, none], [], mW (n, T, h, t, x) (.inl (0, 1, .inl g) :: .inl (2, 9, .inr f) :: J), 0, 0)) rfl ?_
    refine m_weak [some (.inr (.inl 0)), some (.inr (.inl 13)), some (.inr (.inl 14)), some (.inl n), some (.inl z), some (.inl 1), some (.inl (a + 1)), none, none, none, none] ⟨rfl, ⟨rfl, ⟨rfl, ⟨rfl, ⟨rfl, ⟨rfl, ⟨rfl, trivial⟩⟩⟩⟩⟩⟩⟩ ?_
    exact K
  · intro b hi1 hi2 ih z hu
    rw [sum_step hi2] at hu
    refine m_run 2 (ps' := (30, [some (.inr (.inl 0)), some (.inr (.inl 13)), some (.inr (.inl 14)), some (.inl n), some (.inl z), some (.inl 1), some (.inl a), some (.inl b), none, none, none], [.inl n, .inl b], mW (n, T, h, t, x) (.inl (0, 1, .inl g) :: .inl (2, 9, .inr f) :: J), 0, 0)) rfl ?_
    refine m_icmp rfl ⟨by omega, by omega⟩ ⟨by omega, by omega⟩ (fun (zc1 : n ≤ b) => absurd zc1 (by omega)) (fun (zc1 : ¬ n ≤ b) => ?_)
    refine m_run 1 (ps' := (35, [some (.inr (.inl 0)), some (.inr (.inl 13)), some (.inr (.inl 14)), some (.inl n), some (.inl z), some (.inl 1), some (.inl a), some (.inl b), none, none, none], [.inl 1], mW (n, T, h, t, x) (.inl (0, 1, .inl g) :: .inl (2, 9, .inr f) :: J), 0, 0)) rfl ?_
    refine m_if rfl ⟨by omega, by omega⟩ (fun (zc2 : 1 = 0) => absurd zc2 (by omega)) (fun (zc2 : ¬ 1 = 0) => ?_)
    refine m_run 8 (ps' := (51, [some (.inr (.inl 0)), some (.inr (.inl 13)), some (.inr (.inl 14)), some (.inl n), some (.inl z), some (.inl 1), some (.inl a), some (.inl b), some (.inl (-1000004)), some (.inl (-1000004)), some (.inl (n - 1))], [], mW (n, T, h, t, x) (.inl (0, 1, .inl g) :: .inl (2, 9, .inr f) :: J), 0, 0)) rfl ?_
    refine a_soX hg hL ha ha2 hi1 hi2 ?_ (n - 1) (by omega) (by omega) (-1000004) (-1000004) (by rw [show n - 1 + 1 = n by omega, fst_end]; rfl) (by rw [show n - 1 + 1 = n by omega, fst_end]; rfl)
    refine m_run 4 (ps' := (113, [some (.inr (.inl 0)), some (.inr (.inl 13)), some (.inr (.inl 14)), some (.inl n), some (.inl z), some (.inl 1), some (.inl a), some (.inl b), some (.inl (onfS (facS n tb true a b))), some (.inl (onfS (facS n tb false a b))), some (.inl (-1))], [.inl b, .inl a, .inr (.inl 14), .inl z], mW (n, T, h, t, x) (.inl (0, 1, .inl g) :: .inl (2, 9, .inr f) :: J), 0, 0)) rfl ?_
    refine m_callSF [.inr (.inl 14), .inl a, .inl b] [.inl z] rfl rfl rfl (a_of (a := a) (b := b) hL (by omega) (by omega) (by omega) (by omega)) ?_
    have zt1 := (hL.2 a b (by omega) (by omega) (by omega) (by omega)).2
    show m_Sem X 60 (116, [some (.inr (.inl 0)), some (.inr (.inl 13)), some (.inr (.inl 14)), some (.inl n), some (.inl z), some (.inl 1), some (.inl a), some (.inl b), some (.inl (onfS (facS n tb true a b))), some (.inl (onfS (facS n tb false a b))), some (.inl (-1))], [.inl (tb a b), .inl z], mW (n, T, h, t, x) (.inl (0, 1, .inl g) :: .inl (2, 9, .inr f) :: J), 0, 0) _
    refine m_if rfl ⟨by omega, by omega⟩ (fun (zc3 : ¬ (tb a b) = 0) => ?_) (fun (zc3 : ¬ ¬ (tb a b) = 0) => ?_)
    · refine m_run 7 (ps' := (133, [some (.inr (.inl 0)), some (.inr (.inl 13)), some (.inr (.inl 14)), some (.inl n), some (.inl (z + 0)), some (.inl 1), some (.inl a), some (.inl b), some (.inl (onfS (facS n tb true a b))), some (.inl (onfS (facS n tb false a b))), some (.inl (-1))], [.inl 0, .inl b, .inl a, .inr (.inl 0)], mW (n, T, h, t, x) (.inl (0, 1, .inl g) :: .inl (2, 9, .inr f) :: J), 0, 0)) rfl ?_
      refine m_callVF [.inl a, .inl b, .inl 0] [] rfl rfl ⟨_, rfl, rfl⟩ rfl rfl (a_by0 (a := a) (b := b) hR (by omega) (by omega) (by omega) (by omega)) ?_
      have zt2 := sumS_in (n := n) (a := a) (b := b) hn (by omega) (by omega) (by omega) (by omega)
      show m_Sem X 60 (136, [some (.inr (.inl 0)), some (.inr (.inl 13)), some (.inr (.inl 14)), some (.inl n), some (.inl (z + 0)), some (.inl 1), some (.inl a), some (.inl b), some (.inl (onfS (facS n tb true a b))), some (.inl (onfS (facS n tb false a b))), some (.inl (-1))], [.inl (sumS n a b)], mW (n, T, h, t, x) (.inl (0, 1, .inl g) :: .inl (2, 9, .inr f) :: J), 0, 0) _
      refine m_run 3 (ps' := (141, [some (.inr (.inl 0)), some (.inr (.inl 13)), some (.inr (.inl 14)), some (.inl n), some (.inl (z + 0)), some (.inl 1), some (.inl a), some (.inl b), some (.inl (onfS (facS n tb true a b))), some (.inl (onfS (facS n tb false a b))), some (.inl (-1))], [.inl b, .inl a, .inr (.inl 13), .inl (sumS n a b)], mW (n, T, h, t, x) (.inl (0, 1, .inl g) :: .inl (2, 9, .inr f) :: J), 0, 0)) rfl ?_
      refine m_callSF [.inr (.inl 13), .inl a, .inl b] [.inl (sumS n a b)] rfl rfl rfl (a_add (a := a) (b := b) hg hn (by omega) (by omega) (by omega) (by omega)) ?_
      have zt3 := sumS_in (n := n) (a := a) (b := b) hn (by omega) (by omega) (by omega) (by omega)
      show m_Sem X 60 (144, [some (.inr (.inl 0)), some (.inr (.inl 13)), some (.inr (.inl 14)), some (.inl n), some (.inl (z + 0)), some (.inl 1), some (.inl a), some (.inl b), some (.inl (onfS (facS n tb true a b))), some (.inl (onfS (facS n tb false a b))), some (.inl (-1))], [.inl (sumS n a b), .inl (sumS n a b)], mW (n, T, h, t, x) (.inl (0, 1, .inl g) :: .inl (2, 9, .inr f) :: J), 0, 0) _
      refine m_icmp rfl ⟨by omega, by omega⟩ ⟨by omega, by omega⟩ (fun (zc4 : ¬ (sumS n a b) = (sumS n a b)) => absurd zc4 (by omega)) (fun (zc4 : ¬ ¬ (sumS n a b) = (sumS n a b)) => ?_)
      replace zc4 : (sumS n a b) = (sumS n a b) := Decidable.not_not.mp zc4
      refine m_run 4 (ps' := (153, [some (.inr (.inl 0)), some (.inr (.inl 13)), some (.inr (.inl 14)), some (.inl n), some (.inl (z + 0)), some (.inl 1), some (.inl a), some (.inl b), some (.inl (onfS (facS n tb true a b))), some (.inl (onfS (facS n tb false a b))), some (.inl (-1))], [.inl 1, .inl b, .inl a, .inr (.inl 0)], mW (n, T, h, t, x) (.inl (0, 1, .inl g) :: .inl (2, 9, .inr f) :: J), 0, 0)) rfl ?_
      refine m_callVF [.inl a, .inl b, .inl 1] [] rfl rfl ⟨_, rfl, rfl⟩ rfl rfl (a_by1 (a := a) (b := b) hR (by omega) (by omega) (by omega) (by omega)) ?_
      have zt4 := difS_in (n := n) (a := a) (b := b) hn (by omega) (by omega) (by omega) (by omega)
      have zt5 := dif_add (n := n) (a := a) (b := b) hn (by omega) (by omega) (by omega) (by omega)
      show m_Sem X 60 (156, [some (.inr (.inl 0)), some (.inr (.inl 13)), some (.inr (.inl 14)), some (.inl n), some (.inl (z + 0)), some (.inl 1), some (.inl a), some (.inl b), some (.inl (onfS (facS n tb true a b))), some (.inl (onfS (facS n tb false a b))), some (.inl (-1))], [.inl (difS n a b)], mW (n, T, h, t, x) (.inl (0, 1, .inl g) :: .inl (2, 9, .inr f) :: J), 0, 0) _
      refine m_run 3 (ps' := (161, [some (.inr (.inl 0)), some (.inr (.inl 13)), some (.inr (.inl 14)), some (.inl n), some (.inl (z + 0)), some (.inl 1), some (.inl a), some (.inl b), some (.inl (onfS (facS n tb true a b))), some (.inl (onfS (facS n tb false a b))), some (.inl (-1))], [.inl b, .inl a, .inr (.inl 13), .inl (difS n a b)], mW (n, T, h, t, x) (.inl (0, 1, .inl g) :: .inl (2, 9, .inr f) :: J), 0, 0)) rfl ?_
      refine m_callSF [.inr (.inl 13), .inl a, .inl b] [.inl (difS n a b)] rfl rfl rfl (a_min (a := a) (b := b) hg hn (by omega) (by omega) (by omega) (by omega)) ?_
      have zt6 := difS_in (n := n) (a := a) (b := b) hn (by omega) (by omega) (by omega) (by omega)
      show m_Sem X 60 (164, [some (.inr (.inl 0)), some (.inr (.inl 13)), some (.inr (.inl 14)), some (.inl n), some (.inl (z + 0)), some (.inl 1), some (.inl a), some (.inl b), some (.inl (onfS (facS n tb true a b))), some (.inl (onfS (facS n tb false a b))), some (.inl (-1))], [.inl (difS n a b), .inl (difS n a b)], mW (n, T, h, t, x) (.inl (0, 1, .inl g) :: .inl (2, 9, .inr f) :: J), 0, 0) _
      refine m_icmp rfl ⟨by omega, by omega⟩ ⟨by omega, by omega⟩ (fun (zc5 : ¬ (difS n a b) = (difS n a b)) => absurd zc5 (by omega)) (fun (zc5 : ¬ ¬ (difS n a b) = (difS n a b)) => ?_)
      replace zc5 : (difS n a b) = (difS n a b) := Decidable.not_not.mp zc5
      refine m_run 4 (ps' := (173, [some (.inr (.inl 0)), some (.inr (.inl 13)), some (.inr (.inl 14)), some (.inl n), some (.inl (z + 0)), some (.inl 1), some (.inl a), some (.inl b), some (.inl (onfS (facS n tb true a b))), some (.inl (onfS (facS n tb false a b))), some (.inl (-1))], [.inl 2, .inl b, .inl a, .inr (.inl 0)], mW (n, T, h, t, x) (.inl (0, 1, .inl g) :: .inl (2, 9, .inr f) :: J), 0, 0)) rfl ?_
      refine m_callVF [.inl a, .inl b, .inl 2] [] rfl rfl ⟨_, rfl, rfl⟩ rfl rfl (a_by2 (a := a) (b := b) hR (by omega) (by omega) (by omega) (by omega)) ?_
      have zt7 := (hL.2 a b (by omega) (by omega) (by omega) (by omega)).2
      show m_Sem X 60 (176, [some (.inr (.inl 0)), some (.inr (.inl 13)), some (.inr (.inl 14)), some (.inl n), some (.inl (z + 0)), some (.inl 1), some (.inl a), some (.inl b), some (.inl (onfS (facS n tb true a b))), some (.inl (onfS (facS n tb false a b))), some (.inl (-1))], [.inl (tb a b)], mW (n, T, h, t, x) (.inl (0, 1, .inl g) :: .inl (2, 9, .inr f) :: J), 0, 0) _
      refine m_run 3 (ps' := (181, [some (.inr (.inl 0)), some (.inr (.inl 13)), some (.inr (.inl 14)), some (.inl n), some (.inl (z + 0)), some (.inl 1), some (.inl a), some (.inl b), some (.inl (onfS (facS n tb true a b))), some (.inl (onfS (facS n tb false a b))), some (.inl (-1))], [.inl b, .inl a, .inr (.inl 14), .inl (tb a b)], mW (n, T, h, t, x) (.inl (0, 1, .inl g) :: .inl (2, 9, .inr f) :: J), 0, 0)) rfl ?_
      refine m_callSF [.inr (.inl 14), .inl a, .inl b] [.inl (tb a b)] rfl rfl rfl (a_of (a := a) (b := b) hL (by omega) (by omega) (by omega) (by omega)) ?_
      have zt8 := (hL.2 a b (by omega) (by omega) (by omega) (by omega)).2
      show m_Sem X 60 (184, [some (.inr (.inl 0)), some (.inr (.inl 13)), some (.inr (.inl 14)), some (.inl n), some (.inl (z + 0)), some (.inl 1), some (.inl a), some (.inl b), some (.inl (onfS (facS n tb true a b))), some (.inl (onfS (facS n tb false a b))), some (.inl (-1))], [.inl (tb a b), .inl (tb a b)], mW (n, T, h, t, x) (.inl (0, 1, .inl g) :: .inl (2, 9, .inr f) :: J), 0, 0) _
      refine m_icmp rfl ⟨by omega, by omega⟩ ⟨by omega, by omega⟩ (fun (zc6 : ¬ (tb a b) = (tb a b)) => absurd zc6 (by omega)) (fun (zc6 : ¬ ¬ (tb a b) = (tb a b)) => ?_)
      replace zc6 : (tb a b) = (tb a b) := Decidable.not_not.mp zc6
      refine m_run 4 (ps' := (193, [some (.inr (.inl 0)), some (.inr (.inl 13)), some (.inr (.inl 14)), some (.inl n), some (.inl (z + 0)), some (.inl 1), some (.inl a), some (.inl b), some (.inl (onfS (facS n tb true a b))), some (.inl (onfS (facS n tb false a b))), some (.inl (-1))], [.inl 3, .inl b, .inl a, .inr (.inl 0)], mW (n, T, h, t, x) (.inl (0, 1, .inl g) :: .inl (2, 9, .inr f) :: J), 0, 0)) rfl ?_
      refine m_callVF [.inl a, .inl b, .inl 3] [] rfl rfl ⟨_, rfl, rfl⟩ rfl rfl (a_by3 (a := a) (b := b) hR (by omega) (by omega) (by omega) (by omega)) ?_
      have zt9 := onf_in (tb := tb) (r := true) (a := a) (b := b) hn
      show m_Sem X 60 (196, [some (.inr (.inl 0)), some (.inr (.inl 13)), some (.inr (.inl 14)), some (.inl n), some (.inl (z + 0)), some (.inl 1), some (.inl a), some (.inl b), some (.inl (onfS (facS n tb true a b))), some (.inl (onfS (facS n tb false a b))), some (.inl (-1))], [.inl (onfS (facS n tb true a b))], mW (n, T, h, t, x) (.inl (0, 1, .inl g) :: .inl (2, 9, .inr f) :: J), 0, 0) _
      refine m_run 1 (ps' := (198, [some (.inr (.inl 0)), some (.inr (.inl 13)), some (.inr (.inl 14)), some (.inl n), some (.inl (z + 0)), some (.inl 1), some (.inl a), some (.inl b), some (.inl (onfS (facS n tb true a b))), some (.inl (onfS (facS n tb false a b))), some (.inl (-1))], [.inl (onfS (facS n tb true a b)), .inl (onfS (facS n tb true a b))], mW (n, T, h, t, x) (.inl (0, 1, .inl g) :: .inl (2, 9, .inr f) :: J), 0, 0)) rfl ?_
      refine m_icmp rfl ⟨by omega, by omega⟩ ⟨by omega, by omega⟩ (fun (zc7 : ¬ (onfS (facS n tb true a b)) = (onfS (facS n tb true a b))) => absurd zc7 (by omega)) (fun (zc7 : ¬ ¬ (onfS (facS n tb true a b)) = (onfS (facS n tb true a b))) => ?_)
      replace zc7 : (onfS (facS n tb true a b)) = (onfS (facS n tb true a b)) := Decidable.not_not.mp zc7
      refine m_run 4 (ps' := (207, [some (.inr (.inl 0)), some (.inr (.inl 13)), some (.inr (.inl 14)), some (.inl n), some (.inl (z + 0)), some (.inl 1), some (.inl a), some (.inl b), some (.inl (onfS (facS n tb true a b))), some (.inl (onfS (facS n tb false a b))), some (.inl (-1))], [.inl 4, .inl b, .inl a, .inr (.inl 0)], mW (n, T, h, t, x) (.inl (0, 1, .inl g) :: .inl (2, 9, .inr f) :: J), 0, 0)) rfl ?_
      refine m_callVF [.inl a, .inl b, .inl 4] [] rfl rfl ⟨_, rfl, rfl⟩ rfl rfl (a_by4 (a := a) (b := b) hR (by omega) (by omega) (by omega) (by omega)) ?_
      have zt10 := onf_in (tb := tb) (r := false) (a := a) (b := b) hn
      show m_Sem X 60 (210, [some (.inr (.inl 0)), some (.inr (.inl 13)), some (.inr (.inl 14)), some (.inl n), some (.inl (z + 0)), some (.inl 1), some (.inl a), some (.inl b), some (.inl (onfS (facS n tb true a b))), some (.inl (onfS (facS n tb false a b))), some (.inl (-1))], [.inl (onfS (facS n tb false a b))], mW (n, T, h, t, x) (.inl (0, 1, .inl g) :: .inl (2, 9, .inr f) :: J), 0, 0) _
      refine m_run 1 (ps' := (212, [some (.inr (.inl 0)), some (.inr (.inl 13)), some (.inr (.inl 14)), some (.inl n), some (.inl (z + 0)), some (.inl 1), some (.inl a), some (.inl b), some (.inl (onfS (facS n tb true a b))), some (.inl (onfS (facS n tb false a b))), some (.inl (-1))], [.inl (onfS (facS n tb false a b)), .inl (onfS (facS n tb false a b))], mW (n, T, h, t, x) (.inl (0, 1, .inl g) :: .inl (2, 9, .inr f) :: J), 0, 0)) rfl ?_
      refine m_icmp rfl ⟨by omega, by omega⟩ ⟨by omega, by omega⟩ (fun (zc8 : ¬ (onfS (facS n tb false a b)) = (onfS (facS n tb false a b))) => absurd zc8 (by omega)) (fun (zc8 : ¬ ¬ (onfS (facS n tb false a b)) = (onfS (facS n tb false a b))) => ?_)
      replace zc8 : (onfS (facS n tb false a b)) = (onfS (facS n tb false a b)) := Decidable.not_not.mp zc8
      refine m_run 4 (ps' := (221, [some (.inr (.inl 0)), some (.inr (.inl 13)), some (.inr (.inl 14)), some (.inl n), some (.inl (z + 0)), some (.inl 1), some (.inl a), some (.inl b), some (.inl (onfS (facS n tb true a b))), some (.inl (onfS (facS n tb false a b))), some (.inl (-1))], [.inl 5, .inl b, .inl a, .inr (.inl 0)], mW (n, T, h, t, x) (.inl (0, 1, .inl g) :: .inl (2, 9, .inr f) :: J), 0, 0)) rfl ?_
      refine m_callVF [.inl a, .inl b, .inl 5] [] rfl rfl ⟨_, rfl, rfl⟩ rfl rfl (a_by5 (a := a) (b := b) hR (by omega) (by omega) (by omega) (by omega)) ?_
      show m_Sem X 60 (224, [some (.inr (.inl 0)), some (.inr (.inl 13)), some (.inr (.inl 14)), some (.inl n), some (.inl (z + 0)), some (.inl 1), some (.inl a), some (.inl b), some (.inl (onfS (facS n tb true a b))), some (.inl (onfS (facS n tb false a b))), some (.inl (-1))], [.inl (-1000001)], mW (n, T, h, t, x) (.inl (0, 1, .inl g) :: .inl (2, 9, .inr f) :: J), 0, 0) _
      refine m_run 1 (ps' := (226, [some (.inr (.inl 0)), some (.inr (.inl 13)), some (.inr (.inl 14)), some (.inl n), some (.inl (z + 0)), some (.inl 1), some (.inl a), some (.inl b), some (.inl (onfS (facS n tb true a b))), some (.inl (onfS (facS n tb false a b))), some (.inl (-1))], [.inl (-1000001), .inl (-1000001)], mW (n, T, h, t, x) (.inl (0, 1, .inl g) :: .inl (2, 9, .inr f) :: J), 0, 0)) rfl ?_
      refine m_icmp rfl ⟨by omega, by omega⟩ ⟨by omega, by omega⟩ (fun (zc9 : ¬ (-1000001) = (-1000001)) => absurd zc9 (by omega)) (fun (zc9 : ¬ ¬ (-1000001) = (-1000001)) => ?_)
      refine m_run 4 (ps' := (238, [some (.inr (.inl 0)), some (.inr (.inl 13)), some (.inr (.inl 14)), some (.inl n), some (.inl (z + 0)), some (.inl 1), some (.inl a), some (.inl b), some (.inl (onfS (facS n tb true a b))), some (.inl (onfS (facS n tb false a b))), some (.inl (-1))], [.inl 1], mW (n, T, h, t, x) (.inl (0, 1, .inl g) :: .inl (2, 9, .inr f) :: J), 0, 0)) rfl ?_
      refine m_if rfl ⟨by omega, by omega⟩ (fun (zc10 : 1 = 0) => absurd zc10 (by omega)) (fun (zc10 : ¬ 1 = 0) => ?_)
      refine m_run 5 (ps' := (248, [some (.inr (.inl 0)), some (.inr (.inl 13)), some (.inr (.inl 14)), some (.inl n), some (.inl (z + 0)), some (.inl 1), some (.inl a), some (.inl b), some (.inl (onfS (facS n tb true a b))), some (.inl (onfS (facS n tb false a b))), some (.inl (-1))], [.inl 1, .inl b, .inl a, .inr (.inl 0), .inr (.inl 0)], mW (n, T, h, t, x) (.inl (0, 1, .inl g) :: .inl (2, 9, .inr f) :: J), 0, 0)) rfl ?_
      refine m_callVF [.inl a, .inl b, .inl 1] [.inr (.inl 0)] rfl rfl ⟨_, rfl, rfl⟩ rfl rfl (a_by1 (a := a) (b := b) hR (by omega) (by omega) (by omega) (by omega)) ?_
      have zt11 := difS_in (n := n) (a := a) (b := b) hn (by omega) (by omega) (by omega) (by omega)
      have zt12 := dif_add (n := n) (a := a) (b := b) hn (by omega) (by omega) (by omega) (by omega)
      show m_Sem X 60 (251, [some (.inr (.inl 0)), some (.inr (.inl 13)), some (.inr (.inl 14)), some (.inl n), some (.inl (z + 0)), some (.inl 1), some (.inl a), some (.inl b), some (.inl (onfS (facS n tb true a b))), some (.inl (onfS (facS n tb false a b))), some (.inl (-1))], [.inl (difS n a b), .inr (.inl 0)], mW (n, T, h, t, x) (.inl (0, 1, .inl g) :: .inl (2, 9, .inr f) :: J), 0, 0) _
      refine m_run 2 (ps' := (254, [some (.inr (.inl 0)), some (.inr (.inl 13)), some (.inr (.inl 14)), some (.inl n), some (.inl (z + 0)), some (.inl 1), some (.inl a), some (.inl b), some (.inl (onfS (facS n tb true a b))), some (.inl (onfS (facS n tb false a b))), some (.inl (-1))], [.inl 0, .inl b, .inl (difS n a b), .inr (.inl 0)], mW (n, T, h, t, x) (.inl (0, 1, .inl g) :: .inl (2, 9, .inr f) :: J), 0, 0)) rfl ?_
      refine m_callVF [.inl (difS n a b), .inl b, .inl 0] [] rfl rfl ⟨_, rfl, rfl⟩ rfl rfl (a_by0 (a := (difS n a b)) (b := b) hR (by omega) (by omega) (by omega) (by omega)) ?_
      have zt13 := sumS_in (n := n) (a := (difS n a b)) (b := b) hn (by omega) (by omega) (by omega) (by omega)
      show m_Sem X 60 (257, [some (.inr (.inl 0)), some (.inr (.inl 13)), some (.inr (.inl 14)), some (.inl n), some (.inl (z + 0)), some (.inl 1), some (.inl a), some (.inl b), some (.inl (onfS (facS n tb true a b))), some (.inl (onfS (facS n tb false a b))), some (.inl (-1))], [.inl (sumS n (difS n a b) b)], mW (n, T, h, t, x) (.inl (0, 1, .inl g) :: .inl (2, 9, .inr f) :: J), 0, 0) _
      refine m_run 1 (ps' := (259, [some (.inr (.inl 0)), some (.inr (.inl 13)), some (.inr (.inl 14)), some (.inl n), some (.inl (z + 0)), some (.inl 1), some (.inl a), some (.inl b), some (.inl (onfS (facS n tb true a b))), some (.inl (onfS (facS n tb false a b))), some (.inl (-1))], [.inl a, .inl (sumS n (difS n a b) b)], mW (n, T, h, t, x) (.inl (0, 1, .inl g) :: .inl (2, 9, .inr f) :: J), 0, 0)) rfl ?_
      refine m_icmp rfl ⟨by omega, by omega⟩ ⟨by omega, by omega⟩ (fun (zc11 : ¬ (sumS n (difS n a b) b) = a) => absurd zc11 (by omega)) (fun (zc11 : ¬ ¬ (sumS n (difS n a b) b) = a) => ?_)
      replace zc11 : (sumS n (difS n a b) b) = a := Decidable.not_not.mp zc11
      refine m_run 5 (ps' := (27, [some (.inr (.inl 0)), some (.inr (.inl 13)), some (.inr (.inl 14)), some (.inl n), some (.inl (z + 0)), some (.inl 1), some (.inl a), some (.inl (b + 1)), some (.inl (onfS (facS n tb true a b))), some (.inl (onfS (facS n tb false a b))), some (.inl (-1))], [], mW (n, T, h, t, x) (.inl (0, 1, .inl g) :: .inl (2, 9, .inr f) :: J), 0, 0)) rfl ?_
      refine m_weak [some (.inr (.inl 0)), some (.inr (.inl 13)), some (.inr (.inl 14)), some (.inl n), some (.inl (z + 0)), some (.inl 1), some (.inl a), some (.inl (b + 1)), none, none, none] ⟨rfl, ⟨rfl, ⟨rfl, ⟨rfl, ⟨rfl, ⟨rfl, ⟨rfl, ⟨rfl, trivial⟩⟩⟩⟩⟩⟩⟩⟩ ?_
      refine ih _ ?_
      rw [← hu]
      simp only [zc3, if_true, if_false]
      omega
    · replace zc3 : (tb a b) = 0 := Decidable.not_not.mp zc3
      refine m_run 8 (ps' := (133, [some (.inr (.inl 0)), some (.inr (.inl 13)), some (.inr (.inl 14)), some (.inl n), some (.inl (z + 1)), some (.inl 1), some (.inl a), some (.inl b), some (.inl (onfS (facS n tb true a b))), some (.inl (onfS (facS n tb false a b))), some (.inl (-1))], [.inl 0, .inl b, .inl a, .inr (.inl 0)], mW (n, T, h, t, x) (.inl (0, 1, .inl g) :: .inl (2, 9, .inr f) :: J), 0, 0)) rfl ?_
      refine m_callVF [.inl a, .inl b, .inl 0] [] rfl rfl ⟨_, rfl, rfl⟩ rfl rfl (a_by0 (a := a) (b := b) hR (by omega) (by omega) (by omega) (by omega)) ?_
      have zt2 := sumS_in (n := n) (a := a) (b := b) hn (by omega) (by omega) (by omega) (by omega)
      show m_Sem X 60 (136, [some (.inr (.inl 0)), some (.inr (.inl 13)), some (.inr (.inl 14)), some (.inl n), some (.inl (z + 1)), some (.inl 1), some (.inl a), some (.inl b), some (.inl (onfS (facS n tb true a b))), some (.inl (onfS (facS n tb false a b))), some (.inl (-1))], [.inl (sumS n a b)], mW (n, T, h, t, x) (.inl (0, 1, .inl g) :: .inl (2, 9, .inr f) :: J), 0, 0) _
      refine m_run 3 (ps' := (141, [some (.inr (.inl 0)), some (.inr (.inl 13)), some (.inr (.inl 14)), some (.inl n), some (.inl (z + 1)), some (.inl 1), some (.inl a), some (.inl b), some (.inl (onfS (facS n tb true a b))), some (.inl (onfS (facS n tb false a b))), some (.inl (-1))], [.inl b, .inl a, .inr (.inl 13), .inl (sumS n a b)], mW (n, T, h, t, x) (.inl (0, 1, .inl g) :: .inl (2, 9, .inr f) :: J), 0, 0)) rfl ?_
      refine m_callSF [.inr (.inl 13), .inl a, .inl b] [.inl (sumS n a b)] rfl rfl rfl (a_add (a := a) (b := b) hg hn (by omega) (by omega) (by omega) (by omega)) ?_
      have zt3 := sumS_in (n := n) (a := a) (b := b) hn (by omega) (by omega) (by omega) (by omega)
      show m_Sem X 60 (144, [some (.inr (.inl 0)), some (.inr (.inl 13)), some (.inr (.inl 14)), some (.inl n), some (.inl (z + 1)), some (.inl 1), some (.inl a), some (.inl b), some (.inl (onfS (facS n tb true a b))), some (.inl (onfS (facS n tb false a b))), some (.inl (-1))], [.inl (sumS n a b), .inl (sumS n a b)], mW (n, T, h, t, x) (.inl (0, 1, .inl g) :: .inl (2, 9, .inr f) :: J), 0, 0) _
      refine m_icmp rfl ⟨by omega, by omega⟩ ⟨by omega, by omega⟩ (fun (zc4 : ¬ (sumS n a b) = (sumS n a b)) => absurd zc4 (by omega)) (fun (zc4 : ¬ ¬ (sumS n a b) = (sumS n a b)) => ?_)
      replace zc4 : (sumS n a b) = (sumS n a b) := Decidable.not_not.mp zc4
      refine m_run 4 (ps' := (153, [some (.inr (.inl 0)), some (.inr (.inl 13)), some (.inr (.inl 14)), some (.inl n), some (.inl (z + 1)), some (.inl 1), some (.inl a), some (.inl b), some (.inl (onfS (facS n tb true a b))), some (.inl (onfS (facS n tb false a b))), some (.inl (-1))], [.inl 1, .inl b, .inl a, .inr (.inl 0)], mW (n, T, h, t, x) (.inl (0, 1, .inl g) :: .inl (2, 9, .inr f) :: J), 0, 0)) rfl ?_
      refine m_callVF [.inl a, .inl b, .inl 1] [] rfl rfl ⟨_, rfl, rfl⟩ rfl rfl (a_by1 (a := a) (b := b) hR (by omega) (by omega) (by omega) (by omega)) ?_
      have zt4 := difS_in (n := n) (a := a) (b := b) hn (by omega) (by omega) (by omega) (by omega)
      have zt5 := dif_add (n := n) (a := a) (b := b) hn (by omega) (by omega) (by omega) (by omega)
      show m_Sem X 60 (156, [some (.inr (.inl 0)), some (.inr (.inl 13)), some (.inr (.inl 14)), some (.inl n), some (.inl (z + 1)), some (.inl 1), some (.inl a), some (.inl b), some (.inl (onfS (facS n tb true a b))), some (.inl (onfS (facS n tb false a b))), some (.inl (-1))], [.inl (difS n a b)], mW (n, T, h, t, x) (.inl (0, 1, .inl g) :: .inl (2, 9, .inr f) :: J), 0, 0) _
      refine m_run 3 (ps' := (161, [some (.inr (.inl 0)), some (.inr (.inl 13)), some (.inr (.inl 14)), some (.inl n), some (.inl (z + 1)), some (.inl 1), some (.inl a), some (.inl b), some (.inl (onfS (facS n tb true a b))), some (.inl (onfS (facS n tb false a b))), some (.inl (-1))], [.inl b, .inl a, .inr (.inl 13), .inl (difS n a b)], mW (n, T, h, t, x) (.inl (0, 1, .inl g) :: .inl (2, 9, .inr f) :: J), 0, 0)) rfl ?_
      refine m_callSF [.inr (.inl 13), .inl a, .inl b] [.inl (difS n a b)] rfl rfl rfl (a_min (a := a) (b := b) hg hn (by omega) (by omega) (by omega) (by omega)) ?_
      have zt6 := difS_in (n := n) (a := a) (b := b) hn (by omega) (by omega) (by omega) (by omega)
      show m_Sem X 60 (164, [some (.inr (.inl 0)), some (.inr (.inl 13)), some (.inr (.inl 14)), some (.inl n), some (.inl (z + 1)), some (.inl 1), some (.inl a), some (.inl b), some (.inl (onfS (facS n tb true a b))), some (.inl (onfS (facS n tb false a b))), some (.inl (-1))], [.inl (difS n a b), .inl (difS n a b)], mW (n, T, h, t, x) (.inl (0, 1, .inl g) :: .inl (2, 9, .inr f) :: J), 0, 0) _
      refine m_icmp rfl ⟨by omega, by omega⟩ ⟨by omega, by omega⟩ (fun (zc5 : ¬ (difS n a b) = (difS n a b)) => absurd zc5 (by omega)) (fun (zc5 : ¬ ¬ (difS n a b) = (difS n a b)) => ?_)
      replace zc5 : (difS n a b) = (difS n a b) := Decidable.not_not.mp zc5
      refine m_run 4 (ps' := (173, [some (.inr (.inl 0)), some (.inr (.inl 13)), some (.inr (.inl 14)), some (.inl n), some (.inl (z + 1)), some (.inl 1), some (.inl a), some (.inl b), some (.inl (onfS (facS n tb true a b))), some (.inl (onfS (facS n tb false a b))), some (.inl (-1))], [.inl 2, .inl b, .inl a, .inr (.inl 0)], mW (n, T, h, t, x) (.inl (0, 1, .inl g) :: .inl (2, 9, .inr f) :: J), 0, 0)) rfl ?_
      refine m_callVF [.inl a, .inl b, .inl 2] [] rfl rfl ⟨_, rfl, rfl⟩ rfl rfl (a_by2 (a := a) (b := b) hR (by omega) (by omega) (by omega) (by omega)) ?_
      have zt7 := (hL.2 a b (by omega) (by omega) (by omega) (by omega)).2
      show m_Sem X 60 (176, [some (.inr (.inl 0)), some (.inr (.inl 13)), some (.inr (.inl 14)), some (.inl n), some (.inl (z + 1)), some (.inl 1), some (.inl a), some (.inl b), some (.inl (onfS (facS n tb true a b))), some (.inl (onfS (facS n tb false a b))), some (.inl (-1))], [.inl (tb a b)], mW (n, T, h, t, x) (.inl (0, 1, .inl g) :: .inl (2, 9, .inr f) :: J), 0, 0) _
      refine m_run 3 (ps' := (181, [some (.inr (.inl 0)), some (.inr (.inl 13)), some (.inr (.inl 14)), some (.inl n), some (.inl (z + 1)), some (.inl 1), some (.inl a), some (.inl b), some (.inl (onfS (facS n tb true a b))), some (.inl (onfS (facS n tb false a b))), some (.inl (-1))], [.inl b, .inl a, .inr (.inl 14), .inl (tb a b)], mW (n, T, h, t, x) (.inl (0, 1, .inl g) :: .inl (2, 9, .inr f) :: J), 0, 0)) rfl ?_
      refine m_callSF [.inr (.inl 14), .inl a, .inl b] [.inl (tb a b)] rfl rfl rfl (a_of (a := a) (b := b) hL (by omega) (by omega) (by omega) (by omega)) ?_
      have zt8 := (hL.2 a b (by omega) (by omega) (by omega) (by omega)).2
      show m_Sem X 60 (184, [some (.inr (.inl 0)), some (.inr (.inl 13)), some (.inr (.inl 14)), some (.inl n), some (.inl (z + 1)), some (.inl 1), some (.inl a), some (.inl b), some (.inl (onfS (facS n tb true a b))), some (.inl (onfS (facS n tb false a b))), some (.inl (-1))], [.inl (tb a b), .inl (tb a b)], mW (n, T, h, t, x) (.inl (0, 1, .inl g) :: .inl (2, 9, .inr f) :: J), 0, 0) _
      refine m_icmp rfl ⟨by omega, by omega⟩ ⟨by omega, by omega⟩ (fun (zc6 : ¬ (tb a b) = (tb a b)) => absurd zc6 (by omega)) (fun (zc6 : ¬ ¬ (tb a b) = (tb a b)) => ?_)
      replace zc6 : (tb a b) = (tb a b) := Decidable.not_not.mp zc6
      refine m_run 4 (ps' := (193, [some (.inr (.inl 0)), some (.inr (.inl 13)), some (.inr (.inl 14)), some (.inl n), some (.inl (z + 1)), some (.inl 1), some (.inl a), some (.inl b), some (.inl (onfS (facS n tb true a b))), some (.inl (onfS (facS n tb false a b))), some (.inl (-1))], [.inl 3, .inl b, .inl a, .inr (.inl 0)], mW (n, T, h, t, x) (.inl (0, 1, .inl g) :: .inl (2, 9, .inr f) :: J), 0, 0)) rfl ?_
      refine m_callVF [.inl a, .inl b, .inl 3] [] rfl rfl ⟨_, rfl, rfl⟩ rfl rfl (a_by3 (a := a) (b := b) hR (by omega) (by omega) (by omega) (by omega)) ?_
      have zt9 := onf_in (tb := tb) (r := true) (a := a) (b := b) hn
      show m_Sem X 60 (196, [some (.inr (.inl 0)), some (.inr (.inl 13)), some (.inr (.inl 14)), some (.inl n), some (.inl (z + 1)), some (.inl 1), some (.inl a), some (.inl b), some (.inl (onfS (facS n tb true a b))), some (.inl (onfS (facS n tb false a b))), some (.inl (-1))], [.inl (onfS (facS n tb true a b))], mW (n, T, h, t, x) (.inl (0, 1, .inl g) :: .inl (2, 9, .inr f) :: J), 0, 0) _
      refine m_run 1 (ps' := (198, [some (.inr (.inl 0)), some (.inr (.inl 13)), some (.inr (.inl 14)), some (.inl n), some (.inl (z + 1)), some (.inl 1), some (.inl a), some (.inl b), some (.inl (onfS (facS n tb true a b))), some (.inl (onfS (facS n tb false a b))), some (.inl (-1))], [.inl (onfS (facS n tb true a b)), .inl (onfS (facS n tb true a b))], mW (n, T, h, t, x) (.inl (0, 1, .inl g) :: .inl (2, 9, .inr f) :: J), 0, 0)) rfl ?_
      refine m_icmp rfl ⟨by omega, by omega⟩ ⟨by omega, by omega⟩ (fun (zc7 : ¬ (onfS (facS n tb true a b)) = (onfS (facS n tb true a b))) => absurd zc7 (by omega)) (fun (zc7 : ¬ ¬ (onfS (facS n tb true a b)) = (onfS (facS n tb true a b))) => ?_)
      replace zc7 : (onfS (facS n tb true a b)) = (onfS (facS n tb true a b)) := Decidable.not_not.mp zc7
      refine m_run 4 (ps' := (207, [some (.inr (.inl 0)), some (.inr (.inl 13)), some (.inr (.inl 14)), some (.inl n), some (.inl (z + 1)), some (.inl 1), some (.inl a), some (.inl b), some (.inl (onfS (facS n tb true a b))), some (.inl (onfS (facS n tb false a b))), some (.inl (-1))], [.inl 4, .inl b, .inl a, .inr (.inl 0)], mW (n, T, h, t, x) (.inl (0, 1, .inl g) :: .inl (2, 9, .inr f) :: J), 0, 0)) rfl ?_
      refine m_callVF [.inl a, .inl b, .inl 4] [] rfl rfl ⟨_, rfl, rfl⟩ rfl rfl (a_by4 (a := a) (b := b) hR (by omega) (by omega) (by omega) (by omega)) ?_
      have zt10 := onf_in (tb := tb) (r := false) (a := a) (b := b) hn
      show m_Sem X 60 (210, [some (.inr (.inl 0)), some (.inr (.inl 13)), some (.inr (.inl 14)), some (.inl n), some (.inl (z + 1)), some (.inl 1), some (.inl a), some (.inl b), some (.inl (onfS (facS n tb true a b))), some (.inl (onfS (facS n tb false a b))), some (.inl (-1))], [.inl (onfS (facS n tb false a b))], mW (n, T, h, t, x) (.inl (0, 1, .inl g) :: .inl (2, 9, .inr f) :: J), 0, 0) _
      refine m_run 1 (ps' := (212, [some (.inr (.inl 0)), some (.inr (.inl 13)), some (.inr (.inl 14)), some (.inl n), some (.inl (z + 1)), some (.inl 1), some (.inl a), some (.inl b), some (.inl (onfS (facS n tb true a b))), some (.inl (onfS (facS n tb false a b))), some (.inl (-1))], [.inl (onfS (facS n tb false a b)), .inl (onfS (facS n tb false a b))], mW (n, T, h, t, x) (.inl (0, 1, .inl g) :: .inl (2, 9, .inr f) :: J), 0, 0)) rfl ?_
      refine m_icmp rfl ⟨by omega, by omega⟩ ⟨by omega, by omega⟩ (fun (zc8 : ¬ (onfS (facS n tb false a b)) = (onfS (facS n tb false a b))) => absurd zc8 (by omega)) (fun (zc8 : ¬ ¬ (onfS (facS n tb false a b)) = (onfS (facS n tb false a b))) => ?_)
      replace zc8 : (onfS (facS n tb false a b)) = (onfS (facS n tb false a b)) := Decidable.not_not.mp zc8
      refine m_run 4 (ps' := (221, [some (.inr (.inl 0)), some (.inr (.inl 13)), some (.inr (.inl 14)), some (.inl n), some (.inl (z + 1)), some (.inl 1), some (.inl a), some (.inl b), some (.inl (onfS (facS n tb true a b))), some (.inl (onfS (facS n tb false a b))), some (.inl (-1))], [.inl 5, .inl b, .inl a, .inr (.inl 0)], mW (n, T, h, t, x) (.inl (0, 1, .inl g) :: .inl (2, 9, .inr f) :: J), 0, 0)) rfl ?_
      refine m_callVF [.inl a, .inl b, .inl 5] [] rfl rfl ⟨_, rfl, rfl⟩ rfl rfl (a_by5 (a := a) (b := b) hR (by omega) (by omega) (by omega) (by omega)) ?_
      show m_Sem X 60 (224, [some (.inr (.inl 0)), some (.inr (.inl 13)), some (.inr (.inl 14)), some (.inl n), some (.inl (z + 1)), some (.inl 1), some (.inl a), some (.inl b), some (.inl (onfS (facS n tb true a b))), some (.inl (onfS (facS n tb false a b))), some (.inl (-1))], [.inl (-1000001)], mW (n, T, h, t, x) (.inl (0, 1, .inl g) :: .inl (2, 9, .inr f) :: J), 0, 0) _
      refine m_run 1 (ps' := (226, [some (.inr (.inl 0)), some (.inr (.inl 13)), some (.inr (.inl 14)), some (.inl n), some (.inl (z + 1)), some (.inl 1), some (.inl a), some (.inl b), some (.inl (onfS (facS n tb true a b))), some (.inl (onfS (facS n tb false a b))), some (.inl (-1))], [.inl (-1000001), .inl (-1000001)], mW (n, T, h, t, x) (.inl (0, 1, .inl g) :: .inl (2, 9, .inr f) :: J), 0, 0)) rfl ?_
      refine m_icmp rfl ⟨by omega, by omega⟩ ⟨by omega, by omega⟩ (fun (zc9 : ¬ (-1000001) = (-1000001)) => absurd zc9 (by omega)) (fun (zc9 : ¬ ¬ (-1000001) = (-1000001)) => ?_)
      refine m_run 4 (ps' := (238, [some (.inr (.inl 0)), some (.inr (.inl 13)), some (.inr (.inl 14)), some (.inl n), some (.inl (z + 1)), some (.inl 1), some (.inl a), some (.inl b), some (.inl (onfS (facS n tb true a b))), some (.inl (onfS (facS n tb false a b))), some (.inl (-1))], [.inl 1], mW (n, T, h, t, x) (.inl (0, 1, .inl g) :: .inl (2, 9, .inr f) :: J), 0, 0)) rfl ?_
      refine m_if rfl ⟨by omega, by omega⟩ (fun (zc10 : 1 = 0) => absurd zc10 (by omega)) (fun (zc10 : ¬ 1 = 0) => ?_)
      refine m_run 5 (ps' := (248, [some (.inr (.inl 0)), some (.inr (.inl 13)), some (.inr (.inl 14)), some (.inl n), some (.inl (z + 1)), some (.inl 1), some (.inl a), some (.inl b), some (.inl (onfS (facS n tb true a b))), some (.inl (onfS (facS n tb false a b))), some (.inl (-1))], [.inl 1, .inl b, .inl a, .inr (.inl 0), .inr (.inl 0)], mW (n, T, h, t, x) (.inl (0, 1, .inl g) :: .inl (2, 9, .inr f) :: J), 0, 0)) rfl ?_
      refine m_callVF [.inl a, .inl b, .inl 1] [.inr (.inl 0)] rfl rfl ⟨_, rfl, rfl⟩ rfl rfl (a_by1 (a := a) (b := b) hR (by omega) (by omega) (by omega) (by omega)) ?_
      have zt11 := difS_in (n := n) (a := a) (b := b) hn (by omega) (by omega) (by omega) (by omega)
      have zt12 := dif_add (n := n) (a := a) (b := b) hn (by omega) (by omega) (by omega) (by omega)
      show m_Sem X 60 (251, [some (.inr (.inl 0)), some (.inr (.inl 13)), some (.inr (.inl 14)), some (.inl n), some (.inl (z + 1)), some (.inl 1), some (.inl a), some (.inl b), some (.inl (onfS (facS n tb true a b))), some (.inl (onfS (facS n tb false a b))), some (.inl (-1))], [.inl (difS n a b), .inr (.inl 0)], mW (n, T, h, t, x) (.inl (0, 1, .inl g) :: .inl (2, 9, .inr f) :: J), 0, 0) _
      refine m_run 2 (ps' := (254, [some (.inr (.inl 0)), some (.inr (.inl 13)), some (.inr (.inl 14)), some (.inl n), some (.inl (z + 1)), some (.inl 1), some (.inl a), some (.inl b), some (.inl (onfS (facS n tb true a b))), some (.inl (onfS (facS n tb false a b))), some (.inl (-1))], [.inl 0, .inl b, .inl (difS n a b), .inr (.inl 0)], mW (n, T, h, t, x) (.inl (0, 1, .inl g) :: .inl (2, 9, .inr f) :: J), 0, 0)) rfl ?_
      refine m_callVF [.inl (difS n a b), .inl b, .inl 0] [] rfl rfl ⟨_, rfl, rfl⟩ rfl rfl (a_by0 (a := (difS n a b)) (b := b) hR (by omega) (by omega) (by omega) (by omega)) ?_
      have zt13 := sumS_in (n := n) (a := (difS n a b)) (b := b) hn (by omega) (by omega) (by omega) (by omega)
      show m_Sem X 60 (257, [some (.inr (.inl 0)), some (.inr (.inl 13)), some (.inr (.inl 14)), some (.inl n), some (.inl (z + 1)), some (.inl 1), some (.inl a), some (.inl b), some (.inl (onfS (facS n tb true a b))), some (.inl (onfS (facS n tb false a b))), some (.inl (-1))], [.inl (sumS n (difS n a b) b)], mW (n, T, h, t, x) (.inl (0, 1, .inl g) :: .inl (2, 9, .inr f) :: J), 0, 0) _
      refine m_run 1 (ps' := (259, [some (.inr (.inl 0)), some (.inr (.inl 13)), some (.inr (.inl 14)), some (.inl n), some (.inl (z + 1)), some (.inl 1), some (.inl a), some (.inl b), some (.inl (onfS (facS n tb true a b))), some (.inl (onfS (facS n tb false a b))), some (.inl (-1))], [.inl a, .inl (sumS n (difS n a b) b)], mW (n, T, h, t, x) (.inl (0, 1, .inl g) :: .inl (2, 9, .inr f) :: J), 0, 0)) rfl ?_
      refine m_icmp rfl ⟨by omega, by omega⟩ ⟨by omega, by omega⟩ (fun (zc11 : ¬ (sumS n (difS n a b) b) = a) => absurd zc11 (by omega)) (fun (zc11 : ¬ ¬ (sumS n (difS n a b) b) = a) => ?_)
      replace zc11 : (sumS n (difS n a b) b) = a := Decidable.not_not.mp zc11
      refine m_run 5 (ps' := (27, [some (.inr (.inl 0)), some (.inr (.inl 13)), some (.inr (.inl 14)), some (.inl n), some (.inl (z + 1)), some (.inl 1), some (.inl a), some (.inl (b + 1)), some (.inl (onfS (facS n tb true a b))), some (.inl (onfS (facS n tb false a b))), some (.inl (-1))], [], mW (n, T, h, t, x) (.inl (0, 1, .inl g) :: .inl (2, 9, .inr f) :: J), 0, 0)) rfl ?_
      refine m_weak [some (.inr (.inl 0)), some (.inr (.inl 13)), some (.inr (.inl 14)), some (.inl n), some (.inl (z + 1)), some (.inl 1), some (.inl a), some (.inl (b + 1)), none, none, none] ⟨rfl, ⟨rfl, ⟨rfl, ⟨rfl, ⟨rfl, ⟨rfl, ⟨rfl, ⟨rfl, trivial⟩⟩⟩⟩⟩⟩⟩⟩ ?_
      refine ih _ ?_
      rw [← hu]
      simp only [zc3, if_true, if_false]
      omega
set_option maxHeartbeats 4000000 in
set_option maxRecDepth 100000 in
theorem a_soA {X : Nat × Nat × (Nat → Int32)} {n : Int} {T : Int → Int} {hc : Int} {hs hp : Int → Int} {sg : Int → Int} {x : XS} {g : Int → Int} {f : Nat → Int64} {J : mPW} {tb : Int → Int → Int} (hg : g 0 = n) (hL : repL n f tb) (hR : repC n T tb) : ∀ a : Int, 0 ≤ a → a ≤ n → ∀ (z : Int) (hu : z + sumF (fun a => sumF (fun b => if tb a b = 0 then 1 else 0) n.toNat 0) (n - a).toNat a = zeroS n tb), m_Sem X 60 (13, [some (.inr (.inl 0)), some (.inr (.inl 13)), some (.inr (.inl 14)), some (.inl n), some (.inl z), some (.inl 1), some (.inl a), none, none, none, none], [], mW (n, T, (hc, hs, hp), (0, sg), x) (.inl (0, 1, .inl g) :: .inl (2, 9, .inr f) :: J), 0, 0) (m_V 1 (mW (n, T, (hc, hs, hp), (0, sg), x) (.inl (0, 1, .inl g) :: .inl (2, 9, .inr f) :: J))) := by
  have hn := hL.1
  have hl := okN_lo hn
  have hq := sq_b hn
  refine m_down 0 n ?_ ?_
  · intro z hu
    rw [sum_end] at hu
    have hu : z = zeroS n tb := by omega
    have hz := zer_in (tb := tb) hn
    show m_Sem X 60 (13, [some (.inr (.inl 0)), some (.inr (.inl 13)), some (.inr (.inl 14)), some (.inl n), some (.inl z), some (.inl 1), some (.inl n), none, none, none, none], [], mW (n, T, (hc, hs, hp), (0, sg), x) (.inl (0, 1, .inl g) :: .inl (2, 9, .inr f) :: J), 0, 0) _
    refine m_run 2 (ps' := (16, [some (.inr (.inl 0)), some (.inr (.inl 13)), some (.inr (.inl 14)), some (.inl n), some (.inl z), some (.inl 1), some (.inl n), none, none, none, none], [.inl n, .inl n], mW (n, T, (hc, hs, hp), (0, sg), x) (.inl (0, 1, .inl g) :: .inl (2, 9, .inr f) :: J), 0, 0)) rfl ?_
    refine m_icmp rfl ⟨by omega, by omega⟩ ⟨by omega, by omega⟩ (fun (zc1 : n ≤ n) => ?_) (fun (zc1 : ¬ n ≤ n) => absurd zc1 (not_not_intro (by omega)))
    refine m_run 1 (ps' := (283, [some (.inr (.inl 0)), some (.inr (.inl 13)), some (.inr (.inl 14)), some (.inl n), some (.inl z), some (.inl 1), some (.inl n), none, none, none, none], [.inl 1], mW (n, T, (hc, hs, hp), (0, sg), x) (.inl (0, 1, .inl g) :: .inl (2, 9, .inr f) :: J), 0, 0)) rfl ?_
    refine m_if rfl ⟨by omega, by omega⟩ (fun (zc2 : 1 = 0) => absurd zc2 (by omega)) (fun (zc2 : ¬ 1 = 0) => ?_)
    refine m_run 4 (ps' := (290, [some (.inr (.inl 0)), some (.inr (.inl 13)), some (.inr (.inl 14)), some (.inl n), some (.inl z), some (.inl 1), some (.inl n), none, none, none, none], [.inl 0, .inl 0, .inl n, .inr (.inl 0)], mW (n, T, (hc, hs, hp), (0, sg), x) (.inl (0, 1, .inl g) :: .inl (2, 9, .inr f) :: J), 0, 0)) rfl ?_
    refine m_callVF [.inl n, .inl 0, .inl 0] [] rfl rfl ⟨_, rfl, rfl⟩ rfl rfl (a_byX (a := n) (b := 0) hR (by omega) (by omega) (by omega) (by omega) (by omega)) ?_
    show m_Sem X 60 (293, [some (.inr (.inl 0)), some (.inr (.inl 13)), some (.inr (.inl 14)), some (.inl n), some (.inl z), some (.inl 1), some (.inl n), none, none, none, none], [.inl (-1000001)], mW (n, T, (hc, hs, hp), (0, sg), x) (.inl (0, 1, .inl g) :: .inl (2, 9, .inr f) :: J), 0, 0) _
    refine m_run 1 (ps' := (295, [some (.inr (.inl 0)), some (.inr (.inl 13)), some (.inr (.inl 14)), some (.inl n), some (.inl z), some (.inl 1), some (.inl n), none, none, none, none], [.inl (-1000001), .inl (-1000001)], mW (n, T, (hc, hs, hp), (0, sg), x) (.inl (0, 1, .inl g) :: .inl (2, 9, .inr f) :: J), 0, 0)) rfl ?_
    refine m_icmp rfl ⟨by omega, by omega⟩ ⟨by omega, by omega⟩ (fun (zc3 : ¬ (-1000001) = (-1000001)) => absurd zc3 (by omega)) (fun (zc3 : ¬ ¬ (-1000001) = (-1000001)) => ?_)
    refine m_run 4 (ps' := (302, [some (.inr (.inl 0)), some (.inr (.inl 13)), some (.inr (.inl 14)), some (.inl n), some (.inl z), some (.inl 1), some (.inl n), none, none, none, none], [.inl 0, .inl (-1), .inl 0, .inr (.inl 0)], mW (n, T, (hc, hs, hp), (0, sg), x) (.inl (0, 1, .inl g) :: .inl (2, 9, .inr f) :: J), 0, 0)) rfl ?_
    refine m_callVF [.inl 0, .inl (-1), .inl 0] [] rfl rfl ⟨_, rfl, rfl⟩ rfl rfl (a_byX (a := 0) (b := (-1)) hR (by omega) (by omega) (by omega) (by omega) (by omega)) ?_
    show m_Sem X 60 (305, [some (.inr (.inl 0)), some (.inr (.inl 13)), some (.inr (.inl 14)), some (.inl n), some (.inl z), some (.inl 1), some (.inl n), none, none, none, none], [.inl (-1000001)], mW (n, T, (hc, hs, hp), (0, sg), x) (.inl (0, 1, .inl g) :: .inl (2, 9, .inr f) :: J), 0, 0) _
    refine m_run 1 (ps' := (307, [some (.inr (.inl 0)), some (.inr (.inl 13)), some (.inr (.inl 14)), some (.inl n), some (.inl z), some (.inl 1), some (.inl n), none, none, none, none], [.inl (-1000001), .inl (-1000001)], mW (n, T, (hc, hs, hp), (0, sg), x) (.inl (0, 1, .inl g) :: .inl (2, 9, .inr f) :: J), 0, 0)) rfl ?_
    refine m_icmp rfl ⟨by omega, by omega⟩ ⟨by omega, by omega⟩ (fun (zc4 : ¬ (-1000001) = (-1000001)) => absurd zc4 (by omega)) (fun (zc4 : ¬ ¬ (-1000001) = (-1000001)) => ?_)
    refine m_run 3 (ps' := (313, [some (.inr (.inl 0)), some (.inr (.inl 13)), some (.inr (.inl 14)), some (.inl n), some (.inl z), some (.inl 1), some (.inl n), none, none, none, none], [.inr (.inl 14), .inr (.inl 13), .inr (.inl 0)], mW (n, T, (hc, hs, hp), (0, sg), x) (.inl (0, 1, .inl g) :: .inl (2, 9, .inr f) :: J), 0, 0)) rfl ?_
    refine m_callSF [.inr (.inl 0), .inr (.inl 13), .inr (.inl 14)] [] rfl rfl rfl (a_are hg hL hR) ?_
    show m_Sem X 60 (316, [some (.inr (.inl 0)), some (.inr (.inl 13)), some (.inr (.inl 14)), some (.inl n), some (.inl z), some (.inl 1), some (.inl n), none, none, none, none], [.inl 1], mW (n, T, (hc, hs, hp), (0, sg), x) (.inl (0, 1, .inl g) :: .inl (2, 9, .inr f) :: J), 0, 0) _
    refine m_if rfl ⟨by omega, by omega⟩ (fun (zc5 : 1 = 0) => absurd zc5 (by omega)) (fun (zc5 : ¬ 1 = 0) => ?_)
    refine m_run 3 (ps' := (322, [some (.inr (.inl 0)), some (.inr (.inl 13)), some (.inr (.inl 14)), some (.inl n), some (.inl z), some (.inl 1), some (.inl n), none, none, none, none], [.inr (.inl 14), .inr (.inl 13), .inr (.inl 0)], mW (n, T, (hc, hs, hp), (0, sg), x) (.inl (0, 1, .inl g) :: .inl (2, 9, .inr f) :: J), 0, 0)) rfl ?_
    refine m_callSF [.inr (.inl 0), .inr (.inl 13), .inr (.inl 14)] [] rfl rfl rfl (a_els hg hL hR) ?_
    show m_Sem X 60 (325, [some (.inr (.inl 0)), some (.inr (.inl 13)), some (.inr (.inl 14)), some (.inl n), some (.inl z), some (.inl 1), some (.inl n), none, none, none, none], [.inl 1], mW (n, T, (hc, hs, hp), (0, sg), x) (.inl (0, 1, .inl g) :: .inl (2, 9, .inr f) :: J), 0, 0) _
    refine m_if rfl ⟨by omega, by omega⟩ (fun (zc6 : 1 = 0) => absurd zc6 (by omega)) (fun (zc6 : ¬ 1 = 0) => ?_)
    refine m_run 4 (ps' := (337, [some (.inr (.inl 0)), some (.inr (.inl 13)), some (.inr (.inl 14)), some (.inl n), some (.inl z), some (.inl 1), some (.inl n), none, none, none, none], [.inl 1], mW (n, T, (hc, hs, hp), (0, sg), x) (.inl (0, 1, .inl g) :: .inl (2, 9, .inr f) :: J), 0, 0)) rfl ?_
    refine m_if rfl ⟨by omega, by omega⟩ (fun (zc7 : 1 = 0) => absurd zc7 (by omega)) (fun (zc7 : ¬ 1 = 0) => ?_)
    refine m_run 2 (ps' := (342, [some (.inr (.inl 0)), some (.inr (.inl 13)), some (.inr (.inl 14)), some (.inl n), some (.inl z), some (.inl 1), some (.inl n), none, none, none, none], [.inl 0, .inr (.inl 0)], mW (n, T, (hc, hs, hp), (0, sg), x) (.inl (0, 1, .inl g) :: .inl (2, 9, .inr f) :: J), 0, 0)) rfl ?_
    refine m_callVF [.inl 0] [] rfl rfl ⟨_, rfl, rfl⟩ rfl rfl (a_cnt0 hR) ?_
    show m_Sem X 60 (345, [some (.inr (.inl 0)), some (.inr (.inl 13)), some (.inr (.inl 14)), some (.inl n), some (.inl z), some (.inl 1), some (.inl n), none, none, none, none], [.inl n], mW (n, T, (hc, hs, hp), (0, sg), x) (.inl (0, 1, .inl g) :: .inl (2, 9, .inr f) :: J), 0, 0) _
    refine m_run 1 (ps' := (346, [some (.inr (.inl 0)), some (.inr (.inl 13)), some (.inr (.inl 14)), some (.inl n), some (.inl z), some (.inl 1), some (.inl n), none, none, none, none], [.inl n, .inl n], mW (n, T, (hc, hs, hp), (0, sg), x) (.inl (0, 1, .inl g) :: .inl (2, 9, .inr f) :: J), 0, 0)) rfl ?_
    refine m_icmp rfl ⟨by omega, by omega⟩ ⟨by omega, by omega⟩ (fun (zc8 : ¬ n = n) => absurd zc8 (by omega)) (fun (zc8 : ¬ ¬ n = n) => ?_)
    replace zc8 : n = n := Decidable.not_not.mp zc8
    refine m_run 2 (ps' := (351, [some (.inr (.inl 0)), some (.inr (.inl 13)), some (.inr (.inl 14)), some (.inl n), some (.inl z), some (.inl 1), some (.inl n), none, none, none, none], [.inl 1, .inr (.inl 0)], mW (n, T, (hc, hs, hp), (0, sg), x) (.inl (0, 1, .inl g) :: .inl (2, 9, .inr f) :: J), 0, 0)) rfl ?_
    refine m_callVF [.inl 1] [] rfl rfl ⟨_, rfl, rfl⟩ rfl rfl (a_cnt1 hR) ?_
    have zt4 : NP n = n * n + n + 1 := rfl
    show m_Sem X 60 (354, [some (.inr (.inl 0)), some (.inr (.inl 13)), some (.inr (.inl 14)), some (.inl n), some (.inl z), some (.inl 1), some (.inl n), none, none, none, none], [.inl (NP n)], mW (n, T, (hc, hs, hp), (0, sg), x) (.inl (0, 1, .inl g) :: .inl (2, 9, .inr f) :: J), 0, 0) _
    refine m_run 7 (ps' := (361, [some (.inr (.inl 0)), some (.inr (.inl 13)), some (.inr (.inl 14)), some (.inl n), some (.inl z), some (.inl 1), some (.inl n), none, none, none, none], [.inl (((n * n) + n) + 1), .inl (NP n)], mW (n, T, (hc, hs, hp), (0, sg), x) (.inl (0, 1, .inl g) :: .inl (2, 9, .inr f) :: J), 0, 0)) rfl ?_
    refine m_icmp rfl ⟨by omega, by omega⟩ ⟨by omega, by omega⟩ (fun (zc9 : ¬ (NP n) = (((n * n) + n) + 1)) => absurd zc9 (by omega)) (fun (zc9 : ¬ ¬ (NP n) = (((n * n) + n) + 1)) => ?_)
    replace zc9 : (NP n) = (((n * n) + n) + 1) := Decidable.not_not.mp zc9
    refine m_run 2 (ps' := (366, [some (.inr (.inl 0)), some (.inr (.inl 13)), some (.inr (.inl 14)), some (.inl n), some (.inl z), some (.inl 1), some (.inl n), none, none, none, none], [.inl 2, .inr (.inl 0)], mW (n, T, (hc, hs, hp), (0, sg), x) (.inl (0, 1, .inl g) :: .inl (2, 9, .inr f) :: J), 0, 0)) rfl ?_
    refine m_callVF [.inl 2] [] rfl rfl ⟨_, rfl, rfl⟩ rfl rfl (a_cnt2 hR) ?_
    have zt8 := unl_in (tb := tb) hn
    show m_Sem X 60 (369, [some (.inr (.inl 0)), some (.inr (.inl 13)), some (.inr (.inl 14)), some (.inl n), some (.inl z), some (.inl 1), some (.inl n), none, none, none, none], [.inl (unlS n tb)], mW (n, T, (hc, hs, hp), (0, sg), x) (.inl (0, 1, .inl g) :: .inl (2, 9, .inr f) :: J), 0, 0) _
    refine m_run 2 (ps' := (371, [some (.inr (.inl 0)), some (.inr (.inl 13)), some (.inr (.inl 14)), some (.inl n), some (.inl z), some (.inl 1), some (.inl n), none, none, none, none], [.inr (.inl 14), .inr (.inl 13), .inl (unlS n tb)], mW (n, T, (hc, hs, hp), (0, sg), x) (.inl (0, 1, .inl g) :: .inl (2, 9, .inr f) :: J), 0, 0)) rfl ?_
    refine m_callSF [.inr (.inl 13), .inr (.inl 14)] [.inl (unlS n tb)] rfl rfl rfl (a_fld hg hL) ?_
    show m_Sem X 60 (374, [some (.inr (.inl 0)), some (.inr (.inl 13)), some (.inr (.inl 14)), some (.inl n), some (.inl z), some (.inl 1), some (.inl n), none, none, none, none], [.inl (unlS n tb), .inl (unlS n tb)], mW (n, T, (hc, hs, hp), (0, sg), x) (.inl (0, 1, .inl g) :: .inl (2, 9, .inr f) :: J), 0, 0) _
    refine m_icmp rfl ⟨by omega, by omega⟩ ⟨by omega, by omega⟩ (fun (zc10 : ¬ (unlS n tb) = (unlS n tb)) => absurd zc10 (by omega)) (fun (zc10 : ¬ ¬ (unlS n tb) = (unlS n tb)) => ?_)
    replace zc10 : (unlS n tb) = (unlS n tb) := Decidable.not_not.mp zc10
    refine m_run 2 (ps' := (379, [some (.inr (.inl 0)), some (.inr (.inl 13)), some (.inr (.inl 14)), some (.inl n), some (.inl z), some (.inl 1), some (.inl n), none, none, none, none], [.inl 3, .inr (.inl 0)], mW (n, T, (hc, hs, hp), (0, sg), x) (.inl (0, 1, .inl g) :: .inl (2, 9, .inr f) :: J), 0, 0)) rfl ?_
    refine m_callVF [.inl 3] [] rfl rfl ⟨_, rfl, rfl⟩ rfl rfl (a_cnt3 hR) ?_
    have zt12 := zer_in (tb := tb) hn
    show m_Sem X 60 (382, [some (.inr (.inl 0)), some (.inr (.inl 13)), some (.inr (.inl 14)), some (.inl n), some (.inl z), some (.inl 1), some (.inl n), none, none, none, none], [.inl (zeroS n tb)], mW (n, T, (hc, hs, hp), (0, sg), x) (.inl (0, 1, .inl g) :: .inl (2, 9, .inr f) :: J), 0, 0) _
    refine m_run 1 (ps' := (384, [some (.inr (.inl 0)), some (.inr (.inl 13)), some (.inr (.inl 14)), some (.inl n), some (.inl z), some (.inl 1), some (.inl n), none, none, none, none], [.inl z, .inl (zeroS n tb)], mW (n, T, (hc, hs, hp), (0, sg), x) (.inl (0, 1, .inl g) :: .inl (2, 9, .inr f) :: J), 0, 0)) rfl ?_
    refine m_icmp rfl ⟨by omega, by omega⟩ ⟨by omega, by omega⟩ (fun (zc11 : ¬ (zeroS n tb) = z) => absurd zc11 (by omega)) (fun (zc11 : ¬ ¬ (zeroS n tb) = z) => ?_)
    replace zc11 : (zeroS n tb) = z := Decidable.not_not.mp zc11
    refine m_run 2 (ps' := (389, [some (.inr (.inl 0)), some (.inr (.inl 13)), some (.inr (.inl 14)), some (.inl n), some (.inl z), some (.inl 1), some (.inl n), none, none, none, none], [.inl 5, .inr (.inl 0)], mW (n, T, (hc, hs, hp), (0, sg), x) (.inl (0, 1, .inl g) :: .inl (2, 9, .inr f) :: J), 0, 0)) rfl ?_
    refine m_callVF [.inl 5] [] rfl rfl ⟨_, rfl, rfl⟩ rfl rfl (a_cnt5 hR) ?_
    show m_Sem X 60 (392, [some (.inr (.inl 0)), some (.inr (.inl 13)), some (.inr (.inl 14)), some (.inl n), some (.inl z), some (.inl 1), some (.inl n), none, none, none, none], [.inl 0], mW (n, T, (hc, hs, hp), (0, sg), x) (.inl (0, 1, .inl g) :: .inl (2, 9, .inr f) :: J), 0, 0) _
    refine m_if rfl ⟨by omega, by omega⟩ (fun (zc12 : ¬ 0 = 0) => absurd zc12 (by omega)) (fun (zc12 : ¬ ¬ 0 = 0) => ?_)
    refine m_run 2 (ps' := (400, [some (.inr (.inl 0)), some (.inr (.inl 13)), some (.inr (.inl 14)), some (.inl n), some (.inl z), some (.inl 1), some (.inl n), none, none, none, none], [.inl 1], mW (n, T, (hc, hs, hp), (0, sg), x) (.inl (0, 1, .inl g) :: .inl (2, 9, .inr f) :: J), 0, 0)) rfl ?_
    exact m_ret1 rfl (Or.inr ⟨rfl, Or.inr rfl⟩) rfl (m_Vi rfl)
  · intro a hi1 hi2 ih z hu
    rw [sum_step hi2] at hu
    refine m_run 2 (ps' := (16, [some (.inr (.inl 0)), some (.inr (.inl 13)), some (.inr (.inl 14)), some (.inl n), some (.inl z), some (.inl 1), some (.inl a), none, none, none, none], [.inl n, .inl a], mW (n, T, (hc, hs, hp), (0, sg), x) (.inl (0, 1, .inl g) :: .inl (2, 9, .inr f) :: J), 0, 0)) rfl ?_
    refine m_icmp rfl ⟨by omega, by omega⟩ ⟨by omega, by omega⟩ (fun (zc1 : n ≤ a) => absurd zc1 (by omega)) (fun (zc1 : ¬ n ≤ a) => ?_)
    refine m_run 1 (ps' := (21, [some (.inr (.inl 0)), some (.inr (.inl 13)), some (.inr (.inl 14)), some (.inl n), some (.inl z), some (.inl 1), some (.inl a), none, none, none, none], [.inl 1], mW (n, T, (hc, hs, hp), (0, sg), x) (.inl (0, 1, .inl g) :: .inl (2, 9, .inr f) :: J), 0, 0)) rfl ?_
    refine m_if rfl ⟨by omega, by omega⟩ (fun (zc2 : 1 = 0) => absurd zc2 (by omega)) (fun (zc2 : ¬ 1 = 0) => ?_)
    refine m_run 2 (ps' := (27, [some (.inr (.inl 0)), some (.inr (.inl 13)), some (.inr (.inl 14)), some (.inl n), some (.inl z), some (.inl 1), some (.inl a), some (.inl 0), none, none, none], [], mW (n, T, (hc, hs, hp), (0, sg), x) (.inl (0, 1, .inl g) :: .inl (2, 9, .inr f) :: J), 0, 0)) rfl ?_
    refine m_weak [some (.inr (.inl 0)), some (.inr (.inl 13)), some (.inr (.inl 14)), some (.inl n), some (.inl z), some (.inl 1), some (.inl a), some (.inl 0), none, none, none] ⟨rfl, ⟨rfl, ⟨rfl, ⟨rfl, ⟨rfl, ⟨rfl, ⟨rfl, ⟨rfl, trivial⟩⟩⟩⟩⟩⟩⟩⟩ ?_
    exact a_soB (v := z + sumF (fun b => if tb a b = 0 then 1 else 0) n.toNat 0) hg hL hR hi1 hi2 (ih _ (by rw [← hu]; omega)) 0 (by omega) (by omega) z (by rw [z_sub])
set_option maxHeartbeats 4000000 in
set_option maxRecDepth 100000 in
theorem a_so {X : Nat × Nat × (Nat → Int32)} {n : Int} {T : Int → Int} {hc : Int} {hs hp : Int → Int} {sg : Int → Int} {x : XS} {g : Int → Int} {f : Nat → Int64} {J : mPW} {tb : Int → Int → Int} (hg : g 0 = n) (hL : repL n f tb) (hR : repC n T tb) : m_Run X 60 [.inr (.inl 0), .inr (.inl 13), .inr (.inl 14)] (mW (n, T, (hc, hs, hp), (0, sg), x) (.inl (0, 1, .inl g) :: .inl (2, 9, .inr f) :: J)) (m_V 1 (mW (n, T, (hc, hs, hp), (0, sg), x) (.inl (0, 1, .inl g) :: .inl (2, 9, .inr f) :: J))) := by
  have hn := hL.1
  have hl := okN_lo hn
  have hq := sq_b hn
  show m_Sem X 60 (0, [some (.inr (.inl 0)), some (.inr (.inl 13)), some (.inr (.inl 14)), none, none, none, none, none, none, none, none], [], mW (n, T, (hc, hs, hp), (0, sg), x) (.inl (0, 1, .inl g) :: .inl (2, 9, .inr f) :: J), 0, 0) _
  refine m_run 2 (ps' := (2, [some (.inr (.inl 0)), some (.inr (.inl 13)), some (.inr (.inl 14)), none, none, none, none, none, none, none, none], [.inl 0, .inr (.inl 13)], mW (n, T, (hc, hs, hp), (0, sg), x) (.inl (0, 1, .inl g) :: .inl (2, 9, .inr f) :: J), 0, 0)) rfl ?_
  refine m_iald rfl rfl (by omega) (by omega) (by decide) ?_
  show m_Sem X 60 (3, [some (.inr (.inl 0)), some (.inr (.inl 13)), some (.inr (.inl 14)), none, none, none, none, none, none, none, none], [.inl (g 0)], mW (n, T, (hc, hs, hp), (0, sg), x) (.inl (0, 1, .inl g) :: .inl (2, 9, .inr f) :: J), 0, 0) _
  rw [hg]
  refine m_run 7 (ps' := (13, [some (.inr (.inl 0)), some (.inr (.inl 13)), some (.inr (.inl 14)), some (.inl n), some (.inl 0), some (.inl 1), some (.inl 0), none, none, none, none], [], mW (n, T, (hc, hs, hp), (0, sg), x) (.inl (0, 1, .inl g) :: .inl (2, 9, .inr f) :: J), 0, 0)) rfl ?_
  refine m_weak [some (.inr (.inl 0)), some (.inr (.inl 13)), some (.inr (.inl 14)), some (.inl n), some (.inl 0), some (.inl 1), some (.inl 0), none, none, none, none] ⟨rfl, ⟨rfl, ⟨rfl, ⟨rfl, ⟨rfl, ⟨rfl, ⟨rfl, trivial⟩⟩⟩⟩⟩⟩⟩ ?_
  exact a_soA hg hL hR 0 (by omega) (by omega) 0 (by rw [z_sub, Int.zero_add]; rfl)
