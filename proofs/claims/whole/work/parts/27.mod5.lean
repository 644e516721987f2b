theorem d_lnC {X : Nat × Nat × (Nat → Int32)} {C : CS} {S : Int → Int} {P K : TS} {F : Int × Int × Int} {B : (Nat → Int64) × (Nat → Int64)} {G : Int → Int} {E : Int × Int} {n : Int} {tb : Int → Int → Int} {a b : Int} (hn : okN n) (ht : tbR n tb) (hB : rowsB n tb B) (ha : 0 ≤ a) (ha2 : a < NP n) (hb : 0 ≤ b) (hb2 : b < NP n) : m_Run X 115 [.inr (.inl 13), .inl a, .inl b] (mW C (S, P, K, F, B, G, E)) (m_V (onfS (lnC n tb a b)) (mW C (S, P, K, F, B, G, E))) := by
  have h91 := np_91 hn
  rw [← lnM_C hn ht ha ha2]
  exact d_ln hB ha (by omega) hb (by omega)
theorem d_lnCP {X : Nat × Nat × (Nat → Int32)} {C : CS} {S : Int → Int} {P K : TS} {F : Int × Int × Int} {B : (Nat → Int64) × (Nat → Int64)} {G : Int → Int} {E : Int × Int} {n : Int} {tb : Int → Int → Int} {a b : Int} (hn : okN n) (ht : tbR n tb) (hB : rowsB n tb B) (hP : plP n tb) (ha : 0 ≤ a) (ha2 : a < NP n) (hb : 0 ≤ b) (hb2 : b < NP n) : m_Run X 115 [.inr (.inl 13), .inl a, .inl b] (mW C (S, P, K, F, B, G, E)) (m_V (lnC n tb a b) (mW C (S, P, K, F, B, G, E))) := by
  have h1 := d_lnC (X := X) (C := C) (S := S) (P := P) (K := K) (F := F) (G := G) (E := E) hn ht hB ha ha2 hb hb2
  rw [onf_v (pl_ln hn ht hP ha ha2 hb hb2).1.1] at h1
  exact h1
theorem d_mtC {X : Nat × Nat × (Nat → Int32)} {C : CS} {S : Int → Int} {P K : TS} {F : Int × Int × Int} {B : (Nat → Int64) × (Nat → Int64)} {G : Int → Int} {E : Int × Int} {n : Int} {tb : Int → Int → Int} {a b : Int} (hn : okN n) (ht : tbR n tb) (hB : rowsB n tb B) (ha : 0 ≤ a) (ha2 : a < NP n) (hb : 0 ≤ b) (hb2 : b < NP n) : m_Run X 116 [.inr (.inl 13), .inl a, .inl b] (mW C (S, P, K, F, B, G, E)) (m_V (onfS (mtC n tb a b)) (mW C (S, P, K, F, B, G, E))) := by
  have h91 := np_91 hn
  rw [← mtM_C hn ht ha ha2]
  exact d_mt hB ha (by omega) hb (by omega)
theorem d_mtCP {X : Nat × Nat × (Nat → Int32)} {C : CS} {S : Int → Int} {P K : TS} {F : Int × Int × Int} {B : (Nat → Int64) × (Nat → Int64)} {G : Int → Int} {E : Int × Int} {n : Int} {tb : Int → Int → Int} {a b : Int} (hn : okN n) (ht : tbR n tb) (hB : rowsB n tb B) (hP : plP n tb) (ha : 0 ≤ a) (ha2 : a < NP n) (hb : 0 ≤ b) (hb2 : b < NP n) : m_Run X 116 [.inr (.inl 13), .inl a, .inl b] (mW C (S, P, K, F, B, G, E)) (m_V (mtC n tb a b) (mW C (S, P, K, F, B, G, E))) := by
  have h1 := d_mtC (X := X) (C := C) (S := S) (P := P) (K := K) (F := F) (G := G) (E := E) hn ht hB ha ha2 hb hb2
  rw [onf_v (pl_mt hn ht hP ha ha2 hb hb2).1.1] at h1
  exact h1
theorem d_olC {X : Nat × Nat × (Nat → Int32)} {C : CS} {S : Int → Int} {P K : TS} {F : Int × Int × Int} {B : (Nat → Int64) × (Nat → Int64)} {G : Int → Int} {E : Int × Int} {n : Int} {tb : Int → Int → Int} {a b c : Int} (hn : okN n) (ht : tbR n tb) (hB : rowsB n tb B) (ha : 0 ≤ a) (ha2 : a < NP n) (hb : 0 ≤ b) (hb2 : b < NP n) (hc : 0 ≤ c) (hc2 : c < NP n) : m_Run X 124 [.inr (.inl 13), .inl a, .inl b, .inl c] (mW C (S, P, K, F, B, G, E)) (m_V (bI (olC n tb a b c)) (mW C (S, P, K, F, B, G, E))) := by
  have h91 := np_91 hn
  rw [← olM_C hn ht ha ha2]
  exact d_ol hB ha (by omega) hb (by omega) hc (by omega)
theorem at_face {n : Int} {tb : Int → Int → Int} {m w i : Int} (hn : okN n) (ht : tbR n tb) (h1 : 0 ≤ m) (h2 : m < NP n) (hw : 0 ≤ w) (hw2 : w ≤ 1) (hi : 0 ≤ i) : atM (rwR n tb (91 * w + m)) i = if w = 0 then onfS (ptC n tb m i) else onfS (ltC n tb m i) := by
  have h91 := np_91 hn
  rcases (show w = 0 ∨ w = 1 by omega) with rfl | rfl
  · rw [if_pos rfl, show 91 * 0 + m = m by omega, rwR_l (by omega)]
    exact atL_C hn ht h1 h2 hi
  · rw [if_neg (by decide), show 91 * 1 + m = 91 + m by omega, rwR_t h1]
    exact atP_C hn ht h1 h2 hi
theorem d_atL {X : Nat × Nat × (Nat → Int32)} {C : CS} {S : Int → Int} {P K : TS} {F : Int × Int × Int} {B : (Nat → Int64) × (Nat → Int64)} {G : Int → Int} {E : Int × Int} {n : Int} {tb : Int → Int → Int} {a i : Int} (hn : okN n) (ht : tbR n tb) (hB : rowsB n tb B) (ha : 0 ≤ a) (ha2 : a < NP n) (hi : 0 ≤ i) (hi2 : i ≤ n) : m_Run X 120 [.inr (.inl 13), .inl a, .inl i] (mW C (S, P, K, F, B, G, E)) (m_V (ptC n tb a i) (mW C (S, P, K, F, B, G, E))) := by
  have h91 := np_91 hn
  have hl := okN_lo hn
  have h1 := d_ati (X := X) (C := C) (S := S) (P := P) (K := K) (F := F) (G := G) (E := E) (a := a) (x := i) ha (by omega) (rwR_p hB ha (by omega)) hi ⟨by omega, by omega⟩
  rw [rwR_l (by omega), atL_C hn ht ha ha2 hi, onf_v (pt_on hn ht ha ha2 hi hi2).1.1] at h1
  exact h1
theorem d_atP {X : Nat × Nat × (Nat → Int32)} {C : CS} {S : Int → Int} {P K : TS} {F : Int × Int × Int} {B : (Nat → Int64) × (Nat → Int64)} {G : Int → Int} {E : Int × Int} {n : Int} {tb : Int → Int → Int} {a i : Int} (hn : okN n) (ht : tbR n tb) (hB : rowsB n tb B) (ha : 0 ≤ a) (ha2 : a < NP n) (hi : 0 ≤ i) (hi2 : i ≤ n) : m_Run X 120 [.inr (.inl 13), .inl (91 + a), .inl i] (mW C (S, P, K, F, B, G, E)) (m_V (ltC n tb a i) (mW C (S, P, K, F, B, G, E))) := by
  have h91 := np_91 hn
  have hl := okN_lo hn
  have h1 := d_ati (X := X) (C := C) (S := S) (P := P) (K := K) (F := F) (G := G) (E := E) (a := 91 + a) (x := i) (by omega) (by omega) (rwR_p hB (by omega) (by omega)) hi ⟨by omega, by omega⟩
  rw [rwR_t ha, atP_C hn ht ha ha2 hi, onf_v (lt_on hn ht ha ha2 hi hi2).1.1] at h1
  exact h1
theorem d_wrP {X : Nat × Nat × (Nat → Int32)} {C : CS} {n : Int} {S : Int → Int} {P K : TS} {F : Int × Int × Int} {B : (Nat → Int64) × (Nat → Int64)} {G : Int → Int} {E : Int × Int} {tb : Int → Int → Int} (hR : repM n S tb) (hB : rowsB n tb B) : m_Run X 117 [.inr (.inl 13), .inl 91] (mW C (S, P, K, F, B, G, E)) (m_V (paS n tb true) (mW C (S, P, K, F, B, G, E))) := by
  rw [← wr_pa_p hR.1 hR.tb]
  exact d_wr (fr := 91) (Rw := ptR n tb) hR.1 hR.2.1 (by omega) (by omega) (fun j h1 h2 => (hB j h1 h2).2)
theorem d_wrL {X : Nat × Nat × (Nat → Int32)} {C : CS} {n : Int} {S : Int → Int} {P K : TS} {F : Int × Int × Int} {B : (Nat → Int64) × (Nat → Int64)} {G : Int → Int} {E : Int × Int} {tb : Int → Int → Int} (hR : repM n S tb) (hB : rowsB n tb B) : m_Run X 117 [.inr (.inl 13), .inl 0] (mW C (S, P, K, F, B, G, E)) (m_V (paS n tb false) (mW C (S, P, K, F, B, G, E))) := by
  rw [← wr_pa_l hR.1 hR.tb]
  exact d_wr (fr := 0) (Rw := lnR n tb) hR.1 hR.2.1 (by omega) (by omega) (fun j h1 h2 => by rw [Int.zero_add]; exact (hB j h1 h2).1)
theorem pa_in {n : Int} {tb : Int → Int → Int} (hn : okN n) (ht : tbR n tb) (r : Bool) : 0 ≤ paS n tb r ∧ paS n tb r ≤ 8281 := by
  cases r
  · rw [← wr_pa_l hn ht]; exact wrS_in n _ hn
  · rw [← wr_pa_p hn ht]; exact wrS_in n _ hn
theorem d_plS {X : Nat × Nat × (Nat → Int32)} {C : CS} {n : Int} {S : Int → Int} {P K : TS} {F : Int × Int × Int} {B : (Nat → Int64) × (Nat → Int64)} {G : Int → Int} {E : Int × Int} {tb : Int → Int → Int} (hR : repM n S tb) : m_Run X 118 [.inr (.inl 13)] (mW C (S, P, K, F, B, G, E)) (fun r w => r = some (.inl (bI (plS n tb))) ∧ ∃ B2 : (Nat → Int64) × (Nat → Int64), w = mW C (S, P, K, F, B2, G, E) ∧ rowsB n tb B2) := by
  rw [← plM_S hR.1 hR.tb]
  exact d_pl hR
theorem plS_P {n : Int} {tb : Int → Int → Int} (hn : okN n) (ht : tbR n tb) (h : plS n tb = true) : plP n tb := plM_P hn (by rw [plM_S hn ht]; exact h)
set_option maxHeartbeats 4000000 in
set_option maxRecDepth 100000 in
theorem d_fon {X : Nat × Nat × (Nat → Int32)} {C : CS} {n : Int} {S : Int → Int} {P K : TS} {F : Int × Int × Int} {B : (Nat → Int64) × (Nat → Int64)} {G : Int → Int} {E : Int × Int} {tb : Int → Int → Int} {p l : Int} (hp : m_R p) (hll : m_R l) (hR : repM n S tb) : m_Run X 119 [.inr (.inl 13), .inl p, .inl l] (mW C (S, P, K, F, B, G, E)) (m_V (onFS n tb p l) (mW C (S, P, K, F, B, G, E))) := by
  have hn := hR.1
  have hl := okN_lo hn
  have hs0 := hR.2.1
  have hq := sq_b hn
  have hnp : NP n = n * n + n + 1 := rfl
  show m_Sem X 119 (0, [some (.inr (.inl 13)), some (.inl p), some (.inl l)], [], mW C (S, P, K, F, B, G, E), 0, 0) _
  refine m_run 2 (ps' := (2, [some (.inr (.inl 13)), some (.inl p), some (.inl l)], [.inl p, .inr (.inl 13)], mW C (S, P, K, F, B, G, E), 0, 0)) rfl ?_
  refine m_callVF [.inl p] [] rfl rfl ⟨_, rfl, rfl⟩ rfl rfl (d_ispt (e := p) hn hs0 hp) ?_
  show m_Sem X 119 (5, [some (.inr (.inl 13)), some (.inl p), some (.inl l)], [.inl (bI (inN (NP n) p))], mW C (S, P, K, F, B, G, E), 0, 0) _
  refine m_if rfl (bI_R (inN (NP n) p)) (fun (zc1 : (bI (inN (NP n) p)) = 0) => ?_) (fun (zc1 : ¬ (bI (inN (NP n) p)) = 0) => ?_)
  · replace zc1 : (inN (NP n) p) = false := bI_e0.mp zc1
    refine m_run 2 (ps' := (35, [some (.inr (.inl 13)), some (.inl p), some (.inl l)], [.inl (-1000001)], mW C (S, P, K, F, B, G, E), 0, 0)) rfl ?_
    exact m_ret1 rfl (Or.inl rfl) rfl (m_Vi (by unfold onFS; first | rw [if_pos zc1] | (rw [if_neg (by rw [zc1]; decide)]; first | rw [if_pos zc2] | (rw [if_neg (by rw [zc2]; decide), zc3]; rfl))))
  · replace zc1 : (inN (NP n) p) = true := bI_n0.mp zc1
    have zi1 := inN_i.mp zc1
    unfold NP at zi1
    refine m_run 2 (ps' := (10, [some (.inr (.inl 13)), some (.inl p), some (.inl l)], [.inl l, .inr (.inl 13)], mW C (S, P, K, F, B, G, E), 0, 0)) rfl ?_
    refine m_callVF [.inl l] [] rfl rfl ⟨_, rfl, rfl⟩ rfl rfl (d_ispt (e := l) hn hs0 hll) ?_
    show m_Sem X 119 (13, [some (.inr (.inl 13)), some (.inl p), some (.inl l)], [.inl (bI (inN (NP n) l))], mW C (S, P, K, F, B, G, E), 0, 0) _
    refine m_if rfl (bI_R (inN (NP n) l)) (fun (zc2 : ¬ (bI (inN (NP n) l)) = 0) => ?_) (fun (zc2 : ¬ ¬ (bI (inN (NP n) l)) = 0) => ?_)
    · replace zc2 : (inN (NP n) l) = true := bI_n0.mp zc2
      have zi2 := inN_i.mp zc2
      unfold NP at zi2
      refine m_run 3 (ps' := (24, [some (.inr (.inl 13)), some (.inl p), some (.inl l)], [.inl l, .inl p, .inr (.inl 13)], mW C (S, P, K, F, B, G, E), 0, 0)) rfl ?_
      refine m_callVF [.inl p, .inl l] [] rfl rfl ⟨_, rfl, rfl⟩ rfl rfl (d_on (p := p) (l := l) hR (by omega) (by omega) (by omega) (by omega)) ?_
      show m_Sem X 119 (27, [some (.inr (.inl 13)), some (.inl p), some (.inl l)], [.inl (bI (onC n tb p l))], mW C (S, P, K, F, B, G, E), 0, 0) _
      refine m_if rfl (bI_R (onC n tb p l)) (fun (zc3 : (bI (onC n tb p l)) = 0) => ?_) (fun (zc3 : ¬ (bI (onC n tb p l)) = 0) => ?_)
      · replace zc3 : (onC n tb p l) = false := bI_e0.mp zc3
        refine m_run 1 (ps' := (35, [some (.inr (.inl 13)), some (.inl p), some (.inl l)], [.inl 0], mW C (S, P, K, F, B, G, E), 0, 0)) rfl ?_
        exact m_ret1 rfl (Or.inl rfl) rfl (m_Vi (by unfold onFS; first | rw [if_pos zc1] | (rw [if_neg (by rw [zc1]; decide)]; first | rw [if_pos zc2] | (rw [if_neg (by rw [zc2]; decide), zc3]; rfl))))
      · replace zc3 : (onC n tb p l) = true := bI_n0.mp zc3
        refine m_run 2 (ps' := (35, [some (.inr (.inl 13)), some (.inl p), some (.inl l)], [.inl 1], mW C (S, P, K, F, B, G, E), 0, 0)) rfl ?_
        exact m_ret1 rfl (Or.inl rfl) rfl (m_Vi (by unfold onFS; first | rw [if_pos zc1] | (rw [if_neg (by rw [zc1]; decide)]; first | rw [if_pos zc2] | (rw [if_neg (by rw [zc2]; decide), zc3]; rfl))))
    · replace zc2 : (inN (NP n) l) = false := bI_e0.mp (Decidable.not_not.mp zc2)
      refine m_run 2 (ps' := (35, [some (.inr (.inl 13)), some (.inl p), some (.inl l)], [.inl (-1000001)], mW C (S, P, K, F, B, G, E), 0, 0)) rfl ?_
      exact m_ret1 rfl (Or.inl rfl) rfl (m_Vi (by unfold onFS; first | rw [if_pos zc1] | (rw [if_neg (by rw [zc1]; decide)]; first | rw [if_pos zc2] | (rw [if_neg (by rw [zc2]; decide), zc3]; rfl))))
set_option maxHeartbeats 4000000 in
set_option maxRecDepth 100000 in
theorem d_fat {X : Nat × Nat × (Nat → Int32)} {C : CS} {n : Int} {S : Int → Int} {P K : TS} {F : Int × Int × Int} {B : (Nat → Int64) × (Nat → Int64)} {G : Int → Int} {E : Int × Int} {tb : Int → Int → Int} {m wh i : Int} (hm : m_R m) (hw : m_R wh) (hi : m_R i) (hR : repM n S tb) : m_Run X 121 [.inr (.inl 13), .inl m, .inl wh, .inl i] (mW C (S, P, K, F, B, G, E)) (fun r w => r = some (.inl (atFS n tb m wh i)) ∧ ∃ B2 : (Nat → Int64) × (Nat → Int64), w = mW C (S, P, K, F, B2, G, E)) := by
  have hn := hR.1
  have hl := okN_lo hn
  have hs0 := hR.2.1
  have hq := sq_b hn
  have hnp : NP n = n * n + n + 1 := rfl
  show m_Sem X 121 (0, [some (.inr (.inl 13)), some (.inl m), some (.inl wh), some (.inl i)], [], mW C (S, P, K, F, B, G, E), 0, 0) _
  refine m_run 2 (ps' := (2, [some (.inr (.inl 13)), some (.inl m), some (.inl wh), some (.inl i)], [.inl m, .inr (.inl 13)], mW C (S, P, K, F, B, G, E), 0, 0)) rfl ?_
  refine m_callVF [.inl m] [] rfl rfl ⟨_, rfl, rfl⟩ rfl rfl (d_ispt (e := m) hn hs0 hm) ?_
  show m_Sem X 121 (5, [some (.inr (.inl 13)), some (.inl m), some (.inl wh), some (.inl i)], [.inl (bI (inN (NP n) m))], mW C (S, P, K, F, B, G, E), 0, 0) _
  refine m_if rfl (bI_R _) (fun (zc1 : (bI (inN (NP n) m)) = 0) => ?_) (fun (zc1 : ¬ (bI (inN (NP n) m)) = 0) => ?_)
  · replace zc1 : (inN (NP n) m) = false := bI_e0.mp zc1
    refine m_run 1 (ps' := (23, [some (.inr (.inl 13)), some (.inl m), some (.inl wh), some (.inl i)], [.inl (-1000001)], mW C (S, P, K, F, B, G, E), 0, 0)) rfl ?_
    exact m_ret1 rfl (Or.inl rfl) rfl (⟨congrArg (fun x => some (Sum.inl x)) (by unfold atFS; (repeat' split) <;> first | rfl | (exfalso; omega) | omega | simp_all), B, rfl⟩)
  · replace zc1 : (inN (NP n) m) = true := bI_n0.mp zc1
    have zi1 := inN_i.mp zc1
    unfold NP at zi1
    refine m_run 3 (ps' := (11, [some (.inr (.inl 13)), some (.inl m), some (.inl wh), some (.inl i)], [.inl 1, .inl 0, .inl wh], mW C (S, P, K, F, B, G, E), 0, 0)) rfl ?_
    refine m_callSF [.inl wh, .inl 0, .inl 1] [] rfl rfl rfl (d_in (v := wh) (l := 0) (m := 1) hw ⟨by omega, by omega⟩ ⟨by omega, by omega⟩) ?_
    show m_Sem X 121 (14, [some (.inr (.inl 13)), some (.inl m), some (.inl wh), some (.inl i)], [.inl (bI (insS wh 0 1))], mW C (S, P, K, F, B, G, E), 0, 0) _
    refine m_if rfl (bI_R _) (fun (zc2 : (bI (insS wh 0 1)) = 0) => ?_) (fun (zc2 : ¬ (bI (insS wh 0 1)) = 0) => ?_)
    · replace zc2 : (insS wh 0 1) = false := bI_e0.mp zc2
      have zi9 := insS_f.mp zc2
      refine m_run 1 (ps' := (23, [some (.inr (.inl 13)), some (.inl m), some (.inl wh), some (.inl i)], [.inl (-1000001)], mW C (S, P, K, F, B, G, E), 0, 0)) rfl ?_
      exact m_ret1 rfl (Or.inl rfl) rfl (⟨congrArg (fun x => some (Sum.inl x)) (by unfold atFS; (repeat' split) <;> first | rfl | (exfalso; omega) | omega | simp_all), B, rfl⟩)
    · replace zc2 : (insS wh 0 1) = true := bI_n0.mp zc2
      have zi9 := insS_i.mp zc2
      refine m_run 1 (ps' := (18, [some (.inr (.inl 13)), some (.inl m), some (.inl wh), some (.inl i)], [.inl i], mW C (S, P, K, F, B, G, E), 0, 0)) rfl ?_
      refine m_if rfl hi (fun (zc3 : 0 ≤ i) => ?_) (fun (zc3 : ¬ 0 ≤ i) => ?_)
      · refine m_run 1 (ps' := (25, [some (.inr (.inl 13)), some (.inl m), some (.inl wh), some (.inl i)], [.inr (.inl 13)], mW C (S, P, K, F, B, G, E), 0, 0)) rfl ?_
        refine m_callV [] [] rfl rfl ⟨_, rfl, rfl⟩ rfl rfl (d_draw hR) (fun r_ w_ hq_ _ => ?_)
        obtain ⟨rfl, B2, rfl, hB2⟩ := hq_
        show m_Sem X 121 (28, [some (.inr (.inl 13)), some (.inl m), some (.inl wh), some (.inl i)], [], mW C (S, P, K, F, B2, G, E), 0, 0) _
        refine m_run 7 (ps' := (36, [some (.inr (.inl 13)), some (.inl m), some (.inl wh), some (.inl i)], [.inl i, .inl ((91 * wh) + m), .inr (.inl 13)], mW C (S, P, K, F, B2, G, E), 0, 0)) rfl ?_
        refine m_callVF [.inl ((91 * wh) + m), .inl i] [] rfl rfl ⟨_, rfl, rfl⟩ rfl rfl (d_ati (a := ((91 * wh) + m)) (x := i) (by omega) (by omega) (rwR_p hB2 (by omega) (by omega)) (by omega) hi) ?_
        have zt1 := atM_in (rwR n tb ((91 * wh) + m)) i
        show m_Sem X 121 (39, [some (.inr (.inl 13)), some (.inl m), some (.inl wh), some (.inl i)], [.inl (atM (rwR n tb ((91 * wh) + m)) i)], mW C (S, P, K, F, B2, G, E), 0, 0) _
        exact m_ret1 rfl (Or.inl rfl) rfl (⟨congrArg (fun x => some (Sum.inl x)) (by rw [at_face hn (repM.tb hR) (by omega) (by omega) (by omega) (by omega) (by omega)]; unfold atFS; exact ((if_neg (by rw [zc1]; decide)).trans ((if_neg (by omega)).trans ((if_neg (by omega)).trans (if_neg (by omega))))).symm), B2, rfl⟩)
      · refine m_run 1 (ps' := (23, [some (.inr (.inl 13)), some (.inl m), some (.inl wh), some (.inl i)], [.inl (-1000001)], mW C (S, P, K, F, B, G, E), 0, 0)) rfl ?_
        exact m_ret1 rfl (Or.inl rfl) rfl (⟨congrArg (fun x => some (Sum.inl x)) (by unfold atFS; (repeat' split) <;> first | rfl | (exfalso; omega) | omega | simp_all), B, rfl⟩)
set_option maxHeartbeats 4000000 in
set_option maxRecDepth 100000 in
theorem d_fjo {X : Nat × Nat × (Nat → Int32)} {C : CS} {n : Int} {S : Int → Int} {P K : TS} {F : Int × Int × Int} {B : (Nat → Int64) × (Nat → Int64)} {G : Int → Int} {E : Int × Int} {tb : Int → Int → Int} {a b wh : Int} (ha : m_R a) (hb : m_R b) (hw : m_R wh) (hR : repM n S tb) : m_Run X 122 [.inr (.inl 13), .inl a, .inl b, .inl wh] (mW C (S, P, K, F, B, G, E)) (fun r w => r = some (.inl (joFS n tb a b wh)) ∧ ∃ B2 : (Nat → Int64) × (Nat → Int64), w = mW C (S, P, K, F, B2, G, E)) := by
  have hn := hR.1
  have hl := okN_lo hn
  have hs0 := hR.2.1
  have hq := sq_b hn
  have hnp : NP n = n * n + n + 1 := rfl
  show m_Sem X 122 (0, [some (.inr (.inl 13)), some (.inl a), some (.inl b), some (.inl wh)], [], mW C (S, P, K, F, B, G, E), 0, 0) _
  refine m_run 2 (ps' := (2, [some (.inr (.inl 13)), some (.inl a), some (.inl b), some (.inl wh)], [.inl a, .inr (.inl 13)], mW C (S, P, K, F, B, G, E), 0, 0)) rfl ?_
  refine m_callVF [.inl a] [] rfl rfl ⟨_, rfl, rfl⟩ rfl rfl (d_ispt (e := a) hn hs0 ha) ?_
  show m_Sem X 122 (5, [some (.inr (.inl 13)), some (.inl a), some (.inl b), some (.inl wh)], [.inl (bI (inN (NP n) a))], mW C (S, P, K, F, B, G, E), 0, 0) _
  refine m_if rfl (bI_R _) (fun (zc1 : (bI (inN (NP n) a)) = 0) => ?_) (fun (zc1 : ¬ (bI (inN (NP n) a)) = 0) => ?_)
  · replace zc1 : (inN (NP n) a) = false := bI_e0.mp zc1
    refine m_run 1 (ps' := (32, [some (.inr (.inl 13)), some (.inl a), some (.inl b), some (.inl wh)], [.inl (-1000001)], mW C (S, P, K, F, B, G, E), 0, 0)) rfl ?_
    exact m_ret1 rfl (Or.inl rfl) rfl (⟨congrArg (fun x => some (Sum.inl x)) (by unfold joFS; (repeat' split) <;> first | rfl | (exfalso; omega) | omega | simp_all), B, rfl⟩)
  · replace zc1 : (inN (NP n) a) = true := bI_n0.mp zc1
    have zi1 := inN_i.mp zc1
    unfold NP at zi1
    refine m_run 2 (ps' := (10, [some (.inr (.inl 13)), some (.inl a), some (.inl b), some (.inl wh)], [.inl b, .inr (.inl 13)], mW C (S, P, K, F, B, G, E), 0, 0)) rfl ?_
    refine m_callVF [.inl b] [] rfl rfl ⟨_, rfl, rfl⟩ rfl rfl (d_ispt (e := b) hn hs0 hb) ?_
    show m_Sem X 122 (13, [some (.inr (.inl 13)), some (.inl a), some (.inl b), some (.inl wh)], [.inl (bI (inN (NP n) b))], mW C (S, P, K, F, B, G, E), 0, 0) _
    refine m_if rfl (bI_R _) (fun (zc2 : (bI (inN (NP n) b)) = 0) => ?_) (fun (zc2 : ¬ (bI (inN (NP n) b)) = 0) => ?_)
    · replace zc2 : (inN (NP n) b) = false := bI_e0.mp zc2
      refine m_run 1 (ps' := (32, [some (.inr (.inl 13)), some (.inl a), some (.inl b), some (.inl wh)], [.inl (-1000001)], mW C (S, P, K, F, B, G, E), 0, 0)) rfl ?_
      exact m_ret1 rfl (Or.inl rfl) rfl (⟨congrArg (fun x => some (Sum.inl x)) (by unfold joFS; (repeat' split) <;> first | rfl | (exfalso; omega) | omega | simp_all), B, rfl⟩)
    · replace zc2 : (inN (NP n) b) = true := bI_n0.mp zc2
      have zi2 := inN_i.mp zc2
      unfold NP at zi2
      refine m_run 3 (ps' := (19, [some (.inr (.inl 13)), some (.inl a), some (.inl b), some (.inl wh)], [.inl 1, .inl 0, .inl wh], mW C (S, P, K, F, B, G, E), 0, 0)) rfl ?_
      refine m_callSF [.inl wh, .inl 0, .inl 1] [] rfl rfl rfl (d_in (v := wh) (l := 0) (m := 1) hw ⟨by omega, by omega⟩ ⟨by omega, by omega⟩) ?_
      show m_Sem X 122 (22, [some (.inr (.inl 13)), some (.inl a), some (.inl b), some (.inl wh)], [.inl (bI (insS wh 0 1))], mW C (S, P, K, F, B, G, E), 0, 0) _
      refine m_if rfl (bI_R _) (fun (zc3 : (bI (insS wh 0 1)) = 0) => ?_) (fun (zc3 : ¬ (bI (insS wh 0 1)) = 0) => ?_)
      · replace zc3 : (insS wh 0 1) = false := bI_e0.mp zc3
        have zi9 := insS_f.mp zc3
        refine m_run 1 (ps' := (32, [some (.inr (.inl 13)), some (.inl a), some (.inl b), some (.inl wh)], [.inl (-1000001)], mW C (S, P, K, F, B, G, E), 0, 0)) rfl ?_
        exact m_ret1 rfl (Or.inl rfl) rfl (⟨congrArg (fun x => some (Sum.inl x)) (by unfold joFS; (repeat' split) <;> first | rfl | (exfalso; omega) | omega | simp_all), B, rfl⟩)
      · replace zc3 : (insS wh 0 1) = true := bI_n0.mp zc3
        have zi9 := insS_i.mp zc3
        refine m_run 2 (ps' := (27, [some (.inr (.inl 13)), some (.inl a), some (.inl b), some (.inl wh)], [.inl b, .inl a], mW C (S, P, K, F, B, G, E), 0, 0)) rfl ?_
        refine m_icmp rfl ha hb (fun (zc4 : ¬ a = b) => ?_) (fun (zc4 : ¬ ¬ a = b) => ?_)
        · refine m_run 1 (ps' := (34, [some (.inr (.inl 13)), some (.inl a), some (.inl b), some (.inl wh)], [.inr (.inl 13)], mW C (S, P, K, F, B, G, E), 0, 0)) rfl ?_
          refine m_callV [] [] rfl rfl ⟨_, rfl, rfl⟩ rfl rfl (d_draw hR) (fun r_ w_ hq_ _ => ?_)
          obtain ⟨rfl, B2, rfl, hB2⟩ := hq_
          show m_Sem X 122 (37, [some (.inr (.inl 13)), some (.inl a), some (.inl b), some (.inl wh)], [], mW C (S, P, K, F, B2, G, E), 0, 0) _
          refine m_run 1 (ps' := (38, [some (.inr (.inl 13)), some (.inl a), some (.inl b), some (.inl wh)], [.inl wh], mW C (S, P, K, F, B2, G, E), 0, 0)) rfl ?_
          refine m_if rfl hw (fun (zc5 : ¬ wh = 0) => ?_) (fun (zc5 : ¬ ¬ wh = 0) => ?_)
          · refine m_run 3 (ps' := (53, [some (.inr (.inl 13)), some (.inl a), some (.inl b), some (.inl wh)], [.inl b, .inl a, .inr (.inl 13)], mW C (S, P, K, F, B2, G, E), 0, 0)) rfl ?_
            refine m_callVF [.inl a, .inl b] [] rfl rfl ⟨_, rfl, rfl⟩ rfl rfl (d_mtC (a := a) (b := b) hn (repM.tb hR) hB2 (by omega) (by omega) (by omega) (by omega)) ?_
            show m_Sem X 122 (56, [some (.inr (.inl 13)), some (.inl a), some (.inl b), some (.inl wh)], [.inl (onfS (mtC n tb a b))], mW C (S, P, K, F, B2, G, E), 0, 0) _
            exact m_ret1 rfl (Or.inl rfl) rfl (⟨congrArg (fun x => some (Sum.inl x)) (by unfold joFS; rw [if_neg (by rw [zc1]; decide), if_neg (by rw [zc2]; decide), if_neg zc4, if_neg (by omega), if_neg (by omega), if_neg zc5]), B2, rfl⟩)
          · replace zc5 : wh = 0 := Decidable.not_not.mp zc5
            refine m_run 3 (ps' := (44, [some (.inr (.inl 13)), some (.inl a), some (.inl b), some (.inl wh)], [.inl b, .inl a, .inr (.inl 13)], mW C (S, P, K, F, B2, G, E), 0, 0)) rfl ?_
            refine m_callVF [.inl a, .inl b] [] rfl rfl ⟨_, rfl, rfl⟩ rfl rfl (d_lnC (a := a) (b := b) hn (repM.tb hR) hB2 (by omega) (by omega) (by omega) (by omega)) ?_
            show m_Sem X 122 (47, [some (.inr (.inl 13)), some (.inl a), some (.inl b), some (.inl wh)], [.inl (onfS (lnC n tb a b))], mW C (S, P, K, F, B2, G, E), 0, 0) _
            refine m_run 1 (ps' := (56, [some (.inr (.inl 13)), some (.inl a), some (.inl b), some (.inl wh)], [.inl (onfS (lnC n tb a b))], mW C (S, P, K, F, B2, G, E), 0, 0)) rfl ?_
            exact m_ret1 rfl (Or.inl rfl) rfl (⟨congrArg (fun x => some (Sum.inl x)) (by unfold joFS; rw [if_neg (by rw [zc1]; decide), if_neg (by rw [zc2]; decide), if_neg zc4, if_neg (by omega), if_neg (by omega), if_pos zc5]), B2, rfl⟩)
        · replace zc4 : a = b := Decidable.not_not.mp zc4
          refine m_run 1 (ps' := (32, [some (.inr (.inl 13)), some (.inl a), some (.inl b), some (.inl wh)], [.inl (-1000001)], mW C (S, P, K, F, B, G, E), 0, 0)) rfl ?_
          exact m_ret1 rfl (Or.inl rfl) rfl (⟨congrArg (fun x => some (Sum.inl x)) (by unfold joFS; (repeat' split) <;> first | rfl | (exfalso; omega) | omega | simp_all), B, rfl⟩)
set_option maxHeartbeats 4000000 in
set_option maxRecDepth 100000 in
theorem d_fpl {X : Nat × Nat × (Nat → Int32)} {C : CS} {n : Int} {S : Int → Int} {P K : TS} {F : Int × Int × Int} {B : (Nat → Int64) × (Nat → Int64)} {G : Int → Int} {E : Int × Int} {tb : Int → Int → Int} {wh : Int} (hw : m_R wh) (hR : repM n S tb) : m_Run X 123 [.inr (.inl 13), .inl wh] (mW C (S, P, K, F, B, G, E)) (fun r w => r = some (.inl (plFS n tb wh)) ∧ ∃ B2 : (Nat → Int64) × (Nat → Int64), w = mW C (S, P, K, F, B2, G, E)) := by
  have hn := hR.1
  have hl := okN_lo hn
  have hs0 := hR.2.1
  have hq := sq_b hn
  have hnp : NP n = n * n + n + 1 := rfl
  show m_Sem X 123 (0, [some (.inr (.inl 13)), some (.inl wh)], [], mW C (S, P, K, F, B, G, E), 0, 0) _
  refine m_run 3 (ps' := (3, [some (.inr (.inl 13)), some (.inl wh)], [.inl 2, .inl 0, .inl wh], mW C (S, P, K, F, B, G, E), 0, 0)) rfl ?_
  refine m_callSF [.inl wh, .inl 0, .inl 2] [] rfl rfl rfl (d_in (v := wh) (l := 0) (m := 2) hw ⟨by omega, by omega⟩ ⟨by omega, by omega⟩) ?_
  show m_Sem X 123 (6, [some (.inr (.inl 13)), some (.inl wh)], [.inl (bI (insS wh 0 2))], mW C (S, P, K, F, B, G, E), 0, 0) _
  refine m_if rfl (bI_R _) (fun (zc1 : ¬ (bI (insS wh 0 2)) = 0) => ?_) (fun (zc1 : ¬ ¬ (bI (insS wh 0 2)) = 0) => ?_)
  · replace zc1 : (insS wh 0 2) = true := bI_n0.mp zc1
    have zi9 := insS_i.mp zc1
    refine m_run 1 (ps' := (13, [some (.inr (.inl 13)), some (.inl wh)], [.inr (.inl 13)], mW C (S, P, K, F, B, G, E), 0, 0)) rfl ?_
    refine m_callV [] [] rfl rfl ⟨_, rfl, rfl⟩ rfl rfl (d_draw hR) (fun r_ w_ hq_ _ => ?_)
    obtain ⟨rfl, B2, rfl, hB2⟩ := hq_
    show m_Sem X 123 (16, [some (.inr (.inl 13)), some (.inl wh)], [], mW C (S, P, K, F, B2, G, E), 0, 0) _
    refine m_run 1 (ps' := (17, [some (.inr (.inl 13)), some (.inl wh)], [.inl wh], mW C (S, P, K, F, B2, G, E), 0, 0)) rfl ?_
    refine m_if rfl hw (fun (zc2 : ¬ wh = 0) => ?_) (fun (zc2 : ¬ ¬ wh = 0) => ?_)
    · refine m_run 2 (ps' := (45, [some (.inr (.inl 13)), some (.inl wh)], [.inl 1, .inl wh], mW C (S, P, K, F, B2, G, E), 0, 0)) rfl ?_
      refine m_icmp rfl hw ⟨by omega, by omega⟩ (fun (zc3 : ¬ wh = 1) => ?_) (fun (zc3 : ¬ ¬ wh = 1) => ?_)
      · refine m_run 2 (ps' := (59, [some (.inr (.inl 13)), some (.inl wh)], [.inl 0, .inr (.inl 13)], mW C (S, P, K, F, B2, G, E), 0, 0)) rfl ?_
        refine m_callVF [.inl 0] [] rfl rfl ⟨_, rfl, rfl⟩ rfl rfl (d_wrL hR hB2) ?_
        have zt1 := pa_in hn (repM.tb hR) false
        show m_Sem X 123 (62, [some (.inr (.inl 13)), some (.inl wh)], [.inl (paS n tb false)], mW C (S, P, K, F, B2, G, E), 0, 0) _
        exact m_ret1 rfl (Or.inl rfl) rfl (⟨congrArg (fun x => some (Sum.inl x)) (by unfold plFS; rw [if_neg zc2, if_neg zc3, if_pos (by omega)]), B2, rfl⟩)
      · replace zc3 : wh = 1 := Decidable.not_not.mp zc3
        refine m_run 2 (ps' := (51, [some (.inr (.inl 13)), some (.inl wh)], [.inl 91, .inr (.inl 13)], mW C (S, P, K, F, B2, G, E), 0, 0)) rfl ?_
        refine m_callVF [.inl 91] [] rfl rfl ⟨_, rfl, rfl⟩ rfl rfl (d_wrP hR hB2) ?_
        have zt1 := pa_in hn (repM.tb hR) true
        show m_Sem X 123 (54, [some (.inr (.inl 13)), some (.inl wh)], [.inl (paS n tb true)], mW C (S, P, K, F, B2, G, E), 0, 0) _
        refine m_run 1 (ps' := (62, [some (.inr (.inl 13)), some (.inl wh)], [.inl (paS n tb true)], mW C (S, P, K, F, B2, G, E), 0, 0)) rfl ?_
        exact m_ret1 rfl (Or.inl rfl) rfl (⟨congrArg (fun x => some (Sum.inl x)) (by unfold plFS; rw [if_neg zc2, if_pos zc3]), B2, rfl⟩)
    · replace zc2 : wh = 0 := Decidable.not_not.mp zc2
      refine m_run 2 (ps' := (23, [some (.inr (.inl 13)), some (.inl wh)], [.inl 91, .inr (.inl 13)], mW C (S, P, K, F, B2, G, E), 0, 0)) rfl ?_
      refine m_callVF [.inl 91] [] rfl rfl ⟨_, rfl, rfl⟩ rfl rfl (d_wrP hR hB2) ?_
      have zt1 := pa_in hn (repM.tb hR) true
      show m_Sem X 123 (26, [some (.inr (.inl 13)), some (.inl wh)], [.inl (paS n tb true)], mW C (S, P, K, F, B2, G, E), 0, 0) _
      refine m_run 2 (ps' := (28, [some (.inr (.inl 13)), some (.inl wh)], [.inl 0, .inr (.inl 13), .inl (paS n tb true)], mW C (S, P, K, F, B2, G, E), 0, 0)) rfl ?_
      refine m_callVF [.inl 0] [.inl (paS n tb true)] rfl rfl ⟨_, rfl, rfl⟩ rfl rfl (d_wrL hR hB2) ?_
      have zt2 := pa_in hn (repM.tb hR) false
      show m_Sem X 123 (31, [some (.inr (.inl 13)), some (.inl wh)], [.inl (paS n tb false), .inl (paS n tb true)], mW C (S, P, K, F, B2, G, E), 0, 0) _
      refine m_run 1 (ps' := (32, [some (.inr (.inl 13)), some (.inl wh)], [.inl ((paS n tb true) + (paS n tb false))], mW C (S, P, K, F, B2, G, E), 0, 0)) rfl ?_
      refine m_if rfl ⟨by omega, by omega⟩ (fun (zc3 : ¬ ((paS n tb true) + (paS n tb false)) = 0) => ?_) (fun (zc3 : ¬ ¬ ((paS n tb true) + (paS n tb false)) = 0) => ?_)
      · refine m_run 2 (ps' := (62, [some (.inr (.inl 13)), some (.inl wh)], [.inl 0], mW C (S, P, K, F, B2, G, E), 0, 0)) rfl ?_
        exact m_ret1 rfl (Or.inl rfl) rfl (⟨congrArg (fun x => some (Sum.inl x)) (by
            unfold plFS plS
            rw [if_pos zc2]
            by_cases h8 : paS n tb true = 0
            · rw [decide_eq_false (show ¬ paS n tb false = 0 by omega), Bool.and_false]; rfl
            · rw [decide_eq_false h8, Bool.false_and]; rfl), B2, rfl⟩)
      · replace zc3 : ((paS n tb true) + (paS n tb false)) = 0 := Decidable.not_not.mp zc3
        refine m_run 2 (ps' := (62, [some (.inr (.inl 13)), some (.inl wh)], [.inl 1], mW C (S, P, K, F, B2, G, E), 0, 0)) rfl ?_
        exact m_ret1 rfl (Or.inl rfl) rfl (⟨congrArg (fun x => some (Sum.inl x)) (by unfold plFS plS; rw [if_pos zc2, decide_eq_true (show paS n tb true = 0 by omega), decide_eq_true (show paS n tb false = 0 by omega)]; rfl), B2, rfl⟩)
  · replace zc1 : (insS wh 0 2) = false := bI_e0.mp (Decidable.not_not.mp zc1)
    have zi9 := insS_f.mp zc1
    refine m_run 1 (ps' := (11, [some (.inr (.inl 13)), some (.inl wh)], [.inl (-1000001)], mW C (S, P, K, F, B, G, E), 0, 0)) rfl ?_
    exact m_ret1 rfl (Or.inl rfl) rfl (⟨congrArg (fun x => some (Sum.inl x)) (by unfold plFS; rw [if_neg (by omega), if_neg (by omega), if_neg (by omega)]), B, rfl⟩)
theorem enum_inj {n : Int} {g : Int → Int} {P : Int → Bool} (h : enumG n g P) {i j : Int} (h1 : 0 ≤ i) (h2 : i ≤ n) (h3 : 0 ≤ j) (h4 : j ≤ n) (he : g i = g j) : i = j := by
  rcases Int.lt_trichotomy i j with h5 | h5 | h5
  · have h6 := h.2.1 i j h1 h5 h4; omega
  · exact h5
  · have h6 := h.2.1 j i h3 h5 h2; omega
theorem pb_pos {n : Int} {tb : Int → Int → Int} {l o i t : Int} (hn : okN n) (ht : tbR n tb) (h1 : 0 ≤ l) (h2 : l < NP n) (h3 : 0 ≤ i) (h4 : i < n) (t0 : 0 ≤ t) (t1 : t ≤ n) (hto : ptC n tb l t = o) : pbC n tb l o i = ptC n tb l (if i < t then i else i + 1) := by
  have he := pt_enum hn ht h1 h2
  unfold pbC
  by_cases h : i < t
  · have h5 := he.2.1 i t h3 h t1
    rw [if_pos (by omega), if_pos h]
  · rw [if_neg h, if_neg ?_]
    by_cases h6 : i = t
    · rw [h6]; omega
    · have h5 := he.2.1 t i t0 (by omega) (by omega)
      omega
set_option maxHeartbeats 4000000 in
set_option maxRecDepth 100000 in
theorem e_oth {X : Nat × Nat × (Nat → Int32)} {C : CS} {S : Int → Int} {P K : TS} {F : Int × Int × Int} {B : (Nat → Int64) × (Nat → Int64)} {G : Int → Int} {E : Int × Int} {n : Int} {tb : Int → Int → Int} {l i o t r : Int} (hn : okN n) (ht : tbR n tb) (hB : rowsB n tb B) (hl0 : 0 ≤ l) (hl1 : l < NP n) (hi0 : 0 ≤ i) (hi9 : i < n) (ho : m_R o) (t0 : 0 ≤ t) (t1 : t ≤ n) (hto : ptC n tb l t = o) (hr : r = if i < t then i else i + 1) : ∀ iv : Int, 0 ≤ iv → iv ≤ r → ∀ (u : Int) (hu : u = if t < iv then iv - 1 else iv), m_Sem X 126 (10, [some (.inr (.inl 13)), some (.inl l), some (.inl i), some (.inl o), some (.inl u), some (.inl (-1000004)), some (.inl iv), none], [], mW C (S, P, K, F, B, G, E), 0, 0) (m_V (ptC n tb l r) (mW C (S, P, K, F, B, G, E))) := by
  have hln := okN_lo hn
  have hr2 : (i < t ∧ r = i) ∨ (t ≤ i ∧ r = i + 1) := by rw [hr]; split <;> omega
  have he := pt_enum hn ht hl0 hl1
  have h91 := np_91 hn
  refine m_down 0 r ?_ ?_
  · intro u hu
    show m_Sem X 126 (10, [some (.inr (.inl 13)), some (.inl l), some (.inl i), some (.inl o), some (.inl u), some (.inl (-1000004)), some (.inl r), none], [], mW C (S, P, K, F, B, G, E), 0, 0) _
    refine m_run 1 (ps' := (12, [some (.inr (.inl 13)), some (.inl l), some (.inl i), some (.inl o), some (.inl u), some (.inl (-1000004)), some (.inl r), none], [.inl (-1000004)], mW C (S, P, K, F, B, G, E), 0, 0)) rfl ?_
    refine m_if rfl ⟨by omega, by omega⟩ (fun (zc1 : 0 ≤ (-1000004)) => absurd zc1 (by omega)) (fun (zc1 : ¬ 0 ≤ (-1000004)) => ?_)
    refine m_run 3 (ps' := (19, [some (.inr (.inl 13)), some (.inl l), some (.inl i), some (.inl o), some (.inl u), some (.inl (-1000004)), some (.inl r), none], [.inl r, .inl l, .inr (.inl 13)], mW C (S, P, K, F, B, G, E), 0, 0)) rfl ?_
    refine m_callVF [.inl l, .inl r] [] rfl rfl ⟨_, rfl, rfl⟩ rfl rfl (d_atL (a := l) (i := r) hn ht hB hl0 hl1 (by omega) (by omega)) ?_
    have zt1 := (pt_on (i := r) hn ht hl0 hl1 (by omega) (by omega)).1
    have zq : ptC n tb l r = o ↔ r = t := ⟨fun h9 => enum_inj he (by omega) (by omega) t0 t1 (h9.trans hto.symm), fun h9 => by rw [h9]; exact hto⟩
    show m_Sem X 126 (22, [some (.inr (.inl 13)), some (.inl l), some (.inl i), some (.inl o), some (.inl u), some (.inl (-1000004)), some (.inl r), none], [.inl (ptC n tb l r)], mW C (S, P, K, F, B, G, E), 0, 0) _
    refine m_run 3 (ps' := (27, [some (.inr (.inl 13)), some (.inl l), some (.inl i), some (.inl o), some (.inl u), some (.inl (-1000004)), some (.inl r), some (.inl (ptC n tb l r))], [.inl o, .inl (ptC n tb l r)], mW C (S, P, K, F, B, G, E), 0, 0)) rfl ?_
    refine m_icmp rfl ⟨by omega, by omega⟩ ho (fun (zc2 : (ptC n tb l r) = o) => absurd zc2 (by omega)) (fun (zc2 : ¬ (ptC n tb l r) = o) => ?_)
    refine m_run 2 (ps' := (33, [some (.inr (.inl 13)), some (.inl l), some (.inl i), some (.inl o), some (.inl u), some (.inl (-1000004)), some (.inl r), some (.inl (ptC n tb l r))], [.inl i, .inl u], mW C (S, P, K, F, B, G, E), 0, 0)) rfl ?_
    refine m_icmp rfl ⟨by omega, by omega⟩ ⟨by omega, by omega⟩ (fun (zc3 : ¬ u = i) => absurd zc3 (by intro h9; apply h9; rw [hu]; split <;> omega)) (fun (zc3 : ¬ ¬ u = i) => ?_)
    replace zc3 : u = i := Decidable.not_not.mp zc3
    refine m_run 6 (ps' := (50, [some (.inr (.inl 13)), some (.inl l), some (.inl i), some (.inl o), some (.inl u), some (.inl (ptC n tb l r)), some (.inl r), some (.inl (ptC n tb l r))], [.inl o, .inl (ptC n tb l r), .inl u], mW C (S, P, K, F, B, G, E), 0, 0)) rfl ?_
    refine m_icmp rfl ⟨by omega, by omega⟩ ho (fun (zc4 : (ptC n tb l r) = o) => absurd zc4 (by omega)) (fun (zc4 : ¬ (ptC n tb l r) = o) => ?_)
    refine m_run 7 (ps' := (12, [some (.inr (.inl 13)), some (.inl l), some (.inl i), some (.inl o), some (.inl (u + 1)), some (.inl (ptC n tb l r)), some (.inl (r + 1)), some (.inl (ptC n tb l r))], [.inl (ptC n tb l r)], mW C (S, P, K, F, B, G, E), 0, 0)) rfl ?_
    refine m_if rfl ⟨by omega, by omega⟩ (fun (zc5 : 0 ≤ (ptC n tb l r)) => ?_) (fun (zc5 : ¬ 0 ≤ (ptC n tb l r)) => absurd zc5 (not_not_intro (by omega)))
    refine m_run 1 (ps' := (69, [some (.inr (.inl 13)), some (.inl l), some (.inl i), some (.inl o), some (.inl (u + 1)), some (.inl (ptC n tb l r)), some (.inl (r + 1)), some (.inl (ptC n tb l r))], [.inl (ptC n tb l r)], mW C (S, P, K, F, B, G, E), 0, 0)) rfl ?_
    exact m_ret1 rfl (Or.inl rfl) rfl (m_Vi rfl)
  · intro iv hi1 hi2 ih u hu
    refine m_run 1 (ps' := (12, [some (.inr (.inl 13)), some (.inl l), some (.inl i), some (.inl o), some (.inl u), some (.inl (-1000004)), some (.inl iv), none], [.inl (-1000004)], mW C (S, P, K, F, B, G, E), 0, 0)) rfl ?_
    refine m_if rfl ⟨by omega, by omega⟩ (fun (zc1 : 0 ≤ (-1000004)) => absurd zc1 (by omega)) (fun (zc1 : ¬ 0 ≤ (-1000004)) => ?_)
    refine m_run 3 (ps' := (19, [some (.inr (.inl 13)), some (.inl l), some (.inl i), some (.inl o), some (.inl u), some (.inl (-1000004)), some (.inl iv), none], [.inl iv, .inl l, .inr (.inl 13)], mW C (S, P, K, F, B, G, E), 0, 0)) rfl ?_
    refine m_callVF [.inl l, .inl iv] [] rfl rfl ⟨_, rfl, rfl⟩ rfl rfl (d_atL (a := l) (i := iv) hn ht hB hl0 hl1 (by omega) (by omega)) ?_
    have zt1 := (pt_on (i := iv) hn ht hl0 hl1 (by omega) (by omega)).1
    have zq : ptC n tb l iv = o ↔ iv = t := ⟨fun h9 => enum_inj he (by omega) (by omega) t0 t1 (h9.trans hto.symm), fun h9 => by rw [h9]; exact hto⟩
    show m_Sem X 126 (22, [some (.inr (.inl 13)), some (.inl l), some (.inl i), some (.inl o), some (.inl u), some (.inl (-1000004)), some (.inl iv), none], [.inl (ptC n tb l iv)], mW C (S, P, K, F, B, G, E), 0, 0) _
    refine m_run 3 (ps' := (27, [some (.inr (.inl 13)), some (.inl l), some (.inl i), some (.inl o), some (.inl u), some (.inl (-1000004)), some (.inl iv), some (.inl (ptC n tb l iv))], [.inl o, .inl (ptC n tb l iv)], mW C (S, P, K, F, B, G, E), 0, 0)) rfl ?_
    refine m_icmp rfl ⟨by omega, by omega⟩ ho (fun (zc2 : (ptC n tb l iv) = o) => ?_) (fun (zc2 : ¬ (ptC n tb l iv) = o) => ?_)
    · refine m_run 5 (ps' := (50, [some (.inr (.inl 13)), some (.inl l), some (.inl i), some (.inl o), some (.inl u), some (.inl (-1000004)), some (.inl iv), some (.inl (ptC n tb l iv))], [.inl o, .inl (ptC n tb l iv), .inl u], mW C (S, P, K, F, B, G, E), 0, 0)) rfl ?_
      refine m_icmp rfl ⟨by omega, by omega⟩ ho (fun (zc3 : (ptC n tb l iv) = o) => ?_) (fun (zc3 : ¬ (ptC n tb l iv) = o) => ?_)
      · refine m_run 5 (ps' := (10, [some (.inr (.inl 13)), some (.inl l), some (.inl i), some (.inl o), some (.inl (u + 0)), some (.inl (-1000004)), some (.inl (iv + 1)), some (.inl (ptC n tb l iv))], [], mW C (S, P, K, F, B, G, E), 0, 0)) rfl ?_
        refine m_weak [some (.inr (.inl 13)), some (.inl l), some (.inl i), some (.inl o), some (.inl (u + 0)), some (.inl (-1000004)), some (.inl (iv + 1)), none] ⟨rfl, ⟨rfl, ⟨rfl, ⟨rfl, ⟨rfl, ⟨rfl, ⟨rfl, trivial⟩⟩⟩⟩⟩⟩⟩ ?_
        exact ih _ (by rw [hu]; (repeat' split) <;> omega)
      · refine m_run 6 (ps' := (10, [some (.inr (.inl 13)), some (.inl l), some (.inl i), some (.inl o), some (.inl (u + 1)), some (.inl (-1000004)), some (.inl (iv + 1)), some (.inl (ptC n tb l iv))], [], mW C (S, P, K, F, B, G, E), 0, 0)) rfl ?_
        refine m_weak [some (.inr (.inl 13)), some (.inl l), some (.inl i), some (.inl o), some (.inl (u + 1)), some (.inl (-1000004)), some (.inl (iv + 1)), none] ⟨rfl, ⟨rfl, ⟨rfl, ⟨rfl, ⟨rfl, ⟨rfl, ⟨rfl, trivial⟩⟩⟩⟩⟩⟩⟩ ?_
        exact ih _ (by rw [hu]; (repeat' split) <;> omega)
    · refine m_run 2 (ps' := (33, [some (.inr (.inl 13)), some (.inl l), some (.inl i), some (.inl o), some (.inl u), some (.inl (-1000004)), some (.inl iv), some (.inl (ptC n tb l iv))], [.inl i, .inl u], mW C (S, P, K, F, B, G, E), 0, 0)) rfl ?_
      refine m_icmp rfl ⟨by omega, by omega⟩ ⟨by omega, by omega⟩ (fun (zc3 : ¬ u = i) => ?_) (fun (zc3 : ¬ ¬ u = i) => ?_)
      · refine m_run 5 (ps' := (50, [some (.inr (.inl 13)), some (.inl l), some (.inl i), some (.inl o), some (.inl u), some (.inl (-1000004)), some (.inl iv), some (.inl (ptC n tb l iv))], [.inl o, .inl (ptC n tb l iv), .inl u], mW C (S, P, K, F, B, G, E), 0, 0)) rfl ?_
        refine m_icmp rfl ⟨by omega, by omega⟩ ho (fun (zc4 : (ptC n tb l iv) = o) => ?_) (fun (zc4 : ¬ (ptC n tb l iv) = o) => ?_)
        · refine m_run 5 (ps' := (10, [some (.inr (.inl 13)), some (.inl l), some (.inl i), some (.inl o), some (.inl (u + 0)), some (.inl (-1000004)), some (.inl (iv + 1)), some (.inl (ptC n tb l iv))], [], mW C (S, P, K, F, B, G, E), 0, 0)) rfl ?_
          refine m_weak [some (.inr (.inl 13)), some (.inl l), some (.inl i), some (.inl o), some (.inl (u + 0)), some (.inl (-1000004)), some (.inl (iv + 1)), none] ⟨rfl, ⟨rfl, ⟨rfl, ⟨rfl, ⟨rfl, ⟨rfl, ⟨rfl, trivial⟩⟩⟩⟩⟩⟩⟩ ?_
          exact ih _ (by rw [hu]; (repeat' split) <;> omega)
        · refine m_run 6 (ps' := (10, [some (.inr (.inl 13)), some (.inl l), some (.inl i), some (.inl o), some (.inl (u + 1)), some (.inl (-1000004)), some (.inl (iv + 1)), some (.inl (ptC n tb l iv))], [], mW C (S, P, K, F, B, G, E), 0, 0)) rfl ?_
          refine m_weak [some (.inr (.inl 13)), some (.inl l), some (.inl i), some (.inl o), some (.inl (u + 1)), some (.inl (-1000004)), some (.inl (iv + 1)), none] ⟨rfl, ⟨rfl, ⟨rfl, ⟨rfl, ⟨rfl, ⟨rfl, ⟨rfl, trivial⟩⟩⟩⟩⟩⟩⟩ ?_
          exact ih _ (by rw [hu]; (repeat' split) <;> omega)
      · replace zc3 : u = i := Decidable.not_not.mp zc3
        refine m_run 6 (ps' := (50, [some (.inr (.inl 13)), some (.inl l), some (.inl i), some (.inl o), some (.inl u), some (.inl (ptC n tb l iv)), some (.inl iv), some (.inl (ptC n tb l iv))], [.inl o, .inl (ptC n tb l iv), .inl u], mW C (S, P, K, F, B, G, E), 0, 0)) rfl ?_
        refine m_icmp rfl ⟨by omega, by omega⟩ ho (fun (zc4 : (ptC n tb l iv) = o) => ?_) (fun (zc4 : ¬ (ptC n tb l iv) = o) => ?_)
        · refine m_run 5 (ps' := (10, [some (.inr (.inl 13)), some (.inl l), some (.inl i), some (.inl o), some (.inl (u + 0)), some (.inl (ptC n tb l iv)), some (.inl (iv + 1)), some (.inl (ptC n tb l iv))], [], mW C (S, P, K, F, B, G, E), 0, 0)) rfl ?_
          refine m_weak [some (.inr (.inl 13)), some (.inl l), some (.inl i), some (.inl o), some (.inl (u + 0)), some (.inl (ptC n tb l iv)), some (.inl (iv + 1)), none] ⟨rfl, ⟨rfl, ⟨rfl, ⟨rfl, ⟨rfl, ⟨rfl, ⟨rfl, trivial⟩⟩⟩⟩⟩⟩⟩ ?_
          exfalso
          rw [hu] at zc3
          split at zc3 <;> omega
        · refine m_run 6 (ps' := (10, [some (.inr (.inl 13)), some (.inl l), some (.inl i), some (.inl o), some (.inl (u + 1)), some (.inl (ptC n tb l iv)), some (.inl (iv + 1)), some (.inl (ptC n tb l iv))], [], mW C (S, P, K, F, B, G, E), 0, 0)) rfl ?_
          refine m_weak [some (.inr (.inl 13)), some (.inl l), some (.inl i), some (.inl o), some (.inl (u + 1)), some (.inl (ptC n tb l iv)), some (.inl (iv + 1)), none] ⟨rfl, ⟨rfl, ⟨rfl, ⟨rfl, ⟨rfl, ⟨rfl, ⟨rfl, trivial⟩⟩⟩⟩⟩⟩⟩ ?_
          exfalso
          rw [hu] at zc3
          split at zc3 <;> omega
set_option maxHeartbeats 4000000 in
set_option maxRecDepth 100000 in
theorem d_oth {X : Nat × Nat × (Nat → Int32)} {C : CS} {S : Int → Int} {P K : TS} {F : Int × Int × Int} {B : (Nat → Int64) × (Nat → Int64)} {G : Int → Int} {E : Int × Int} {n : Int} {tb : Int → Int → Int} {l i o : Int} (hn : okN n) (ht : tbR n tb) (hB : rowsB n tb B) (hl0 : 0 ≤ l) (hl1 : l < NP n) (hi0 : 0 ≤ i) (hi9 : i < n) (hol : onC n tb o l = true) : m_Run X 126 [.inr (.inl 13), .inl l, .inl i, .inl o] (mW C (S, P, K, F, B, G, E)) (m_V (pbC n tb l o i) (mW C (S, P, K, F, B, G, E))) := by
  have he := pt_enum hn ht hl0 hl1
  have h91 := np_91 hn
  obtain ⟨t, t0, t1, hto⟩ := he.2.2 o hol
  have hoi := onC_in hol
  rw [pb_pos hn ht hl0 hl1 hi0 hi9 t0 t1 hto]
  show m_Sem X 126 (0, [some (.inr (.inl 13)), some (.inl l), some (.inl i), some (.inl o), none, none, none, none], [], mW C (S, P, K, F, B, G, E), 0, 0) _
  refine m_run 6 (ps' := (10, [some (.inr (.inl 13)), some (.inl l), some (.inl i), some (.inl o), some (.inl 0), some (.inl (-1000004)), some (.inl 0), none], [], mW C (S, P, K, F, B, G, E), 0, 0)) rfl ?_
  refine m_weak [some (.inr (.inl 13)), some (.inl l), some (.inl i), some (.inl o), some (.inl 0), some (.inl (-1000004)), some (.inl 0), none] ⟨rfl, ⟨rfl, ⟨rfl, ⟨rfl, ⟨rfl, ⟨rfl, ⟨rfl, trivial⟩⟩⟩⟩⟩⟩⟩ ?_
  exact e_oth hn ht hB hl0 hl1 hi0 hi9 ⟨by omega, by omega⟩ t0 t1 hto rfl 0 (by omega) (by split <;> omega) 0 (by rw [if_neg (by omega)])
set_option maxHeartbeats 4000000 in
set_option maxRecDepth 100000 in
theorem d_cr {X : Nat × Nat × (Nat → Int32)} {C : CS} {S : Int → Int} {P K : TS} {F : Int × Int × Int} {B : (Nat → Int64) × (Nat → Int64)} {G : Int → Int} {E : Int × Int} {n : Int} {tb : Int → Int → Int} {a b d e : Int} (hn : okN n) (ht : tbR n tb) (hB : rowsB n tb B) (hP : plP n tb) (ha : 0 ≤ a) (ha2 : a < NP n) (hb : 0 ≤ b) (hb2 : b < NP n) (hd : 0 ≤ d) (hd2 : d < NP n) (he : 0 ≤ e) (he2 : e < NP n) : m_Run X 125 [.inr (.inl 13), .inl a, .inl b, .inl d, .inl e] (mW C (S, P, K, F, B, G, E)) (m_V (crC n tb a b d e) (mW C (S, P, K, F, B, G, E))) := by
  show m_Sem X 125 (0, [some (.inr (.inl 13)), some (.inl a), some (.inl b), some (.inl d), some (.inl e)], [], mW C (S, P, K, F, B, G, E), 0, 0) _
  refine m_run 4 (ps' := (4, [some (.inr (.inl 13)), some (.inl a), some (.inl b), some (.inl d), some (.inl e)], [.inl b, .inl a, .inr (.inl 13), .inr (.inl 13)], mW C (S, P, K, F, B, G, E), 0, 0)) rfl ?_
  refine m_callVF [.inl a, .inl b] [.inr (.inl 13)] rfl rfl ⟨_, rfl, rfl⟩ rfl rfl (d_lnCP (a := a) (b := b) hn ht hB hP (by omega) (by omega) (by omega) (by omega)) ?_
  have zt1 := pl_ln (p := a) (q := b) hn ht hP (by omega) (by omega) (by omega) (by omega)
  show m_Sem X 125 (7, [some (.inr (.inl 13)), some (.inl a), some (.inl b), some (.inl d), some (.inl e)], [.inl (lnC n tb a b), .inr (.inl 13)], mW C (S, P, K, F, B, G, E), 0, 0) _
  refine m_run 3 (ps' := (11, [some (.inr (.inl 13)), some (.inl a), some (.inl b), some (.inl d), some (.inl e)], [.inl e, .inl d, .inr (.inl 13), .inl (lnC n tb a b), .inr (.inl 13)], mW C (S, P, K, F, B, G, E), 0, 0)) rfl ?_
  refine m_callVF [.inl d, .inl e] [.inl (lnC n tb a b), .inr (.inl 13)] rfl rfl ⟨_, rfl, rfl⟩ rfl rfl (d_lnCP (a := d) (b := e) hn ht hB hP (by omega) (by omega) (by omega) (by omega)) ?_
  have zt2 := pl_ln (p := d) (q := e) hn ht hP (by omega) (by omega) (by omega) (by omega)
  show m_Sem X 125 (14, [some (.inr (.inl 13)), some (.inl a), some (.inl b), some (.inl d), some (.inl e)], [.inl (lnC n tb d e), .inl (lnC n tb a b), .inr (.inl 13)], mW C (S, P, K, F, B, G, E), 0, 0) _
  refine m_callVF [.inl (lnC n tb a b), .inl (lnC n tb d e)] [] rfl rfl ⟨_, rfl, rfl⟩ rfl rfl (d_mtCP (a := (lnC n tb a b)) (b := (lnC n tb d e)) hn ht hB hP (by omega) (by omega) (by omega) (by omega)) ?_
  have zt3 := pl_mt (l := (lnC n tb a b)) (m := (lnC n tb d e)) hn ht hP (by omega) (by omega) (by omega) (by omega)
  show m_Sem X 125 (17, [some (.inr (.inl 13)), some (.inl a), some (.inl b), some (.inl d), some (.inl e)], [.inl (mtC n tb (lnC n tb a b) (lnC n tb d e))], mW C (S, P, K, F, B, G, E), 0, 0) _
  exact m_ret1 rfl (Or.inl rfl) rfl (m_Vi rfl)
theorem cr_v {n : Int} {tb : Int → Int → Int} {a b d e : Int} (hn : okN n) (ht : tbR n tb) (hP : plP n tb) (ha : 0 ≤ a) (ha2 : a < NP n) (hb : 0 ≤ b) (hb2 : b < NP n) (hd : 0 ≤ d) (hd2 : d < NP n) (he : 0 ≤ e) (he2 : e < NP n) : 0 ≤ crC n tb a b d e ∧ crC n tb a b d e < NP n := by
  have h1 := pl_ln hn ht hP ha ha2 hb hb2
  have h2 := pl_ln hn ht hP hd hd2 he he2
  exact (pl_mt hn ht hP h1.1.1 h1.1.2 h2.1.1 h2.1.2).1
set_option maxHeartbeats 4000000 in
set_option maxRecDepth 100000 in
theorem d_looks {X : Nat × Nat × (Nat → Int32)} {C : CS} {S : Int → Int} {P K : TS} {F : Int × Int × Int} {B : (Nat → Int64) × (Nat → Int64)} {G : Int → Int} {E : Int × Int} {n : Int} {tb : Int → Int → Int} {p l m k i j : Int} (hn : okN n) (ht : tbR n tb) (hB : rowsB n tb B) (hP : plP n tb) (hp : 0 ≤ p) (hp2 : p < NP n) (hll : 0 ≤ l) (hl2 : l ≤ n) (hm : 0 ≤ m) (hm2 : m ≤ n) (hk : 0 ≤ k) (hk2 : k ≤ n) (hi : 0 ≤ i) (hi2 : i < n) (hj : 0 ≤ j) (hj2 : j < n) : m_Run X 127 [.inr (.inl 13), .inl p, .inl l, .inl m, .inl k, .inl i, .inl j] (mW C (S, P, K, F, B, G, E)) (m_V (triC n tb p l m k i j) (mW C (S, P, K, F, B, G, E))) := by
  have hln := okN_lo hn
  have h91 := np_91 hn
  show m_Sem X 127 (0, [some (.inr (.inl 13)), some (.inl p), some (.inl l), some (.inl m), some (.inl k), some (.inl i), some (.inl j), none, none, none, none, none, none, none, none, none], [], mW C (S, P, K, F, B, G, E), 0, 0) _
  refine m_run 5 (ps' := (6, [some (.inr (.inl 13)), some (.inl p), some (.inl l), some (.inl m), some (.inl k), some (.inl i), some (.inl j), none, none, none, none, none, none, none, none, none], [.inl l, .inl (91 + p), .inr (.inl 13)], mW C (S, P, K, F, B, G, E), 0, 0)) rfl ?_
  refine m_callVF [.inl (91 + p), .inl l] [] rfl rfl ⟨_, rfl, rfl⟩ rfl rfl (d_atP (a := p) (i := l) hn ht hB (by omega) (by omega) (by omega) (by omega)) ?_
  have zt1 := lt_on (p := p) (i := l) hn ht (by omega) (by omega) (by omega) (by omega)
  show m_Sem X 127 (9, [some (.inr (.inl 13)), some (.inl p), some (.inl l), some (.inl m), some (.inl k), some (.inl i), some (.inl j), none, none, none, none, none, none, none, none, none], [.inl (ltC n tb p l)], mW C (S, P, K, F, B, G, E), 0, 0) _
  refine m_run 6 (ps' := (17, [some (.inr (.inl 13)), some (.inl p), some (.inl l), some (.inl m), some (.inl k), some (.inl i), some (.inl j), some (.inl (ltC n tb p l)), none, none, none, none, none, none, none, none], [.inl m, .inl (91 + p), .inr (.inl 13)], mW C (S, P, K, F, B, G, E), 0, 0)) rfl ?_
  refine m_callVF [.inl (91 + p), .inl m] [] rfl rfl ⟨_, rfl, rfl⟩ rfl rfl (d_atP (a := p) (i := m) hn ht hB (by omega) (by omega) (by omega) (by omega)) ?_
  have zt2 := lt_on (p := p) (i := m) hn ht (by omega) (by omega) (by omega) (by omega)
  show m_Sem X 127 (20, [some (.inr (.inl 13)), some (.inl p), some (.inl l), some (.inl m), some (.inl k), some (.inl i), some (.inl j), some (.inl (ltC n tb p l)), none, none, none, none, none, none, none, none], [.inl (ltC n tb p m)], mW C (S, P, K, F, B, G, E), 0, 0) _
  refine m_run 6 (ps' := (29, [some (.inr (.inl 13)), some (.inl p), some (.inl l), some (.inl m), some (.inl k), some (.inl i), some (.inl j), some (.inl (ltC n tb p l)), some (.inl (ltC n tb p m)), none, none, none, none, none, none, none], [.inl k, .inl (91 + p), .inr (.inl 13)], mW C (S, P, K, F, B, G, E), 0, 0)) rfl ?_
  refine m_callVF [.inl (91 + p), .inl k] [] rfl rfl ⟨_, rfl, rfl⟩ rfl rfl (d_atP (a := p) (i := k) hn ht hB (by omega) (by omega) (by omega) (by omega)) ?_
  have zt3 := lt_on (p := p) (i := k) hn ht (by omega) (by omega) (by omega) (by omega)
  show m_Sem X 127 (32, [some (.inr (.inl 13)), some (.inl p), some (.inl l), some (.inl m), some (.inl k), some (.inl i), some (.inl j), some (.inl (ltC n tb p l)), some (.inl (ltC n tb p m)), none, none, none, none, none, none, none], [.inl (ltC n tb p k)], mW C (S, P, K, F, B, G, E), 0, 0) _
  refine m_run 5 (ps' := (40, [some (.inr (.inl 13)), some (.inl p), some (.inl l), some (.inl m), some (.inl k), some (.inl i), some (.inl j), some (.inl (ltC n tb p l)), some (.inl (ltC n tb p m)), some (.inl (ltC n tb p k)), none, none, none, none, none, none], [.inl p, .inl i, .inl (ltC n tb p l), .inr (.inl 13)], mW C (S, P, K, F, B, G, E), 0, 0)) rfl ?_
  refine m_callVF [.inl (ltC n tb p l), .inl i, .inl p] [] rfl rfl ⟨_, rfl, rfl⟩ rfl rfl (d_oth (l := (ltC n tb p l)) (i := i) (o := p) hn ht hB (by omega) (by omega) (by omega) (by omega) (lt_on hn ht hp hp2 (by omega) (by omega)).2) ?_
  have zt4 := pb_v (l := (ltC n tb p l)) (o := p) (i := i) hn ht (by omega) (by omega) (by omega) (by omega)
  show m_Sem X 127 (43, [some (.inr (.inl 13)), some (.inl p), some (.inl l), some (.inl m), some (.inl k), some (.inl i), some (.inl j), some (.inl (ltC n tb p l)), some (.inl (ltC n tb p m)), some (.inl (ltC n tb p k)), none, none, none, none, none, none], [.inl (pbC n tb (ltC n tb p l) p i)], mW C (S, P, K, F, B, G, E), 0, 0) _
  refine m_run 5 (ps' := (51, [some (.inr (.inl 13)), some (.inl p), some (.inl l), some (.inl m), some (.inl k), some (.inl i), some (.inl j), some (.inl (ltC n tb p l)), some (.inl (ltC n tb p m)), some (.inl (ltC n tb p k)), some (.inl (pbC n tb (ltC n tb p l) p i)), none, none, none, none, none], [.inl p, .inl j, .inl (ltC n tb p l), .inr (.inl 13)], mW C (S, P, K, F, B, G, E), 0, 0)) rfl ?_
  refine m_callVF [.inl (ltC n tb p l), .inl j, .inl p] [] rfl rfl ⟨_, rfl, rfl⟩ rfl rfl (d_oth (l := (ltC n tb p l)) (i := j) (o := p) hn ht hB (by omega) (by omega) (by omega) (by omega) (lt_on hn ht hp hp2 (by omega) (by omega)).2) ?_
  have zt5 := pb_v (l := (ltC n tb p l)) (o := p) (i := j) hn ht (by omega) (by omega) (by omega) (by omega)
  show m_Sem X 127 (54, [some (.inr (.inl 13)), some (.inl p), some (.inl l), some (.inl m), some (.inl k), some (.inl i), some (.inl j), some (.inl (ltC n tb p l)), some (.inl (ltC n tb p m)), some (.inl (ltC n tb p k)), some (.inl (pbC n tb (ltC n tb p l) p i)), none, none, none, none, none], [.inl (pbC n tb (ltC n tb p l) p j)], mW C (S, P, K, F, B, G, E), 0, 0) _
  refine m_run 5 (ps' := (62, [some (.inr (.inl 13)), some (.inl p), some (.inl l), some (.inl m), some (.inl k), some (.inl i), some (.inl j), some (.inl (ltC n tb p l)), some (.inl (ltC n tb p m)), some (.inl (ltC n tb p k)), some (.inl (pbC n tb (ltC n tb p l) p i)), some (.inl (pbC n tb (ltC n tb p l) p j)), none, none, none, none], [.inl p, .inl i, .inl (ltC n tb p m), .inr (.inl 13)], mW C (S, P, K, F, B, G, E), 0, 0)) rfl ?_
  refine m_callVF [.inl (ltC n tb p m), .inl i, .inl p] [] rfl rfl ⟨_, rfl, rfl⟩ rfl rfl (d_oth (l := (ltC n tb p m)) (i := i) (o := p) hn ht hB (by omega) (by omega) (by omega) (by omega) (lt_on hn ht hp hp2 (by omega) (by omega)).2) ?_
  have zt6 := pb_v (l := (ltC n tb p m)) (o := p) (i := i) hn ht (by omega) (by omega) (by omega) (by omega)
  show m_Sem X 127 (65, [some (.inr (.inl 13)), some (.inl p), some (.inl l), some (.inl m), some (.inl k), some (.inl i), some (.inl j), some (.inl (ltC n tb p l)), some (.inl (ltC n tb p m)), some (.inl (ltC n tb p k)), some (.inl (pbC n tb (ltC n tb p l) p i)), some (.inl (pbC n tb (ltC n tb p l) p j)), none, none, none, none], [.inl (pbC n tb (ltC n tb p m) p i)], mW C (S, P, K, F, B, G, E), 0, 0) _
  refine m_run 5 (ps' := (73, [some (.inr (.inl 13)), some (.inl p), some (.inl l), some (.inl m), some (.inl k), some (.inl i), some (.inl j), some (.inl (ltC n tb p l)), some (.inl (ltC n tb p m)), some (.inl (ltC n tb p k)), some (.inl (pbC n tb (ltC n tb p l) p i)), some (.inl (pbC n tb (ltC n tb p l) p j)), some (.inl (pbC n tb (ltC n tb p m) p i)), none, none, none], [.inl p, .inl j, .inl (ltC n tb p m), .inr (.inl 13)], mW C (S, P, K, F, B, G, E), 0, 0)) rfl ?_
  refine m_callVF [.inl (ltC n tb p m), .inl j, .inl p] [] rfl rfl ⟨_, rfl, rfl⟩ rfl rfl (d_oth (l := (ltC n tb p m)) (i := j) (o := p) hn ht hB (by omega) (by omega) (by omega) (by omega) (lt_on hn ht hp hp2 (by omega) (by omega)).2) ?_
  have zt7 := pb_v (l := (ltC n tb p m)) (o := p) (i := j) hn ht (by omega) (by omega) (by omega) (by omega)
  show m_Sem X 127 (76, [some (.inr (.inl 13)), some (.inl p), some (.inl l), some (.inl m), some (.inl k), some (.inl i), some (.inl j), some (.inl (ltC n tb p l)), some (.inl (ltC n tb p m)), some (.inl (ltC n tb p k)), some (.inl (pbC n tb (ltC n tb p l) p i)), some (.inl (pbC n tb (ltC n tb p l) p j)), some (.inl (pbC n tb (ltC n tb p m) p i)), none, none, none], [.inl (pbC n tb (ltC n tb p m) p j)], mW C (S, P, K, F, B, G, E), 0, 0) _
  refine m_run 5 (ps' := (84, [some (.inr (.inl 13)), some (.inl p), some (.inl l), some (.inl m), some (.inl k), some (.inl i), some (.inl j), some (.inl (ltC n tb p l)), some (.inl (ltC n tb p m)), some (.inl (ltC n tb p k)), some (.inl (pbC n tb (ltC n tb p l) p i)), some (.inl (pbC n tb (ltC n tb p l) p j)), some (.inl (pbC n tb (ltC n tb p m) p i)), some (.inl (pbC n tb (ltC n tb p m) p j)), none, none], [.inl p, .inl i, .inl (ltC n tb p k), .inr (.inl 13)], mW C (S, P, K, F, B, G, E), 0, 0)) rfl ?_
  refine m_callVF [.inl (ltC n tb p k), .inl i, .inl p] [] rfl rfl ⟨_, rfl, rfl⟩ rfl rfl (d_oth (l := (ltC n tb p k)) (i := i) (o := p) hn ht hB (by omega) (by omega) (by omega) (by omega) (lt_on hn ht hp hp2 (by omega) (by omega)).2) ?_
  have zt8 := pb_v (l := (ltC n tb p k)) (o := p) (i := i) hn ht (by omega) (by omega) (by omega) (by omega)
  show m_Sem X 127 (87, [some (.inr (.inl 13)), some (.inl p), some (.inl l), some (.inl m), some (.inl k), some (.inl i), some (.inl j), some (.inl (ltC n tb p l)), some (.inl (ltC n tb p m)), some (.inl (ltC n tb p k)), some (.inl (pbC n tb (ltC n tb p l) p i)), some (.inl (pbC n tb (ltC n tb p l) p j)), some (.inl (pbC n tb (ltC n tb p m) p i)), some (.inl (pbC n tb (ltC n tb p m) p j)), none, none], [.inl (pbC n tb (ltC n tb p k) p i)], mW C (S, P, K, F, B, G, E), 0, 0) _
  refine m_run 5 (ps' := (95, [some (.inr (.inl 13)), some (.inl p), some (.inl l), some (.inl m), some (.inl k), some (.inl i), some (.inl j), some (.inl (ltC n tb p l)), some (.inl (ltC n tb p m)), some (.inl (ltC n tb p k)), some (.inl (pbC n tb (ltC n tb p l) p i)), some (.inl (pbC n tb (ltC n tb p l) p j)), some (.inl (pbC n tb (ltC n tb p m) p i)), some (.inl (pbC n tb (ltC n tb p m) p j)), some (.inl (pbC n tb (ltC n tb p k) p i)), none], [.inl p, .inl j, .inl (ltC n tb p k), .inr (.inl 13)], mW C (S, P, K, F, B, G, E), 0, 0)) rfl ?_
  refine m_callVF [.inl (ltC n tb p k), .inl j, .inl p] [] rfl rfl ⟨_, rfl, rfl⟩ rfl rfl (d_oth (l := (ltC n tb p k)) (i := j) (o := p) hn ht hB (by omega) (by omega) (by omega) (by omega) (lt_on hn ht hp hp2 (by omega) (by omega)).2) ?_
  have zt9 := pb_v (l := (ltC n tb p k)) (o := p) (i := j) hn ht (by omega) (by omega) (by omega) (by omega)
  show m_Sem X 127 (98, [some (.inr (.inl 13)), some (.inl p), some (.inl l), some (.inl m), some (.inl k), some (.inl i), some (.inl j), some (.inl (ltC n tb p l)), some (.inl (ltC n tb p m)), some (.inl (ltC n tb p k)), some (.inl (pbC n tb (ltC n tb p l) p i)), some (.inl (pbC n tb (ltC n tb p l) p j)), some (.inl (pbC n tb (ltC n tb p m) p i)), some (.inl (pbC n tb (ltC n tb p m) p j)), some (.inl (pbC n tb (ltC n tb p k) p i)), none], [.inl (pbC n tb (ltC n tb p k) p j)], mW C (S, P, K, F, B, G, E), 0, 0) _
  refine m_run 5 (ps' := (107, [some (.inr (.inl 13)), some (.inl p), some (.inl l), some (.inl m), some (.inl k), some (.inl i), some (.inl j), some (.inl (ltC n tb p l)), some (.inl (ltC n tb p m)), some (.inl (ltC n tb p k)), some (.inl (pbC n tb (ltC n tb p l) p i)), some (.inl (pbC n tb (ltC n tb p l) p j)), some (.inl (pbC n tb (ltC n tb p m) p i)), some (.inl (pbC n tb (ltC n tb p m) p j)), some (.inl (pbC n tb (ltC n tb p k) p i)), some (.inl (pbC n tb (ltC n tb p k) p j))], [.inl (pbC n tb (ltC n tb p k) p i), .inl (pbC n tb (ltC n tb p m) p i), .inl (pbC n tb (ltC n tb p l) p i), .inr (.inl 13)], mW C (S, P, K, F, B, G, E), 0, 0)) rfl ?_
  refine m_callVF [.inl (pbC n tb (ltC n tb p l) p i), .inl (pbC n tb (ltC n tb p m) p i), .inl (pbC n tb (ltC n tb p k) p i)] [] rfl rfl ⟨_, rfl, rfl⟩ rfl rfl (d_olC (a := (pbC n tb (ltC n tb p l) p i)) (b := (pbC n tb (ltC n tb p m) p i)) (c := (pbC n tb (ltC n tb p k) p i)) hn ht hB (by omega) (by omega) (by omega) (by omega) (by omega) (by omega)) ?_
  show m_Sem X 127 (110, [some (.inr (.inl 13)), some (.inl p), some (.inl l), some (.inl m), some (.inl k), some (.inl i), some (.inl j), some (.inl (ltC n tb p l)), some (.inl (ltC n tb p m)), some (.inl (ltC n tb p k)), some (.inl (pbC n tb (ltC n tb p l) p i)), some (.inl (pbC n tb (ltC n tb p l) p j)), some (.inl (pbC n tb (ltC n tb p m) p i)), some (.inl (pbC n tb (ltC n tb p m) p j)), some (.inl (pbC n tb (ltC n tb p k) p i)), some (.inl (pbC n tb (ltC n tb p k) p j))], [.inl (bI (olC n tb (pbC n tb (ltC n tb p l) p i) (pbC n tb (ltC n tb p m) p i) (pbC n tb (ltC n tb p k) p i)))], mW C (S, P, K, F, B, G, E), 0, 0) _
  refine m_if rfl (bI_R (olC n tb (pbC n tb (ltC n tb p l) p i) (pbC n tb (ltC n tb p m) p i) (pbC n tb (ltC n tb p k) p i))) (fun (zc1 : ¬ (bI (olC n tb (pbC n tb (ltC n tb p l) p i) (pbC n tb (ltC n tb p m) p i) (pbC n tb (ltC n tb p k) p i))) = 0) => ?_) (fun (zc1 : ¬ ¬ (bI (olC n tb (pbC n tb (ltC n tb p l) p i) (pbC n tb (ltC n tb p m) p i) (pbC n tb (ltC n tb p k) p i))) = 0) => ?_)
  · replace zc1 : (olC n tb (pbC n tb (ltC n tb p l) p i) (pbC n tb (ltC n tb p m) p i) (pbC n tb (ltC n tb p k) p i)) = true := bI_n0.mp zc1
    refine m_run 1 (ps' := (128, [some (.inr (.inl 13)), some (.inl p), some (.inl l), some (.inl m), some (.inl k), some (.inl i), some (.inl j), some (.inl (ltC n tb p l)), some (.inl (ltC n tb p m)), some (.inl (ltC n tb p k)), some (.inl (pbC n tb (ltC n tb p l) p i)), some (.inl (pbC n tb (ltC n tb p l) p j)), some (.inl (pbC n tb (ltC n tb p m) p i)), some (.inl (pbC n tb (ltC n tb p m) p j)), some (.inl (pbC n tb (ltC n tb p k) p i)), some (.inl (pbC n tb (ltC n tb p k) p j))], [.inl (-1000002)], mW C (S, P, K, F, B, G, E), 0, 0)) rfl ?_
    exact m_ret1 rfl (Or.inl rfl) rfl (m_Vi (by first | exact (if_pos zc1).symm | exact ((if_neg (by rw [zc1]; decide)).trans (if_pos zc2)).symm))
  · replace zc1 : (olC n tb (pbC n tb (ltC n tb p l) p i) (pbC n tb (ltC n tb p m) p i) (pbC n tb (ltC n tb p k) p i)) = false := bI_e0.mp (Decidable.not_not.mp zc1)
    refine m_run 4 (ps' := (120, [some (.inr (.inl 13)), some (.inl p), some (.inl l), some (.inl m), some (.inl k), some (.inl i), some (.inl j), some (.inl (ltC n tb p l)), some (.inl (ltC n tb p m)), some (.inl (ltC n tb p k)), some (.inl (pbC n tb (ltC n tb p l) p i)), some (.inl (pbC n tb (ltC n tb p l) p j)), some (.inl (pbC n tb (ltC n tb p m) p i)), some (.inl (pbC n tb (ltC n tb p m) p j)), some (.inl (pbC n tb (ltC n tb p k) p i)), some (.inl (pbC n tb (ltC n tb p k) p j))], [.inl (pbC n tb (ltC n tb p k) p j), .inl (pbC n tb (ltC n tb p m) p j), .inl (pbC n tb (ltC n tb p l) p j), .inr (.inl 13)], mW C (S, P, K, F, B, G, E), 0, 0)) rfl ?_
    refine m_callVF [.inl (pbC n tb (ltC n tb p l) p j), .inl (pbC n tb (ltC n tb p m) p j), .inl (pbC n tb (ltC n tb p k) p j)] [] rfl rfl ⟨_, rfl, rfl⟩ rfl rfl (d_olC (a := (pbC n tb (ltC n tb p l) p j)) (b := (pbC n tb (ltC n tb p m) p j)) (c := (pbC n tb (ltC n tb p k) p j)) hn ht hB (by omega) (by omega) (by omega) (by omega) (by omega) (by omega)) ?_
    show m_Sem X 127 (123, [some (.inr (.inl 13)), some (.inl p), some (.inl l), some (.inl m), some (.inl k), some (.inl i), some (.inl j), some (.inl (ltC n tb p l)), some (.inl (ltC n tb p m)), some (.inl (ltC n tb p k)), some (.inl (pbC n tb (ltC n tb p l) p i)), some (.inl (pbC n tb (ltC n tb p l) p j)), some (.inl (pbC n tb (ltC n tb p m) p i)), some (.inl (pbC n tb (ltC n tb p m) p j)), some (.inl (pbC n tb (ltC n tb p k) p i)), some (.inl (pbC n tb (ltC n tb p k) p j))], [.inl (bI (olC n tb (pbC n tb (ltC n tb p l) p j) (pbC n tb (ltC n tb p m) p j) (pbC n tb (ltC n tb p k) p j)))], mW C (S, P, K, F, B, G, E), 0, 0) _
    refine m_if rfl (bI_R (olC n tb (pbC n tb (ltC n tb p l) p j) (pbC n tb (ltC n tb p m) p j) (pbC n tb (ltC n tb p k) p j))) (fun (zc2 : (bI (olC n tb (pbC n tb (ltC n tb p l) p j) (pbC n tb (ltC n tb p m) p j) (pbC n tb (ltC n tb p k) p j))) = 0) => ?_) (fun (zc2 : ¬ (bI (olC n tb (pbC n tb (ltC n tb p l) p j) (pbC n tb (ltC n tb p m) p j) (pbC n tb (ltC n tb p k) p j))) = 0) => ?_)
    · replace zc2 : (olC n tb (pbC n tb (ltC n tb p l) p j) (pbC n tb (ltC n tb p m) p j) (pbC n tb (ltC n tb p k) p j)) = false := bI_e0.mp zc2
      refine m_run 6 (ps' := (139, [some (.inr (.inl 13)), some (.inl p), some (.inl l), some (.inl m), some (.inl k), some (.inl i), some (.inl j), some (.inl (ltC n tb p l)), some (.inl (ltC n tb p m)), some (.inl (ltC n tb p k)), some (.inl (pbC n tb (ltC n tb p l) p i)), some (.inl (pbC n tb (ltC n tb p l) p j)), some (.inl (pbC n tb (ltC n tb p m) p i)), some (.inl (pbC n tb (ltC n tb p m) p j)), some (.inl (pbC n tb (ltC n tb p k) p i)), some (.inl (pbC n tb (ltC n tb p k) p j))], [.inl (pbC n tb (ltC n tb p m) p j), .inl (pbC n tb (ltC n tb p l) p j), .inl (pbC n tb (ltC n tb p m) p i), .inl (pbC n tb (ltC n tb p l) p i), .inr (.inl 13), .inr (.inl 13)], mW C (S, P, K, F, B, G, E), 0, 0)) rfl ?_
      refine m_callVF [.inl (pbC n tb (ltC n tb p l) p i), .inl (pbC n tb (ltC n tb p m) p i), .inl (pbC n tb (ltC n tb p l) p j), .inl (pbC n tb (ltC n tb p m) p j)] [.inr (.inl 13)] rfl rfl ⟨_, rfl, rfl⟩ rfl rfl (d_cr (a := (pbC n tb (ltC n tb p l) p i)) (b := (pbC n tb (ltC n tb p m) p i)) (d := (pbC n tb (ltC n tb p l) p j)) (e := (pbC n tb (ltC n tb p m) p j)) hn ht hB hP (by omega) (by omega) (by omega) (by omega) (by omega) (by omega) (by omega) (by omega)) ?_
      have zt10 := cr_v (a := (pbC n tb (ltC n tb p l) p i)) (b := (pbC n tb (ltC n tb p m) p i)) (d := (pbC n tb (ltC n tb p l) p j)) (e := (pbC n tb (ltC n tb p m) p j)) hn ht hP (by omega) (by omega) (by omega) (by omega) (by omega) (by omega) (by omega) (by omega)
      show m_Sem X 127 (142, [some (.inr (.inl 13)), some (.inl p), some (.inl l), some (.inl m), some (.inl k), some (.inl i), some (.inl j), some (.inl (ltC n tb p l)), some (.inl (ltC n tb p m)), some (.inl (ltC n tb p k)), some (.inl (pbC n tb (ltC n tb p l) p i)), some (.inl (pbC n tb (ltC n tb p l) p j)), some (.inl (pbC n tb (ltC n tb p m) p i)), some (.inl (pbC n tb (ltC n tb p m) p j)), some (.inl (pbC n tb (ltC n tb p k) p i)), some (.inl (pbC n tb (ltC n tb p k) p j))], [.inl (crC n tb (pbC n tb (ltC n tb p l) p i) (pbC n tb (ltC n tb p m) p i) (pbC n tb (ltC n tb p l) p j) (pbC n tb (ltC n tb p m) p j)), .inr (.inl 13)], mW C (S, P, K, F, B, G, E), 0, 0) _
      refine m_run 5 (ps' := (151, [some (.inr (.inl 13)), some (.inl p), some (.inl l), some (.inl m), some (.inl k), some (.inl i), some (.inl j), some (.inl (ltC n tb p l)), some (.inl (ltC n tb p m)), some (.inl (ltC n tb p k)), some (.inl (pbC n tb (ltC n tb p l) p i)), some (.inl (pbC n tb (ltC n tb p l) p j)), some (.inl (pbC n tb (ltC n tb p m) p i)), some (.inl (pbC n tb (ltC n tb p m) p j)), some (.inl (pbC n tb (ltC n tb p k) p i)), some (.inl (pbC n tb (ltC n tb p k) p j))], [.inl (pbC n tb (ltC n tb p k) p j), .inl (pbC n tb (ltC n tb p l) p j), .inl (pbC n tb (ltC n tb p k) p i), .inl (pbC n tb (ltC n tb p l) p i), .inr (.inl 13), .inl (crC n tb (pbC n tb (ltC n tb p l) p i) (pbC n tb (ltC n tb p m) p i) (pbC n tb (ltC n tb p l) p j) (pbC n tb (ltC n tb p m) p j)), .inr (.inl 13)], mW C (S, P, K, F, B, G, E), 0, 0)) rfl ?_
      refine m_callVF [.inl (pbC n tb (ltC n tb p l) p i), .inl (pbC n tb (ltC n tb p k) p i), .inl (pbC n tb (ltC n tb p l) p j), .inl (pbC n tb (ltC n tb p k) p j)] [.inl (crC n tb (pbC n tb (ltC n tb p l) p i) (pbC n tb (ltC n tb p m) p i) (pbC n tb (ltC n tb p l) p j) (pbC n tb (ltC n tb p m) p j)), .inr (.inl 13)] rfl rfl ⟨_, rfl, rfl⟩ rfl rfl (d_cr (a := (pbC n tb (ltC n tb p l) p i)) (b := (pbC n tb (ltC n tb p k) p i)) (d := (pbC n tb (ltC n tb p l) p j)) (e := (pbC n tb (ltC n tb p k) p j)) hn ht hB hP (by omega) (by omega) (by omega) (by omega) (by omega) (by omega) (by omega) (by omega)) ?_
      have zt11 := cr_v (a := (pbC n tb (ltC n tb p l) p i)) (b := (pbC n tb (ltC n tb p k) p i)) (d := (pbC n tb (ltC n tb p l) p j)) (e := (pbC n tb (ltC n tb p k) p j)) hn ht hP (by omega) (by omega) (by omega) (by omega) (by omega) (by omega) (by omega) (by omega)
      show m_Sem X 127 (154, [some (.inr (.inl 13)), some (.inl p), some (.inl l), some (.inl m), some (.inl k), some (.inl i), some (.inl j), some (.inl (ltC n tb p l)), some (.inl (ltC n tb p m)), some (.inl (ltC n tb p k)), some (.inl (pbC n tb (ltC n tb p l) p i)), some (.inl (pbC n tb (ltC n tb p l) p j)), some (.inl (pbC n tb (ltC n tb p m) p i)), some (.inl (pbC n tb (ltC n tb p m) p j)), some (.inl (pbC n tb (ltC n tb p k) p i)), some (.inl (pbC n tb (ltC n tb p k) p j))], [.inl (crC n tb (pbC n tb (ltC n tb p l) p i) (pbC n tb (ltC n tb p k) p i) (pbC n tb (ltC n tb p l) p j) (pbC n tb (ltC n tb p k) p j)), .inl (crC n tb (pbC n tb (ltC n tb p l) p i) (pbC n tb (ltC n tb p m) p i) (pbC n tb (ltC n tb p l) p j) (pbC n tb (ltC n tb p m) p j)), .inr (.inl 13)], mW C (S, P, K, F, B, G, E), 0, 0) _
      refine m_run 5 (ps' := (163, [some (.inr (.inl 13)), some (.inl p), some (.inl l), some (.inl m), some (.inl k), some (.inl i), some (.inl j), some (.inl (ltC n tb p l)), some (.inl (ltC n tb p m)), some (.inl (ltC n tb p k)), some (.inl (pbC n tb (ltC n tb p l) p i)), some (.inl (pbC n tb (ltC n tb p l) p j)), some (.inl (pbC n tb (ltC n tb p m) p i)), some (.inl (pbC n tb (ltC n tb p m) p j)), some (.inl (pbC n tb (ltC n tb p k) p i)), some (.inl (pbC n tb (ltC n tb p k) p j))], [.inl (pbC n tb (ltC n tb p k) p j), .inl (pbC n tb (ltC n tb p m) p j), .inl (pbC n tb (ltC n tb p k) p i), .inl (pbC n tb (ltC n tb p m) p i), .inr (.inl 13), .inl (crC n tb (pbC n tb (ltC n tb p l) p i) (pbC n tb (ltC n tb p k) p i) (pbC n tb (ltC n tb p l) p j) (pbC n tb (ltC n tb p k) p j)), .inl (crC n tb (pbC n tb (ltC n tb p l) p i) (pbC n tb (ltC n tb p m) p i) (pbC n tb (ltC n tb p l) p j) (pbC n tb (ltC n tb p m) p j)), .inr (.inl 13)], mW C (S, P, K, F, B, G, E), 0, 0)) rfl ?_
      refine m_callVF [.inl (pbC n tb (ltC n tb p m) p i), .inl (pbC n tb (ltC n tb p k) p i), .inl (pbC n tb (ltC n tb p m) p j), .inl (pbC n tb (ltC n tb p k) p j)] [.inl (crC n tb (pbC n tb (ltC n tb p l) p i) (pbC n tb (ltC n tb p k) p i) (pbC n tb (ltC n tb p l) p j) (pbC n tb (ltC n tb p k) p j)), .inl (crC n tb (pbC n tb (ltC n tb p l) p i) (pbC n tb (ltC n tb p m) p i) (pbC n tb (ltC n tb p l) p j) (pbC n tb (ltC n tb p m) p j)), .inr (.inl 13)] rfl rfl ⟨_, rfl, rfl⟩ rfl rfl (d_cr (a := (pbC n tb (ltC n tb p m) p i)) (b := (pbC n tb (ltC n tb p k) p i)) (d := (pbC n tb (ltC n tb p m) p j)) (e := (pbC n tb (ltC n tb p k) p j)) hn ht hB hP (by omega) (by omega) (by omega) (by omega) (by omega) (by omega) (by omega) (by omega)) ?_
      have zt12 := cr_v (a := (pbC n tb (ltC n tb p m) p i)) (b := (pbC n tb (ltC n tb p k) p i)) (d := (pbC n tb (ltC n tb p m) p j)) (e := (pbC n tb (ltC n tb p k) p j)) hn ht hP (by omega) (by omega) (by omega) (by omega) (by omega) (by omega) (by omega) (by omega)
      show m_Sem X 127 (166, [some (.inr (.inl 13)), some (.inl p), some (.inl l), some (.inl m), some (.inl k), some (.inl i), some (.inl j), some (.inl (ltC n tb p l)), some (.inl (ltC n tb p m)), some (.inl (ltC n tb p k)), some (.inl (pbC n tb (ltC n tb p l) p i)), some (.inl (pbC n tb (ltC n tb p l) p j)), some (.inl (pbC n tb (ltC n tb p m) p i)), some (.inl (pbC n tb (ltC n tb p m) p j)), some (.inl (pbC n tb (ltC n tb p k) p i)), some (.inl (pbC n tb (ltC n tb p k) p j))], [.inl (crC n tb (pbC n tb (ltC n tb p m) p i) (pbC n tb (ltC n tb p k) p i) (pbC n tb (ltC n tb p m) p j) (pbC n tb (ltC n tb p k) p j)), .inl (crC n tb (pbC n tb (ltC n tb p l) p i) (pbC n tb (ltC n tb p k) p i) (pbC n tb (ltC n tb p l) p j) (pbC n tb (ltC n tb p k) p j)), .inl (crC n tb (pbC n tb (ltC n tb p l) p i) (pbC n tb (ltC n tb p m) p i) (pbC n tb (ltC n tb p l) p j) (pbC n tb (ltC n tb p m) p j)), .inr (.inl 13)], mW C (S, P, K, F, B, G, E), 0, 0) _
      refine m_callVF [.inl (crC n tb (pbC n tb (ltC n tb p l) p i) (pbC n tb (ltC n tb p m) p i) (pbC n tb (ltC n tb p l) p j) (pbC n tb (ltC n tb p m) p j)), .inl (crC n tb (pbC n tb (ltC n tb p l) p i) (pbC n tb (ltC n tb p k) p i) (pbC n tb (ltC n tb p l) p j) (pbC n tb (ltC n tb p k) p j)), .inl (crC n tb (pbC n tb (ltC n tb p m) p i) (pbC n tb (ltC n tb p k) p i) (pbC n tb (ltC n tb p m) p j) (pbC n tb (ltC n tb p k) p j))] [] rfl rfl ⟨_, rfl, rfl⟩ rfl rfl (d_olC (a := (crC n tb (pbC n tb (ltC n tb p l) p i) (pbC n tb (ltC n tb p m) p i) (pbC n tb (ltC n tb p l) p j) (pbC n tb (ltC n tb p m) p j))) (b := (crC n tb (pbC n tb (ltC n tb p l) p i) (pbC n tb (ltC n tb p k) p i) (pbC n tb (ltC n tb p l) p j) (pbC n tb (ltC n tb p k) p j))) (c := (crC n tb (pbC n tb (ltC n tb p m) p i) (pbC n tb (ltC n tb p k) p i) (pbC n tb (ltC n tb p m) p j) (pbC n tb (ltC n tb p k) p j))) hn ht hB (by omega) (by omega) (by omega) (by omega) (by omega) (by omega)) ?_
      show m_Sem X 127 (169, [some (.inr (.inl 13)), some (.inl p), some (.inl l), some (.inl m), some (.inl k), some (.inl i), some (.inl j), some (.inl (ltC n tb p l)), some (.inl (ltC n tb p m)), some (.inl (ltC n tb p k)), some (.inl (pbC n tb (ltC n tb p l) p i)), some (.inl (pbC n tb (ltC n tb p l) p j)), some (.inl (pbC n tb (ltC n tb p m) p i)), some (.inl (pbC n tb (ltC n tb p m) p j)), some (.inl (pbC n tb (ltC n tb p k) p i)), some (.inl (pbC n tb (ltC n tb p k) p j))], [.inl (bI (olC n tb (crC n tb (pbC n tb (ltC n tb p l) p i) (pbC n tb (ltC n tb p m) p i) (pbC n tb (ltC n tb p l) p j) (pbC n tb (ltC n tb p m) p j)) (crC n tb (pbC n tb (ltC n tb p l) p i) (pbC n tb (ltC n tb p k) p i) (pbC n tb (ltC n tb p l) p j) (pbC n tb (ltC n tb p k) p j)) (crC n tb (pbC n tb (ltC n tb p m) p i) (pbC n tb (ltC n tb p k) p i) (pbC n tb (ltC n tb p m) p j) (pbC n tb (ltC n tb p k) p j))))], mW C (S, P, K, F, B, G, E), 0, 0) _
      refine m_if rfl (bI_R (olC n tb (crC n tb (pbC n tb (ltC n tb p l) p i) (pbC n tb (ltC n tb p m) p i) (pbC n tb (ltC n tb p l) p j) (pbC n tb (ltC n tb p m) p j)) (crC n tb (pbC n tb (ltC n tb p l) p i) (pbC n tb (ltC n tb p k) p i) (pbC n tb (ltC n tb p l) p j) (pbC n tb (ltC n tb p k) p j)) (crC n tb (pbC n tb (ltC n tb p m) p i) (pbC n tb (ltC n tb p k) p i) (pbC n tb (ltC n tb p m) p j) (pbC n tb (ltC n tb p k) p j)))) (fun (zc3 : (bI (olC n tb (crC n tb (pbC n tb (ltC n tb p l) p i) (pbC n tb (ltC n tb p m) p i) (pbC n tb (ltC n tb p l) p j) (pbC n tb (ltC n tb p m) p j)) (crC n tb (pbC n tb (ltC n tb p l) p i) (pbC n tb (ltC n tb p k) p i) (pbC n tb (ltC n tb p l) p j) (pbC n tb (ltC n tb p k) p j)) (crC n tb (pbC n tb (ltC n tb p m) p i) (pbC n tb (ltC n tb p k) p i) (pbC n tb (ltC n tb p m) p j) (pbC n tb (ltC n tb p k) p j)))) = 0) => ?_) (fun (zc3 : ¬ (bI (olC n tb (crC n tb (pbC n tb (ltC n tb p l) p i) (pbC n tb (ltC n tb p m) p i) (pbC n tb (ltC n tb p l) p j) (pbC n tb (ltC n tb p m) p j)) (crC n tb (pbC n tb (ltC n tb p l) p i) (pbC n tb (ltC n tb p k) p i) (pbC n tb (ltC n tb p l) p j) (pbC n tb (ltC n tb p k) p j)) (crC n tb (pbC n tb (ltC n tb p m) p i) (pbC n tb (ltC n tb p k) p i) (pbC n tb (ltC n tb p m) p j) (pbC n tb (ltC n tb p k) p j)))) = 0) => ?_)
      · replace zc3 : (olC n tb (crC n tb (pbC n tb (ltC n tb p l) p i) (pbC n tb (ltC n tb p m) p i) (pbC n tb (ltC n tb p l) p j) (pbC n tb (ltC n tb p m) p j)) (crC n tb (pbC n tb (ltC n tb p l) p i) (pbC n tb (ltC n tb p k) p i) (pbC n tb (ltC n tb p l) p j) (pbC n tb (ltC n tb p k) p j)) (crC n tb (pbC n tb (ltC n tb p m) p i) (pbC n tb (ltC n tb p k) p i) (pbC n tb (ltC n tb p m) p j) (pbC n tb (ltC n tb p k) p j))) = false := bI_e0.mp zc3
        refine m_run 1 (ps' := (177, [some (.inr (.inl 13)), some (.inl p), some (.inl l), some (.inl m), some (.inl k), some (.inl i), some (.inl j), some (.inl (ltC n tb p l)), some (.inl (ltC n tb p m)), some (.inl (ltC n tb p k)), some (.inl (pbC n tb (ltC n tb p l) p i)), some (.inl (pbC n tb (ltC n tb p l) p j)), some (.inl (pbC n tb (ltC n tb p m) p i)), some (.inl (pbC n tb (ltC n tb p m) p j)), some (.inl (pbC n tb (ltC n tb p k) p i)), some (.inl (pbC n tb (ltC n tb p k) p j))], [.inl 0], mW C (S, P, K, F, B, G, E), 0, 0)) rfl ?_
        exact m_ret1 rfl (Or.inl rfl) rfl (m_Vi (by
            refine ((if_neg (by rw [zc1]; decide)).trans ((if_neg (by rw [zc2]; decide)).trans ?_)).symm
            rw [zc3]; rfl))
      · replace zc3 : (olC n tb (crC n tb (pbC n tb (ltC n tb p l) p i) (pbC n tb (ltC n tb p m) p i) (pbC n tb (ltC n tb p l) p j) (pbC n tb (ltC n tb p m) p j)) (crC n tb (pbC n tb (ltC n tb p l) p i) (pbC n tb (ltC n tb p k) p i) (pbC n tb (ltC n tb p l) p j) (pbC n tb (ltC n tb p k) p j)) (crC n tb (pbC n tb (ltC n tb p m) p i) (pbC n tb (ltC n tb p k) p i) (pbC n tb (ltC n tb p m) p j) (pbC n tb (ltC n tb p k) p j))) = true := bI_n0.mp zc3
        refine m_run 2 (ps' := (177, [some (.inr (.inl 13)), some (.inl p), some (.inl l), some (.inl m), some (.inl k), some (.inl i), some (.inl j), some (.inl (ltC n tb p l)), some (.inl (ltC n tb p m)), some (.inl (ltC n tb p k)), some (.inl (pbC n tb (ltC n tb p l) p i)), some (.inl (pbC n tb (ltC n tb p l) p j)), some (.inl (pbC n tb (ltC n tb p m) p i)), some (.inl (pbC n tb (ltC n tb p m) p j)), some (.inl (pbC n tb (ltC n tb p k) p i)), some (.inl (pbC n tb (ltC n tb p k) p j))], [.inl 1], mW C (S, P, K, F, B, G, E), 0, 0)) rfl ?_
        exact m_ret1 rfl (Or.inl rfl) rfl (m_Vi (by
            refine ((if_neg (by rw [zc1]; decide)).trans ((if_neg (by rw [zc2]; decide)).trans ?_)).symm
            rw [zc3]; rfl))
    · replace zc2 : (olC n tb (pbC n tb (ltC n tb p l) p j) (pbC n tb (ltC n tb p m) p j) (pbC n tb (ltC n tb p k) p j)) = true := bI_n0.mp zc2
      refine m_run 1 (ps' := (128, [some (.inr (.inl 13)), some (.inl p), some (.inl l), some (.inl m), some (.inl k), some (.inl i), some (.inl j), some (.inl (ltC n tb p l)), some (.inl (ltC n tb p m)), some (.inl (ltC n tb p k)), some (.inl (pbC n tb (ltC n tb p l) p i)), some (.inl (pbC n tb (ltC n tb p l) p j)), some (.inl (pbC n tb (ltC n tb p m) p i)), some (.inl (pbC n tb (ltC n tb p m) p j)), some (.inl (pbC n tb (ltC n tb p k) p i)), some (.inl (pbC n tb (ltC n tb p k) p j))], [.inl (-1000002)], mW C (S, P, K, F, B, G, E), 0, 0)) rfl ?_
      exact m_ret1 rfl (Or.inl rfl) rfl (m_Vi (by first | exact (if_pos zc1).symm | exact ((if_neg (by rw [zc1]; decide)).trans (if_pos zc2)).symm))
theorem tri_no {n : Int} {tb : Int → Int → Int} {p l m k i j : Int} (h : ¬ (inN (NP n) p = true ∧ (0 ≤ l ∧ l ≤ n) ∧ (0 ≤ m ∧ m ≤ n) ∧ (0 ≤ k ∧ k ≤ n) ∧ (0 ≤ i ∧ i ≤ n - 1) ∧ (0 ≤ j ∧ j ≤ n - 1) ∧ l ≠ m ∧ l ≠ k ∧ m ≠ k ∧ i ≠ j)) : triFS n tb p l m k i j = -1000001 := by
  unfold triFS
  split
  · rfl
  next h1 =>
    split
    · rfl
    next h2 =>
      split
      · rfl
      next h3 =>
        exfalso
        apply h
        simp only [Bool.not_eq_false, Bool.and_eq_true, decide_eq_true_iff, ixS_i] at h1 h2 h3
        exact ⟨h3, h1.1.1.1.1.1, h1.1.1.1.1.2, h1.1.1.1.2, h2.1.1, h2.1.2, h1.1.1.2, h1.1.2, h1.2, h2.2⟩
theorem tri_yes {n : Int} {tb : Int → Int → Int} {p l m k i j : Int} (h : inN (NP n) p = true ∧ (0 ≤ l ∧ l ≤ n) ∧ (0 ≤ m ∧ m ≤ n) ∧ (0 ≤ k ∧ k ≤ n) ∧ (0 ≤ i ∧ i ≤ n - 1) ∧ (0 ≤ j ∧ j ≤ n - 1) ∧ l ≠ m ∧ l ≠ k ∧ m ≠ k ∧ i ≠ j) : triFS n tb p l m k i j = if plS n tb = false then -1000002 else triC n tb p l m k i j := by
  obtain ⟨h1, h2, h3, h4, h5, h6, h7, h8, h9, h10⟩ := h
  unfold triFS
  rw [if_neg (by rw [ixS_i.mpr h2, ixS_i.mpr h3, ixS_i.mpr h4, decide_eq_true h7, decide_eq_true h8, decide_eq_true h9]; decide), if_neg (by rw [ixS_i.mpr h5, ixS_i.mpr h6, decide_eq_true h10]; decide), if_neg (by rw [h1]; decide)]
set_option maxHeartbeats 4000000 in
set_option maxRecDepth 100000 in
theorem d_ftri {X : Nat × Nat × (Nat → Int32)} {C : CS} {n : Int} {S : Int → Int} {P K : TS} {F : Int × Int × Int} {B : (Nat → Int64) × (Nat → Int64)} {G : Int → Int} {E : Int × Int} {tb : Int → Int → Int} {p l m k i j : Int} (hp : m_R p) (hll : m_R l) (hm : m_R m) (hk : m_R k) (hi : m_R i) (hj : m_R j) (hR : repM n S tb) : m_Run X 128 [.inr (.inl 13), .inl p, .inl l, .inl m, .inl k, .inl i, .inl j] (mW C (S, P, K, F, B, G, E)) (fun r w => r = some (.inl (triFS n tb p l m k i j)) ∧ ∃ B2 : (Nat → Int64) × (Nat → Int64), w = mW C (S, P, K, F, B2, G, E)) := by
  have hn := hR.1
  have hl := okN_lo hn
  have hs0 := hR.2.1
  have hq := sq_b hn
  have hnp : NP n = n * n + n + 1 := rfl
  show m_Sem X 128 (0, [some (.inr (.inl 13)), some (.inl p), some (.inl l), some (.inl m), some (.inl k), some (.inl i), some (.inl j), none], [], mW C (S, P, K, F, B, G, E), 0, 0) _
  refine m_run 3 (ps' := (5, [some (.inr (.inl 13)), some (.inl p), some (.inl l), some (.inl m), some (.inl k), some (.inl i), some (.inl j), none], [.inl 0, .inr (.inl 14)], mW C (S, P, K, F, B, G, E), 0, 0)) rfl ?_
  refine m_iald rfl rfl (by omega) (by omega) (by decide) ?_
  show m_Sem X 128 (6, [some (.inr (.inl 13)), some (.inl p), some (.inl l), some (.inl m), some (.inl k), some (.inl i), some (.inl j), none], [.inl (S 0)], mW C (S, P, K, F, B, G, E), 0, 0) _
  rw [hs0]
  refine m_run 3 (ps' := (10, [some (.inr (.inl 13)), some (.inl p), some (.inl l), some (.inl m), some (.inl k), some (.inl i), some (.inl j), some (.inl n)], [.inl p, .inr (.inl 13)], mW C (S, P, K, F, B, G, E), 0, 0)) rfl ?_
  refine m_callVF [.inl p] [] rfl rfl ⟨_, rfl, rfl⟩ rfl rfl (d_ispt (e := p) hn hs0 hp) ?_
  show m_Sem X 128 (13, [some (.inr (.inl 13)), some (.inl p), some (.inl l), some (.inl m), some (.inl k), some (.inl i), some (.inl j), some (.inl n)], [.inl (bI (inN (NP n) p))], mW C (S, P, K, F, B, G, E), 0, 0) _
  refine m_if rfl (bI_R _) (fun (zc1 : (bI (inN (NP n) p)) = 0) => ?_) (fun (zc1 : ¬ (bI (inN (NP n) p)) = 0) => ?_)
  · replace zc1 : (inN (NP n) p) = false := bI_e0.mp zc1
    refine m_run 1 (ps' := (99, [some (.inr (.inl 13)), some (.inl p), some (.inl l), some (.inl m), some (.inl k), some (.inl i), some (.inl j), some (.inl n)], [.inl (-1000001)], mW C (S, P, K, F, B, G, E), 0, 0)) rfl ?_
    exact m_ret1 rfl (Or.inl rfl) rfl (⟨congrArg (fun x => some (Sum.inl x)) ((tri_no (fun h9 => by obtain ⟨h1, h2, h3, h4, h5, h6, h7, h8, h9, h10⟩ := h9; first | omega | (rw [zc1] at h1; cases h1))).symm), B, rfl⟩)
  · replace zc1 : (inN (NP n) p) = true := bI_n0.mp zc1
    have zi1 := inN_i.mp zc1
    unfold NP at zi1
    refine m_run 3 (ps' := (20, [some (.inr (.inl 13)), some (.inl p), some (.inl l), some (.inl m), some (.inl k), some (.inl i), some (.inl j), some (.inl n)], [.inl n, .inl 0, .inl l], mW C (S, P, K, F, B, G, E), 0, 0)) rfl ?_
    refine m_callSF [.inl l, .inl 0, .inl n] [] rfl rfl rfl (d_in (v := l) (l := 0) (m := n) hll ⟨by omega, by omega⟩ ⟨by omega, by omega⟩) ?_
    show m_Sem X 128 (23, [some (.inr (.inl 13)), some (.inl p), some (.inl l), some (.inl m), some (.inl k), some (.inl i), some (.inl j), some (.inl n)], [.inl (bI (insS l 0 n))], mW C (S, P, K, F, B, G, E), 0, 0) _
    refine m_if rfl (bI_R _) (fun (zc2 : (bI (insS l 0 n)) = 0) => ?_) (fun (zc2 : ¬ (bI (insS l 0 n)) = 0) => ?_)
    · replace zc2 : (insS l 0 n) = false := bI_e0.mp zc2
      have zj1 := insS_f.mp zc2
      refine m_run 1 (ps' := (99, [some (.inr (.inl 13)), some (.inl p), some (.inl l), some (.inl m), some (.inl k), some (.inl i), some (.inl j), some (.inl n)], [.inl (-1000001)], mW C (S, P, K, F, B, G, E), 0, 0)) rfl ?_
      exact m_ret1 rfl (Or.inl rfl) rfl (⟨congrArg (fun x => some (Sum.inl x)) ((tri_no (fun h9 => by obtain ⟨h1, h2, h3, h4, h5, h6, h7, h8, h9, h10⟩ := h9; first | omega | (rw [zc1] at h1; cases h1))).symm), B, rfl⟩)
    · replace zc2 : (insS l 0 n) = true := bI_n0.mp zc2
      have zj1 := insS_i.mp zc2
      refine m_run 3 (ps' := (30, [some (.inr (.inl 13)), some (.inl p), some (.inl l), some (.inl m), some (.inl k), some (.inl i), some (.inl j), some (.inl n)], [.inl n, .inl 0, .inl m], mW C (S, P, K, F, B, G, E), 0, 0)) rfl ?_
      refine m_callSF [.inl m, .inl 0, .inl n] [] rfl rfl rfl (d_in (v := m) (l := 0) (m := n) hm ⟨by omega, by omega⟩ ⟨by omega, by omega⟩) ?_
      show m_Sem X 128 (33, [some (.inr (.inl 13)), some (.inl p), some (.inl l), some (.inl m), some (.inl k), some (.inl i), some (.inl j), some (.inl n)], [.inl (bI (insS m 0 n))], mW C (S, P, K, F, B, G, E), 0, 0) _
      refine m_if rfl (bI_R _) (fun (zc3 : (bI (insS m 0 n)) = 0) => ?_) (fun (zc3 : ¬ (bI (insS m 0 n)) = 0) => ?_)
      · replace zc3 : (insS m 0 n) = false := bI_e0.mp zc3
        have zj2 := insS_f.mp zc3
        refine m_run 1 (ps' := (99, [some (.inr (.inl 13)), some (.inl p), some (.inl l), some (.inl m), some (.inl k), some (.inl i), some (.inl j), some (.inl n)], [.inl (-1000001)], mW C (S, P, K, F, B, G, E), 0, 0)) rfl ?_
        exact m_ret1 rfl (Or.inl rfl) rfl (⟨congrArg (fun x => some (Sum.inl x)) ((tri_no (fun h9 => by obtain ⟨h1, h2, h3, h4, h5, h6, h7, h8, h9, h10⟩ := h9; first | omega | (rw [zc1] at h1; cases h1))).symm), B, rfl⟩)
      · replace zc3 : (insS m 0 n) = true := bI_n0.mp zc3
        have zj2 := insS_i.mp zc3
        refine m_run 3 (ps' := (41, [some (.inr (.inl 13)), some (.inl p), some (.inl l), some (.inl m), some (.inl k), some (.inl i), some (.inl j), some (.inl n)], [.inl n, .inl 0, .inl k], mW C (S, P, K, F, B, G, E), 0, 0)) rfl ?_
        refine m_callSF [.inl k, .inl 0, .inl n] [] rfl rfl rfl (d_in (v := k) (l := 0) (m := n) hk ⟨by omega, by omega⟩ ⟨by omega, by omega⟩) ?_
        show m_Sem X 128 (44, [some (.inr (.inl 13)), some (.inl p), some (.inl l), some (.inl m), some (.inl k), some (.inl i), some (.inl j), some (.inl n)], [.inl (bI (insS k 0 n))], mW C (S, P, K, F, B, G, E), 0, 0) _
        refine m_if rfl (bI_R _) (fun (zc4 : (bI (insS k 0 n)) = 0) => ?_) (fun (zc4 : ¬ (bI (insS k 0 n)) = 0) => ?_)
        · replace zc4 : (insS k 0 n) = false := bI_e0.mp zc4
          have zj3 := insS_f.mp zc4
          refine m_run 1 (ps' := (99, [some (.inr (.inl 13)), some (.inl p), some (.inl l), some (.inl m), some (.inl k), some (.inl i), some (.inl j), some (.inl n)], [.inl (-1000001)], mW C (S, P, K, F, B, G, E), 0, 0)) rfl ?_
          exact m_ret1 rfl (Or.inl rfl) rfl (⟨congrArg (fun x => some (Sum.inl x)) ((tri_no (fun h9 => by obtain ⟨h1, h2, h3, h4, h5, h6, h7, h8, h9, h10⟩ := h9; first | omega | (rw [zc1] at h1; cases h1))).symm), B, rfl⟩)
        · replace zc4 : (insS k 0 n) = true := bI_n0.mp zc4
          have zj3 := insS_i.mp zc4
          refine m_run 5 (ps' := (54, [some (.inr (.inl 13)), some (.inl p), some (.inl l), some (.inl m), some (.inl k), some (.inl i), some (.inl j), some (.inl n)], [.inl (n - 1), .inl 0, .inl i], mW C (S, P, K, F, B, G, E), 0, 0)) rfl ?_
          refine m_callSF [.inl i, .inl 0, .inl (n - 1)] [] rfl rfl rfl (d_in (v := i) (l := 0) (m := (n - 1)) hi ⟨by omega, by omega⟩ ⟨by omega, by omega⟩) ?_
          show m_Sem X 128 (57, [some (.inr (.inl 13)), some (.inl p), some (.inl l), some (.inl m), some (.inl k), some (.inl i), some (.inl j), some (.inl n)], [.inl (bI (insS i 0 (n - 1)))], mW C (S, P, K, F, B, G, E), 0, 0) _
          refine m_if rfl (bI_R _) (fun (zc5 : (bI (insS i 0 (n - 1))) = 0) => ?_) (fun (zc5 : ¬ (bI (insS i 0 (n - 1))) = 0) => ?_)
          · replace zc5 : (insS i 0 (n - 1)) = false := bI_e0.mp zc5
            have zj4 := insS_f.mp zc5
            refine m_run 1 (ps' := (99, [some (.inr (.inl 13)), some (.inl p), some (.inl l), some (.inl m), some (.inl k), some (.inl i), some (.inl j), some (.inl n)], [.inl (-1000001)], mW C (S, P, K, F, B, G, E), 0, 0)) rfl ?_
            exact m_ret1 rfl (Or.inl rfl) rfl (⟨congrArg (fun x => some (Sum.inl x)) ((tri_no (fun h9 => by obtain ⟨h1, h2, h3, h4, h5, h6, h7, h8, h9, h10⟩ := h9; first | omega | (rw [zc1] at h1; cases h1))).symm), B, rfl⟩)
          · replace zc5 : (insS i 0 (n - 1)) = true := bI_n0.mp zc5
            have zj4 := insS_i.mp zc5
            refine m_run 5 (ps' := (67, [some (.inr (.inl 13)), some (.inl p), some (.inl l), some (.inl m), some (.inl k), some (.inl i), some (.inl j), some (.inl n)], [.inl (n - 1), .inl 0, .inl j], mW C (S, P, K, F, B, G, E), 0, 0)) rfl ?_
            refine m_callSF [.inl j, .inl 0, .inl (n - 1)] [] rfl rfl rfl (d_in (v := j) (l := 0) (m := (n - 1)) hj ⟨by omega, by omega⟩ ⟨by omega, by omega⟩) ?_
            show m_Sem X 128 (70, [some (.inr (.inl 13)), some (.inl p), some (.inl l), some (.inl m), some (.inl k), some (.inl i), some (.inl j), some (.inl n)], [.inl (bI (insS j 0 (n - 1)))], mW C (S, P, K, F, B, G, E), 0, 0) _
            refine m_if rfl (bI_R _) (fun (zc6 : (bI (insS j 0 (n - 1))) = 0) => ?_) (fun (zc6 : ¬ (bI (insS j 0 (n - 1))) = 0) => ?_)
            · replace zc6 : (insS j 0 (n - 1)) = false := bI_e0.mp zc6
              have zj5 := insS_f.mp zc6
              refine m_run 1 (ps' := (99, [some (.inr (.inl 13)), some (.inl p), some (.inl l), some (.inl m), some (.inl k), some (.inl i), some (.inl j), some (.inl n)], [.inl (-1000001)], mW C (S, P, K, F, B, G, E), 0, 0)) rfl ?_
              exact m_ret1 rfl (Or.inl rfl) rfl (⟨congrArg (fun x => some (Sum.inl x)) ((tri_no (fun h9 => by obtain ⟨h1, h2, h3, h4, h5, h6, h7, h8, h9, h10⟩ := h9; first | omega | (rw [zc1] at h1; cases h1))).symm), B, rfl⟩)
            · replace zc6 : (insS j 0 (n - 1)) = true := bI_n0.mp zc6
              have zj5 := insS_i.mp zc6
              refine m_run 2 (ps' := (75, [some (.inr (.inl 13)), some (.inl p), some (.inl l), some (.inl m), some (.inl k), some (.inl i), some (.inl j), some (.inl n)], [.inl m, .inl l], mW C (S, P, K, F, B, G, E), 0, 0)) rfl ?_
              refine m_icmp rfl hll hm (fun (zc7 : l = m) => ?_) (fun (zc7 : ¬ l = m) => ?_)
              · refine m_run 1 (ps' := (99, [some (.inr (.inl 13)), some (.inl p), some (.inl l), some (.inl m), some (.inl k), some (.inl i), some (.inl j), some (.inl n)], [.inl (-1000001)], mW C (S, P, K, F, B, G, E), 0, 0)) rfl ?_
                exact m_ret1 rfl (Or.inl rfl) rfl (⟨congrArg (fun x => some (Sum.inl x)) ((tri_no (fun h9 => by obtain ⟨h1, h2, h3, h4, h5, h6, h7, h8, h9, h10⟩ := h9; first | omega | (rw [zc1] at h1; cases h1))).symm), B, rfl⟩)
              · refine m_run 2 (ps' := (81, [some (.inr (.inl 13)), some (.inl p), some (.inl l), some (.inl m), some (.inl k), some (.inl i), some (.inl j), some (.inl n)], [.inl k, .inl l], mW C (S, P, K, F, B, G, E), 0, 0)) rfl ?_
                refine m_icmp rfl hll hk (fun (zc8 : l = k) => ?_) (fun (zc8 : ¬ l = k) => ?_)
                · refine m_run 1 (ps' := (99, [some (.inr (.inl 13)), some (.inl p), some (.inl l), some (.inl m), some (.inl k), some (.inl i), some (.inl j), some (.inl n)], [.inl (-1000001)], mW C (S, P, K, F, B, G, E), 0, 0)) rfl ?_
                  exact m_ret1 rfl (Or.inl rfl) rfl (⟨congrArg (fun x => some (Sum.inl x)) ((tri_no (fun h9 => by obtain ⟨h1, h2, h3, h4, h5, h6, h7, h8, h9, h10⟩ := h9; first | omega | (rw [zc1] at h1; cases h1))).symm), B, rfl⟩)
                · refine m_run 2 (ps' := (87, [some (.inr (.inl 13)), some (.inl p), some (.inl l), some (.inl m), some (.inl k), some (.inl i), some (.inl j), some (.inl n)], [.inl k, .inl m], mW C (S, P, K, F, B, G, E), 0, 0)) rfl ?_
                  refine m_icmp rfl hm hk (fun (zc9 : m = k) => ?_) (fun (zc9 : ¬ m = k) => ?_)
                  · refine m_run 1 (ps' := (99, [some (.inr (.inl 13)), some (.inl p), some (.inl l), some (.inl m), some (.inl k), some (.inl i), some (.inl j), some (.inl n)], [.inl (-1000001)], mW C (S, P, K, F, B, G, E), 0, 0)) rfl ?_
                    exact m_ret1 rfl (Or.inl rfl) rfl (⟨congrArg (fun x => some (Sum.inl x)) ((tri_no (fun h9 => by obtain ⟨h1, h2, h3, h4, h5, h6, h7, h8, h9, h10⟩ := h9; first | omega | (rw [zc1] at h1; cases h1))).symm), B, rfl⟩)
                  · refine m_run 2 (ps' := (94, [some (.inr (.inl 13)), some (.inl p), some (.inl l), some (.inl m), some (.inl k), some (.inl i), some (.inl j), some (.inl n)], [.inl j, .inl i], mW C (S, P, K, F, B, G, E), 0, 0)) rfl ?_
                    refine m_icmp rfl hi hj (fun (zc10 : ¬ i = j) => ?_) (fun (zc10 : ¬ ¬ i = j) => ?_)
                    · refine m_run 1 (ps' := (101, [some (.inr (.inl 13)), some (.inl p), some (.inl l), some (.inl m), some (.inl k), some (.inl i), some (.inl j), some (.inl n)], [.inr (.inl 13)], mW C (S, P, K, F, B, G, E), 0, 0)) rfl ?_
                      refine m_callV [] [] rfl rfl ⟨_, rfl, rfl⟩ rfl rfl (d_plS hR) (fun r_ w_ hq_ _ => ?_)
                      obtain ⟨rfl, B2, rfl, hB2⟩ := hq_
                      show m_Sem X 128 (104, [some (.inr (.inl 13)), some (.inl p), some (.inl l), some (.inl m), some (.inl k), some (.inl i), some (.inl j), some (.inl n)], [.inl (bI (plS n tb))], mW C (S, P, K, F, B2, G, E), 0, 0) _
                      refine m_if rfl (bI_R _) (fun (zc11 : (bI (plS n tb)) = 0) => ?_) (fun (zc11 : ¬ (bI (plS n tb)) = 0) => ?_)
                      · replace zc11 : (plS n tb) = false := bI_e0.mp zc11
                        refine m_run 1 (ps' := (125, [some (.inr (.inl 13)), some (.inl p), some (.inl l), some (.inl m), some (.inl k), some (.inl i), some (.inl j), some (.inl n)], [.inl (-1000002)], mW C (S, P, K, F, B2, G, E), 0, 0)) rfl ?_
                        exact m_ret1 rfl (Or.inl rfl) rfl (⟨congrArg (fun x => some (Sum.inl x)) (by rw [tri_yes ⟨zc1, zj1, zj2, zj3, zj4, zj5, zc7, zc8, zc9, zc10⟩, if_pos zc11]), B2, rfl⟩)
                      · replace zc11 : (plS n tb) = true := bI_n0.mp zc11
                        refine m_run 7 (ps' := (117, [some (.inr (.inl 13)), some (.inl p), some (.inl l), some (.inl m), some (.inl k), some (.inl i), some (.inl j), some (.inl n)], [.inl j, .inl i, .inl k, .inl m, .inl l, .inl p, .inr (.inl 13)], mW C (S, P, K, F, B2, G, E), 0, 0)) rfl ?_
                        refine m_callVF [.inl p, .inl l, .inl m, .inl k, .inl i, .inl j] [] rfl rfl ⟨_, rfl, rfl⟩ rfl rfl (d_looks (p := p) (l := l) (m := m) (k := k) (i := i) (j := j) hn (repM.tb hR) hB2 (plS_P hn (repM.tb hR) (by assumption)) (by omega) (by omega) (by omega) (by omega) (by omega) (by omega) (by omega) (by omega) (by omega) (by omega) (by omega) (by omega)) ?_
                        show m_Sem X 128 (120, [some (.inr (.inl 13)), some (.inl p), some (.inl l), some (.inl m), some (.inl k), some (.inl i), some (.inl j), some (.inl n)], [.inl (triC n tb p l m k i j)], mW C (S, P, K, F, B2, G, E), 0, 0) _
                        refine m_run 1 (ps' := (125, [some (.inr (.inl 13)), some (.inl p), some (.inl l), some (.inl m), some (.inl k), some (.inl i), some (.inl j), some (.inl n)], [.inl (triC n tb p l m k i j)], mW C (S, P, K, F, B2, G, E), 0, 0)) rfl ?_
                        exact m_ret1 rfl (Or.inl rfl) rfl (⟨congrArg (fun x => some (Sum.inl x)) (by rw [tri_yes ⟨zc1, zj1, zj2, zj3, zj4, zj5, zc7, zc8, zc9, zc10⟩, if_neg (by rw [zc11]; decide)]), B2, rfl⟩)
                    · replace zc10 : i = j := Decidable.not_not.mp zc10
                      refine m_run 1 (ps' := (99, [some (.inr (.inl 13)), some (.inl p), some (.inl l), some (.inl m), some (.inl k), some (.inl i), some (.inl j), some (.inl n)], [.inl (-1000001)], mW C (S, P, K, F, B, G, E), 0, 0)) rfl ?_
                      exact m_ret1 rfl (Or.inl rfl) rfl (⟨congrArg (fun x => some (Sum.inl x)) ((tri_no (fun h9 => by obtain ⟨h1, h2, h3, h4, h5, h6, h7, h8, h9, h10⟩ := h9; first | omega | (rw [zc1] at h1; cases h1))).symm), B, rfl⟩)
set_option maxHeartbeats 4000000 in
set_option maxRecDepth 100000 in
theorem e_opI {X : Nat × Nat × (Nat → Int32)} {C : CS} {n : Int} {S : Int → Int} {P K : TS} {F : Int × Int × Int} {B : (Nat → Int64) × (Nat → Int64)} {G : Int → Int} {E : Int × Int} {tb : Int → Int → Int} {p : Int} (hp : 0 ≤ p) (hp2 : p < NP n) (hR : repM n S tb) (hP : plS n tb = true) (hB2 : rowsB n tb B) {j : Int} {Q : Option mPV → mPW → Prop} {v : Int} (hj : 0 ≤ j) (hj2 : j < n) (K9 : m_Sem X 129 (25, [some (.inr (.inl 13)), some (.inl p), some (.inl v), some (.inl (j + 1)), none], [], mW C (S, P, K, F, B, G, E), 0, 0) Q) : ∀ i : Int, 0 ≤ i → i ≤ j → ∀ (u : Int) (hu : u + sumF (fun i => if triC n tb p 0 1 2 i j = 0 then 1 else 0) (j - i).toNat i = v), m_Sem X 129 (38, [some (.inr (.inl 13)), some (.inl p), some (.inl u), some (.inl j), some (.inl i)], [], mW C (S, P, K, F, B, G, E), 0, 0) (Q) := by
  have hn := hR.1
  have hl := okN_lo hn
  have hs0 := hR.2.1
  have hq := sq_b hn
  have hnp : NP n = n * n + n + 1 := rfl
  refine m_down 0 j ?_ ?_
  · intro u hu
    rw [sum_end] at hu
    have hu : u = v := by omega
    subst hu
    show m_Sem X 129 (38, [some (.inr (.inl 13)), some (.inl p), some (.inl u), some (.inl j), some (.inl j)], [], mW C (S, P, K, F, B, G, E), 0, 0) _
    refine m_run 2 (ps' := (41, [some (.inr (.inl 13)), some (.inl p), some (.inl u), some (.inl j), some (.inl j)], [.inl j, .inl j], mW C (S, P, K, F, B, G, E), 0, 0)) rfl ?_
    refine m_icmp rfl ⟨by omega, by omega⟩ ⟨by omega, by omega⟩ (fun (zc1 : j ≤ j) => ?_) (fun (zc1 : ¬ j ≤ j) => absurd zc1 (not_not_intro (by omega)))
    refine m_run 2 (ps' := (25, [some (.inr (.inl 13)), some (.inl p), some (.inl u), some (.inl (j + 1)), some (.inl j)], [], mW C (S, P, K, F, B, G, E), 0, 0)) rfl ?_
    refine m_weak [some (.inr (.inl 13)), some (.inl p), some (.inl u), some (.inl (j + 1)), none] ⟨rfl, ⟨rfl, ⟨rfl, ⟨rfl, trivial⟩⟩⟩⟩ ?_
    exact K9
  · intro i hi1 hi2 ih u hu
    rw [sum_step hi2] at hu
    refine m_run 2 (ps' := (41, [some (.inr (.inl 13)), some (.inl p), some (.inl u), some (.inl j), some (.inl i)], [.inl j, .inl i], mW C (S, P, K, F, B, G, E), 0, 0)) rfl ?_
    refine m_icmp rfl ⟨by omega, by omega⟩ ⟨by omega, by omega⟩ (fun (zc1 : j ≤ i) => absurd zc1 (by omega)) (fun (zc1 : ¬ j ≤ i) => ?_)
    refine m_run 8 (ps' := (53, [some (.inr (.inl 13)), some (.inl p), some (.inl u), some (.inl j), some (.inl i)], [.inl j, .inl i, .inl 2, .inl 1, .inl 0, .inl p, .inr (.inl 13), .inl u], mW C (S, P, K, F, B, G, E), 0, 0)) rfl ?_
    refine m_callVF [.inl p, .inl 0, .inl 1, .inl 2, .inl i, .inl j] [.inl u] rfl rfl ⟨_, rfl, rfl⟩ rfl rfl (d_looks (p := p) (l := 0) (m := 1) (k := 2) (i := i) (j := j) hn (repM.tb hR) hB2 (plS_P hn (repM.tb hR) hP) (by omega) (by omega) (by omega) (by omega) (by omega) (by omega) (by omega) (by omega) (by omega) (by omega) (by omega) (by omega)) ?_
    show m_Sem X 129 (56, [some (.inr (.inl 13)), some (.inl p), some (.inl u), some (.inl j), some (.inl i)], [.inl (triC n tb p 0 1 2 i j), .inl u], mW C (S, P, K, F, B, G, E), 0, 0) _
    refine m_if rfl (triC_R) (fun (zc2 : ¬ (triC n tb p 0 1 2 i j) = 0) => ?_) (fun (zc2 : ¬ ¬ (triC n tb p 0 1 2 i j) = 0) => ?_)
    · refine m_run 5 (ps' := (38, [some (.inr (.inl 13)), some (.inl p), some (.inl (u + 0)), some (.inl j), some (.inl (i + 1))], [], mW C (S, P, K, F, B, G, E), 0, 0)) rfl ?_
      refine m_weak [some (.inr (.inl 13)), some (.inl p), some (.inl (u + 0)), some (.inl j), some (.inl (i + 1))] ⟨rfl, ⟨rfl, ⟨rfl, ⟨rfl, ⟨rfl, trivial⟩⟩⟩⟩⟩ ?_
      rw [if_neg zc2] at hu
      exact ih _ (by rw [← hu]; omega)
    · replace zc2 : (triC n tb p 0 1 2 i j) = 0 := Decidable.not_not.mp zc2
      refine m_run 6 (ps' := (38, [some (.inr (.inl 13)), some (.inl p), some (.inl (u + 1)), some (.inl j), some (.inl (i + 1))], [], mW C (S, P, K, F, B, G, E), 0, 0)) rfl ?_
      refine m_weak [some (.inr (.inl 13)), some (.inl p), some (.inl (u + 1)), some (.inl j), some (.inl (i + 1))] ⟨rfl, ⟨rfl, ⟨rfl, ⟨rfl, ⟨rfl, trivial⟩⟩⟩⟩⟩ ?_
      rw [if_pos zc2] at hu
      exact ih _ (by rw [← hu]; omega)
set_option maxHeartbeats 4000000 in
set_option maxRecDepth 100000 in
theorem e_opO {X : Nat × Nat × (Nat → Int32)} {C : CS} {n : Int} {S : Int → Int} {P K : TS} {F : Int × Int × Int} {B : (Nat → Int64) × (Nat → Int64)} {G : Int → Int} {E : Int × Int} {tb : Int → Int → Int} {p : Int} (hp : 0 ≤ p) (hp2 : p < NP n) (hR : repM n S tb) (hP : plS n tb = true) (hB2 : rowsB n tb B) {Q : Option mPV → mPW → Prop} {v : Int} (K9 : Q (some (.inl v)) (mW C (S, P, K, F, B, G, E))) : ∀ j : Int, 0 ≤ j → j ≤ n → ∀ (u : Int) (hu : u + sumF (opR n tb p) (n - j).toNat j = v), m_Sem X 129 (25, [some (.inr (.inl 13)), some (.inl p), some (.inl u), some (.inl j), none], [], mW C (S, P, K, F, B, G, E), 0, 0) (Q) := by
  have hn := hR.1
  have hl := okN_lo hn
  have hs0 := hR.2.1
  have hq := sq_b hn
  have hnp : NP n = n * n + n + 1 := rfl
  refine m_down 0 n ?_ ?_
  · intro u hu
    rw [sum_end] at hu
    have hu : u = v := by omega
    subst hu
    show m_Sem X 129 (25, [some (.inr (.inl 13)), some (.inl p), some (.inl u), some (.inl n), none], [], mW C (S, P, K, F, B, G, E), 0, 0) _
    refine m_run 4 (ps' := (31, [some (.inr (.inl 13)), some (.inl p), some (.inl u), some (.inl n), none], [.inl 0, .inr (.inl 14), .inl n], mW C (S, P, K, F, B, G, E), 0, 0)) rfl ?_
    refine m_iald rfl rfl (by omega) (by omega) (by decide) ?_
    show m_Sem X 129 (32, [some (.inr (.inl 13)), some (.inl p), some (.inl u), some (.inl n), none], [.inl (S 0), .inl n], mW C (S, P, K, F, B, G, E), 0, 0) _
    rw [hs0]
    refine m_icmp rfl ⟨by omega, by omega⟩ ⟨by omega, by omega⟩ (fun (zc1 : n ≤ n) => ?_) (fun (zc1 : ¬ n ≤ n) => absurd zc1 (not_not_intro (by omega)))
    refine m_run 1 (ps' := (79, [some (.inr (.inl 13)), some (.inl p), some (.inl u), some (.inl n), none], [.inl u], mW C (S, P, K, F, B, G, E), 0, 0)) rfl ?_
    exact m_ret1 rfl (Or.inl rfl) rfl K9
  · intro j hi1 hi2 ih u hu
    rw [sum_step hi2] at hu
    refine m_run 4 (ps' := (31, [some (.inr (.inl 13)), some (.inl p), some (.inl u), some (.inl j), none], [.inl 0, .inr (.inl 14), .inl j], mW C (S, P, K, F, B, G, E), 0, 0)) rfl ?_
    refine m_iald rfl rfl (by omega) (by omega) (by decide) ?_
    show m_Sem X 129 (32, [some (.inr (.inl 13)), some (.inl p), some (.inl u), some (.inl j), none], [.inl (S 0), .inl j], mW C (S, P, K, F, B, G, E), 0, 0) _
    rw [hs0]
    refine m_icmp rfl ⟨by omega, by omega⟩ ⟨by omega, by omega⟩ (fun (zc1 : n ≤ j) => absurd zc1 (by omega)) (fun (zc1 : ¬ n ≤ j) => ?_)
    refine m_run 2 (ps' := (38, [some (.inr (.inl 13)), some (.inl p), some (.inl u), some (.inl j), some (.inl 0)], [], mW C (S, P, K, F, B, G, E), 0, 0)) rfl ?_
    refine m_weak [some (.inr (.inl 13)), some (.inl p), some (.inl u), some (.inl j), some (.inl 0)] ⟨rfl, ⟨rfl, ⟨rfl, ⟨rfl, ⟨rfl, trivial⟩⟩⟩⟩⟩ ?_
    exact e_opI (v := u + opR n tb p j) hp hp2 hR hP hB2 hi1 hi2 (ih _ (by rw [← hu]; omega)) 0 (by omega) (by omega) u (by rw [Int.sub_zero]; rfl)
set_option maxHeartbeats 4000000 in
set_option maxRecDepth 100000 in
theorem d_fop {X : Nat × Nat × (Nat → Int32)} {C : CS} {n : Int} {S : Int → Int} {P K : TS} {F : Int × Int × Int} {B : (Nat → Int64) × (Nat → Int64)} {G : Int → Int} {E : Int × Int} {tb : Int → Int → Int} {p : Int} (hp : m_R p) (hR : repM n S tb) : m_Run X 129 [.inr (.inl 13), .inl p] (mW C (S, P, K, F, B, G, E)) (fun r w => r = some (.inl (opFS n tb p)) ∧ ∃ B2 : (Nat → Int64) × (Nat → Int64), w = mW C (S, P, K, F, B2, G, E)) := by
  have hn := hR.1
  have hl := okN_lo hn
  have hs0 := hR.2.1
  have hq := sq_b hn
  have hnp : NP n = n * n + n + 1 := rfl
  show m_Sem X 129 (0, [some (.inr (.inl 13)), some (.inl p), none, none, none], [], mW C (S, P, K, F, B, G, E), 0, 0) _
  refine m_run 2 (ps' := (2, [some (.inr (.inl 13)), some (.inl p), none, none, none], [.inl p, .inr (.inl 13)], mW C (S, P, K, F, B, G, E), 0, 0)) rfl ?_
  refine m_callVF [.inl p] [] rfl rfl ⟨_, rfl, rfl⟩ rfl rfl (d_ispt (e := p) hn hs0 hp) ?_
  show m_Sem X 129 (5, [some (.inr (.inl 13)), some (.inl p), none, none, none], [.inl (bI (inN (NP n) p))], mW C (S, P, K, F, B, G, E), 0, 0) _
  refine m_if rfl (bI_R (inN (NP n) p)) (fun (zc1 : ¬ (bI (inN (NP n) p)) = 0) => ?_) (fun (zc1 : ¬ ¬ (bI (inN (NP n) p)) = 0) => ?_)
  · replace zc1 : (inN (NP n) p) = true := bI_n0.mp zc1
    have zi1 := inN_i.mp zc1
    unfold NP at zi1
    refine m_run 1 (ps' := (12, [some (.inr (.inl 13)), some (.inl p), none, none, none], [.inr (.inl 13)], mW C (S, P, K, F, B, G, E), 0, 0)) rfl ?_
    refine m_callV [] [] rfl rfl ⟨_, rfl, rfl⟩ rfl rfl (d_plS hR) (fun r_ w_ hq_ _ => ?_)
    obtain ⟨rfl, B2, rfl, hB2⟩ := hq_
    show m_Sem X 129 (15, [some (.inr (.inl 13)), some (.inl p), none, none, none], [.inl (bI (plS n tb))], mW C (S, P, K, F, B2, G, E), 0, 0) _
    refine m_if rfl (bI_R (plS n tb)) (fun (zc2 : ¬ (bI (plS n tb)) = 0) => ?_) (fun (zc2 : ¬ ¬ (bI (plS n tb)) = 0) => ?_)
    · replace zc2 : (plS n tb) = true := bI_n0.mp zc2
      refine m_run 4 (ps' := (25, [some (.inr (.inl 13)), some (.inl p), some (.inl 0), some (.inl 0), none], [], mW C (S, P, K, F, B2, G, E), 0, 0)) rfl ?_
      refine m_weak [some (.inr (.inl 13)), some (.inl p), some (.inl 0), some (.inl 0), none] ⟨rfl, ⟨rfl, ⟨rfl, ⟨rfl, trivial⟩⟩⟩⟩ ?_
      exact e_opO (v := opFS n tb p) (by omega) (by omega) hR zc2 hB2 ⟨rfl, B2, rfl⟩ 0 (by omega) (by omega) 0 (by rw [z_sub, Int.zero_add]; unfold opFS; rw [if_neg (by rw [zc1]; decide), if_neg (by rw [zc2]; decide)]; rfl)
    · replace zc2 : (plS n tb) = false := bI_e0.mp (Decidable.not_not.mp zc2)
      refine m_run 1 (ps' := (20, [some (.inr (.inl 13)), some (.inl p), none, none, none], [.inl (-1000002)], mW C (S, P, K, F, B2, G, E), 0, 0)) rfl ?_
      exact m_ret1 rfl (Or.inl rfl) rfl (⟨congrArg (fun x => some (Sum.inl x)) (by unfold opFS; rw [if_neg (by rw [zc1]; decide), if_pos zc2]), B2, rfl⟩)
  · replace zc1 : (inN (NP n) p) = false := bI_e0.mp (Decidable.not_not.mp zc1)
    refine m_run 1 (ps' := (10, [some (.inr (.inl 13)), some (.inl p), none, none, none], [.inl (-1000001)], mW C (S, P, K, F, B, G, E), 0, 0)) rfl ?_
    exact m_ret1 rfl (Or.inl rfl) rfl (⟨congrArg (fun x => some (Sum.inl x)) (by unfold opFS; rw [if_pos zc1]), B, rfl⟩)
theorem hex_no {n : Int} {tb : Int → Int → Int} {l m : Int} (h : inN (NP n) l = false ∨ inN (NP n) m = false ∨ l = m) : hexFS n tb l m = -1000001 := by
  unfold hexFS
  split
  · rfl
  · split
    · rfl
    · split
      · rfl
      · simp_all
set_option maxHeartbeats 4000000 in
set_option maxRecDepth 100000 in
theorem d_fhex {X : Nat × Nat × (Nat → Int32)} {C : CS} {n : Int} {S : Int → Int} {P K : TS} {F : Int × Int × Int} {B : (Nat → Int64) × (Nat → Int64)} {G : Int → Int} {E : Int × Int} {tb : Int → Int → Int} {l m : Int} (hll : m_R l) (hm : m_R m) (hR : repM n S tb) : m_Run X 130 [.inr (.inl 13), .inl l, .inl m] (mW C (S, P, K, F, B, G, E)) (fun r w => r = some (.inl (hexFS n tb l m)) ∧ ∃ B2 : (Nat → Int64) × (Nat → Int64), w = mW C (S, P, K, F, B2, G, E)) := by
  have hn := hR.1
  have hl := okN_lo hn
  have hs0 := hR.2.1
  have hq := sq_b hn
  have hnp : NP n = n * n + n + 1 := rfl
  show m_Sem X 130 (0, [some (.inr (.inl 13)), some (.inl l), some (.inl m), none, none, none, none, none, none, none], [], mW C (S, P, K, F, B, G, E), 0, 0) _
  refine m_run 2 (ps' := (2, [some (.inr (.inl 13)), some (.inl l), some (.inl m), none, none, none, none, none, none, none], [.inl l, .inr (.inl 13)], mW C (S, P, K, F, B, G, E), 0, 0)) rfl ?_
  refine m_callVF [.inl l] [] rfl rfl ⟨_, rfl, rfl⟩ rfl rfl (d_ispt (e := l) hn hs0 hll) ?_
  show m_Sem X 130 (5, [some (.inr (.inl 13)), some (.inl l), some (.inl m), none, none, none, none, none, none, none], [.inl (bI (inN (NP n) l))], mW C (S, P, K, F, B, G, E), 0, 0) _
  refine m_if rfl (bI_R _) (fun (zc1 : (bI (inN (NP n) l)) = 0) => ?_) (fun (zc1 : ¬ (bI (inN (NP n) l)) = 0) => ?_)
  · replace zc1 : (inN (NP n) l) = false := bI_e0.mp zc1
    refine m_run 1 (ps' := (23, [some (.inr (.inl 13)), some (.inl l), some (.inl m), none, none, none, none, none, none, none], [.inl (-1000001)], mW C (S, P, K, F, B, G, E), 0, 0)) rfl ?_
    exact m_ret1 rfl (Or.inl rfl) rfl (⟨congrArg (fun x => some (Sum.inl x)) ((hex_no (by first | exact Or.inl zc1 | exact Or.inr (Or.inl zc2) | exact Or.inr (Or.inr zc3))).symm), B, rfl⟩)
  · replace zc1 : (inN (NP n) l) = true := bI_n0.mp zc1
    have zi1 := inN_i.mp zc1
    unfold NP at zi1
    refine m_run 2 (ps' := (10, [some (.inr (.inl 13)), some (.inl l), some (.inl m), none, none, none, none, none, none, none], [.inl m, .inr (.inl 13)], mW C (S, P, K, F, B, G, E), 0, 0)) rfl ?_
    refine m_callVF [.inl m] [] rfl rfl ⟨_, rfl, rfl⟩ rfl rfl (d_ispt (e := m) hn hs0 hm) ?_
    show m_Sem X 130 (13, [some (.inr (.inl 13)), some (.inl l), some (.inl m), none, none, none, none, none, none, none], [.inl (bI (inN (NP n) m))], mW C (S, P, K, F, B, G, E), 0, 0) _
    refine m_if rfl (bI_R _) (fun (zc2 : (bI (inN (NP n) m)) = 0) => ?_) (fun (zc2 : ¬ (bI (inN (NP n) m)) = 0) => ?_)
    · replace zc2 : (inN (NP n) m) = false := bI_e0.mp zc2
      refine m_run 1 (ps' := (23, [some (.inr (.inl 13)), some (.inl l), some (.inl m), none, none, none, none, none, none, none], [.inl (-1000001)], mW C (S, P, K, F, B, G, E), 0, 0)) rfl ?_
      exact m_ret1 rfl (Or.inl rfl) rfl (⟨congrArg (fun x => some (Sum.inl x)) ((hex_no (by first | exact Or.inl zc1 | exact Or.inr (Or.inl zc2) | exact Or.inr (Or.inr zc3))).symm), B, rfl⟩)
    · replace zc2 : (inN (NP n) m) = true := bI_n0.mp zc2
      have zi2 := inN_i.mp zc2
      unfold NP at zi2
      refine m_run 2 (ps' := (18, [some (.inr (.inl 13)), some (.inl l), some (.inl m), none, none, none, none, none, none, none], [.inl m, .inl l], mW C (S, P, K, F, B, G, E), 0, 0)) rfl ?_
      refine m_icmp rfl hll hm (fun (zc3 : ¬ l = m) => ?_) (fun (zc3 : ¬ ¬ l = m) => ?_)
      · refine m_run 3 (ps' := (29, [some (.inr (.inl 13)), some (.inl l), some (.inl m), none, none, none, none, none, none, none], [.inl 0, .inr (.inl 14)], mW C (S, P, K, F, B, G, E), 0, 0)) rfl ?_
        refine m_iald rfl rfl (by omega) (by omega) (by decide) ?_
        show m_Sem X 130 (30, [some (.inr (.inl 13)), some (.inl l), some (.inl m), none, none, none, none, none, none, none], [.inl (S 0)], mW C (S, P, K, F, B, G, E), 0, 0) _
        rw [hs0]
        refine m_run 1 (ps' := (31, [some (.inr (.inl 13)), some (.inl l), some (.inl m), none, none, none, none, none, none, none], [.inl 3, .inl n], mW C (S, P, K, F, B, G, E), 0, 0)) rfl ?_
        refine m_icmp rfl ⟨by omega, by omega⟩ ⟨by omega, by omega⟩ (fun (zc4 : n < 3) => ?_) (fun (zc4 : ¬ n < 3) => ?_)
        · refine m_run 1 (ps' := (43, [some (.inr (.inl 13)), some (.inl l), some (.inl m), none, none, none, none, none, none, none], [.inl (-1000002)], mW C (S, P, K, F, B, G, E), 0, 0)) rfl ?_
          exact m_ret1 rfl (Or.inl rfl) rfl (⟨congrArg (fun x => some (Sum.inl x)) (by unfold hexFS; rw [if_neg (by rw [zc1]; decide), if_neg (by rw [zc2]; decide), if_neg zc3]; first | exact (if_pos zc4).symm | (rw [if_neg zc4]; exact (if_pos zc5).symm)), B, rfl⟩)
        · refine m_run 1 (ps' := (35, [some (.inr (.inl 13)), some (.inl l), some (.inl m), none, none, none, none, none, none, none], [.inr (.inl 13)], mW C (S, P, K, F, B, G, E), 0, 0)) rfl ?_
          refine m_callV [] [] rfl rfl ⟨_, rfl, rfl⟩ rfl rfl (d_plS hR) (fun r_ w_ hq_ _ => ?_)
          obtain ⟨rfl, B2, rfl, hB2⟩ := hq_
          show m_Sem X 130 (38, [some (.inr (.inl 13)), some (.inl l), some (.inl m), none, none, none, none, none, none, none], [.inl (bI (plS n tb))], mW C (S, P, K, F, B2, G, E), 0, 0) _
          refine m_if rfl (bI_R _) (fun (zc5 : ¬ (bI (plS n tb)) = 0) => ?_) (fun (zc5 : ¬ ¬ (bI (plS n tb)) = 0) => ?_)
          · replace zc5 : (plS n tb) = true := bI_n0.mp zc5
            have ht := repM.tb hR
            have hP := plS_P hn ht zc5
            have hB := hB2
            refine m_run 3 (ps' := (47, [some (.inr (.inl 13)), some (.inl l), some (.inl m), none, none, none, none, none, none, none], [.inl m, .inl l, .inr (.inl 13)], mW C (S, P, K, F, B2, G, E), 0, 0)) rfl ?_
            refine m_callVF [.inl l, .inl m] [] rfl rfl ⟨_, rfl, rfl⟩ rfl rfl (d_mtCP (a := l) (b := m) hn ht hB hP (by omega) (by omega) (by omega) (by omega)) ?_
            have zt1 := pl_mt (l := l) (m := m) hn ht hP (by omega) (by omega) (by omega) (by omega)
            show m_Sem X 130 (50, [some (.inr (.inl 13)), some (.inl l), some (.inl m), none, none, none, none, none, none, none], [.inl (mtC n tb l m)], mW C (S, P, K, F, B2, G, E), 0, 0) _
            refine m_run 5 (ps' := (55, [some (.inr (.inl 13)), some (.inl l), some (.inl m), some (.inl (mtC n tb l m)), none, none, none, none, none, none], [.inl (mtC n tb l m), .inl 0, .inl l, .inr (.inl 13)], mW C (S, P, K, F, B2, G, E), 0, 0)) rfl ?_
            refine m_callVF [.inl l, .inl 0, .inl (mtC n tb l m)] [] rfl rfl ⟨_, rfl, rfl⟩ rfl rfl (d_oth (l := l) (i := 0) (o := (mtC n tb l m)) hn ht hB (by omega) (by omega) (by omega) (by omega) (pl_mt hn ht hP (by omega) (by omega) (by omega) (by omega)).2.1) ?_
            have zt2 := pb_v (l := l) (o := (mtC n tb l m)) (i := 0) hn ht (by omega) (by omega) (by omega) (by omega)
            show m_Sem X 130 (58, [some (.inr (.inl 13)), some (.inl l), some (.inl m), some (.inl (mtC n tb l m)), none, none, none, none, none, none], [.inl (pbC n tb l (mtC n tb l m) 0)], mW C (S, P, K, F, B2, G, E), 0, 0) _
            refine m_run 5 (ps' := (64, [some (.inr (.inl 13)), some (.inl l), some (.inl m), some (.inl (mtC n tb l m)), some (.inl (pbC n tb l (mtC n tb l m) 0)), none, none, none, none, none], [.inl (mtC n tb l m), .inl 1, .inl l, .inr (.inl 13)], mW C (S, P, K, F, B2, G, E), 0, 0)) rfl ?_
            refine m_callVF [.inl l, .inl 1, .inl (mtC n tb l m)] [] rfl rfl ⟨_, rfl, rfl⟩ rfl rfl (d_oth (l := l) (i := 1) (o := (mtC n tb l m)) hn ht hB (by omega) (by omega) (by omega) (by omega) (pl_mt hn ht hP (by omega) (by omega) (by omega) (by omega)).2.1) ?_
            have zt3 := pb_v (l := l) (o := (mtC n tb l m)) (i := 1) hn ht (by omega) (by omega) (by omega) (by omega)
            show m_Sem X 130 (67, [some (.inr (.inl 13)), some (.inl l), some (.inl m), some (.inl (mtC n tb l m)), some (.inl (pbC n tb l (mtC n tb l m) 0)), none, none, none, none, none], [.inl (pbC n tb l (mtC n tb l m) 1)], mW C (S, P, K, F, B2, G, E), 0, 0) _
            refine m_run 5 (ps' := (73, [some (.inr (.inl 13)), some (.inl l), some (.inl m), some (.inl (mtC n tb l m)), some (.inl (pbC n tb l (mtC n tb l m) 0)), some (.inl (pbC n tb l (mtC n tb l m) 1)), none, none, none, none], [.inl (mtC n tb l m), .inl 2, .inl l, .inr (.inl 13)], mW C (S, P, K, F, B2, G, E), 0, 0)) rfl ?_
            refine m_callVF [.inl l, .inl 2, .inl (mtC n tb l m)] [] rfl rfl ⟨_, rfl, rfl⟩ rfl rfl (d_oth (l := l) (i := 2) (o := (mtC n tb l m)) hn ht hB (by omega) (by omega) (by omega) (by omega) (pl_mt hn ht hP (by omega) (by omega) (by omega) (by omega)).2.1) ?_
            have zt4 := pb_v (l := l) (o := (mtC n tb l m)) (i := 2) hn ht (by omega) (by omega) (by omega) (by omega)
            show m_Sem X 130 (76, [some (.inr (.inl 13)), some (.inl l), some (.inl m), some (.inl (mtC n tb l m)), some (.inl (pbC n tb l (mtC n tb l m) 0)), some (.inl (pbC n tb l (mtC n tb l m) 1)), none, none, none, none], [.inl (pbC n tb l (mtC n tb l m) 2)], mW C (S, P, K, F, B2, G, E), 0, 0) _
            refine m_run 5 (ps' := (82, [some (.inr (.inl 13)), some (.inl l), some (.inl m), some (.inl (mtC n tb l m)), some (.inl (pbC n tb l (mtC n tb l m) 0)), some (.inl (pbC n tb l (mtC n tb l m) 1)), some (.inl (pbC n tb l (mtC n tb l m) 2)), none, none, none], [.inl (mtC n tb l m), .inl 0, .inl m, .inr (.inl 13)], mW C (S, P, K, F, B2, G, E), 0, 0)) rfl ?_
            refine m_callVF [.inl m, .inl 0, .inl (mtC n tb l m)] [] rfl rfl ⟨_, rfl, rfl⟩ rfl rfl (d_oth (l := m) (i := 0) (o := (mtC n tb l m)) hn ht hB (by omega) (by omega) (by omega) (by omega) (pl_mt hn ht hP (by omega) (by omega) (by omega) (by omega)).2.2) ?_
            have zt5 := pb_v (l := m) (o := (mtC n tb l m)) (i := 0) hn ht (by omega) (by omega) (by omega) (by omega)
            show m_Sem X 130 (85, [some (.inr (.inl 13)), some (.inl l), some (.inl m), some (.inl (mtC n tb l m)), some (.inl (pbC n tb l (mtC n tb l m) 0)), some (.inl (pbC n tb l (mtC n tb l m) 1)), some (.inl (pbC n tb l (mtC n tb l m) 2)), none, none, none], [.inl (pbC n tb m (mtC n tb l m) 0)], mW C (S, P, K, F, B2, G, E), 0, 0) _
            refine m_run 5 (ps' := (91, [some (.inr (.inl 13)), some (.inl l), some (.inl m), some (.inl (mtC n tb l m)), some (.inl (pbC n tb l (mtC n tb l m) 0)), some (.inl (pbC n tb l (mtC n tb l m) 1)), some (.inl (pbC n tb l (mtC n tb l m) 2)), some (.inl (pbC n tb m (mtC n tb l m) 0)), none, none], [.inl (mtC n tb l m), .inl 1, .inl m, .inr (.inl 13)], mW C (S, P, K, F, B2, G, E), 0, 0)) rfl ?_
            refine m_callVF [.inl m, .inl 1, .inl (mtC n tb l m)] [] rfl rfl ⟨_, rfl, rfl⟩ rfl rfl (d_oth (l := m) (i := 1) (o := (mtC n tb l m)) hn ht hB (by omega) (by omega) (by omega) (by omega) (pl_mt hn ht hP (by omega) (by omega) (by omega) (by omega)).2.2) ?_
            have zt6 := pb_v (l := m) (o := (mtC n tb l m)) (i := 1) hn ht (by omega) (by omega) (by omega) (by omega)
            show m_Sem X 130 (94, [some (.inr (.inl 13)), some (.inl l), some (.inl m), some (.inl (mtC n tb l m)), some (.inl (pbC n tb l (mtC n tb l m) 0)), some (.inl (pbC n tb l (mtC n tb l m) 1)), some (.inl (pbC n tb l (mtC n tb l m) 2)), some (.inl (pbC n tb m (mtC n tb l m) 0)), none, none], [.inl (pbC n tb m (mtC n tb l m) 1)], mW C (S, P, K, F, B2, G, E), 0, 0) _
            refine m_run 5 (ps' := (100, [some (.inr (.inl 13)), some (.inl l), some (.inl m), some (.inl (mtC n tb l m)), some (.inl (pbC n tb l (mtC n tb l m) 0)), some (.inl (pbC n tb l (mtC n tb l m) 1)), some (.inl (pbC n tb l (mtC n tb l m) 2)), some (.inl (pbC n tb m (mtC n tb l m) 0)), some (.inl (pbC n tb m (mtC n tb l m) 1)), none], [.inl (mtC n tb l m), .inl 2, .inl m, .inr (.inl 13)], mW C (S, P, K, F, B2, G, E), 0, 0)) rfl ?_
            refine m_callVF [.inl m, .inl 2, .inl (mtC n tb l m)] [] rfl rfl ⟨_, rfl, rfl⟩ rfl rfl (d_oth (l := m) (i := 2) (o := (mtC n tb l m)) hn ht hB (by omega) (by omega) (by omega) (by omega) (pl_mt hn ht hP (by omega) (by omega) (by omega) (by omega)).2.2) ?_
            have zt7 := pb_v (l := m) (o := (mtC n tb l m)) (i := 2) hn ht (by omega) (by omega) (by omega) (by omega)
            show m_Sem X 130 (103, [some (.inr (.inl 13)), some (.inl l), some (.inl m), some (.inl (mtC n tb l m)), some (.inl (pbC n tb l (mtC n tb l m) 0)), some (.inl (pbC n tb l (mtC n tb l m) 1)), some (.inl (pbC n tb l (mtC n tb l m) 2)), some (.inl (pbC n tb m (mtC n tb l m) 0)), some (.inl (pbC n tb m (mtC n tb l m) 1)), none], [.inl (pbC n tb m (mtC n tb l m) 2)], mW C (S, P, K, F, B2, G, E), 0, 0) _
            refine m_run 7 (ps' := (115, [some (.inr (.inl 13)), some (.inl l), some (.inl m), some (.inl (mtC n tb l m)), some (.inl (pbC n tb l (mtC n tb l m) 0)), some (.inl (pbC n tb l (mtC n tb l m) 1)), some (.inl (pbC n tb l (mtC n tb l m) 2)), some (.inl (pbC n tb m (mtC n tb l m) 0)), some (.inl (pbC n tb m (mtC n tb l m) 1)), some (.inl (pbC n tb m (mtC n tb l m) 2))], [.inl (pbC n tb m (mtC n tb l m) 0), .inl (pbC n tb l (mtC n tb l m) 1), .inl (pbC n tb m (mtC n tb l m) 1), .inl (pbC n tb l (mtC n tb l m) 0), .inr (.inl 13), .inr (.inl 13)], mW C (S, P, K, F, B2, G, E), 0, 0)) rfl ?_
            refine m_callVF [.inl (pbC n tb l (mtC n tb l m) 0), .inl (pbC n tb m (mtC n tb l m) 1), .inl (pbC n tb l (mtC n tb l m) 1), .inl (pbC n tb m (mtC n tb l m) 0)] [.inr (.inl 13)] rfl rfl ⟨_, rfl, rfl⟩ rfl rfl (d_cr (a := (pbC n tb l (mtC n tb l m) 0)) (b := (pbC n tb m (mtC n tb l m) 1)) (d := (pbC n tb l (mtC n tb l m) 1)) (e := (pbC n tb m (mtC n tb l m) 0)) hn ht hB hP (by omega) (by omega) (by omega) (by omega) (by omega) (by omega) (by omega) (by omega)) ?_
            have zt8 := cr_v (a := (pbC n tb l (mtC n tb l m) 0)) (b := (pbC n tb m (mtC n tb l m) 1)) (d := (pbC n tb l (mtC n tb l m) 1)) (e := (pbC n tb m (mtC n tb l m) 0)) hn ht hP (by omega) (by omega) (by omega) (by omega) (by omega) (by omega) (by omega) (by omega)
            show m_Sem X 130 (118, [some (.inr (.inl 13)), some (.inl l), some (.inl m), some (.inl (mtC n tb l m)), some (.inl (pbC n tb l (mtC n tb l m) 0)), some (.inl (pbC n tb l (mtC n tb l m) 1)), some (.inl (pbC n tb l (mtC n tb l m) 2)), some (.inl (pbC n tb m (mtC n tb l m) 0)), some (.inl (pbC n tb m (mtC n tb l m) 1)), some (.inl (pbC n tb m (mtC n tb l m) 2))], [.inl (crC n tb (pbC n tb l (mtC n tb l m) 0) (pbC n tb m (mtC n tb l m) 1) (pbC n tb l (mtC n tb l m) 1) (pbC n tb m (mtC n tb l m) 0)), .inr (.inl 13)], mW C (S, P, K, F, B2, G, E), 0, 0) _
            refine m_run 5 (ps' := (127, [some (.inr (.inl 13)), some (.inl l), some (.inl m), some (.inl (mtC n tb l m)), some (.inl (pbC n tb l (mtC n tb l m) 0)), some (.inl (pbC n tb l (mtC n tb l m) 1)), some (.inl (pbC n tb l (mtC n tb l m) 2)), some (.inl (pbC n tb m (mtC n tb l m) 0)), some (.inl (pbC n tb m (mtC n tb l m) 1)), some (.inl (pbC n tb m (mtC n tb l m) 2))], [.inl (pbC n tb m (mtC n tb l m) 0), .inl (pbC n tb l (mtC n tb l m) 2), .inl (pbC n tb m (mtC n tb l m) 2), .inl (pbC n tb l (mtC n tb l m) 0), .inr (.inl 13), .inl (crC n tb (pbC n tb l (mtC n tb l m) 0) (pbC n tb m (mtC n tb l m) 1) (pbC n tb l (mtC n tb l m) 1) (pbC n tb m (mtC n tb l m) 0)), .inr (.inl 13)], mW C (S, P, K, F, B2, G, E), 0, 0)) rfl ?_
            refine m_callVF [.inl (pbC n tb l (mtC n tb l m) 0), .inl (pbC n tb m (mtC n tb l m) 2), .inl (pbC n tb l (mtC n tb l m) 2), .inl (pbC n tb m (mtC n tb l m) 0)] [.inl (crC n tb (pbC n tb l (mtC n tb l m) 0) (pbC n tb m (mtC n tb l m) 1) (pbC n tb l (mtC n tb l m) 1) (pbC n tb m (mtC n tb l m) 0)), .inr (.inl 13)] rfl rfl ⟨_, rfl, rfl⟩ rfl rfl (d_cr (a := (pbC n tb l (mtC n tb l m) 0)) (b := (pbC n tb m (mtC n tb l m) 2)) (d := (pbC n tb l (mtC n tb l m) 2)) (e := (pbC n tb m (mtC n tb l m) 0)) hn ht hB hP (by omega) (by omega) (by omega) (by omega) (by omega) (by omega) (by omega) (by omega)) ?_
            have zt9 := cr_v (a := (pbC n tb l (mtC n tb l m) 0)) (b := (pbC n tb m (mtC n tb l m) 2)) (d := (pbC n tb l (mtC n tb l m) 2)) (e := (pbC n tb m (mtC n tb l m) 0)) hn ht hP (by omega) (by omega) (by omega) (by omega) (by omega) (by omega) (by omega) (by omega)
            show m_Sem X 130 (130, [some (.inr (.inl 13)), some (.inl l), some (.inl m), some (.inl (mtC n tb l m)), some (.inl (pbC n tb l (mtC n tb l m) 0)), some (.inl (pbC n tb l (mtC n tb l m) 1)), some (.inl (pbC n tb l (mtC n tb l m) 2)), some (.inl (pbC n tb m (mtC n tb l m) 0)), some (.inl (pbC n tb m (mtC n tb l m) 1)), some (.inl (pbC n tb m (mtC n tb l m) 2))], [.inl (crC n tb (pbC n tb l (mtC n tb l m) 0) (pbC n tb m (mtC n tb l m) 2) (pbC n tb l (mtC n tb l m) 2) (pbC n tb m (mtC n tb l m) 0)), .inl (crC n tb (pbC n tb l (mtC n tb l m) 0) (pbC n tb m (mtC n tb l m) 1) (pbC n tb l (mtC n tb l m) 1) (pbC n tb m (mtC n tb l m) 0)), .inr (.inl 13)], mW C (S, P, K, F, B2, G, E), 0, 0) _
            refine m_run 5 (ps' := (139, [some (.inr (.inl 13)), some (.inl l), some (.inl m), some (.inl (mtC n tb l m)), some (.inl (pbC n tb l (mtC n tb l m) 0)), some (.inl (pbC n tb l (mtC n tb l m) 1)), some (.inl (pbC n tb l (mtC n tb l m) 2)), some (.inl (pbC n tb m (mtC n tb l m) 0)), some (.inl (pbC n tb m (mtC n tb l m) 1)), some (.inl (pbC n tb m (mtC n tb l m) 2))], [.inl (pbC n tb m (mtC n tb l m) 1), .inl (pbC n tb l (mtC n tb l m) 2), .inl (pbC n tb m (mtC n tb l m) 2), .inl (pbC n tb l (mtC n tb l m) 1), .inr (.inl 13), .inl (crC n tb (pbC n tb l (mtC n tb l m) 0) (pbC n tb m (mtC n tb l m) 2) (pbC n tb l (mtC n tb l m) 2) (pbC n tb m (mtC n tb l m) 0)), .inl (crC n tb (pbC n tb l (mtC n tb l m) 0) (pbC n tb m (mtC n tb l m) 1) (pbC n tb l (mtC n tb l m) 1) (pbC n tb m (mtC n tb l m) 0)), .inr (.inl 13)], mW C (S, P, K, F, B2, G, E), 0, 0)) rfl ?_
            refine m_callVF [.inl (pbC n tb l (mtC n tb l m) 1), .inl (pbC n tb m (mtC n tb l m) 2), .inl (pbC n tb l (mtC n tb l m) 2), .inl (pbC n tb m (mtC n tb l m) 1)] [.inl (crC n tb (pbC n tb l (mtC n tb l m) 0) (pbC n tb m (mtC n tb l m) 2) (pbC n tb l (mtC n tb l m) 2) (pbC n tb m (mtC n tb l m) 0)), .inl (crC n tb (pbC n tb l (mtC n tb l m) 0) (pbC n tb m (mtC n tb l m) 1) (pbC n tb l (mtC n tb l m) 1) (pbC n tb m (mtC n tb l m) 0)), .inr (.inl 13)] rfl rfl ⟨_, rfl, rfl⟩ rfl rfl (d_cr (a := (pbC n tb l (mtC n tb l m) 1)) (b := (pbC n tb m (mtC n tb l m) 2)) (d := (pbC n tb l (mtC n tb l m) 2)) (e := (pbC n tb m (mtC n tb l m) 1)) hn ht hB hP (by omega) (by omega) (by omega) (by omega) (by omega) (by omega) (by omega) (by omega)) ?_
            have zt10 := cr_v (a := (pbC n tb l (mtC n tb l m) 1)) (b := (pbC n tb m (mtC n tb l m) 2)) (d := (pbC n tb l (mtC n tb l m) 2)) (e := (pbC n tb m (mtC n tb l m) 1)) hn ht hP (by omega) (by omega) (by omega) (by omega) (by omega) (by omega) (by omega) (by omega)
            show m_Sem X 130 (142, [some (.inr (.inl 13)), some (.inl l), some (.inl m), some (.inl (mtC n tb l m)), some (.inl (pbC n tb l (mtC n tb l m) 0)), some (.inl (pbC n tb l (mtC n tb l m) 1)), some (.inl (pbC n tb l (mtC n tb l m) 2)), some (.inl (pbC n tb m (mtC n tb l m) 0)), some (.inl (pbC n tb m (mtC n tb l m) 1)), some (.inl (pbC n tb m (mtC n tb l m) 2))], [.inl (crC n tb (pbC n tb l (mtC n tb l m) 1) (pbC n tb m (mtC n tb l m) 2) (pbC n tb l (mtC n tb l m) 2) (pbC n tb m (mtC n tb l m) 1)), .inl (crC n tb (pbC n tb l (mtC n tb l m) 0) (pbC n tb m (mtC n tb l m) 2) (pbC n tb l (mtC n tb l m) 2) (pbC n tb m (mtC n tb l m) 0)), .inl (crC n tb (pbC n tb l (mtC n tb l m) 0) (pbC n tb m (mtC n tb l m) 1) (pbC n tb l (mtC n tb l m) 1) (pbC n tb m (mtC n tb l m) 0)), .inr (.inl 13)], mW C (S, P, K, F, B2, G, E), 0, 0) _
            refine m_callVF [.inl (crC n tb (pbC n tb l (mtC n tb l m) 0) (pbC n tb m (mtC n tb l m) 1) (pbC n tb l (mtC n tb l m) 1) (pbC n tb m (mtC n tb l m) 0)), .inl (crC n tb (pbC n tb l (mtC n tb l m) 0) (pbC n tb m (mtC n tb l m) 2) (pbC n tb l (mtC n tb l m) 2) (pbC n tb m (mtC n tb l m) 0)), .inl (crC n tb (pbC n tb l (mtC n tb l m) 1) (pbC n tb m (mtC n tb l m) 2) (pbC n tb l (mtC n tb l m) 2) (pbC n tb m (mtC n tb l m) 1))] [] rfl rfl ⟨_, rfl, rfl⟩ rfl rfl (d_olC (a := (crC n tb (pbC n tb l (mtC n tb l m) 0) (pbC n tb m (mtC n tb l m) 1) (pbC n tb l (mtC n tb l m) 1) (pbC n tb m (mtC n tb l m) 0))) (b := (crC n tb (pbC n tb l (mtC n tb l m) 0) (pbC n tb m (mtC n tb l m) 2) (pbC n tb l (mtC n tb l m) 2) (pbC n tb m (mtC n tb l m) 0))) (c := (crC n tb (pbC n tb l (mtC n tb l m) 1) (pbC n tb m (mtC n tb l m) 2) (pbC n tb l (mtC n tb l m) 2) (pbC n tb m (mtC n tb l m) 1))) hn ht hB (by omega) (by omega) (by omega) (by omega) (by omega) (by omega)) ?_
            show m_Sem X 130 (145, [some (.inr (.inl 13)), some (.inl l), some (.inl m), some (.inl (mtC n tb l m)), some (.inl (pbC n tb l (mtC n tb l m) 0)), some (.inl (pbC n tb l (mtC n tb l m) 1)), some (.inl (pbC n tb l (mtC n tb l m) 2)), some (.inl (pbC n tb m (mtC n tb l m) 0)), some (.inl (pbC n tb m (mtC n tb l m) 1)), some (.inl (pbC n tb m (mtC n tb l m) 2))], [.inl (bI (olC n tb (crC n tb (pbC n tb l (mtC n tb l m) 0) (pbC n tb m (mtC n tb l m) 1) (pbC n tb l (mtC n tb l m) 1) (pbC n tb m (mtC n tb l m) 0)) (crC n tb (pbC n tb l (mtC n tb l m) 0) (pbC n tb m (mtC n tb l m) 2) (pbC n tb l (mtC n tb l m) 2) (pbC n tb m (mtC n tb l m) 0)) (crC n tb (pbC n tb l (mtC n tb l m) 1) (pbC n tb m (mtC n tb l m) 2) (pbC n tb l (mtC n tb l m) 2) (pbC n tb m (mtC n tb l m) 1))))], mW C (S, P, K, F, B2, G, E), 0, 0) _
            refine m_if rfl (bI_R _) (fun (zc6 : (bI (olC n tb (crC n tb (pbC n tb l (mtC n tb l m) 0) (pbC n tb m (mtC n tb l m) 1) (pbC n tb l (mtC n tb l m) 1) (pbC n tb m (mtC n tb l m) 0)) (crC n tb (pbC n tb l (mtC n tb l m) 0) (pbC n tb m (mtC n tb l m) 2) (pbC n tb l (mtC n tb l m) 2) (pbC n tb m (mtC n tb l m) 0)) (crC n tb (pbC n tb l (mtC n tb l m) 1) (pbC n tb m (mtC n tb l m) 2) (pbC n tb l (mtC n tb l m) 2) (pbC n tb m (mtC n tb l m) 1)))) = 0) => ?_) (fun (zc6 : ¬ (bI (olC n tb (crC n tb (pbC n tb l (mtC n tb l m) 0) (pbC n tb m (mtC n tb l m) 1) (pbC n tb l (mtC n tb l m) 1) (pbC n tb m (mtC n tb l m) 0)) (crC n tb (pbC n tb l (mtC n tb l m) 0) (pbC n tb m (mtC n tb l m) 2) (pbC n tb l (mtC n tb l m) 2) (pbC n tb m (mtC n tb l m) 0)) (crC n tb (pbC n tb l (mtC n tb l m) 1) (pbC n tb m (mtC n tb l m) 2) (pbC n tb l (mtC n tb l m) 2) (pbC n tb m (mtC n tb l m) 1)))) = 0) => ?_)
            · replace zc6 : (olC n tb (crC n tb (pbC n tb l (mtC n tb l m) 0) (pbC n tb m (mtC n tb l m) 1) (pbC n tb l (mtC n tb l m) 1) (pbC n tb m (mtC n tb l m) 0)) (crC n tb (pbC n tb l (mtC n tb l m) 0) (pbC n tb m (mtC n tb l m) 2) (pbC n tb l (mtC n tb l m) 2) (pbC n tb m (mtC n tb l m) 0)) (crC n tb (pbC n tb l (mtC n tb l m) 1) (pbC n tb m (mtC n tb l m) 2) (pbC n tb l (mtC n tb l m) 2) (pbC n tb m (mtC n tb l m) 1))) = false := bI_e0.mp zc6
              refine m_run 1 (ps' := (153, [some (.inr (.inl 13)), some (.inl l), some (.inl m), some (.inl (mtC n tb l m)), some (.inl (pbC n tb l (mtC n tb l m) 0)), some (.inl (pbC n tb l (mtC n tb l m) 1)), some (.inl (pbC n tb l (mtC n tb l m) 2)), some (.inl (pbC n tb m (mtC n tb l m) 0)), some (.inl (pbC n tb m (mtC n tb l m) 1)), some (.inl (pbC n tb m (mtC n tb l m) 2))], [.inl 0], mW C (S, P, K, F, B2, G, E), 0, 0)) rfl ?_
              exact m_ret1 rfl (Or.inl rfl) rfl (⟨congrArg (fun x => some (Sum.inl x)) (by
                  unfold hexFS
                  rw [if_neg (by rw [zc1]; decide), if_neg (by rw [zc2]; decide), if_neg zc3, if_neg zc4, if_neg (by rw [zc5]; decide)]
                  refine (congrArg bI (show hexC n tb l m = false from zc6)).symm ▸ rfl), B2, rfl⟩)
            · replace zc6 : (olC n tb (crC n tb (pbC n tb l (mtC n tb l m) 0) (pbC n tb m (mtC n tb l m) 1) (pbC n tb l (mtC n tb l m) 1) (pbC n tb m (mtC n tb l m) 0)) (crC n tb (pbC n tb l (mtC n tb l m) 0) (pbC n tb m (mtC n tb l m) 2) (pbC n tb l (mtC n tb l m) 2) (pbC n tb m (mtC n tb l m) 0)) (crC n tb (pbC n tb l (mtC n tb l m) 1) (pbC n tb m (mtC n tb l m) 2) (pbC n tb l (mtC n tb l m) 2) (pbC n tb m (mtC n tb l m) 1))) = true := bI_n0.mp zc6
              refine m_run 2 (ps' := (153, [some (.inr (.inl 13)), some (.inl l), some (.inl m), some (.inl (mtC n tb l m)), some (.inl (pbC n tb l (mtC n tb l m) 0)), some (.inl (pbC n tb l (mtC n tb l m) 1)), some (.inl (pbC n tb l (mtC n tb l m) 2)), some (.inl (pbC n tb m (mtC n tb l m) 0)), some (.inl (pbC n tb m (mtC n tb l m) 1)), some (.inl (pbC n tb m (mtC n tb l m) 2))], [.inl 1], mW C (S, P, K, F, B2, G, E), 0, 0)) rfl ?_
              exact m_ret1 rfl (Or.inl rfl) rfl (⟨congrArg (fun x => some (Sum.inl x)) (by
                  unfold hexFS
                  rw [if_neg (by rw [zc1]; decide), if_neg (by rw [zc2]; decide), if_neg zc3, if_neg zc4, if_neg (by rw [zc5]; decide)]
                  refine (congrArg bI (show hexC n tb l m = true from zc6)).symm ▸ rfl), B2, rfl⟩)
          · replace zc5 : (plS n tb) = false := bI_e0.mp (Decidable.not_not.mp zc5)
            refine m_run 1 (ps' := (43, [some (.inr (.inl 13)), some (.inl l), some (.inl m), none, none, none, none, none, none, none], [.inl (-1000002)], mW C (S, P, K, F, B2, G, E), 0, 0)) rfl ?_
            exact m_ret1 rfl (Or.inl rfl) rfl (⟨congrArg (fun x => some (Sum.inl x)) (by unfold hexFS; rw [if_neg (by rw [zc1]; decide), if_neg (by rw [zc2]; decide), if_neg zc3]; first | exact (if_pos zc4).symm | (rw [if_neg zc4]; exact (if_pos zc5).symm)), B2, rfl⟩)
      · replace zc3 : l = m := Decidable.not_not.mp zc3
        refine m_run 1 (ps' := (23, [some (.inr (.inl 13)), some (.inl l), some (.inl m), none, none, none, none, none, none, none], [.inl (-1000001)], mW C (S, P, K, F, B, G, E), 0, 0)) rfl ?_
        exact m_ret1 rfl (Or.inl rfl) rfl (⟨congrArg (fun x => some (Sum.inl x)) ((hex_no (by first | exact Or.inl zc1 | exact Or.inr (Or.inl zc2) | exact Or.inr (Or.inr zc3))).symm), B, rfl⟩)
