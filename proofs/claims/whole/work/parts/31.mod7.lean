set_option maxHeartbeats 4000000 in
set_option maxRecDepth 100000 in
theorem d_leads {X : Nat × Nat × (Nat → Int32)} {C : CS} {S : Int → Int} {P K : TS} {F : Int × Int × Int} {B : (Nat → Int64) × (Nat → Int64)} {G : Int → Int} {E : Int × Int} {n : Int} {tb : Int → Int → Int} {r ax ce q to : Int} (hn : okN n) (ht : tbR n tb) (hB : rowsB n tb B) (hP : plP n tb) (hr : 0 ≤ r) (hr2 : r < NP n) (hx : 0 ≤ ax) (hx2 : ax < NP n) (hc : 0 ≤ ce) (hc2 : ce < NP n) (hq : 0 ≤ q) (hq2 : q < NP n) (ht1 : 0 ≤ to) (ht2 : to < NP n) : m_Run X 131 [.inr (.inl 13), .inl r, .inl ax, .inl ce, .inl q, .inl to] (mW C (S, P, K, F, B, G, E)) (m_V (leM n tb ax ce q to r) (mW C (S, P, K, F, B, G, E))) := by
  have hln := okN_lo hn
  show m_Sem X 131 (0, [some (.inr (.inl 13)), some (.inl r), some (.inl ax), some (.inl ce), some (.inl q), some (.inl to), none], [], mW C (S, P, K, F, B, G, E), 0, 0) _
  refine m_run 4 (ps' := (5, [some (.inr (.inl 13)), some (.inl r), some (.inl ax), some (.inl ce), some (.inl q), some (.inl to), none], [.inl r, .inl q, .inr (.inl 13), .inr (.inl 13)], mW C (S, P, K, F, B, G, E), 0, 0)) rfl ?_
  refine m_callVF [.inl q, .inl r] [.inr (.inl 13)] rfl rfl ⟨_, rfl, rfl⟩ rfl rfl (d_lnCP (a := q) (b := r) hn ht hB hP (by omega) (by omega) (by omega) (by omega)) ?_
  have zt1 := pl_ln (p := q) (q := r) hn ht hP (by omega) (by omega) (by omega) (by omega)
  show m_Sem X 131 (8, [some (.inr (.inl 13)), some (.inl r), some (.inl ax), some (.inl ce), some (.inl q), some (.inl to), none], [.inl (lnC n tb q r), .inr (.inl 13)], mW C (S, P, K, F, B, G, E), 0, 0) _
  refine m_run 1 (ps' := (9, [some (.inr (.inl 13)), some (.inl r), some (.inl ax), some (.inl ce), some (.inl q), some (.inl to), none], [.inl ax, .inl (lnC n tb q r), .inr (.inl 13)], mW C (S, P, K, F, B, G, E), 0, 0)) rfl ?_
  refine m_callVF [.inl (lnC n tb q r), .inl ax] [] rfl rfl ⟨_, rfl, rfl⟩ rfl rfl (d_mtCP (a := (lnC n tb q r)) (b := ax) hn ht hB hP (by omega) (by omega) (by omega) (by omega)) ?_
  have zt2 := pl_mt (l := (lnC n tb q r)) (m := ax) hn ht hP (by omega) (by omega) (by omega) (by omega)
  show m_Sem X 131 (12, [some (.inr (.inl 13)), some (.inl r), some (.inl ax), some (.inl ce), some (.inl q), some (.inl to), none], [.inl (mtC n tb (lnC n tb q r) ax)], mW C (S, P, K, F, B, G, E), 0, 0) _
  refine m_run 5 (ps' := (20, [some (.inr (.inl 13)), some (.inl r), some (.inl ax), some (.inl ce), some (.inl q), some (.inl to), some (.inl (mtC n tb (lnC n tb q r) ax))], [.inl to, .inl (mtC n tb (lnC n tb q r) ax), .inr (.inl 13), .inr (.inl 13)], mW C (S, P, K, F, B, G, E), 0, 0)) rfl ?_
  refine m_callVF [.inl (mtC n tb (lnC n tb q r) ax), .inl to] [.inr (.inl 13)] rfl rfl ⟨_, rfl, rfl⟩ rfl rfl (d_lnCP (a := (mtC n tb (lnC n tb q r) ax)) (b := to) hn ht hB hP (by omega) (by omega) (by omega) (by omega)) ?_
  have zt3 := pl_ln (p := (mtC n tb (lnC n tb q r) ax)) (q := to) hn ht hP (by omega) (by omega) (by omega) (by omega)
  show m_Sem X 131 (23, [some (.inr (.inl 13)), some (.inl r), some (.inl ax), some (.inl ce), some (.inl q), some (.inl to), some (.inl (mtC n tb (lnC n tb q r) ax))], [.inl (lnC n tb (mtC n tb (lnC n tb q r) ax) to), .inr (.inl 13)], mW C (S, P, K, F, B, G, E), 0, 0) _
  refine m_run 3 (ps' := (26, [some (.inr (.inl 13)), some (.inl r), some (.inl ax), some (.inl ce), some (.inl q), some (.inl to), some (.inl (mtC n tb (lnC n tb q r) ax))], [.inl r, .inl ce, .inr (.inl 13), .inl (lnC n tb (mtC n tb (lnC n tb q r) ax) to), .inr (.inl 13)], mW C (S, P, K, F, B, G, E), 0, 0)) rfl ?_
  refine m_callVF [.inl ce, .inl r] [.inl (lnC n tb (mtC n tb (lnC n tb q r) ax) to), .inr (.inl 13)] rfl rfl ⟨_, rfl, rfl⟩ rfl rfl (d_lnCP (a := ce) (b := r) hn ht hB hP (by omega) (by omega) (by omega) (by omega)) ?_
  have zt4 := pl_ln (p := ce) (q := r) hn ht hP (by omega) (by omega) (by omega) (by omega)
  show m_Sem X 131 (29, [some (.inr (.inl 13)), some (.inl r), some (.inl ax), some (.inl ce), some (.inl q), some (.inl to), some (.inl (mtC n tb (lnC n tb q r) ax))], [.inl (lnC n tb ce r), .inl (lnC n tb (mtC n tb (lnC n tb q r) ax) to), .inr (.inl 13)], mW C (S, P, K, F, B, G, E), 0, 0) _
  refine m_callVF [.inl (lnC n tb (mtC n tb (lnC n tb q r) ax) to), .inl (lnC n tb ce r)] [] rfl rfl ⟨_, rfl, rfl⟩ rfl rfl (d_mtCP (a := (lnC n tb (mtC n tb (lnC n tb q r) ax) to)) (b := (lnC n tb ce r)) hn ht hB hP (by omega) (by omega) (by omega) (by omega)) ?_
  have zt5 := pl_mt (l := (lnC n tb (mtC n tb (lnC n tb q r) ax) to)) (m := (lnC n tb ce r)) hn ht hP (by omega) (by omega) (by omega) (by omega)
  show m_Sem X 131 (32, [some (.inr (.inl 13)), some (.inl r), some (.inl ax), some (.inl ce), some (.inl q), some (.inl to), some (.inl (mtC n tb (lnC n tb q r) ax))], [.inl (mtC n tb (lnC n tb (mtC n tb (lnC n tb q r) ax) to) (lnC n tb ce r))], mW C (S, P, K, F, B, G, E), 0, 0) _
  exact m_ret1 rfl (Or.inl rfl) rfl (m_Vi rfl)
set_option maxHeartbeats 4000000 in
set_option maxRecDepth 100000 in
theorem e_map1 {X : Nat × Nat × (Nat → Int32)} {C : CS} {n : Int} {S : Int → Int} {P K : TS} {F : Int × Int × Int} {B : (Nat → Int64) × (Nat → Int64)} {E : Int × Int} {tb : Int → Int → Int} {ax ce q to : Int} (hR : repM n S tb) (hB : rowsB n tb B) (hP : plP n tb) (hx : 0 ≤ ax ∧ ax < NP n) (hc : 0 ≤ ce ∧ ce < NP n) (fq : frB n tb ax ce q = true) (ft : frB n tb ax ce to = true) (hto : onC n tb to (lnC n tb ce q) = true) {Q : Option mPV → mPW → Prop} (hex : ∃ p, frB n tb ax ce p = true ∧ onC n tb p (lnC n tb ce q) = false) (K9 : ∀ (G : Int → Int) (an : Int), (∀ p, 0 ≤ p → p < NP n → G p = im1 n tb ax ce q to p) → frB n tb ax ce an = true → onC n tb an (lnC n tb ce q) = false → m_Sem X 132 (95, [some (.inr (.inl 13)), some (.inl ax), some (.inl ce), some (.inl q), some (.inl to), some (.inl (NP n)), some (.inl (lnC n tb ce q)), some (.inl an), some (.inl 0)], [], mW C (S, P, K, F, B, G, E), 0, 0) Q) : ∀ iv : Int, 0 ≤ iv → iv ≤ (NP n) → ∀ (G : Int → Int) (an : Int) (hf : ∀ p, 0 ≤ p → p < iv → G p = im1 n tb ax ce q to p) (ha : (an = -1000004 ∧ ∀ p, 0 ≤ p → p < iv → ¬ (frB n tb ax ce p = true ∧ onC n tb p (lnC n tb ce q) = false)) ∨ (frB n tb ax ce an = true ∧ onC n tb an (lnC n tb ce q) = false ∧ an < iv)), m_Sem X 132 (21, [some (.inr (.inl 13)), some (.inl ax), some (.inl ce), some (.inl q), some (.inl to), some (.inl (NP n)), some (.inl (lnC n tb ce q)), some (.inl an), some (.inl iv)], [], mW C (S, P, K, F, B, G, E), 0, 0) (Q) := by
  have hn := hR.1
  have ht := repM.tb hR
  have hs0 := hR.2.1
  have hln := okN_lo hn
  have h91 := np_91 hn
  have hnp : NP n = n * n + n + 1 := rfl
  have hq9 := sq_b hn
  have vq := (fr_i.mp fq).1
  have vt := (fr_i.mp ft).1
  have cq := pl_ln hn ht hP hc.1 hc.2 vq.1 vq.2
  refine m_down 0 (NP n) ?_ ?_
  · intro G an hf ha
    show m_Sem X 132 (21, [some (.inr (.inl 13)), some (.inl ax), some (.inl ce), some (.inl q), some (.inl to), some (.inl (NP n)), some (.inl (lnC n tb ce q)), some (.inl an), some (.inl (NP n))], [], mW C (S, P, K, F, B, G, E), 0, 0) _
    refine m_run 2 (ps' := (25, [some (.inr (.inl 13)), some (.inl ax), some (.inl ce), some (.inl q), some (.inl to), some (.inl (NP n)), some (.inl (lnC n tb ce q)), some (.inl an), some (.inl (NP n))], [.inl (NP n), .inl (NP n)], mW C (S, P, K, F, B, G, E), 0, 0)) rfl ?_
    refine m_icmp rfl ⟨by omega, by omega⟩ ⟨by omega, by omega⟩ (fun (zc1 : (NP n) ≤ (NP n)) => ?_) (fun (zc1 : ¬ (NP n) ≤ (NP n)) => absurd zc1 (not_not_intro (by omega)))
    refine m_run 2 (ps' := (95, [some (.inr (.inl 13)), some (.inl ax), some (.inl ce), some (.inl q), some (.inl to), some (.inl (NP n)), some (.inl (lnC n tb ce q)), some (.inl an), some (.inl 0)], [], mW C (S, P, K, F, B, G, E), 0, 0)) rfl ?_
    refine m_weak [some (.inr (.inl 13)), some (.inl ax), some (.inl ce), some (.inl q), some (.inl to), some (.inl (NP n)), some (.inl (lnC n tb ce q)), some (.inl an), some (.inl 0)] ⟨rfl, ⟨rfl, ⟨rfl, ⟨rfl, ⟨rfl, ⟨rfl, ⟨rfl, ⟨rfl, ⟨rfl, trivial⟩⟩⟩⟩⟩⟩⟩⟩⟩ ?_
    rcases ha with ⟨-, ha⟩ | ⟨ha1, ha2, -⟩
    · exfalso
      obtain ⟨p9, f9, o9⟩ := hex
      have v9 := (fr_i.mp f9).1
      exact ha p9 v9.1 v9.2 ⟨f9, o9⟩
    · exact K9 G an hf ha1 ha2
  · intro iv hi1 hi2 ih G an hf ha
    refine m_run 2 (ps' := (25, [some (.inr (.inl 13)), some (.inl ax), some (.inl ce), some (.inl q), some (.inl to), some (.inl (NP n)), some (.inl (lnC n tb ce q)), some (.inl an), some (.inl iv)], [.inl (NP n), .inl iv], mW C (S, P, K, F, B, G, E), 0, 0)) rfl ?_
    refine m_icmp rfl ⟨by omega, by omega⟩ ⟨by omega, by omega⟩ (fun (zc1 : (NP n) ≤ iv) => absurd zc1 (by omega)) (fun (zc1 : ¬ (NP n) ≤ iv) => ?_)
    refine m_run 4 (ps' := (36, [some (.inr (.inl 13)), some (.inl ax), some (.inl ce), some (.inl q), some (.inl to), some (.inl (NP n)), some (.inl (lnC n tb ce q)), some (.inl an), some (.inl iv)], [.inl iv, .inl iv, .inr (.inl 19)], mW C (S, P, K, F, B, G, E), 0, 0)) rfl ?_
    refine m_iast rfl rfl (by omega) (by omega) (by decide) ?_
    show m_Sem X 132 (37, [some (.inr (.inl 13)), some (.inl ax), some (.inl ce), some (.inl q), some (.inl to), some (.inl (NP n)), some (.inl (lnC n tb ce q)), some (.inl an), some (.inl iv)], [], mW C (S, P, K, F, B, (m_up G iv iv), E), 0, 0) _
    refine m_run 3 (ps' := (41, [some (.inr (.inl 13)), some (.inl ax), some (.inl ce), some (.inl q), some (.inl to), some (.inl (NP n)), some (.inl (lnC n tb ce q)), some (.inl an), some (.inl iv)], [.inl ax, .inl iv, .inr (.inl 13)], mW C (S, P, K, F, B, (m_up G iv iv), E), 0, 0)) rfl ?_
    refine m_callVF [.inl iv, .inl ax] [] rfl rfl ⟨_, rfl, rfl⟩ rfl rfl (d_on (p := iv) (l := ax) hR (by omega) (by omega) (by omega) (by omega)) ?_
    show m_Sem X 132 (44, [some (.inr (.inl 13)), some (.inl ax), some (.inl ce), some (.inl q), some (.inl to), some (.inl (NP n)), some (.inl (lnC n tb ce q)), some (.inl an), some (.inl iv)], [.inl (bI (onC n tb iv ax))], mW C (S, P, K, F, B, (m_up G iv iv), E), 0, 0) _
    refine m_if rfl (bI_R (onC n tb iv ax)) (fun (zc2 : ¬ (bI (onC n tb iv ax)) = 0) => ?_) (fun (zc2 : ¬ ¬ (bI (onC n tb iv ax)) = 0) => ?_)
    · replace zc2 : (onC n tb iv ax) = true := bI_n0.mp zc2
      refine m_run 2 (ps' := (21, [some (.inr (.inl 13)), some (.inl ax), some (.inl ce), some (.inl q), some (.inl to), some (.inl (NP n)), some (.inl (lnC n tb ce q)), some (.inl an), some (.inl (iv + 1))], [], mW C (S, P, K, F, B, (m_up G iv iv), E), 0, 0)) rfl ?_
      refine m_weak [some (.inr (.inl 13)), some (.inl ax), some (.inl ce), some (.inl q), some (.inl to), some (.inl (NP n)), some (.inl (lnC n tb ce q)), some (.inl an), some (.inl (iv + 1))] ⟨rfl, ⟨rfl, ⟨rfl, ⟨rfl, ⟨rfl, ⟨rfl, ⟨rfl, ⟨rfl, ⟨rfl, trivial⟩⟩⟩⟩⟩⟩⟩⟩⟩ ?_
      have hno : ¬ (frB n tb ax ce iv = true ∧ onC n tb iv (lnC n tb ce q) = false) := fun h9 => by
        have h8 := (fr_i.mp h9.1).2
        first | (rw [zc2] at h8; exact absurd h8.2 (by decide)) | exact h8.1 zc3 | (have h7 := h9.2; rw [zc4] at h7; cases h7)
      refine ih _ _ (fun p g1 g2 => ?_) ?_
      · by_cases he : p = iv
        · rw [he, m_up_s, im1_n hno]
        · rw [m_up_n _ _ he]; exact hf p g1 (by omega)
      · rcases ha with ⟨a1, a2⟩ | ⟨a1, a2, a3⟩
        · exact Or.inl ⟨a1, fun p g1 g2 => by
            by_cases he : p = iv
            · rw [he]; exact hno
            · exact a2 p g1 (by omega)⟩
        · exact Or.inr ⟨a1, a2, by omega⟩
    · replace zc2 : (onC n tb iv ax) = false := bI_e0.mp (Decidable.not_not.mp zc2)
      refine m_run 2 (ps' := (50, [some (.inr (.inl 13)), some (.inl ax), some (.inl ce), some (.inl q), some (.inl to), some (.inl (NP n)), some (.inl (lnC n tb ce q)), some (.inl an), some (.inl iv)], [.inl ce, .inl iv], mW C (S, P, K, F, B, (m_up G iv iv), E), 0, 0)) rfl ?_
      refine m_icmp rfl ⟨by omega, by omega⟩ ⟨by omega, by omega⟩ (fun (zc3 : iv = ce) => ?_) (fun (zc3 : ¬ iv = ce) => ?_)
      · refine m_run 2 (ps' := (21, [some (.inr (.inl 13)), some (.inl ax), some (.inl ce), some (.inl q), some (.inl to), some (.inl (NP n)), some (.inl (lnC n tb ce q)), some (.inl an), some (.inl (iv + 1))], [], mW C (S, P, K, F, B, (m_up G iv iv), E), 0, 0)) rfl ?_
        refine m_weak [some (.inr (.inl 13)), some (.inl ax), some (.inl ce), some (.inl q), some (.inl to), some (.inl (NP n)), some (.inl (lnC n tb ce q)), some (.inl an), some (.inl (iv + 1))] ⟨rfl, ⟨rfl, ⟨rfl, ⟨rfl, ⟨rfl, ⟨rfl, ⟨rfl, ⟨rfl, ⟨rfl, trivial⟩⟩⟩⟩⟩⟩⟩⟩⟩ ?_
        have hno : ¬ (frB n tb ax ce iv = true ∧ onC n tb iv (lnC n tb ce q) = false) := fun h9 => by
          have h8 := (fr_i.mp h9.1).2
          first | (rw [zc2] at h8; exact absurd h8.2 (by decide)) | exact h8.1 zc3 | (have h7 := h9.2; rw [zc4] at h7; cases h7)
        refine ih _ _ (fun p g1 g2 => ?_) ?_
        · by_cases he : p = iv
          · rw [he, m_up_s, im1_n hno]
          · rw [m_up_n _ _ he]; exact hf p g1 (by omega)
        · rcases ha with ⟨a1, a2⟩ | ⟨a1, a2, a3⟩
          · exact Or.inl ⟨a1, fun p g1 g2 => by
              by_cases he : p = iv
              · rw [he]; exact hno
              · exact a2 p g1 (by omega)⟩
          · exact Or.inr ⟨a1, a2, by omega⟩
      · refine m_run 3 (ps' := (58, [some (.inr (.inl 13)), some (.inl ax), some (.inl ce), some (.inl q), some (.inl to), some (.inl (NP n)), some (.inl (lnC n tb ce q)), some (.inl an), some (.inl iv)], [.inl (lnC n tb ce q), .inl iv, .inr (.inl 13)], mW C (S, P, K, F, B, (m_up G iv iv), E), 0, 0)) rfl ?_
        refine m_callVF [.inl iv, .inl (lnC n tb ce q)] [] rfl rfl ⟨_, rfl, rfl⟩ rfl rfl (d_on (p := iv) (l := (lnC n tb ce q)) hR (by omega) (by omega) (by omega) (by omega)) ?_
        show m_Sem X 132 (61, [some (.inr (.inl 13)), some (.inl ax), some (.inl ce), some (.inl q), some (.inl to), some (.inl (NP n)), some (.inl (lnC n tb ce q)), some (.inl an), some (.inl iv)], [.inl (bI (onC n tb iv (lnC n tb ce q)))], mW C (S, P, K, F, B, (m_up G iv iv), E), 0, 0) _
        refine m_if rfl (bI_R (onC n tb iv (lnC n tb ce q))) (fun (zc4 : ¬ (bI (onC n tb iv (lnC n tb ce q))) = 0) => ?_) (fun (zc4 : ¬ ¬ (bI (onC n tb iv (lnC n tb ce q))) = 0) => ?_)
        · replace zc4 : (onC n tb iv (lnC n tb ce q)) = true := bI_n0.mp zc4
          refine m_run 2 (ps' := (21, [some (.inr (.inl 13)), some (.inl ax), some (.inl ce), some (.inl q), some (.inl to), some (.inl (NP n)), some (.inl (lnC n tb ce q)), some (.inl an), some (.inl (iv + 1))], [], mW C (S, P, K, F, B, (m_up G iv iv), E), 0, 0)) rfl ?_
          refine m_weak [some (.inr (.inl 13)), some (.inl ax), some (.inl ce), some (.inl q), some (.inl to), some (.inl (NP n)), some (.inl (lnC n tb ce q)), some (.inl an), some (.inl (iv + 1))] ⟨rfl, ⟨rfl, ⟨rfl, ⟨rfl, ⟨rfl, ⟨rfl, ⟨rfl, ⟨rfl, ⟨rfl, trivial⟩⟩⟩⟩⟩⟩⟩⟩⟩ ?_
          have hno : ¬ (frB n tb ax ce iv = true ∧ onC n tb iv (lnC n tb ce q) = false) := fun h9 => by
            have h8 := (fr_i.mp h9.1).2
            first | (rw [zc2] at h8; exact absurd h8.2 (by decide)) | exact h8.1 zc3 | (have h7 := h9.2; rw [zc4] at h7; cases h7)
          refine ih _ _ (fun p g1 g2 => ?_) ?_
          · by_cases he : p = iv
            · rw [he, m_up_s, im1_n hno]
            · rw [m_up_n _ _ he]; exact hf p g1 (by omega)
          · rcases ha with ⟨a1, a2⟩ | ⟨a1, a2, a3⟩
            · exact Or.inl ⟨a1, fun p g1 g2 => by
                by_cases he : p = iv
                · rw [he]; exact hno
                · exact a2 p g1 (by omega)⟩
            · exact Or.inr ⟨a1, a2, by omega⟩
        · replace zc4 : (onC n tb iv (lnC n tb ce q)) = false := bI_e0.mp (Decidable.not_not.mp zc4)
          refine m_run 9 (ps' := (78, [some (.inr (.inl 13)), some (.inl ax), some (.inl ce), some (.inl q), some (.inl to), some (.inl (NP n)), some (.inl (lnC n tb ce q)), some (.inl an), some (.inl iv)], [.inl to, .inl q, .inl ce, .inl ax, .inl iv, .inr (.inl 13), .inl iv, .inr (.inl 19)], mW C (S, P, K, F, B, (m_up G iv iv), E), 0, 0)) rfl ?_
          refine m_callVF [.inl iv, .inl ax, .inl ce, .inl q, .inl to] [.inl iv, .inr (.inl 19)] rfl rfl ⟨_, rfl, rfl⟩ rfl rfl (d_leads (r := iv) (ax := ax) (ce := ce) (q := q) (to := to) hn ht hB hP (by omega) (by omega) (by omega) (by omega) (by omega) (by omega) (by omega) (by omega) (by omega) (by omega)) ?_
          show m_Sem X 132 (81, [some (.inr (.inl 13)), some (.inl ax), some (.inl ce), some (.inl q), some (.inl to), some (.inl (NP n)), some (.inl (lnC n tb ce q)), some (.inl an), some (.inl iv)], [.inl (leM n tb ax ce q to iv), .inl iv, .inr (.inl 19)], mW C (S, P, K, F, B, (m_up G iv iv), E), 0, 0) _
          refine m_iast rfl rfl (by omega) (by omega) (by decide) ?_
          show m_Sem X 132 (82, [some (.inr (.inl 13)), some (.inl ax), some (.inl ce), some (.inl q), some (.inl to), some (.inl (NP n)), some (.inl (lnC n tb ce q)), some (.inl an), some (.inl iv)], [], mW C (S, P, K, F, B, (m_up (m_up G iv iv) iv (leM n tb ax ce q to iv)), E), 0, 0) _
          refine m_run 4 (ps' := (21, [some (.inr (.inl 13)), some (.inl ax), some (.inl ce), some (.inl q), some (.inl to), some (.inl (NP n)), some (.inl (lnC n tb ce q)), some (.inl iv), some (.inl (iv + 1))], [], mW C (S, P, K, F, B, (m_up (m_up G iv iv) iv (leM n tb ax ce q to iv)), E), 0, 0)) rfl ?_
          refine m_weak [some (.inr (.inl 13)), some (.inl ax), some (.inl ce), some (.inl q), some (.inl to), some (.inl (NP n)), some (.inl (lnC n tb ce q)), some (.inl iv), some (.inl (iv + 1))] ⟨rfl, ⟨rfl, ⟨rfl, ⟨rfl, ⟨rfl, ⟨rfl, ⟨rfl, ⟨rfl, ⟨rfl, trivial⟩⟩⟩⟩⟩⟩⟩⟩⟩ ?_
          have hfr : frB n tb ax ce iv = true := fr_i.mpr ⟨⟨hi1, hi2⟩, zc3, zc2⟩
          refine ih _ _ (fun p g1 g2 => ?_) (Or.inr ⟨hfr, zc4, by omega⟩)
          by_cases he : p = iv
          · rw [he, m_up_s, im1_y ⟨hfr, zc4⟩]
          · rw [m_up_n _ _ he, m_up_n _ _ he]; exact hf p g1 (by omega)
set_option maxHeartbeats 4000000 in
set_option maxRecDepth 100000 in
theorem e_map2 {X : Nat × Nat × (Nat → Int32)} {C : CS} {n : Int} {S : Int → Int} {P K : TS} {F : Int × Int × Int} {B : (Nat → Int64) × (Nat → Int64)} {E : Int × Int} {tb : Int → Int → Int} {ax ce q to : Int} (hR : repM n S tb) (hB : rowsB n tb B) (hP : plP n tb) (hx : 0 ≤ ax ∧ ax < NP n) (hc : 0 ≤ ce ∧ ce < NP n) (fq : frB n tb ax ce q = true) (ft : frB n tb ax ce to = true) (hto : onC n tb to (lnC n tb ce q) = true) {an : Int} (ha1 : frB n tb ax ce an = true) (ha2 : onC n tb an (lnC n tb ce q) = false) : ∀ iv : Int, 0 ≤ iv → iv ≤ (NP n) → ∀ (G : Int → Int) (hf : ∀ p, 0 ≤ p → p < NP n → G p = if p < iv then imM n tb ax ce q to an p else im1 n tb ax ce q to p), m_Sem X 132 (95, [some (.inr (.inl 13)), some (.inl ax), some (.inl ce), some (.inl q), some (.inl to), some (.inl (NP n)), some (.inl (lnC n tb ce q)), some (.inl an), some (.inl iv)], [], mW C (S, P, K, F, B, G, E), 0, 0) (fun r w => r = none ∧ ∃ (an : Int) (G2 : Int → Int), w = mW C (S, P, K, F, B, G2, E) ∧ mpP n tb ax ce q to an ∧ ∀ p, 0 ≤ p → p < NP n → G2 p = imM n tb ax ce q to an p) := by
  have hn := hR.1
  have ht := repM.tb hR
  have hs0 := hR.2.1
  have hln := okN_lo hn
  have h91 := np_91 hn
  have hnp : NP n = n * n + n + 1 := rfl
  have hq9 := sq_b hn
  have vq := (fr_i.mp fq).1
  have vt := (fr_i.mp ft).1
  have cq := pl_ln hn ht hP hc.1 hc.2 vq.1 vq.2
  refine m_down 0 (NP n) ?_ ?_
  · intro G hf
    show m_Sem X 132 (95, [some (.inr (.inl 13)), some (.inl ax), some (.inl ce), some (.inl q), some (.inl to), some (.inl (NP n)), some (.inl (lnC n tb ce q)), some (.inl an), some (.inl (NP n))], [], mW C (S, P, K, F, B, G, E), 0, 0) _
    refine m_run 2 (ps' := (99, [some (.inr (.inl 13)), some (.inl ax), some (.inl ce), some (.inl q), some (.inl to), some (.inl (NP n)), some (.inl (lnC n tb ce q)), some (.inl an), some (.inl (NP n))], [.inl (NP n), .inl (NP n)], mW C (S, P, K, F, B, G, E), 0, 0)) rfl ?_
    refine m_icmp rfl ⟨by omega, by omega⟩ ⟨by omega, by omega⟩ (fun (zc1 : (NP n) ≤ (NP n)) => ?_) (fun (zc1 : ¬ (NP n) ≤ (NP n)) => absurd zc1 (not_not_intro (by omega)))
    exact m_ret0 rfl rfl rfl (⟨rfl, an, G, rfl, ⟨⟨hn, ht, hP⟩, ⟨hx, hc⟩, ⟨fq, ft, hto⟩, ha1, ha2⟩, fun p g1 g2 => by rw [hf p g1 g2, if_pos (by omega)]⟩)
  · intro iv hi1 hi2 ih G hf
    have va := (fr_i.mp ha1).1
    have hga : G an = leM n tb ax ce q to an := by
      rw [hf an va.1 va.2]
      split
      · exact im_of ha1 ha2
      · exact im1_y ⟨ha1, ha2⟩
    have hgv := (fr_i.mp (le_sp hn ht hP hx hc fq ft ha1 hto ha2).2.2.1).1
    rw [← hga] at hgv
    refine m_run 2 (ps' := (99, [some (.inr (.inl 13)), some (.inl ax), some (.inl ce), some (.inl q), some (.inl to), some (.inl (NP n)), some (.inl (lnC n tb ce q)), some (.inl an), some (.inl iv)], [.inl (NP n), .inl iv], mW C (S, P, K, F, B, G, E), 0, 0)) rfl ?_
    refine m_icmp rfl ⟨by omega, by omega⟩ ⟨by omega, by omega⟩ (fun (zc1 : (NP n) ≤ iv) => absurd zc1 (by omega)) (fun (zc1 : ¬ (NP n) ≤ iv) => ?_)
    refine m_run 3 (ps' := (106, [some (.inr (.inl 13)), some (.inl ax), some (.inl ce), some (.inl q), some (.inl to), some (.inl (NP n)), some (.inl (lnC n tb ce q)), some (.inl an), some (.inl iv)], [.inl ax, .inl iv, .inr (.inl 13)], mW C (S, P, K, F, B, G, E), 0, 0)) rfl ?_
    refine m_callVF [.inl iv, .inl ax] [] rfl rfl ⟨_, rfl, rfl⟩ rfl rfl (d_on (p := iv) (l := ax) hR (by omega) (by omega) (by omega) (by omega)) ?_
    show m_Sem X 132 (109, [some (.inr (.inl 13)), some (.inl ax), some (.inl ce), some (.inl q), some (.inl to), some (.inl (NP n)), some (.inl (lnC n tb ce q)), some (.inl an), some (.inl iv)], [.inl (bI (onC n tb iv ax))], mW C (S, P, K, F, B, G, E), 0, 0) _
    refine m_if rfl (bI_R (onC n tb iv ax)) (fun (zc2 : ¬ (bI (onC n tb iv ax)) = 0) => ?_) (fun (zc2 : ¬ ¬ (bI (onC n tb iv ax)) = 0) => ?_)
    · replace zc2 : (onC n tb iv ax) = true := bI_n0.mp zc2
      refine m_run 2 (ps' := (95, [some (.inr (.inl 13)), some (.inl ax), some (.inl ce), some (.inl q), some (.inl to), some (.inl (NP n)), some (.inl (lnC n tb ce q)), some (.inl an), some (.inl (iv + 1))], [], mW C (S, P, K, F, B, G, E), 0, 0)) rfl ?_
      refine m_weak [some (.inr (.inl 13)), some (.inl ax), some (.inl ce), some (.inl q), some (.inl to), some (.inl (NP n)), some (.inl (lnC n tb ce q)), some (.inl an), some (.inl (iv + 1))] ⟨rfl, ⟨rfl, ⟨rfl, ⟨rfl, ⟨rfl, ⟨rfl, ⟨rfl, ⟨rfl, ⟨rfl, trivial⟩⟩⟩⟩⟩⟩⟩⟩⟩ ?_
      have hno : ¬ (frB n tb ax ce iv = true ∧ onC n tb iv (lnC n tb ce q) = true) := fun h9 => by
        have h8 := (fr_i.mp h9.1).2
        first | (rw [zc2] at h8; exact absurd h8.2 (by decide)) | exact h8.1 zc3 | (have h7 := h9.2; rw [zc4] at h7; cases h7)
      refine ih _ (fun p g1 g2 => ?_)
      by_cases he : p = iv
      · rw [he, hf iv hi1 hi2, if_neg (by omega), if_pos (by omega)]
        exact im1_im hno
      · rw [hf p g1 g2]
        by_cases hl9 : p < iv
        · rw [if_pos hl9, if_pos (by omega)]
        · rw [if_neg hl9, if_neg (by omega)]
    · replace zc2 : (onC n tb iv ax) = false := bI_e0.mp (Decidable.not_not.mp zc2)
      refine m_run 2 (ps' := (115, [some (.inr (.inl 13)), some (.inl ax), some (.inl ce), some (.inl q), some (.inl to), some (.inl (NP n)), some (.inl (lnC n tb ce q)), some (.inl an), some (.inl iv)], [.inl ce, .inl iv], mW C (S, P, K, F, B, G, E), 0, 0)) rfl ?_
      refine m_icmp rfl ⟨by omega, by omega⟩ ⟨by omega, by omega⟩ (fun (zc3 : iv = ce) => ?_) (fun (zc3 : ¬ iv = ce) => ?_)
      · refine m_run 2 (ps' := (95, [some (.inr (.inl 13)), some (.inl ax), some (.inl ce), some (.inl q), some (.inl to), some (.inl (NP n)), some (.inl (lnC n tb ce q)), some (.inl an), some (.inl (iv + 1))], [], mW C (S, P, K, F, B, G, E), 0, 0)) rfl ?_
        refine m_weak [some (.inr (.inl 13)), some (.inl ax), some (.inl ce), some (.inl q), some (.inl to), some (.inl (NP n)), some (.inl (lnC n tb ce q)), some (.inl an), some (.inl (iv + 1))] ⟨rfl, ⟨rfl, ⟨rfl, ⟨rfl, ⟨rfl, ⟨rfl, ⟨rfl, ⟨rfl, ⟨rfl, trivial⟩⟩⟩⟩⟩⟩⟩⟩⟩ ?_
        have hno : ¬ (frB n tb ax ce iv = true ∧ onC n tb iv (lnC n tb ce q) = true) := fun h9 => by
          have h8 := (fr_i.mp h9.1).2
          first | (rw [zc2] at h8; exact absurd h8.2 (by decide)) | exact h8.1 zc3 | (have h7 := h9.2; rw [zc4] at h7; cases h7)
        refine ih _ (fun p g1 g2 => ?_)
        by_cases he : p = iv
        · rw [he, hf iv hi1 hi2, if_neg (by omega), if_pos (by omega)]
          exact im1_im hno
        · rw [hf p g1 g2]
          by_cases hl9 : p < iv
          · rw [if_pos hl9, if_pos (by omega)]
          · rw [if_neg hl9, if_neg (by omega)]
      · refine m_run 3 (ps' := (123, [some (.inr (.inl 13)), some (.inl ax), some (.inl ce), some (.inl q), some (.inl to), some (.inl (NP n)), some (.inl (lnC n tb ce q)), some (.inl an), some (.inl iv)], [.inl (lnC n tb ce q), .inl iv, .inr (.inl 13)], mW C (S, P, K, F, B, G, E), 0, 0)) rfl ?_
        refine m_callVF [.inl iv, .inl (lnC n tb ce q)] [] rfl rfl ⟨_, rfl, rfl⟩ rfl rfl (d_on (p := iv) (l := (lnC n tb ce q)) hR (by omega) (by omega) (by omega) (by omega)) ?_
        show m_Sem X 132 (126, [some (.inr (.inl 13)), some (.inl ax), some (.inl ce), some (.inl q), some (.inl to), some (.inl (NP n)), some (.inl (lnC n tb ce q)), some (.inl an), some (.inl iv)], [.inl (bI (onC n tb iv (lnC n tb ce q)))], mW C (S, P, K, F, B, G, E), 0, 0) _
        refine m_if rfl (bI_R (onC n tb iv (lnC n tb ce q))) (fun (zc4 : (bI (onC n tb iv (lnC n tb ce q))) = 0) => ?_) (fun (zc4 : ¬ (bI (onC n tb iv (lnC n tb ce q))) = 0) => ?_)
        · replace zc4 : (onC n tb iv (lnC n tb ce q)) = false := bI_e0.mp zc4
          refine m_run 2 (ps' := (95, [some (.inr (.inl 13)), some (.inl ax), some (.inl ce), some (.inl q), some (.inl to), some (.inl (NP n)), some (.inl (lnC n tb ce q)), some (.inl an), some (.inl (iv + 1))], [], mW C (S, P, K, F, B, G, E), 0, 0)) rfl ?_
          refine m_weak [some (.inr (.inl 13)), some (.inl ax), some (.inl ce), some (.inl q), some (.inl to), some (.inl (NP n)), some (.inl (lnC n tb ce q)), some (.inl an), some (.inl (iv + 1))] ⟨rfl, ⟨rfl, ⟨rfl, ⟨rfl, ⟨rfl, ⟨rfl, ⟨rfl, ⟨rfl, ⟨rfl, trivial⟩⟩⟩⟩⟩⟩⟩⟩⟩ ?_
          have hno : ¬ (frB n tb ax ce iv = true ∧ onC n tb iv (lnC n tb ce q) = true) := fun h9 => by
            have h8 := (fr_i.mp h9.1).2
            first | (rw [zc2] at h8; exact absurd h8.2 (by decide)) | exact h8.1 zc3 | (have h7 := h9.2; rw [zc4] at h7; cases h7)
          refine ih _ (fun p g1 g2 => ?_)
          by_cases he : p = iv
          · rw [he, hf iv hi1 hi2, if_neg (by omega), if_pos (by omega)]
            exact im1_im hno
          · rw [hf p g1 g2]
            by_cases hl9 : p < iv
            · rw [if_pos hl9, if_pos (by omega)]
            · rw [if_neg hl9, if_neg (by omega)]
        · replace zc4 : (onC n tb iv (lnC n tb ce q)) = true := bI_n0.mp zc4
          refine m_run 4 (ps' := (137, [some (.inr (.inl 13)), some (.inl ax), some (.inl ce), some (.inl q), some (.inl to), some (.inl (NP n)), some (.inl (lnC n tb ce q)), some (.inl an), some (.inl iv)], [.inl an, .inl iv, .inr (.inl 19)], mW C (S, P, K, F, B, G, E), 0, 0)) rfl ?_
          refine m_if rfl ⟨by omega, by omega⟩ (fun (zc5 : 0 ≤ an) => ?_) (fun (zc5 : ¬ 0 ≤ an) => absurd zc5 (not_not_intro (by omega)))
          refine m_run 8 (ps' := (158, [some (.inr (.inl 13)), some (.inl ax), some (.inl ce), some (.inl q), some (.inl to), some (.inl (NP n)), some (.inl (lnC n tb ce q)), some (.inl an), some (.inl iv)], [.inl an, .inr (.inl 19), .inl an, .inl ce, .inl ax, .inl iv, .inr (.inl 13), .inl iv, .inr (.inl 19)], mW C (S, P, K, F, B, G, E), 0, 0)) rfl ?_
          refine m_iald rfl rfl (by omega) (by omega) (by decide) ?_
          refine m_callVF [.inl iv, .inl ax, .inl ce, .inl an, .inl (G an)] [.inl iv, .inr (.inl 19)] rfl rfl ⟨_, rfl, rfl⟩ rfl rfl (d_leads (r := iv) (ax := ax) (ce := ce) (q := an) (to := (G an)) hn ht hB hP (by omega) (by omega) (by omega) (by omega) (by omega) (by omega) (by omega) (by omega) (by omega) (by omega)) ?_
          show m_Sem X 132 (162, [some (.inr (.inl 13)), some (.inl ax), some (.inl ce), some (.inl q), some (.inl to), some (.inl (NP n)), some (.inl (lnC n tb ce q)), some (.inl an), some (.inl iv)], [.inl (leM n tb ax ce an (G an) iv), .inl iv, .inr (.inl 19)], mW C (S, P, K, F, B, G, E), 0, 0) _
          refine m_iast rfl rfl (by omega) (by omega) (by decide) ?_
          show m_Sem X 132 (163, [some (.inr (.inl 13)), some (.inl ax), some (.inl ce), some (.inl q), some (.inl to), some (.inl (NP n)), some (.inl (lnC n tb ce q)), some (.inl an), some (.inl iv)], [], mW C (S, P, K, F, B, (m_up G iv (leM n tb ax ce an (G an) iv)), E), 0, 0) _
          refine m_run 2 (ps' := (95, [some (.inr (.inl 13)), some (.inl ax), some (.inl ce), some (.inl q), some (.inl to), some (.inl (NP n)), some (.inl (lnC n tb ce q)), some (.inl an), some (.inl (iv + 1))], [], mW C (S, P, K, F, B, (m_up G iv (leM n tb ax ce an (G an) iv)), E), 0, 0)) rfl ?_
          refine m_weak [some (.inr (.inl 13)), some (.inl ax), some (.inl ce), some (.inl q), some (.inl to), some (.inl (NP n)), some (.inl (lnC n tb ce q)), some (.inl an), some (.inl (iv + 1))] ⟨rfl, ⟨rfl, ⟨rfl, ⟨rfl, ⟨rfl, ⟨rfl, ⟨rfl, ⟨rfl, ⟨rfl, trivial⟩⟩⟩⟩⟩⟩⟩⟩⟩ ?_
          have hfr : frB n tb ax ce iv = true := fr_i.mpr ⟨⟨hi1, hi2⟩, zc3, zc2⟩
          refine ih _ (fun p g1 g2 => ?_)
          by_cases he : p = iv
          · rw [he, m_up_s, if_pos (by omega), hga]
            unfold imM
            rw [if_pos hfr, if_pos zc4]
          · rw [m_up_n _ _ he, hf p g1 g2]
            by_cases hl9 : p < iv
            · rw [if_pos hl9, if_pos (by omega)]
            · rw [if_neg hl9, if_neg (by omega)]
set_option maxHeartbeats 4000000 in
set_option maxRecDepth 100000 in
theorem d_maps {X : Nat × Nat × (Nat → Int32)} {C : CS} {n : Int} {S : Int → Int} {P K : TS} {F : Int × Int × Int} {B : (Nat → Int64) × (Nat → Int64)} {G : Int → Int} {E : Int × Int} {tb : Int → Int → Int} {ax ce q to : Int} (hR : repM n S tb) (hB : rowsB n tb B) (hP : plP n tb) (hx : 0 ≤ ax ∧ ax < NP n) (hc : 0 ≤ ce ∧ ce < NP n) (fq : frB n tb ax ce q = true) (ft : frB n tb ax ce to = true) (hto : onC n tb to (lnC n tb ce q) = true) : m_Run X 132 [.inr (.inl 13), .inl ax, .inl ce, .inl q, .inl to] (mW C (S, P, K, F, B, G, E)) (fun r w => r = none ∧ ∃ (an : Int) (G2 : Int → Int), w = mW C (S, P, K, F, B, G2, E) ∧ mpP n tb ax ce q to an ∧ ∀ p, 0 ≤ p → p < NP n → G2 p = imM n tb ax ce q to an p) := by
  have hn := hR.1
  have ht := repM.tb hR
  have hs0 := hR.2.1
  have hln := okN_lo hn
  have h91 := np_91 hn
  have hnp : NP n = n * n + n + 1 := rfl
  have hq9 := sq_b hn
  have vq := (fr_i.mp fq).1
  have vt := (fr_i.mp ft).1
  have cq := pl_ln hn ht hP hc.1 hc.2 vq.1 vq.2
  show m_Sem X 132 (0, [some (.inr (.inl 13)), some (.inl ax), some (.inl ce), some (.inl q), some (.inl to), none, none, none, none], [], mW C (S, P, K, F, B, G, E), 0, 0) _
  refine m_run 1 (ps' := (1, [some (.inr (.inl 13)), some (.inl ax), some (.inl ce), some (.inl q), some (.inl to), none, none, none, none], [.inr (.inl 13)], mW C (S, P, K, F, B, G, E), 0, 0)) rfl ?_
  refine m_callVF [] [] rfl rfl ⟨_, rfl, rfl⟩ rfl rfl (d_pts hs0) ?_
  show m_Sem X 132 (4, [some (.inr (.inl 13)), some (.inl ax), some (.inl ce), some (.inl q), some (.inl to), none, none, none, none], [.inl (NP n)], mW C (S, P, K, F, B, G, E), 0, 0) _
  refine m_run 4 (ps' := (9, [some (.inr (.inl 13)), some (.inl ax), some (.inl ce), some (.inl q), some (.inl to), some (.inl (NP n)), none, none, none], [.inl q, .inl ce, .inr (.inl 13)], mW C (S, P, K, F, B, G, E), 0, 0)) rfl ?_
  refine m_callVF [.inl ce, .inl q] [] rfl rfl ⟨_, rfl, rfl⟩ rfl rfl (d_lnCP (a := ce) (b := q) hn ht hB hP (by omega) (by omega) (by omega) (by omega)) ?_
  have zt1 := pl_ln (p := ce) (q := q) hn ht hP (by omega) (by omega) (by omega) (by omega)
  show m_Sem X 132 (12, [some (.inr (.inl 13)), some (.inl ax), some (.inl ce), some (.inl q), some (.inl to), some (.inl (NP n)), none, none, none], [.inl (lnC n tb ce q)], mW C (S, P, K, F, B, G, E), 0, 0) _
  refine m_run 5 (ps' := (21, [some (.inr (.inl 13)), some (.inl ax), some (.inl ce), some (.inl q), some (.inl to), some (.inl (NP n)), some (.inl (lnC n tb ce q)), some (.inl (-1000004)), some (.inl 0)], [], mW C (S, P, K, F, B, G, E), 0, 0)) rfl ?_
  refine m_weak [some (.inr (.inl 13)), some (.inl ax), some (.inl ce), some (.inl q), some (.inl to), some (.inl (NP n)), some (.inl (lnC n tb ce q)), some (.inl (-1000004)), some (.inl 0)] ⟨rfl, ⟨rfl, ⟨rfl, ⟨rfl, ⟨rfl, ⟨rfl, ⟨rfl, ⟨rfl, ⟨rfl, trivial⟩⟩⟩⟩⟩⟩⟩⟩⟩ ?_
  exact e_map1 hR hB hP hx hc fq ft hto (ex_off2 hn ht hP hx hc fq) (fun G2 an hf ha1 ha2 => e_map2 hR hB hP hx hc fq ft hto ha1 ha2 0 (by omega) (by omega) G2 (fun p g1 g2 => by rw [if_neg (by omega)]; exact hf p g1 g2)) 0 (by omega) (by omega) G (-1000004) (fun p g1 g2 => absurd g2 (by omega)) (Or.inl ⟨rfl, fun p g1 g2 => absurd g2 (by omega)⟩)
set_option maxHeartbeats 4000000 in
set_option maxRecDepth 100000 in
theorem e_imD {X : Nat × Nat × (Nat → Int32)} {C : CS} {n : Int} {S : Int → Int} {P K : TS} {F : Int × Int × Int} {B : (Nat → Int64) × (Nat → Int64)} {G : Int → Int} {E : Int × Int} {tb : Int → Int → Int} {ax ce : Int} (hR : repM n S tb) (hB : rowsB n tb B) (hP : plP n tb) (hx : 0 ≤ ax ∧ ax < NP n) (hc : 0 ≤ ce ∧ ce < NP n) (hG : ∀ p, 0 ≤ p → p < NP n → 0 ≤ G p ∧ G p < NP n) (hi : ∀ p p', 0 ≤ p → p < NP n → 0 ≤ p' → p' < NP n → G p = G p' → p = p') (hray : ∀ l p, onC n tb ce l = true → onC n tb p l = true → onC n tb (G p) l = true) (hgc : G ce = ce) {l : Int} {Q : Option mPV → mPW → Prop} (hl1 : 0 ≤ l) (hl2 : l < NP n) (K9 : ldX n tb G l = true → m_Sem X 133 (141, [some (.inr (.inl 13)), some (.inl ax), some (.inl ce), some (.inl (NP n)), none, none, none, none, some (.inl (l + 1)), none, none, none, none, none], [], mW C (S, P, K, F, B, G, E), 0, 0) Q) (R9 : ldX n tb G l = false → Q (some (.inl 0)) (mW C (S, P, K, F, B, G, E))) : ∀ iv : Int, 1 ≤ iv → iv ≤ (n + 1) → ∀ (x : Int64) (y : Int64) (hr : rowP x y (comP n tb G l iv)), m_Sem X 133 (194, [some (.inr (.inl 13)), some (.inl ax), some (.inl ce), some (.inl (NP n)), none, none, none, none, some (.inl l), some (.inr (.inr (.long x))), none, some (.inr (.inr (.long y))), none, some (.inl iv)], [], mW C (S, P, K, F, B, G, E), 0, 0) (Q) := by
  have hn := hR.1
  have ht := repM.tb hR
  have hs0 := hR.2.1
  have hln := okN_lo hn
  have h91 := np_91 hn
  have hnp : NP n = n * n + n + 1 := rfl
  have hq9 := sq_b hn
  refine m_down 1 (n + 1) ?_ ?_
  · intro x y hr
    show m_Sem X 133 (194, [some (.inr (.inl 13)), some (.inl ax), some (.inl ce), some (.inl (NP n)), none, none, none, none, some (.inl l), some (.inr (.inr (.long x))), none, some (.inr (.inr (.long y))), none, some (.inl (n + 1))], [], mW C (S, P, K, F, B, G, E), 0, 0) _
    refine m_run 4 (ps' := (201, [some (.inr (.inl 13)), some (.inl ax), some (.inl ce), some (.inl (NP n)), none, none, none, none, some (.inl l), some (.inr (.inr (.long x))), none, some (.inr (.inr (.long y))), none, some (.inl (n + 1))], [.inl 0, .inr (.inl 14), .inl (n + 1)], mW C (S, P, K, F, B, G, E), 0, 0)) rfl ?_
    refine m_iald rfl rfl (by omega) (by omega) (by decide) ?_
    show m_Sem X 133 (202, [some (.inr (.inl 13)), some (.inl ax), some (.inl ce), some (.inl (NP n)), none, none, none, none, some (.inl l), some (.inr (.inr (.long x))), none, some (.inr (.inr (.long y))), none, some (.inl (n + 1))], [.inl (S 0), .inl (n + 1)], mW C (S, P, K, F, B, G, E), 0, 0) _
    rw [hs0]
    refine m_icmp rfl ⟨by omega, by omega⟩ ⟨by omega, by omega⟩ (fun (zc1 : n < (n + 1)) => ?_) (fun (zc1 : ¬ n < (n + 1)) => absurd zc1 (not_not_intro (by omega)))
    refine m_run 2 (ps' := (267, [some (.inr (.inl 13)), some (.inl ax), some (.inl ce), some (.inl (NP n)), none, none, none, none, some (.inl l), some (.inr (.inr (.long x))), none, some (.inr (.inr (.long y))), none, some (.inl (n + 1))], [.inr (.inr (.long y)), .inr (.inr (.long x))], mW C (S, P, K, F, B, G, E), 0, 0)) rfl ?_
    refine m_callSF [.inr (.inr (.long x)), .inr (.inr (.long y))] [] rfl rfl rfl (d_low hr) ?_
    have hlow := com_low hn ht hP hG hi hl1 hl2
    have zt9 := lowP_in (comP n tb G l (n + 1))
    show m_Sem X 133 (270, [some (.inr (.inl 13)), some (.inl ax), some (.inl ce), some (.inl (NP n)), none, none, none, none, some (.inl l), some (.inr (.inr (.long x))), none, some (.inr (.inr (.long y))), none, some (.inl (n + 1))], [.inl (lowP (comP n tb G l (n + 1)))], mW C (S, P, K, F, B, G, E), 0, 0) _
    refine m_run 2 (ps' := (274, [some (.inr (.inl 13)), some (.inl ax), some (.inl ce), some (.inl (NP n)), none, none, none, none, some (.inl l), some (.inr (.inr (.long x))), none, some (.inr (.inr (.long y))), none, some (.inl (lowP (comP n tb G l (n + 1))))], [.inl (lowP (comP n tb G l (n + 1)))], mW C (S, P, K, F, B, G, E), 0, 0)) rfl ?_
    refine m_if rfl ⟨by omega, by omega⟩ (fun (zc2 : (lowP (comP n tb G l (n + 1))) < 0) => ?_) (fun (zc2 : ¬ (lowP (comP n tb G l (n + 1))) < 0) => ?_)
    · refine m_run 1 (ps' := (295, [some (.inr (.inl 13)), some (.inl ax), some (.inl ce), some (.inl (NP n)), none, none, none, none, some (.inl l), some (.inr (.inr (.long x))), none, some (.inr (.inr (.long y))), none, some (.inl (lowP (comP n tb G l (n + 1))))], [.inl 0], mW C (S, P, K, F, B, G, E), 0, 0)) rfl ?_
      exact m_ret1 rfl (Or.inr ⟨rfl, Or.inl rfl⟩) rfl (R9 (Bool.eq_false_iff.mpr (fun h9 => absurd (hlow.mpr h9) (by omega))))
    · refine m_run 3 (ps' := (281, [some (.inr (.inl 13)), some (.inl ax), some (.inl ce), some (.inl (NP n)), none, none, none, none, some (.inl l), some (.inr (.inr (.long x))), none, some (.inr (.inr (.long y))), none, some (.inl (lowP (comP n tb G l (n + 1))))], [.inl l, .inl ce, .inr (.inl 13)], mW C (S, P, K, F, B, G, E), 0, 0)) rfl ?_
      refine m_callVF [.inl ce, .inl l] [] rfl rfl ⟨_, rfl, rfl⟩ rfl rfl (d_on (p := ce) (l := l) hR (by omega) (by omega) (by omega) (by omega)) ?_
      show m_Sem X 133 (284, [some (.inr (.inl 13)), some (.inl ax), some (.inl ce), some (.inl (NP n)), none, none, none, none, some (.inl l), some (.inr (.inr (.long x))), none, some (.inr (.inr (.long y))), none, some (.inl (lowP (comP n tb G l (n + 1))))], [.inl (bI (onC n tb ce l))], mW C (S, P, K, F, B, G, E), 0, 0) _
      refine m_if rfl (bI_R _) (fun (zc3 : (bI (onC n tb ce l)) = 0) => ?_) (fun (zc3 : ¬ (bI (onC n tb ce l)) = 0) => ?_)
      · replace zc3 : (onC n tb ce l) = false := bI_e0.mp zc3
        refine m_run 2 (ps' := (141, [some (.inr (.inl 13)), some (.inl ax), some (.inl ce), some (.inl (NP n)), none, none, none, none, some (.inl (l + 1)), some (.inr (.inr (.long x))), none, some (.inr (.inr (.long y))), none, some (.inl (lowP (comP n tb G l (n + 1))))], [], mW C (S, P, K, F, B, G, E), 0, 0)) rfl ?_
        refine m_weak [some (.inr (.inl 13)), some (.inl ax), some (.inl ce), some (.inl (NP n)), none, none, none, none, some (.inl (l + 1)), none, none, none, none, none] ⟨rfl, ⟨rfl, ⟨rfl, ⟨rfl, ⟨rfl, trivial⟩⟩⟩⟩⟩ ?_
        exact K9 (hlow.mp (by omega))
      · replace zc3 : (onC n tb ce l) = true := bI_n0.mp zc3
        refine m_run 2 (ps' := (291, [some (.inr (.inl 13)), some (.inl ax), some (.inl ce), some (.inl (NP n)), none, none, none, none, some (.inl l), some (.inr (.inr (.long x))), none, some (.inr (.inr (.long y))), none, some (.inl (lowP (comP n tb G l (n + 1))))], [.inl l, .inl (lowP (comP n tb G l (n + 1)))], mW C (S, P, K, F, B, G, E), 0, 0)) rfl ?_
        refine m_icmp rfl ⟨by omega, by omega⟩ ⟨by omega, by omega⟩ (fun (zc4 : (lowP (comP n tb G l (n + 1))) = l) => ?_) (fun (zc4 : ¬ (lowP (comP n tb G l (n + 1))) = l) => absurd zc4 (not_not_intro (by exact com_ce hn ht hP hi hray hl1 hl2 zc3 (by omega))))
        refine m_run 2 (ps' := (141, [some (.inr (.inl 13)), some (.inl ax), some (.inl ce), some (.inl (NP n)), none, none, none, none, some (.inl (l + 1)), some (.inr (.inr (.long x))), none, some (.inr (.inr (.long y))), none, some (.inl (lowP (comP n tb G l (n + 1))))], [], mW C (S, P, K, F, B, G, E), 0, 0)) rfl ?_
        refine m_weak [some (.inr (.inl 13)), some (.inl ax), some (.inl ce), some (.inl (NP n)), none, none, none, none, some (.inl (l + 1)), none, none, none, none, none] ⟨rfl, ⟨rfl, ⟨rfl, ⟨rfl, ⟨rfl, trivial⟩⟩⟩⟩⟩ ?_
        exact K9 (hlow.mp (by omega))
  · intro iv hi1 hi2 ih x y hr
    refine m_run 4 (ps' := (201, [some (.inr (.inl 13)), some (.inl ax), some (.inl ce), some (.inl (NP n)), none, none, none, none, some (.inl l), some (.inr (.inr (.long x))), none, some (.inr (.inr (.long y))), none, some (.inl iv)], [.inl 0, .inr (.inl 14), .inl iv], mW C (S, P, K, F, B, G, E), 0, 0)) rfl ?_
    refine m_iald rfl rfl (by omega) (by omega) (by decide) ?_
    show m_Sem X 133 (202, [some (.inr (.inl 13)), some (.inl ax), some (.inl ce), some (.inl (NP n)), none, none, none, none, some (.inl l), some (.inr (.inr (.long x))), none, some (.inr (.inr (.long y))), none, some (.inl iv)], [.inl (S 0), .inl iv], mW C (S, P, K, F, B, G, E), 0, 0) _
    rw [hs0]
    refine m_icmp rfl ⟨by omega, by omega⟩ ⟨by omega, by omega⟩ (fun (zc1 : n < iv) => absurd zc1 (by omega)) (fun (zc1 : ¬ n < iv) => ?_)
    refine m_run 9 (ps' := (222, [some (.inr (.inl 13)), some (.inl ax), some (.inl ce), some (.inl (NP n)), none, none, none, none, some (.inl l), some (.inr (.inr (.long x))), none, some (.inr (.inr (.long y))), none, some (.inl iv)], [.inl iv, .inl l, .inr (.inl 13), .inr (.inl 19), .inl 91, .inr (.inl 17), .inr (.inr (.long x))], mW C (S, P, K, F, B, G, E), 0, 0)) rfl ?_
    refine m_callVF [.inl l, .inl iv] [.inr (.inl 19), .inl 91, .inr (.inl 17), .inr (.inr (.long x))] rfl rfl ⟨_, rfl, rfl⟩ rfl rfl (d_atL (a := l) (i := iv) hn ht hB (by omega) (by omega) (by omega) (by omega)) ?_
    have zt1 := (pt_on (i := iv) hn ht (show 0 ≤ l by omega) (by omega) (by omega) (by omega)).1
    show m_Sem X 133 (225, [some (.inr (.inl 13)), some (.inl ax), some (.inl ce), some (.inl (NP n)), none, none, none, none, some (.inl l), some (.inr (.inr (.long x))), none, some (.inr (.inr (.long y))), none, some (.inl iv)], [.inl (ptC n tb l iv), .inr (.inl 19), .inl 91, .inr (.inl 17), .inr (.inr (.long x))], mW C (S, P, K, F, B, G, E), 0, 0) _
    refine m_iald rfl rfl (by omega) (by omega) (by decide) ?_
    refine m_run 1 (ps' := (227, [some (.inr (.inl 13)), some (.inl ax), some (.inl ce), some (.inl (NP n)), none, none, none, none, some (.inl l), some (.inr (.inr (.long x))), none, some (.inr (.inr (.long y))), none, some (.inl iv)], [.inl (91 + (G (ptC n tb l iv))), .inr (.inl 17), .inr (.inr (.long x))], mW C (S, P, K, F, B, G, E), 0, 0)) rfl ?_
    have zg3 := hG (ptC n tb l iv) (by omega) (by omega)
    refine m_lald rfl rfl (by omega) (by omega) (by decide) ?_
    refine m_run 11 (ps' := (248, [some (.inr (.inl 13)), some (.inl ax), some (.inl ce), some (.inl (NP n)), none, none, none, none, some (.inl l), some (.inr (.inr (.long (x &&& (B.1 ((91 + (G (ptC n tb l iv)))).toNat))))), none, some (.inr (.inr (.long y))), none, some (.inl iv)], [.inl iv, .inl l, .inr (.inl 13), .inr (.inl 19), .inl 91, .inr (.inl 18), .inr (.inr (.long y))], mW C (S, P, K, F, B, G, E), 0, 0)) rfl ?_
    refine m_callVF [.inl l, .inl iv] [.inr (.inl 19), .inl 91, .inr (.inl 18), .inr (.inr (.long y))] rfl rfl ⟨_, rfl, rfl⟩ rfl rfl (d_atL (a := l) (i := iv) hn ht hB (by omega) (by omega) (by omega) (by omega)) ?_
    have zt2 := (pt_on (i := iv) hn ht (show 0 ≤ l by omega) (by omega) (by omega) (by omega)).1
    show m_Sem X 133 (251, [some (.inr (.inl 13)), some (.inl ax), some (.inl ce), some (.inl (NP n)), none, none, none, none, some (.inl l), some (.inr (.inr (.long (x &&& (B.1 ((91 + (G (ptC n tb l iv)))).toNat))))), none, some (.inr (.inr (.long y))), none, some (.inl iv)], [.inl (ptC n tb l iv), .inr (.inl 19), .inl 91, .inr (.inl 18), .inr (.inr (.long y))], mW C (S, P, K, F, B, G, E), 0, 0) _
    refine m_iald rfl rfl (by omega) (by omega) (by decide) ?_
    refine m_run 1 (ps' := (253, [some (.inr (.inl 13)), some (.inl ax), some (.inl ce), some (.inl (NP n)), none, none, none, none, some (.inl l), some (.inr (.inr (.long (x &&& (B.1 ((91 + (G (ptC n tb l iv)))).toNat))))), none, some (.inr (.inr (.long y))), none, some (.inl iv)], [.inl (91 + (G (ptC n tb l iv))), .inr (.inl 18), .inr (.inr (.long y))], mW C (S, P, K, F, B, G, E), 0, 0)) rfl ?_
    have zg4 := hG (ptC n tb l iv) (by omega) (by omega)
    refine m_lald rfl rfl (by omega) (by omega) (by decide) ?_
    refine m_run 4 (ps' := (194, [some (.inr (.inl 13)), some (.inl ax), some (.inl ce), some (.inl (NP n)), none, none, none, none, some (.inl l), some (.inr (.inr (.long (x &&& (B.1 ((91 + (G (ptC n tb l iv)))).toNat))))), none, some (.inr (.inr (.long (y &&& (B.2 ((91 + (G (ptC n tb l iv)))).toNat))))), none, some (.inl (iv + 1))], [], mW C (S, P, K, F, B, G, E), 0, 0)) rfl ?_
    refine m_weak [some (.inr (.inl 13)), some (.inl ax), some (.inl ce), some (.inl (NP n)), none, none, none, none, some (.inl l), some (.inr (.inr (.long (x &&& (B.1 ((91 + (G (ptC n tb l iv)))).toNat))))), none, some (.inr (.inr (.long (y &&& (B.2 ((91 + (G (ptC n tb l iv)))).toNat))))), none, some (.inl (iv + 1))] ⟨rfl, ⟨rfl, ⟨rfl, ⟨rfl, ⟨rfl, ⟨rfl, ⟨rfl, ⟨rfl, trivial⟩⟩⟩⟩⟩⟩⟩⟩ ?_
    have hr9 := rowP_congr (rowP_and hr (hB _ (show 0 ≤ G (ptC n tb l iv) by omega) (by omega)).2) (Q := comP n tb G l (iv + 1)) (fun j _ _ => comP_s (show 0 ≤ iv by omega) j)
    exact ih _ _ hr9
set_option maxHeartbeats 4000000 in
set_option maxRecDepth 100000 in
theorem e_imC {X : Nat × Nat × (Nat → Int32)} {C : CS} {n : Int} {S : Int → Int} {P K : TS} {F : Int × Int × Int} {B : (Nat → Int64) × (Nat → Int64)} {G : Int → Int} {E : Int × Int} {tb : Int → Int → Int} {ax ce : Int} (hR : repM n S tb) (hB : rowsB n tb B) (hP : plP n tb) (hx : 0 ≤ ax ∧ ax < NP n) (hc : 0 ≤ ce ∧ ce < NP n) (hG : ∀ p, 0 ≤ p → p < NP n → 0 ≤ G p ∧ G p < NP n) (hi : ∀ p p', 0 ≤ p → p < NP n → 0 ≤ p' → p' < NP n → G p = G p' → p = p') (hray : ∀ l p, onC n tb ce l = true → onC n tb p l = true → onC n tb (G p) l = true) (hgc : G ce = ce) {v : Bool} : ∀ l : Int, 0 ≤ l → l ≤ (NP n) → ∀ (ho : allF (fun l => ldX n tb G l) (NP n - l).toNat l = v), m_Sem X 133 (141, [some (.inr (.inl 13)), some (.inl ax), some (.inl ce), some (.inl (NP n)), none, none, none, none, some (.inl l), none, none, none, none, none], [], mW C (S, P, K, F, B, G, E), 0, 0) (m_V (bI v) (mW C (S, P, K, F, B, G, E))) := by
  have hn := hR.1
  have ht := repM.tb hR
  have hs0 := hR.2.1
  have hln := okN_lo hn
  have h91 := np_91 hn
  have hnp : NP n = n * n + n + 1 := rfl
  have hq9 := sq_b hn
  refine m_down 0 (NP n) ?_ ?_
  · intro ho
    show m_Sem X 133 (141, [some (.inr (.inl 13)), some (.inl ax), some (.inl ce), some (.inl (NP n)), none, none, none, none, some (.inl (NP n)), none, none, none, none, none], [], mW C (S, P, K, F, B, G, E), 0, 0) _
    refine m_run 2 (ps' := (144, [some (.inr (.inl 13)), some (.inl ax), some (.inl ce), some (.inl (NP n)), none, none, none, none, some (.inl (NP n)), none, none, none, none, none], [.inl (NP n), .inl (NP n)], mW C (S, P, K, F, B, G, E), 0, 0)) rfl ?_
    refine m_icmp rfl ⟨by omega, by omega⟩ ⟨by omega, by omega⟩ (fun (zc1 : (NP n) ≤ (NP n)) => ?_) (fun (zc1 : ¬ (NP n) ≤ (NP n)) => absurd zc1 (not_not_intro (by omega)))
    refine m_run 4 (ps' := (308, [some (.inr (.inl 13)), some (.inl ax), some (.inl ce), some (.inl (NP n)), none, none, none, none, some (.inl (NP n)), none, none, none, none, none], [.inl ce, .inr (.inl 19), .inr (.inl 13)], mW C (S, P, K, F, B, G, E), 0, 0)) rfl ?_
    refine m_iald rfl rfl (by omega) (by omega) (by decide) ?_
    refine m_run 1 (ps' := (310, [some (.inr (.inl 13)), some (.inl ax), some (.inl ce), some (.inl (NP n)), none, none, none, none, some (.inl (NP n)), none, none, none, none, none], [.inl ax, .inl (G ce), .inr (.inl 13)], mW C (S, P, K, F, B, G, E), 0, 0)) rfl ?_
    refine m_callVF [.inl (G ce), .inl ax] [] rfl rfl ⟨_, rfl, rfl⟩ rfl rfl (d_on (p := (G ce)) (l := ax) hR (by omega) (by omega) (by omega) (by omega)) ?_
    show m_Sem X 133 (313, [some (.inr (.inl 13)), some (.inl ax), some (.inl ce), some (.inl (NP n)), none, none, none, none, some (.inl (NP n)), none, none, none, none, none], [.inl (bI (onC n tb (G ce) ax))], mW C (S, P, K, F, B, G, E), 0, 0) _
    refine m_run 3 (ps' := (316, [some (.inr (.inl 13)), some (.inl ax), some (.inl ce), some (.inl (NP n)), none, none, none, none, some (.inl (NP n)), none, none, none, none, none], [.inl ax, .inl ce, .inr (.inl 13), .inl (bI (onC n tb (G ce) ax))], mW C (S, P, K, F, B, G, E), 0, 0)) rfl ?_
    refine m_callVF [.inl ce, .inl ax] [.inl (bI (onC n tb (G ce) ax))] rfl rfl ⟨_, rfl, rfl⟩ rfl rfl (d_on (p := ce) (l := ax) hR (by omega) (by omega) (by omega) (by omega)) ?_
    show m_Sem X 133 (319, [some (.inr (.inl 13)), some (.inl ax), some (.inl ce), some (.inl (NP n)), none, none, none, none, some (.inl (NP n)), none, none, none, none, none], [.inl (bI (onC n tb ce ax)), .inl (bI (onC n tb (G ce) ax))], mW C (S, P, K, F, B, G, E), 0, 0) _
    refine m_icmp rfl (bI_R _) (bI_R _) (fun (zc2 : ¬ (bI (onC n tb (G ce) ax)) = (bI (onC n tb ce ax))) => absurd zc2 (by rw [hgc]; exact not_not_intro rfl)) (fun (zc2 : ¬ ¬ (bI (onC n tb (G ce) ax)) = (bI (onC n tb ce ax))) => ?_)
    replace zc2 : (bI (onC n tb (G ce) ax)) = (bI (onC n tb ce ax)) := Decidable.not_not.mp zc2
    refine m_run 2 (ps' := (327, [some (.inr (.inl 13)), some (.inl ax), some (.inl ce), some (.inl (NP n)), none, none, none, none, some (.inl (NP n)), none, none, none, none, none], [.inl 1], mW C (S, P, K, F, B, G, E), 0, 0)) rfl ?_
    exact m_ret1 rfl (Or.inr ⟨rfl, Or.inr rfl⟩) rfl (m_Vb (by rw [all_end] at ho; rw [← ho]; rfl))
  · intro l hi1 hi2 ih ho
    refine m_run 2 (ps' := (144, [some (.inr (.inl 13)), some (.inl ax), some (.inl ce), some (.inl (NP n)), none, none, none, none, some (.inl l), none, none, none, none, none], [.inl (NP n), .inl l], mW C (S, P, K, F, B, G, E), 0, 0)) rfl ?_
    refine m_icmp rfl ⟨by omega, by omega⟩ ⟨by omega, by omega⟩ (fun (zc1 : (NP n) ≤ l) => absurd zc1 (by omega)) (fun (zc1 : ¬ (NP n) ≤ l) => ?_)
    refine m_run 8 (ps' := (161, [some (.inr (.inl 13)), some (.inl ax), some (.inl ce), some (.inl (NP n)), none, none, none, none, some (.inl l), none, none, none, none, none], [.inl 0, .inl l, .inr (.inl 13), .inr (.inl 19), .inl 91, .inr (.inl 17)], mW C (S, P, K, F, B, G, E), 0, 0)) rfl ?_
    refine m_callVF [.inl l, .inl 0] [.inr (.inl 19), .inl 91, .inr (.inl 17)] rfl rfl ⟨_, rfl, rfl⟩ rfl rfl (d_atL (a := l) (i := 0) hn ht hB (by omega) (by omega) (by omega) (by omega)) ?_
    have zt1 := (pt_on (i := 0) hn ht (show 0 ≤ l by omega) (by omega) (by omega) (by omega)).1
    show m_Sem X 133 (164, [some (.inr (.inl 13)), some (.inl ax), some (.inl ce), some (.inl (NP n)), none, none, none, none, some (.inl l), none, none, none, none, none], [.inl (ptC n tb l 0), .inr (.inl 19), .inl 91, .inr (.inl 17)], mW C (S, P, K, F, B, G, E), 0, 0) _
    refine m_iald rfl rfl (by omega) (by omega) (by decide) ?_
    refine m_run 1 (ps' := (166, [some (.inr (.inl 13)), some (.inl ax), some (.inl ce), some (.inl (NP n)), none, none, none, none, some (.inl l), none, none, none, none, none], [.inl (91 + (G (ptC n tb l 0))), .inr (.inl 17)], mW C (S, P, K, F, B, G, E), 0, 0)) rfl ?_
    have zg1 := hG (ptC n tb l 0) (by omega) (by omega)
    refine m_lald rfl rfl (by omega) (by omega) (by decide) ?_
    refine m_run 9 (ps' := (183, [some (.inr (.inl 13)), some (.inl ax), some (.inl ce), some (.inl (NP n)), none, none, none, none, some (.inl l), some (.inr (.inr (.long (B.1 ((91 + (G (ptC n tb l 0)))).toNat)))), none, none, none, none], [.inl 0, .inl l, .inr (.inl 13), .inr (.inl 19), .inl 91, .inr (.inl 18)], mW C (S, P, K, F, B, G, E), 0, 0)) rfl ?_
    refine m_callVF [.inl l, .inl 0] [.inr (.inl 19), .inl 91, .inr (.inl 18)] rfl rfl ⟨_, rfl, rfl⟩ rfl rfl (d_atL (a := l) (i := 0) hn ht hB (by omega) (by omega) (by omega) (by omega)) ?_
    have zt2 := (pt_on (i := 0) hn ht (show 0 ≤ l by omega) (by omega) (by omega) (by omega)).1
    show m_Sem X 133 (186, [some (.inr (.inl 13)), some (.inl ax), some (.inl ce), some (.inl (NP n)), none, none, none, none, some (.inl l), some (.inr (.inr (.long (B.1 ((91 + (G (ptC n tb l 0)))).toNat)))), none, none, none, none], [.inl (ptC n tb l 0), .inr (.inl 19), .inl 91, .inr (.inl 18)], mW C (S, P, K, F, B, G, E), 0, 0) _
    refine m_iald rfl rfl (by omega) (by omega) (by decide) ?_
    refine m_run 1 (ps' := (188, [some (.inr (.inl 13)), some (.inl ax), some (.inl ce), some (.inl (NP n)), none, none, none, none, some (.inl l), some (.inr (.inr (.long (B.1 ((91 + (G (ptC n tb l 0)))).toNat)))), none, none, none, none], [.inl (91 + (G (ptC n tb l 0))), .inr (.inl 18)], mW C (S, P, K, F, B, G, E), 0, 0)) rfl ?_
    have zg2 := hG (ptC n tb l 0) (by omega) (by omega)
    refine m_lald rfl rfl (by omega) (by omega) (by decide) ?_
    refine m_run 3 (ps' := (194, [some (.inr (.inl 13)), some (.inl ax), some (.inl ce), some (.inl (NP n)), none, none, none, none, some (.inl l), some (.inr (.inr (.long (B.1 ((91 + (G (ptC n tb l 0)))).toNat)))), none, some (.inr (.inr (.long (B.2 ((91 + (G (ptC n tb l 0)))).toNat)))), none, some (.inl 1)], [], mW C (S, P, K, F, B, G, E), 0, 0)) rfl ?_
    refine m_weak [some (.inr (.inl 13)), some (.inl ax), some (.inl ce), some (.inl (NP n)), none, none, none, none, some (.inl l), some (.inr (.inr (.long (B.1 ((91 + (G (ptC n tb l 0)))).toNat)))), none, some (.inr (.inr (.long (B.2 ((91 + (G (ptC n tb l 0)))).toNat)))), none, some (.inl 1)] ⟨rfl, ⟨rfl, ⟨rfl, ⟨rfl, ⟨rfl, ⟨rfl, ⟨rfl, ⟨rfl, trivial⟩⟩⟩⟩⟩⟩⟩⟩ ?_
    have hr9 := rowP_congr (hB _ (show 0 ≤ G (ptC n tb l 0) by omega) (by omega)).2 (Q := comP n tb G l 1) (fun j _ _ => com_1 j)
    cases hh : ldX n tb G l with
    | true => exact e_imD hR hB hP hx hc hG hi hray hgc hi1 hi2 (fun _ => ih (by rw [all_t hi2 hh] at ho; exact ho)) (fun h9 => by rw [hh] at h9; cases h9) 1 (by omega) (by omega) _ _ hr9
    | false => exact e_imD hR hB hP hx hc hG hi hray hgc hi1 hi2 (fun h9 => by rw [hh] at h9; cases h9) (fun _ => m_Vb (by rw [all_f hi2 hh] at ho; rw [← ho]; rfl)) 1 (by omega) (by omega) _ _ hr9
set_option maxHeartbeats 4000000 in
set_option maxRecDepth 100000 in
theorem e_imB {X : Nat × Nat × (Nat → Int32)} {C : CS} {n : Int} {S : Int → Int} {P K : TS} {F : Int × Int × Int} {B : (Nat → Int64) × (Nat → Int64)} {G : Int → Int} {E : Int × Int} {tb : Int → Int → Int} {ax ce : Int} (hR : repM n S tb) (hB : rowsB n tb B) (hP : plP n tb) (hx : 0 ≤ ax ∧ ax < NP n) (hc : 0 ≤ ce ∧ ce < NP n) (hG : ∀ p, 0 ≤ p → p < NP n → 0 ≤ G p ∧ G p < NP n) (hi : ∀ p p', 0 ≤ p → p < NP n → 0 ≤ p' → p' < NP n → G p = G p' → p = p') (hray : ∀ l p, onC n tb ce l = true → onC n tb p l = true → onC n tb (G p) l = true) (hgc : G ce = ce) {x y : Int64} {Pr : Int → Bool} {Q : Option mPV → mPW → Prop} (hr : rowP x y Pr) (hon : ∀ j, 0 ≤ j → j < NP n → Pr j = true) (K9 : m_Sem X 133 (141, [some (.inr (.inl 13)), some (.inl ax), some (.inl ce), some (.inl (NP n)), none, none, none, none, some (.inl 0), none, none, none, none, none], [], mW C (S, P, K, F, B, G, E), 0, 0) Q) : ∀ iv : Int, 0 ≤ iv → iv ≤ (NP n) → m_Sem X 133 (92, [some (.inr (.inl 13)), some (.inl ax), some (.inl ce), some (.inl (NP n)), some (.inr (.inr (.long x))), none, some (.inr (.inr (.long y))), none, some (.inl iv), none, none, none, none, none], [], mW C (S, P, K, F, B, G, E), 0, 0) (Q) := by
  have hn := hR.1
  have ht := repM.tb hR
  have hs0 := hR.2.1
  have hln := okN_lo hn
  have h91 := np_91 hn
  have hnp : NP n = n * n + n + 1 := rfl
  have hq9 := sq_b hn
  refine m_down 0 (NP n) ?_ ?_
  · show m_Sem X 133 (92, [some (.inr (.inl 13)), some (.inl ax), some (.inl ce), some (.inl (NP n)), some (.inr (.inr (.long x))), none, some (.inr (.inr (.long y))), none, some (.inl (NP n)), none, none, none, none, none], [], mW C (S, P, K, F, B, G, E), 0, 0) _
    refine m_run 2 (ps' := (95, [some (.inr (.inl 13)), some (.inl ax), some (.inl ce), some (.inl (NP n)), some (.inr (.inr (.long x))), none, some (.inr (.inr (.long y))), none, some (.inl (NP n)), none, none, none, none, none], [.inl (NP n), .inl (NP n)], mW C (S, P, K, F, B, G, E), 0, 0)) rfl ?_
    refine m_icmp rfl ⟨by omega, by omega⟩ ⟨by omega, by omega⟩ (fun (zc1 : (NP n) ≤ (NP n)) => ?_) (fun (zc1 : ¬ (NP n) ≤ (NP n)) => absurd zc1 (not_not_intro (by omega)))
    refine m_run 2 (ps' := (141, [some (.inr (.inl 13)), some (.inl ax), some (.inl ce), some (.inl (NP n)), some (.inr (.inr (.long x))), none, some (.inr (.inr (.long y))), none, some (.inl 0), none, none, none, none, none], [], mW C (S, P, K, F, B, G, E), 0, 0)) rfl ?_
    refine m_weak [some (.inr (.inl 13)), some (.inl ax), some (.inl ce), some (.inl (NP n)), none, none, none, none, some (.inl 0), none, none, none, none, none] ⟨rfl, ⟨rfl, ⟨rfl, ⟨rfl, ⟨rfl, trivial⟩⟩⟩⟩⟩ ?_
    exact K9
  · intro iv hi1 hi2 ih 
    refine m_run 2 (ps' := (95, [some (.inr (.inl 13)), some (.inl ax), some (.inl ce), some (.inl (NP n)), some (.inr (.inr (.long x))), none, some (.inr (.inr (.long y))), none, some (.inl iv), none, none, none, none, none], [.inl (NP n), .inl iv], mW C (S, P, K, F, B, G, E), 0, 0)) rfl ?_
    refine m_icmp rfl ⟨by omega, by omega⟩ ⟨by omega, by omega⟩ (fun (zc1 : (NP n) ≤ iv) => absurd zc1 (by omega)) (fun (zc1 : ¬ (NP n) ≤ iv) => ?_)
    refine m_run 2 (ps' := (102, [some (.inr (.inl 13)), some (.inl ax), some (.inl ce), some (.inl (NP n)), some (.inr (.inr (.long x))), none, some (.inr (.inr (.long y))), none, some (.inl iv), none, none, none, none, none], [.inl 60, .inl iv], mW C (S, P, K, F, B, G, E), 0, 0)) rfl ?_
    refine m_icmp rfl ⟨by omega, by omega⟩ ⟨by omega, by omega⟩ (fun (zc2 : 60 ≤ iv) => ?_) (fun (zc2 : ¬ 60 ≤ iv) => ?_)
    · refine m_run 9 (ps' := (127, [some (.inr (.inl 13)), some (.inl ax), some (.inl ce), some (.inl (NP n)), some (.inr (.inr (.long x))), none, some (.inr (.inr (.long y))), none, some (.inl iv), none, none, none, none, none], [.inl ((lg_cmp ((y >>> ((Int32.ofInt (iv - 60)).toInt64 &&& 63)) &&& (Int64.ofNat 1)) (Int64.ofNat 0)).toInt)], mW C (S, P, K, F, B, G, E), 0, 0)) rfl ?_
      refine m_if rfl (lgc_R _ _) (fun (zc3 : ¬ (lg_cmp ((y >>> ((Int32.ofInt (iv - 60)).toInt64 &&& 63)) &&& (Int64.ofNat 1)) (Int64.ofNat 0)).toInt = 0) => ?_) (fun (zc3 : ¬ ¬ (lg_cmp ((y >>> ((Int32.ofInt (iv - 60)).toInt64 &&& 63)) &&& (Int64.ofNat 1)) (Int64.ofNat 0)).toInt = 0) => absurd zc3 (not_not_intro (by rw [lgc_0, show _ = (bif Pr iv then Int64.ofNat 1 else Int64.ofNat 0) from shr_hi hr (by omega) (by omega), hon iv hi1 hi2]; decide)))
      refine m_run 2 (ps' := (92, [some (.inr (.inl 13)), some (.inl ax), some (.inl ce), some (.inl (NP n)), some (.inr (.inr (.long x))), none, some (.inr (.inr (.long y))), none, some (.inl (iv + 1)), none, none, none, none, none], [], mW C (S, P, K, F, B, G, E), 0, 0)) rfl ?_
      refine m_weak [some (.inr (.inl 13)), some (.inl ax), some (.inl ce), some (.inl (NP n)), some (.inr (.inr (.long x))), none, some (.inr (.inr (.long y))), none, some (.inl (iv + 1)), none, none, none, none, none] ⟨rfl, ⟨rfl, ⟨rfl, ⟨rfl, ⟨rfl, ⟨rfl, ⟨rfl, trivial⟩⟩⟩⟩⟩⟩⟩ ?_
      exact ih
    · refine m_run 8 (ps' := (127, [some (.inr (.inl 13)), some (.inl ax), some (.inl ce), some (.inl (NP n)), some (.inr (.inr (.long x))), none, some (.inr (.inr (.long y))), none, some (.inl iv), none, none, none, none, none], [.inl ((lg_cmp ((x >>> ((Int32.ofInt iv).toInt64 &&& 63)) &&& (Int64.ofNat 1)) (Int64.ofNat 0)).toInt)], mW C (S, P, K, F, B, G, E), 0, 0)) rfl ?_
      refine m_if rfl (lgc_R _ _) (fun (zc3 : ¬ (lg_cmp ((x >>> ((Int32.ofInt iv).toInt64 &&& 63)) &&& (Int64.ofNat 1)) (Int64.ofNat 0)).toInt = 0) => ?_) (fun (zc3 : ¬ ¬ (lg_cmp ((x >>> ((Int32.ofInt iv).toInt64 &&& 63)) &&& (Int64.ofNat 1)) (Int64.ofNat 0)).toInt = 0) => absurd zc3 (not_not_intro (by rw [lgc_0, show _ = (bif Pr iv then Int64.ofNat 1 else Int64.ofNat 0) from shr_lo hr hi1 (by omega), hon iv hi1 hi2]; decide)))
      refine m_run 2 (ps' := (92, [some (.inr (.inl 13)), some (.inl ax), some (.inl ce), some (.inl (NP n)), some (.inr (.inr (.long x))), none, some (.inr (.inr (.long y))), none, some (.inl (iv + 1)), none, none, none, none, none], [], mW C (S, P, K, F, B, G, E), 0, 0)) rfl ?_
      refine m_weak [some (.inr (.inl 13)), some (.inl ax), some (.inl ce), some (.inl (NP n)), some (.inr (.inr (.long x))), none, some (.inr (.inr (.long y))), none, some (.inl (iv + 1)), none, none, none, none, none] ⟨rfl, ⟨rfl, ⟨rfl, ⟨rfl, ⟨rfl, ⟨rfl, ⟨rfl, trivial⟩⟩⟩⟩⟩⟩⟩ ?_
      exact ih
set_option maxHeartbeats 4000000 in
set_option maxRecDepth 100000 in
theorem e_imA {X : Nat × Nat × (Nat → Int32)} {C : CS} {n : Int} {S : Int → Int} {P K : TS} {F : Int × Int × Int} {B : (Nat → Int64) × (Nat → Int64)} {G : Int → Int} {E : Int × Int} {tb : Int → Int → Int} {ax ce : Int} (hR : repM n S tb) (hB : rowsB n tb B) (hP : plP n tb) (hx : 0 ≤ ax ∧ ax < NP n) (hc : 0 ≤ ce ∧ ce < NP n) (hG : ∀ p, 0 ≤ p → p < NP n → 0 ≤ G p ∧ G p < NP n) (hi : ∀ p p', 0 ≤ p → p < NP n → 0 ≤ p' → p' < NP n → G p = G p' → p = p') (hray : ∀ l p, onC n tb ce l = true → onC n tb p l = true → onC n tb (G p) l = true) (hgc : G ce = ce) {v : Bool} (ho : mirG n tb G = v) : ∀ iv : Int, 0 ≤ iv → iv ≤ (NP n) → ∀ (x : Int64) (y : Int64) (hr : rowP x y (imgP G iv)), m_Sem X 133 (14, [some (.inr (.inl 13)), some (.inl ax), some (.inl ce), some (.inl (NP n)), some (.inr (.inr (.long x))), none, some (.inr (.inr (.long y))), none, some (.inl iv), none, none, none, none, none], [], mW C (S, P, K, F, B, G, E), 0, 0) (m_V (bI v) (mW C (S, P, K, F, B, G, E))) := by
  have hn := hR.1
  have ht := repM.tb hR
  have hs0 := hR.2.1
  have hln := okN_lo hn
  have h91 := np_91 hn
  have hnp : NP n = n * n + n + 1 := rfl
  have hq9 := sq_b hn
  refine m_down 0 (NP n) ?_ ?_
  · intro x y hr
    show m_Sem X 133 (14, [some (.inr (.inl 13)), some (.inl ax), some (.inl ce), some (.inl (NP n)), some (.inr (.inr (.long x))), none, some (.inr (.inr (.long y))), none, some (.inl (NP n)), none, none, none, none, none], [], mW C (S, P, K, F, B, G, E), 0, 0) _
    refine m_run 2 (ps' := (17, [some (.inr (.inl 13)), some (.inl ax), some (.inl ce), some (.inl (NP n)), some (.inr (.inr (.long x))), none, some (.inr (.inr (.long y))), none, some (.inl (NP n)), none, none, none, none, none], [.inl (NP n), .inl (NP n)], mW C (S, P, K, F, B, G, E), 0, 0)) rfl ?_
    refine m_icmp rfl ⟨by omega, by omega⟩ ⟨by omega, by omega⟩ (fun (zc1 : (NP n) ≤ (NP n)) => ?_) (fun (zc1 : ¬ (NP n) ≤ (NP n)) => absurd zc1 (not_not_intro (by omega)))
    refine m_run 2 (ps' := (92, [some (.inr (.inl 13)), some (.inl ax), some (.inl ce), some (.inl (NP n)), some (.inr (.inr (.long x))), none, some (.inr (.inr (.long y))), none, some (.inl 0), none, none, none, none, none], [], mW C (S, P, K, F, B, G, E), 0, 0)) rfl ?_
    refine m_weak [some (.inr (.inl 13)), some (.inl ax), some (.inl ce), some (.inl (NP n)), some (.inr (.inr (.long x))), none, some (.inr (.inr (.long y))), none, some (.inl 0), none, none, none, none, none] ⟨rfl, ⟨rfl, ⟨rfl, ⟨rfl, ⟨rfl, ⟨rfl, ⟨rfl, trivial⟩⟩⟩⟩⟩⟩⟩ ?_
    exact e_imB hR hB hP hx hc hG hi hray hgc hr (fun j g1 g2 => imgP_i.mpr (by
      obtain ⟨r, r1, r2, r3⟩ := inj_on (N := NP n) (f := G) (by omega) hG (fun a b g3 g4 g5 g6 => absurd (hi a b g3 (by omega) (by omega) g5 g6) (by omega)) j g1 g2
      exact ⟨r, r1, r2, r3⟩)) (e_imC hR hB hP hx hc hG hi hray hgc 0 (by omega) (by omega) (by rw [z_sub]; exact ho)) 0 (by omega) (by omega)
  · intro iv hi1 hi2 ih x y hr
    have zg0 := hG iv hi1 hi2
    refine m_run 2 (ps' := (17, [some (.inr (.inl 13)), some (.inl ax), some (.inl ce), some (.inl (NP n)), some (.inr (.inr (.long x))), none, some (.inr (.inr (.long y))), none, some (.inl iv), none, none, none, none, none], [.inl (NP n), .inl iv], mW C (S, P, K, F, B, G, E), 0, 0)) rfl ?_
    refine m_icmp rfl ⟨by omega, by omega⟩ ⟨by omega, by omega⟩ (fun (zc1 : (NP n) ≤ iv) => absurd zc1 (by omega)) (fun (zc1 : ¬ (NP n) ≤ iv) => ?_)
    refine m_run 4 (ps' := (28, [some (.inr (.inl 13)), some (.inl ax), some (.inl ce), some (.inl (NP n)), some (.inr (.inr (.long x))), none, some (.inr (.inr (.long y))), none, some (.inl iv), none, none, none, none, none], [.inl iv, .inr (.inl 19), .inr (.inr (.long x))], mW C (S, P, K, F, B, G, E), 0, 0)) rfl ?_
    refine m_iald rfl rfl (by omega) (by omega) (by decide) ?_
    refine m_run 1 (ps' := (31, [some (.inr (.inl 13)), some (.inl ax), some (.inl ce), some (.inl (NP n)), some (.inr (.inr (.long x))), none, some (.inr (.inr (.long y))), none, some (.inl iv), none, none, none, none, none], [.inl 60, .inl (G iv), .inr (.inr (.long x))], mW C (S, P, K, F, B, G, E), 0, 0)) rfl ?_
    refine m_icmp rfl ⟨by omega, by omega⟩ ⟨by omega, by omega⟩ (fun (zc2 : 60 ≤ (G iv)) => ?_) (fun (zc2 : ¬ 60 ≤ (G iv)) => ?_)
    · refine m_run 7 (ps' := (58, [some (.inr (.inl 13)), some (.inl ax), some (.inl ce), some (.inl (NP n)), some (.inr (.inr (.long (x ||| (Int64.ofNat 0))))), none, some (.inr (.inr (.long y))), none, some (.inl iv), none, none, none, none, none], [.inl iv, .inr (.inl 19), .inr (.inr (.long y))], mW C (S, P, K, F, B, G, E), 0, 0)) rfl ?_
      refine m_iald rfl rfl (by omega) (by omega) (by decide) ?_
      refine m_run 1 (ps' := (61, [some (.inr (.inl 13)), some (.inl ax), some (.inl ce), some (.inl (NP n)), some (.inr (.inr (.long (x ||| (Int64.ofNat 0))))), none, some (.inr (.inr (.long y))), none, some (.inl iv), none, none, none, none, none], [.inl 60, .inl (G iv), .inr (.inr (.long y))], mW C (S, P, K, F, B, G, E), 0, 0)) rfl ?_
      refine m_icmp rfl ⟨by omega, by omega⟩ ⟨by omega, by omega⟩ (fun (zc3 : 60 ≤ (G iv)) => ?_) (fun (zc3 : ¬ 60 ≤ (G iv)) => absurd zc3 (not_not_intro (by omega)))
      refine m_run 4 (ps' := (75, [some (.inr (.inl 13)), some (.inl ax), some (.inl ce), some (.inl (NP n)), some (.inr (.inr (.long (x ||| (Int64.ofNat 0))))), none, some (.inr (.inr (.long y))), none, some (.inl iv), none, none, none, none, none], [.inl iv, .inr (.inl 19), .inr (.inr (.long (Int64.ofNat 1))), .inr (.inr (.long y))], mW C (S, P, K, F, B, G, E), 0, 0)) rfl ?_
      refine m_iald rfl rfl (by omega) (by omega) (by decide) ?_
      refine m_run 7 (ps' := (14, [some (.inr (.inl 13)), some (.inl ax), some (.inl ce), some (.inl (NP n)), some (.inr (.inr (.long (x ||| (Int64.ofNat 0))))), none, some (.inr (.inr (.long (y ||| ((Int64.ofNat 1) <<< ((Int32.ofInt ((G iv) - 60)).toInt64 &&& 63)))))), none, some (.inl (iv + 1)), none, none, none, none, none], [], mW C (S, P, K, F, B, G, E), 0, 0)) rfl ?_
      refine m_weak [some (.inr (.inl 13)), some (.inl ax), some (.inl ce), some (.inl (NP n)), some (.inr (.inr (.long (x ||| (Int64.ofNat 0))))), none, some (.inr (.inr (.long (y ||| ((Int64.ofNat 1) <<< ((Int32.ofInt ((G iv) - 60)).toInt64 &&& 63)))))), none, some (.inl (iv + 1)), none, none, none, none, none] ⟨rfl, ⟨rfl, ⟨rfl, ⟨rfl, ⟨rfl, ⟨rfl, ⟨rfl, trivial⟩⟩⟩⟩⟩⟩⟩ ?_
      have zg9 := hG iv hi1 hi2
      have hr9 := rowP_congr (row_hi hr (k := G iv) (by omega) (by omega)) (Q := imgP G (iv + 1)) (fun j _ _ => imgP_s hi1 j)
      exact ih _ _ hr9
    · refine m_run 4 (ps' := (41, [some (.inr (.inl 13)), some (.inl ax), some (.inl ce), some (.inl (NP n)), some (.inr (.inr (.long x))), none, some (.inr (.inr (.long y))), none, some (.inl iv), none, none, none, none, none], [.inl iv, .inr (.inl 19), .inr (.inr (.long (Int64.ofNat 1))), .inr (.inr (.long x))], mW C (S, P, K, F, B, G, E), 0, 0)) rfl ?_
      refine m_iald rfl rfl (by omega) (by omega) (by decide) ?_
      refine m_run 8 (ps' := (58, [some (.inr (.inl 13)), some (.inl ax), some (.inl ce), some (.inl (NP n)), some (.inr (.inr (.long (x ||| ((Int64.ofNat 1) <<< ((Int32.ofInt (G iv)).toInt64 &&& 63)))))), none, some (.inr (.inr (.long y))), none, some (.inl iv), none, none, none, none, none], [.inl iv, .inr (.inl 19), .inr (.inr (.long y))], mW C (S, P, K, F, B, G, E), 0, 0)) rfl ?_
      refine m_iald rfl rfl (by omega) (by omega) (by decide) ?_
      refine m_run 1 (ps' := (61, [some (.inr (.inl 13)), some (.inl ax), some (.inl ce), some (.inl (NP n)), some (.inr (.inr (.long (x ||| ((Int64.ofNat 1) <<< ((Int32.ofInt (G iv)).toInt64 &&& 63)))))), none, some (.inr (.inr (.long y))), none, some (.inl iv), none, none, none, none, none], [.inl 60, .inl (G iv), .inr (.inr (.long y))], mW C (S, P, K, F, B, G, E), 0, 0)) rfl ?_
      refine m_icmp rfl ⟨by omega, by omega⟩ ⟨by omega, by omega⟩ (fun (zc3 : 60 ≤ (G iv)) => absurd zc3 (by omega)) (fun (zc3 : ¬ 60 ≤ (G iv)) => ?_)
      refine m_run 6 (ps' := (14, [some (.inr (.inl 13)), some (.inl ax), some (.inl ce), some (.inl (NP n)), some (.inr (.inr (.long (x ||| ((Int64.ofNat 1) <<< ((Int32.ofInt (G iv)).toInt64 &&& 63)))))), none, some (.inr (.inr (.long (y ||| (Int64.ofNat 0))))), none, some (.inl (iv + 1)), none, none, none, none, none], [], mW C (S, P, K, F, B, G, E), 0, 0)) rfl ?_
      refine m_weak [some (.inr (.inl 13)), some (.inl ax), some (.inl ce), some (.inl (NP n)), some (.inr (.inr (.long (x ||| ((Int64.ofNat 1) <<< ((Int32.ofInt (G iv)).toInt64 &&& 63)))))), none, some (.inr (.inr (.long (y ||| (Int64.ofNat 0))))), none, some (.inl (iv + 1)), none, none, none, none, none] ⟨rfl, ⟨rfl, ⟨rfl, ⟨rfl, ⟨rfl, ⟨rfl, ⟨rfl, trivial⟩⟩⟩⟩⟩⟩⟩ ?_
      have zg9 := hG iv hi1 hi2
      have hr9 := rowP_congr (row_lo hr (k := G iv) (by omega) (by omega)) (Q := imgP G (iv + 1)) (fun j _ _ => imgP_s hi1 j)
      exact ih _ _ hr9
set_option maxHeartbeats 4000000 in
set_option maxRecDepth 100000 in
theorem d_ismir {X : Nat × Nat × (Nat → Int32)} {C : CS} {n : Int} {S : Int → Int} {P K : TS} {F : Int × Int × Int} {B : (Nat → Int64) × (Nat → Int64)} {G : Int → Int} {E : Int × Int} {tb : Int → Int → Int} {ax ce : Int} (hR : repM n S tb) (hB : rowsB n tb B) (hP : plP n tb) (hx : 0 ≤ ax ∧ ax < NP n) (hc : 0 ≤ ce ∧ ce < NP n) (hG : ∀ p, 0 ≤ p → p < NP n → 0 ≤ G p ∧ G p < NP n) (hi : ∀ p p', 0 ≤ p → p < NP n → 0 ≤ p' → p' < NP n → G p = G p' → p = p') (hray : ∀ l p, onC n tb ce l = true → onC n tb p l = true → onC n tb (G p) l = true) (hgc : G ce = ce) : m_Run X 133 [.inr (.inl 13), .inl ax, .inl ce] (mW C (S, P, K, F, B, G, E)) (m_V (bI (mirG n tb G)) (mW C (S, P, K, F, B, G, E))) := by
  have hn := hR.1
  have ht := repM.tb hR
  have hs0 := hR.2.1
  have hln := okN_lo hn
  have h91 := np_91 hn
  have hnp : NP n = n * n + n + 1 := rfl
  have hq9 := sq_b hn
  show m_Sem X 133 (0, [some (.inr (.inl 13)), some (.inl ax), some (.inl ce), none, none, none, none, none, none, none, none, none, none, none], [], mW C (S, P, K, F, B, G, E), 0, 0) _
  refine m_run 1 (ps' := (1, [some (.inr (.inl 13)), some (.inl ax), some (.inl ce), none, none, none, none, none, none, none, none, none, none, none], [.inr (.inl 13)], mW C (S, P, K, F, B, G, E), 0, 0)) rfl ?_
  refine m_callVF [] [] rfl rfl ⟨_, rfl, rfl⟩ rfl rfl (d_pts hs0) ?_
  show m_Sem X 133 (4, [some (.inr (.inl 13)), some (.inl ax), some (.inl ce), none, none, none, none, none, none, none, none, none, none, none], [.inl (NP n)], mW C (S, P, K, F, B, G, E), 0, 0) _
  refine m_run 7 (ps' := (14, [some (.inr (.inl 13)), some (.inl ax), some (.inl ce), some (.inl (NP n)), some (.inr (.inr (.long (Int64.ofNat 0)))), none, some (.inr (.inr (.long (Int64.ofNat 0)))), none, some (.inl 0), none, none, none, none, none], [], mW C (S, P, K, F, B, G, E), 0, 0)) rfl ?_
  refine m_weak [some (.inr (.inl 13)), some (.inl ax), some (.inl ce), some (.inl (NP n)), some (.inr (.inr (.long (Int64.ofNat 0)))), none, some (.inr (.inr (.long (Int64.ofNat 0)))), none, some (.inl 0), none, none, none, none, none] ⟨rfl, ⟨rfl, ⟨rfl, ⟨rfl, ⟨rfl, ⟨rfl, ⟨rfl, trivial⟩⟩⟩⟩⟩⟩⟩ ?_
  exact e_imA hR hB hP hx hc hG hi hray hgc rfl 0 (by omega) (by omega) _ _ (rowP_congr row_0 (fun j _ _ => by unfold imgP; rfl))
set_option maxHeartbeats 4000000 in
set_option maxRecDepth 100000 in
theorem e_mic {X : Nat × Nat × (Nat → Int32)} {C : CS} {n : Int} {S : Int → Int} {P K : TS} {F : Int × Int × Int} {E : Int × Int} {tb : Int → Int → Int} {B2 : (Nat → Int64) × (Nat → Int64)} {ax ce v : Int} (hR : repM n S tb) (hB : rowsB n tb B2) (hP : plP n tb) (hx : 0 ≤ ax ∧ ax < NP n) (hc : 0 ≤ ce ∧ ce < NP n) : ∀ iv : Int, 0 ≤ iv → iv ≤ (n + 1) → ∀ (G : Int → Int) (u : Int) (hu : u + sumF (talX n tb (rayS n tb ax ce) (footX n tb (rayS n tb ax ce) ax (baS n tb ax ce) (lnC n tb ce (baS n tb ax ce)) (hlS n tb ax ce)) (lnC n tb ce (baS n tb ax ce)) (hlS n tb ax ce)) (n + 1 - iv).toNat iv = v), m_Sem X 134 (65, [some (.inr (.inl 13)), some (.inl ax), some (.inl ce), some (.inl (baS n tb ax ce)), some (.inl (lnC n tb ce (baS n tb ax ce))), some (.inl u), some (.inl iv), none], [], mW C (S, P, K, F, B2, G, E), 0, 0) (fun r w => r = some (.inl v) ∧ ∃ (B2 : (Nat → Int64) × (Nat → Int64)) (G2 : Int → Int), w = mW C (S, P, K, F, B2, G2, E)) := by
  have hn := hR.1
  have ht := repM.tb hR
  have hs0 := hR.2.1
  have hln := okN_lo hn
  have h91 := np_91 hn
  have hnp : NP n = n * n + n + 1 := rfl
  have hq9 := sq_b hn
  have fb := ba_sp hn ht hP hx hc
  have fh := hl_sp hn ht hP hx hc
  have vb := (fr_i.mp fb.1).1
  have cb := pl_ln hn ht hP hc.1 hc.2 vb.1 vb.2
  refine m_down 0 (n + 1) ?_ ?_
  · intro G u hu
    show m_Sem X 134 (65, [some (.inr (.inl 13)), some (.inl ax), some (.inl ce), some (.inl (baS n tb ax ce)), some (.inl (lnC n tb ce (baS n tb ax ce))), some (.inl u), some (.inl (n + 1)), none], [], mW C (S, P, K, F, B2, G, E), 0, 0) _
    refine m_run 4 (ps' := (72, [some (.inr (.inl 13)), some (.inl ax), some (.inl ce), some (.inl (baS n tb ax ce)), some (.inl (lnC n tb ce (baS n tb ax ce))), some (.inl u), some (.inl (n + 1)), none], [.inl 0, .inr (.inl 14), .inl (n + 1)], mW C (S, P, K, F, B2, G, E), 0, 0)) rfl ?_
    refine m_iald rfl rfl (by omega) (by omega) (by decide) ?_
    show m_Sem X 134 (73, [some (.inr (.inl 13)), some (.inl ax), some (.inl ce), some (.inl (baS n tb ax ce)), some (.inl (lnC n tb ce (baS n tb ax ce))), some (.inl u), some (.inl (n + 1)), none], [.inl (S 0), .inl (n + 1)], mW C (S, P, K, F, B2, G, E), 0, 0) _
    rw [hs0]
    refine m_icmp rfl ⟨by omega, by omega⟩ ⟨by omega, by omega⟩ (fun (zc1 : n < (n + 1)) => ?_) (fun (zc1 : ¬ n < (n + 1)) => absurd zc1 (not_not_intro (by omega)))
    refine m_run 1 (ps' := (138, [some (.inr (.inl 13)), some (.inl ax), some (.inl ce), some (.inl (baS n tb ax ce)), some (.inl (lnC n tb ce (baS n tb ax ce))), some (.inl u), some (.inl (n + 1)), none], [.inl u], mW C (S, P, K, F, B2, G, E), 0, 0)) rfl ?_
    exact m_ret1 rfl (Or.inl rfl) rfl (by rw [sum_end] at hu; exact ⟨by rw [← hu, Int.add_zero], B2, G, rfl⟩)
  · intro iv hi1 hi2 ih G u hu
    rw [sum_step hi2] at hu
    refine m_run 4 (ps' := (72, [some (.inr (.inl 13)), some (.inl ax), some (.inl ce), some (.inl (baS n tb ax ce)), some (.inl (lnC n tb ce (baS n tb ax ce))), some (.inl u), some (.inl iv), none], [.inl 0, .inr (.inl 14), .inl iv], mW C (S, P, K, F, B2, G, E), 0, 0)) rfl ?_
    refine m_iald rfl rfl (by omega) (by omega) (by decide) ?_
    show m_Sem X 134 (73, [some (.inr (.inl 13)), some (.inl ax), some (.inl ce), some (.inl (baS n tb ax ce)), some (.inl (lnC n tb ce (baS n tb ax ce))), some (.inl u), some (.inl iv), none], [.inl (S 0), .inl iv], mW C (S, P, K, F, B2, G, E), 0, 0) _
    rw [hs0]
    refine m_icmp rfl ⟨by omega, by omega⟩ ⟨by omega, by omega⟩ (fun (zc1 : n < iv) => absurd zc1 (by omega)) (fun (zc1 : ¬ n < iv) => ?_)
    refine m_run 3 (ps' := (81, [some (.inr (.inl 13)), some (.inl ax), some (.inl ce), some (.inl (baS n tb ax ce)), some (.inl (lnC n tb ce (baS n tb ax ce))), some (.inl u), some (.inl iv), none], [.inl iv, .inl (lnC n tb ce (baS n tb ax ce)), .inr (.inl 13)], mW C (S, P, K, F, B2, G, E), 0, 0)) rfl ?_
    refine m_callVF [.inl (lnC n tb ce (baS n tb ax ce)), .inl iv] [] rfl rfl ⟨_, rfl, rfl⟩ rfl rfl (d_atL (a := (lnC n tb ce (baS n tb ax ce))) (i := iv) hn ht hB (by omega) (by omega) (by omega) (by omega)) ?_
    obtain ⟨z, hz⟩ : ∃ z, ptC n tb (lnC n tb ce (baS n tb ax ce)) iv = z := ⟨_, rfl⟩
    have zt1 := pt_on (i := iv) hn ht cb.1.1 cb.1.2 hi1 (by omega)
    rw [hz] at zt1 ⊢
    show m_Sem X 134 (84, [some (.inr (.inl 13)), some (.inl ax), some (.inl ce), some (.inl (baS n tb ax ce)), some (.inl (lnC n tb ce (baS n tb ax ce))), some (.inl u), some (.inl iv), none], [.inl z], mW C (S, P, K, F, B2, G, E), 0, 0) _
    refine m_run 3 (ps' := (89, [some (.inr (.inl 13)), some (.inl ax), some (.inl ce), some (.inl (baS n tb ax ce)), some (.inl (lnC n tb ce (baS n tb ax ce))), some (.inl u), some (.inl iv), some (.inl z)], [.inl ce, .inl z], mW C (S, P, K, F, B2, G, E), 0, 0)) rfl ?_
    refine m_icmp rfl ⟨by omega, by omega⟩ ⟨by omega, by omega⟩ (fun (zc2 : z = ce) => ?_) (fun (zc2 : ¬ z = ce) => ?_)
    · refine m_run 2 (ps' := (65, [some (.inr (.inl 13)), some (.inl ax), some (.inl ce), some (.inl (baS n tb ax ce)), some (.inl (lnC n tb ce (baS n tb ax ce))), some (.inl u), some (.inl (iv + 1)), some (.inl z)], [], mW C (S, P, K, F, B2, G, E), 0, 0)) rfl ?_
      refine m_weak [some (.inr (.inl 13)), some (.inl ax), some (.inl ce), some (.inl (baS n tb ax ce)), some (.inl (lnC n tb ce (baS n tb ax ce))), some (.inl u), some (.inl (iv + 1)), none] ⟨rfl, ⟨rfl, ⟨rfl, ⟨rfl, ⟨rfl, ⟨rfl, ⟨rfl, trivial⟩⟩⟩⟩⟩⟩⟩ ?_
      have fz : frB n tb ax ce z = false := Bool.eq_false_iff.mpr (fun h9 => by
        have h8 := (fr_i.mp h9).2
        first | exact h8.1 zc2 | (rw [zc3] at h8; exact absurd h8.2 (by decide)))
      have hT : (talX n tb (rayS n tb ax ce) (footX n tb (rayS n tb ax ce) ax (baS n tb ax ce) (lnC n tb ce (baS n tb ax ce)) (hlS n tb ax ce)) (lnC n tb ce (baS n tb ax ce)) (hlS n tb ax ce)) iv = 0 := by unfold talX; rw [hz, rg_v hn zt1.1.1 zt1.1.2, ray_n zt1.1.1 zt1.1.2 fz, if_pos rfl]
      exact ih _ _ (by rw [← hu, hT]; omega)
    · refine m_run 3 (ps' := (96, [some (.inr (.inl 13)), some (.inl ax), some (.inl ce), some (.inl (baS n tb ax ce)), some (.inl (lnC n tb ce (baS n tb ax ce))), some (.inl u), some (.inl iv), some (.inl z)], [.inl ax, .inl z, .inr (.inl 13)], mW C (S, P, K, F, B2, G, E), 0, 0)) rfl ?_
      refine m_callVF [.inl z, .inl ax] [] rfl rfl ⟨_, rfl, rfl⟩ rfl rfl (d_on (p := z) (l := ax) hR (by omega) (by omega) (by omega) (by omega)) ?_
      show m_Sem X 134 (99, [some (.inr (.inl 13)), some (.inl ax), some (.inl ce), some (.inl (baS n tb ax ce)), some (.inl (lnC n tb ce (baS n tb ax ce))), some (.inl u), some (.inl iv), some (.inl z)], [.inl (bI (onC n tb z ax))], mW C (S, P, K, F, B2, G, E), 0, 0) _
      refine m_if rfl (bI_R (onC n tb z ax)) (fun (zc3 : ¬ (bI (onC n tb z ax)) = 0) => ?_) (fun (zc3 : ¬ ¬ (bI (onC n tb z ax)) = 0) => ?_)
      · replace zc3 : (onC n tb z ax) = true := bI_n0.mp zc3
        refine m_run 2 (ps' := (65, [some (.inr (.inl 13)), some (.inl ax), some (.inl ce), some (.inl (baS n tb ax ce)), some (.inl (lnC n tb ce (baS n tb ax ce))), some (.inl u), some (.inl (iv + 1)), some (.inl z)], [], mW C (S, P, K, F, B2, G, E), 0, 0)) rfl ?_
        refine m_weak [some (.inr (.inl 13)), some (.inl ax), some (.inl ce), some (.inl (baS n tb ax ce)), some (.inl (lnC n tb ce (baS n tb ax ce))), some (.inl u), some (.inl (iv + 1)), none] ⟨rfl, ⟨rfl, ⟨rfl, ⟨rfl, ⟨rfl, ⟨rfl, ⟨rfl, trivial⟩⟩⟩⟩⟩⟩⟩ ?_
        have fz : frB n tb ax ce z = false := Bool.eq_false_iff.mpr (fun h9 => by
          have h8 := (fr_i.mp h9).2
          first | exact h8.1 zc2 | (rw [zc3] at h8; exact absurd h8.2 (by decide)))
        have hT : (talX n tb (rayS n tb ax ce) (footX n tb (rayS n tb ax ce) ax (baS n tb ax ce) (lnC n tb ce (baS n tb ax ce)) (hlS n tb ax ce)) (lnC n tb ce (baS n tb ax ce)) (hlS n tb ax ce)) iv = 0 := by unfold talX; rw [hz, rg_v hn zt1.1.1 zt1.1.2, ray_n zt1.1.1 zt1.1.2 fz, if_pos rfl]
        exact ih _ _ (by rw [← hu, hT]; omega)
      · replace zc3 : (onC n tb z ax) = false := bI_e0.mp (Decidable.not_not.mp zc3)
        refine m_run 5 (ps' := (108, [some (.inr (.inl 13)), some (.inl ax), some (.inl ce), some (.inl (baS n tb ax ce)), some (.inl (lnC n tb ce (baS n tb ax ce))), some (.inl u), some (.inl iv), some (.inl z)], [.inl z, .inl (baS n tb ax ce), .inl ce, .inl ax, .inr (.inl 13)], mW C (S, P, K, F, B2, G, E), 0, 0)) rfl ?_
        have fz : frB n tb ax ce z = true := fr_i.mpr ⟨zt1.1, zc2, zc3⟩
        refine m_callV [.inl ax, .inl ce, .inl (baS n tb ax ce), .inl z] [] rfl rfl ⟨_, rfl, rfl⟩ rfl rfl (d_maps (ax := ax) (ce := ce) (q := (baS n tb ax ce)) (to := z) hR hB hP hx hc fb.1 fz zt1.2) (fun r_ w_ hq_ _ => ?_)
        obtain ⟨rfl, an, G2, rfl, hmp, hg2⟩ := hq_
        show m_Sem X 134 (111, [some (.inr (.inl 13)), some (.inl ax), some (.inl ce), some (.inl (baS n tb ax ce)), some (.inl (lnC n tb ce (baS n tb ax ce))), some (.inl u), some (.inl iv), some (.inl z)], [], mW C (S, P, K, F, B2, G2, E), 0, 0) _
        refine m_run 4 (ps' := (116, [some (.inr (.inl 13)), some (.inl ax), some (.inl ce), some (.inl (baS n tb ax ce)), some (.inl (lnC n tb ce (baS n tb ax ce))), some (.inl u), some (.inl iv), some (.inl z)], [.inl ce, .inl ax, .inr (.inl 13), .inl u], mW C (S, P, K, F, B2, G2, E), 0, 0)) rfl ?_
        have hme := mir_eq (hl := hlS n tb ax ce) ⟨⟨hn, ht, hP⟩, ⟨hx, hc⟩, ⟨fb.1, fz, zt1.2⟩, fh.1, fh.2⟩ hmp hg2
        refine m_callVF [.inl ax, .inl ce] [.inl u] rfl rfl ⟨_, rfl, rfl⟩ rfl rfl (d_ismir (ax := ax) (ce := ce) hR hB hP hx hc (fun p g1 g2 => by rw [hg2 p g1 g2]; exact im_in hmp g1 g2) (fun p p' g1 g2 g3 g4 h9 => im_inj hmp (by rw [← hg2 p g1 g2, ← hg2 p' g3 g4]; exact h9)) (fun l p g1 g2 => by rw [hg2 p (onC_in g2).1.1 (onC_in g2).1.2]; exact im_ray hmp g1 g2) (by rw [hg2 ce hc.1 hc.2]; exact im_fx (Bool.eq_false_iff.mpr (fun h9 => (fr_i.mp h9).2.1 rfl)))) ?_
        show m_Sem X 134 (119, [some (.inr (.inl 13)), some (.inl ax), some (.inl ce), some (.inl (baS n tb ax ce)), some (.inl (lnC n tb ce (baS n tb ax ce))), some (.inl u), some (.inl iv), some (.inl z)], [.inl (bI (mirG n tb G2)), .inl u], mW C (S, P, K, F, B2, G2, E), 0, 0) _
        refine m_if rfl (bI_R (mirG n tb G2)) (fun (zc4 : (bI (mirG n tb G2)) = 0) => ?_) (fun (zc4 : ¬ (bI (mirG n tb G2)) = 0) => ?_)
        · replace zc4 : (mirG n tb G2) = false := bI_e0.mp zc4
          refine m_run 5 (ps' := (65, [some (.inr (.inl 13)), some (.inl ax), some (.inl ce), some (.inl (baS n tb ax ce)), some (.inl (lnC n tb ce (baS n tb ax ce))), some (.inl (u + 0)), some (.inl (iv + 1)), some (.inl z)], [], mW C (S, P, K, F, B2, G2, E), 0, 0)) rfl ?_
          refine m_weak [some (.inr (.inl 13)), some (.inl ax), some (.inl ce), some (.inl (baS n tb ax ce)), some (.inl (lnC n tb ce (baS n tb ax ce))), some (.inl (u + 0)), some (.inl (iv + 1)), none] ⟨rfl, ⟨rfl, ⟨rfl, ⟨rfl, ⟨rfl, ⟨rfl, ⟨rfl, trivial⟩⟩⟩⟩⟩⟩⟩ ?_
          have hT : (talX n tb (rayS n tb ax ce) (footX n tb (rayS n tb ax ce) ax (baS n tb ax ce) (lnC n tb ce (baS n tb ax ce)) (hlS n tb ax ce)) (lnC n tb ce (baS n tb ax ce)) (hlS n tb ax ce)) iv = 0 := by unfold talX; rw [hz, rg_v hn zt1.1.1 zt1.1.2, if_neg ((fr_ray hn ht hP hc zt1.1.1 zt1.1.2).mpr fz), hme, zc4]; rfl
          exact ih _ _ (by rw [← hu, hT]; omega)
        · replace zc4 : (mirG n tb G2) = true := bI_n0.mp zc4
          refine m_run 6 (ps' := (65, [some (.inr (.inl 13)), some (.inl ax), some (.inl ce), some (.inl (baS n tb ax ce)), some (.inl (lnC n tb ce (baS n tb ax ce))), some (.inl (u + 1)), some (.inl (iv + 1)), some (.inl z)], [], mW C (S, P, K, F, B2, G2, E), 0, 0)) rfl ?_
          refine m_weak [some (.inr (.inl 13)), some (.inl ax), some (.inl ce), some (.inl (baS n tb ax ce)), some (.inl (lnC n tb ce (baS n tb ax ce))), some (.inl (u + 1)), some (.inl (iv + 1)), none] ⟨rfl, ⟨rfl, ⟨rfl, ⟨rfl, ⟨rfl, ⟨rfl, ⟨rfl, trivial⟩⟩⟩⟩⟩⟩⟩ ?_
          have hT : (talX n tb (rayS n tb ax ce) (footX n tb (rayS n tb ax ce) ax (baS n tb ax ce) (lnC n tb ce (baS n tb ax ce)) (hlS n tb ax ce)) (lnC n tb ce (baS n tb ax ce)) (hlS n tb ax ce)) iv = 1 := by unfold talX; rw [hz, rg_v hn zt1.1.1 zt1.1.2, if_neg ((fr_ray hn ht hP hc zt1.1.1 zt1.1.2).mpr fz), hme, zc4]; rfl
          exact ih _ _ (by rw [← hu, hT]; omega)
set_option maxHeartbeats 4000000 in
set_option maxRecDepth 100000 in
theorem e_miq {X : Nat × Nat × (Nat → Int32)} {C : CS} {n : Int} {S : Int → Int} {P K : TS} {F : Int × Int × Int} {E : Int × Int} {tb : Int → Int → Int} {B2 : (Nat → Int64) × (Nat → Int64)} {G : Int → Int} {ax ce : Int} (hR : repM n S tb) (hB : rowsB n tb B2) (hP : plP n tb) (hx : 0 ≤ ax ∧ ax < NP n) (hc : 0 ≤ ce ∧ ce < NP n) : ∀ iv : Int, 0 ≤ iv → iv ≤ (baS n tb ax ce) → m_Sem X 134 (31, [some (.inr (.inl 13)), some (.inl ax), some (.inl ce), some (.inl iv), none, none, none, none], [], mW C (S, P, K, F, B2, G, E), 0, 0) (fun r w => r = some (.inl (talS n tb ax ce)) ∧ ∃ (B2 : (Nat → Int64) × (Nat → Int64)) (G2 : Int → Int), w = mW C (S, P, K, F, B2, G2, E)) := by
  have hn := hR.1
  have ht := repM.tb hR
  have hs0 := hR.2.1
  have hln := okN_lo hn
  have h91 := np_91 hn
  have hnp : NP n = n * n + n + 1 := rfl
  have hq9 := sq_b hn
  have fb := ba_sp hn ht hP hx hc
  have fh := hl_sp hn ht hP hx hc
  have vb := (fr_i.mp fb.1).1
  have cb := pl_ln hn ht hP hc.1 hc.2 vb.1 vb.2
  refine m_down 0 (baS n tb ax ce) ?_ ?_
  · show m_Sem X 134 (31, [some (.inr (.inl 13)), some (.inl ax), some (.inl ce), some (.inl (baS n tb ax ce)), none, none, none, none], [], mW C (S, P, K, F, B2, G, E), 0, 0) _
    refine m_run 3 (ps' := (34, [some (.inr (.inl 13)), some (.inl ax), some (.inl ce), some (.inl (baS n tb ax ce)), none, none, none, none], [.inl ax, .inl (baS n tb ax ce), .inr (.inl 13)], mW C (S, P, K, F, B2, G, E), 0, 0)) rfl ?_
    refine m_callVF [.inl (baS n tb ax ce), .inl ax] [] rfl rfl ⟨_, rfl, rfl⟩ rfl rfl (d_on (p := (baS n tb ax ce)) (l := ax) hR (by omega) (by omega) (by omega) (by omega)) ?_
    show m_Sem X 134 (37, [some (.inr (.inl 13)), some (.inl ax), some (.inl ce), some (.inl (baS n tb ax ce)), none, none, none, none], [.inl (bI (onC n tb (baS n tb ax ce) ax))], mW C (S, P, K, F, B2, G, E), 0, 0) _
    refine m_if rfl (bI_R (onC n tb (baS n tb ax ce) ax)) (fun (zc1 : ¬ (bI (onC n tb (baS n tb ax ce) ax)) = 0) => absurd zc1 (by rw [(fr_i.mp fb.1).2.2]; decide)) (fun (zc1 : ¬ ¬ (bI (onC n tb (baS n tb ax ce) ax)) = 0) => ?_)
    replace zc1 : (onC n tb (baS n tb ax ce) ax) = false := bI_e0.mp (Decidable.not_not.mp zc1)
    refine m_run 2 (ps' := (42, [some (.inr (.inl 13)), some (.inl ax), some (.inl ce), some (.inl (baS n tb ax ce)), none, none, none, none], [.inl ce, .inl (baS n tb ax ce)], mW C (S, P, K, F, B2, G, E), 0, 0)) rfl ?_
    refine m_icmp rfl ⟨by omega, by omega⟩ ⟨by omega, by omega⟩ (fun (zc2 : ¬ (baS n tb ax ce) = ce) => ?_) (fun (zc2 : ¬ ¬ (baS n tb ax ce) = ce) => absurd zc2 (not_not_intro (by exact (fr_i.mp fb.1).2.1)))
    refine m_run 3 (ps' := (54, [some (.inr (.inl 13)), some (.inl ax), some (.inl ce), some (.inl (baS n tb ax ce)), none, none, none, none], [.inl (baS n tb ax ce), .inl ce, .inr (.inl 13)], mW C (S, P, K, F, B2, G, E), 0, 0)) rfl ?_
    refine m_callVF [.inl ce, .inl (baS n tb ax ce)] [] rfl rfl ⟨_, rfl, rfl⟩ rfl rfl (d_lnCP (a := ce) (b := (baS n tb ax ce)) hn ht hB hP (by omega) (by omega) (by omega) (by omega)) ?_
    have zt1 := pl_ln (p := ce) (q := (baS n tb ax ce)) hn ht hP (by omega) (by omega) (by omega) (by omega)
    show m_Sem X 134 (57, [some (.inr (.inl 13)), some (.inl ax), some (.inl ce), some (.inl (baS n tb ax ce)), none, none, none, none], [.inl (lnC n tb ce (baS n tb ax ce))], mW C (S, P, K, F, B2, G, E), 0, 0) _
    refine m_run 5 (ps' := (65, [some (.inr (.inl 13)), some (.inl ax), some (.inl ce), some (.inl (baS n tb ax ce)), some (.inl (lnC n tb ce (baS n tb ax ce))), some (.inl 0), some (.inl 0), none], [], mW C (S, P, K, F, B2, G, E), 0, 0)) rfl ?_
    refine m_weak [some (.inr (.inl 13)), some (.inl ax), some (.inl ce), some (.inl (baS n tb ax ce)), some (.inl (lnC n tb ce (baS n tb ax ce))), some (.inl 0), some (.inl 0), none] ⟨rfl, ⟨rfl, ⟨rfl, ⟨rfl, ⟨rfl, ⟨rfl, ⟨rfl, trivial⟩⟩⟩⟩⟩⟩⟩ ?_
    rw [tal_v hn ht hP hx hc]
    exact e_mic hR hB hP hx hc 0 (by omega) (by omega) G 0 (by rw [z_sub, Int.zero_add])
  · intro iv hi1 hi2 ih 
    refine m_run 3 (ps' := (34, [some (.inr (.inl 13)), some (.inl ax), some (.inl ce), some (.inl iv), none, none, none, none], [.inl ax, .inl iv, .inr (.inl 13)], mW C (S, P, K, F, B2, G, E), 0, 0)) rfl ?_
    refine m_callVF [.inl iv, .inl ax] [] rfl rfl ⟨_, rfl, rfl⟩ rfl rfl (d_on (p := iv) (l := ax) hR (by omega) (by omega) (by omega) (by omega)) ?_
    show m_Sem X 134 (37, [some (.inr (.inl 13)), some (.inl ax), some (.inl ce), some (.inl iv), none, none, none, none], [.inl (bI (onC n tb iv ax))], mW C (S, P, K, F, B2, G, E), 0, 0) _
    refine m_if rfl (bI_R (onC n tb iv ax)) (fun (zc1 : ¬ (bI (onC n tb iv ax)) = 0) => ?_) (fun (zc1 : ¬ ¬ (bI (onC n tb iv ax)) = 0) => ?_)
    · replace zc1 : (onC n tb iv ax) = true := bI_n0.mp zc1
      refine m_run 2 (ps' := (31, [some (.inr (.inl 13)), some (.inl ax), some (.inl ce), some (.inl (iv + 1)), none, none, none, none], [], mW C (S, P, K, F, B2, G, E), 0, 0)) rfl ?_
      refine m_weak [some (.inr (.inl 13)), some (.inl ax), some (.inl ce), some (.inl (iv + 1)), none, none, none, none] ⟨rfl, ⟨rfl, ⟨rfl, ⟨rfl, trivial⟩⟩⟩⟩ ?_
      exact ih
    · replace zc1 : (onC n tb iv ax) = false := bI_e0.mp (Decidable.not_not.mp zc1)
      refine m_run 2 (ps' := (42, [some (.inr (.inl 13)), some (.inl ax), some (.inl ce), some (.inl iv), none, none, none, none], [.inl ce, .inl iv], mW C (S, P, K, F, B2, G, E), 0, 0)) rfl ?_
      refine m_icmp rfl ⟨by omega, by omega⟩ ⟨by omega, by omega⟩ (fun (zc2 : ¬ iv = ce) => absurd zc2 (by intro h9; have h8 := fb.2 iv hi1 hi2; rw [fr_i.mpr ⟨⟨hi1, by omega⟩, h9, zc1⟩] at h8; cases h8)) (fun (zc2 : ¬ ¬ iv = ce) => ?_)
      replace zc2 : iv = ce := Decidable.not_not.mp zc2
      refine m_run 2 (ps' := (31, [some (.inr (.inl 13)), some (.inl ax), some (.inl ce), some (.inl (iv + 1)), none, none, none, none], [], mW C (S, P, K, F, B2, G, E), 0, 0)) rfl ?_
      refine m_weak [some (.inr (.inl 13)), some (.inl ax), some (.inl ce), some (.inl (iv + 1)), none, none, none, none] ⟨rfl, ⟨rfl, ⟨rfl, ⟨rfl, trivial⟩⟩⟩⟩ ?_
      exact ih
set_option maxHeartbeats 4000000 in
set_option maxRecDepth 100000 in
theorem d_fmir {X : Nat × Nat × (Nat → Int32)} {C : CS} {n : Int} {S : Int → Int} {P K : TS} {F : Int × Int × Int} {B : (Nat → Int64) × (Nat → Int64)} {G : Int → Int} {E : Int × Int} {tb : Int → Int → Int} {ax ce : Int} (hx : m_R ax) (hc : m_R ce) (hR : repM n S tb) : m_Run X 134 [.inr (.inl 13), .inl ax, .inl ce] (mW C (S, P, K, F, B, G, E)) (fun r w => r = some (.inl (mirFS n tb ax ce)) ∧ ∃ (B2 : (Nat → Int64) × (Nat → Int64)) (G2 : Int → Int), w = mW C (S, P, K, F, B2, G2, E)) := by
  have hn := hR.1
  have hl := okN_lo hn
  have hs0 := hR.2.1
  have hq := sq_b hn
  have hnp : NP n = n * n + n + 1 := rfl
  show m_Sem X 134 (0, [some (.inr (.inl 13)), some (.inl ax), some (.inl ce), none, none, none, none, none], [], mW C (S, P, K, F, B, G, E), 0, 0) _
  refine m_run 2 (ps' := (2, [some (.inr (.inl 13)), some (.inl ax), some (.inl ce), none, none, none, none, none], [.inl ax, .inr (.inl 13)], mW C (S, P, K, F, B, G, E), 0, 0)) rfl ?_
  refine m_callVF [.inl ax] [] rfl rfl ⟨_, rfl, rfl⟩ rfl rfl (d_ispt (e := ax) hn hs0 hx) ?_
  show m_Sem X 134 (5, [some (.inr (.inl 13)), some (.inl ax), some (.inl ce), none, none, none, none, none], [.inl (bI (inN (NP n) ax))], mW C (S, P, K, F, B, G, E), 0, 0) _
  refine m_if rfl (bI_R (inN (NP n) ax)) (fun (zc1 : (bI (inN (NP n) ax)) = 0) => ?_) (fun (zc1 : ¬ (bI (inN (NP n) ax)) = 0) => ?_)
  · replace zc1 : (inN (NP n) ax) = false := bI_e0.mp zc1
    refine m_run 1 (ps' := (18, [some (.inr (.inl 13)), some (.inl ax), some (.inl ce), none, none, none, none, none], [.inl (-1000001)], mW C (S, P, K, F, B, G, E), 0, 0)) rfl ?_
    exact m_ret1 rfl (Or.inl rfl) rfl (⟨congrArg (fun x => some (Sum.inl x)) (by unfold mirFS; first | rw [if_pos zc1] | rw [if_neg (by rw [zc1]; decide), if_pos zc2]), B, G, rfl⟩)
  · replace zc1 : (inN (NP n) ax) = true := bI_n0.mp zc1
    have zi1 := inN_i.mp zc1
    unfold NP at zi1
    refine m_run 2 (ps' := (10, [some (.inr (.inl 13)), some (.inl ax), some (.inl ce), none, none, none, none, none], [.inl ce, .inr (.inl 13)], mW C (S, P, K, F, B, G, E), 0, 0)) rfl ?_
    refine m_callVF [.inl ce] [] rfl rfl ⟨_, rfl, rfl⟩ rfl rfl (d_ispt (e := ce) hn hs0 hc) ?_
    show m_Sem X 134 (13, [some (.inr (.inl 13)), some (.inl ax), some (.inl ce), none, none, none, none, none], [.inl (bI (inN (NP n) ce))], mW C (S, P, K, F, B, G, E), 0, 0) _
    refine m_if rfl (bI_R (inN (NP n) ce)) (fun (zc2 : ¬ (bI (inN (NP n) ce)) = 0) => ?_) (fun (zc2 : ¬ ¬ (bI (inN (NP n) ce)) = 0) => ?_)
    · replace zc2 : (inN (NP n) ce) = true := bI_n0.mp zc2
      have zi2 := inN_i.mp zc2
      unfold NP at zi2
      refine m_run 1 (ps' := (20, [some (.inr (.inl 13)), some (.inl ax), some (.inl ce), none, none, none, none, none], [.inr (.inl 13)], mW C (S, P, K, F, B, G, E), 0, 0)) rfl ?_
      refine m_callV [] [] rfl rfl ⟨_, rfl, rfl⟩ rfl rfl (d_plS hR) (fun r_ w_ hq_ _ => ?_)
      obtain ⟨rfl, B2, rfl, hB2⟩ := hq_
      show m_Sem X 134 (23, [some (.inr (.inl 13)), some (.inl ax), some (.inl ce), none, none, none, none, none], [.inl (bI (plS n tb))], mW C (S, P, K, F, B2, G, E), 0, 0) _
      refine m_if rfl (bI_R (plS n tb)) (fun (zc3 : ¬ (bI (plS n tb)) = 0) => ?_) (fun (zc3 : ¬ ¬ (bI (plS n tb)) = 0) => ?_)
      · replace zc3 : (plS n tb) = true := bI_n0.mp zc3
        refine m_run 2 (ps' := (31, [some (.inr (.inl 13)), some (.inl ax), some (.inl ce), some (.inl 0), none, none, none, none], [], mW C (S, P, K, F, B2, G, E), 0, 0)) rfl ?_
        refine m_weak [some (.inr (.inl 13)), some (.inl ax), some (.inl ce), some (.inl 0), none, none, none, none] ⟨rfl, ⟨rfl, ⟨rfl, ⟨rfl, trivial⟩⟩⟩⟩ ?_
        have e9 : mirFS n tb ax ce = talS n tb ax ce := by unfold mirFS; rw [if_neg (by rw [zc1]; decide), if_neg (by rw [zc2]; decide), if_neg (by rw [zc3]; decide)]
        rw [e9]
        have hP := plS_P hn (repM.tb hR) zc3
        have hb9 := (ba_sp hn (repM.tb hR) hP (inN_i.mp zc1) (inN_i.mp zc2)).1
        have vb9 := (fr_i.mp hb9).1
        exact e_miq hR hB2 hP (inN_i.mp zc1) (inN_i.mp zc2) 0 (by omega) vb9.1
      · replace zc3 : (plS n tb) = false := bI_e0.mp (Decidable.not_not.mp zc3)
        refine m_run 1 (ps' := (28, [some (.inr (.inl 13)), some (.inl ax), some (.inl ce), none, none, none, none, none], [.inl (-1000002)], mW C (S, P, K, F, B2, G, E), 0, 0)) rfl ?_
        exact m_ret1 rfl (Or.inl rfl) rfl (⟨congrArg (fun x => some (Sum.inl x)) (by unfold mirFS; rw [if_neg (by rw [zc1]; decide), if_neg (by rw [zc2]; decide), if_pos zc3]), B2, G, rfl⟩)
    · replace zc2 : (inN (NP n) ce) = false := bI_e0.mp (Decidable.not_not.mp zc2)
      refine m_run 1 (ps' := (18, [some (.inr (.inl 13)), some (.inl ax), some (.inl ce), none, none, none, none, none], [.inl (-1000001)], mW C (S, P, K, F, B, G, E), 0, 0)) rfl ?_
      exact m_ret1 rfl (Or.inl rfl) rfl (⟨congrArg (fun x => some (Sum.inl x)) (by unfold mirFS; first | rw [if_pos zc1] | rw [if_neg (by rw [zc1]; decide), if_pos zc2]), B, G, rfl⟩)
