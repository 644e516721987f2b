theorem m_bit9 {s : Nat} {v : Int} (hs : s < 512) (h1 : 0 ≤ v) (h2 : v < 9) : (Int32.ofInt (Int32.ofInt (s : Int) >>> (Int32.ofInt v &&& 31)).toInt &&& Int32.ofInt 1).toInt = bI (s.testBit v.toNat) := by
  have h : ∀ s, s < 512 → ∀ v, v < 9 → (Int32.ofInt (Int32.ofInt ((s : Nat) : Int) >>> (Int32.ofInt ((v : Nat) : Int) &&& 31)).toInt &&& Int32.ofInt 1).toInt = bI (s.testBit v) := by decide +kernel
  have h3 := h s hs v.toNat (by omega)
  rw [Int.toNat_of_nonneg h1] at h3
  exact h3
theorem difF_in {n : Int} {tb : Int → Int → Int} (hn : okN n) (ht : tbR n tb) {r : Bool} {a b x : Int} (ha : 0 ≤ a) (ha2 : a < n) (hb : 0 ≤ b) (hb2 : b < n) (hx : 0 ≤ x) (hx2 : x < n) : 0 ≤ difF n tb r a b x ∧ difF n tb r a b x < n := by
  have h1 := ht a x ha ha2 hx hx2
  have h2 := ht x a hx hx2 ha ha2
  have h3 := ht b x hb hb2 hx hx2
  have h4 := ht x b hx hx2 hb hb2
  cases r
  · exact difS_in hn h2.1 h2.2 h4.1 h4.2
  · exact difS_in hn h1.1 h1.2 h3.1 h3.2
theorem repM.tb {n : Int} {S : Int → Int} {tb : Int → Int → Int} (h : repM n S tb) : tbR n tb := fun a b h1 h2 h3 h4 => (h.2.2 a b h1 h2 h3 h4).2
/-- whether two rows are unlike -/
def unlB (n : Int) (tb : Int → Int → Int) (law a b : Int) : Bool := decide (onceS n tb (decide (law = 6)) a b = n)
set_option maxHeartbeats 4000000 in
set_option maxRecDepth 100000 in
theorem e_unl {X : Nat × Nat × (Nat → Int32)} {C : CS} {n : Int} {S : Int → Int} {P K : TS} {F : Int × Int × Int} {B : (Nat → Int64) × (Nat → Int64)} {G : Int → Int} {E : Int × Int} {tb : Int → Int → Int} {a b law : Int} (hw : m_R law) (hR : repM n S tb) (ha : 0 ≤ a) (ha2 : a < n) (hb : 0 ≤ b) (hb2 : b < n) {v : Bool} : ∀ iv : Int, 0 ≤ iv → iv ≤ n → ∀ (s : Nat) (hs : s < 512) (hu : distK (difF n tb (decide (law = 6)) a b) (n - iv).toNat iv s = v), m_Sem X 103 (6, [some (.inr (.inl 13)), some (.inl a), some (.inl b), some (.inl law), some (.inl (s : Int)), some (.inl iv), none], [], mW C (S, P, K, F, B, G, E), 0, 0) (m_V (bI v) (mW C (S, P, K, F, B, G, E))) := by
  have hn := hR.1
  have hl := okN_lo hn
  have hs0 := hR.2.1
  refine m_down 0 n ?_ ?_
  · intro s hs hu
    show m_Sem X 103 (6, [some (.inr (.inl 13)), some (.inl a), some (.inl b), some (.inl law), some (.inl (s : Int)), some (.inl n), none], [], mW C (S, P, K, F, B, G, E), 0, 0) _
    refine m_run 4 (ps' := (13, [some (.inr (.inl 13)), some (.inl a), some (.inl b), some (.inl law), some (.inl (s : Int)), some (.inl n), none], [.inl 0, .inr (.inl 14), .inl n], mW C (S, P, K, F, B, G, E), 0, 0)) rfl ?_
    refine m_iald rfl rfl (by omega) (by omega) (by decide) ?_
    show m_Sem X 103 (14, [some (.inr (.inl 13)), some (.inl a), some (.inl b), some (.inl law), some (.inl (s : Int)), some (.inl n), none], [.inl (S 0), .inl n], mW C (S, P, K, F, B, G, E), 0, 0) _
    rw [hs0]
    refine m_icmp rfl ⟨by omega, by omega⟩ ⟨by omega, by omega⟩ (fun (zc1 : n ≤ n) => ?_) (fun (zc1 : ¬ n ≤ n) => absurd zc1 (not_not_intro (by omega)))
    refine m_run 1 (ps' := (93, [some (.inr (.inl 13)), some (.inl a), some (.inl b), some (.inl law), some (.inl (s : Int)), some (.inl n), none], [.inl 1], mW C (S, P, K, F, B, G, E), 0, 0)) rfl ?_
    exact m_ret1 rfl (Or.inr ⟨rfl, Or.inr rfl⟩) rfl (m_Vb (by rw [dist_end] at hu; rw [← hu]; rfl))
  · intro iv hi1 hi2 ih s hs hu
    rw [dist_step hi2] at hu
    have hdi := difF_in (r := decide (law = 6)) hn (repM.tb hR) ha ha2 hb hb2 hi1 hi2
    refine m_run 4 (ps' := (13, [some (.inr (.inl 13)), some (.inl a), some (.inl b), some (.inl law), some (.inl (s : Int)), some (.inl iv), none], [.inl 0, .inr (.inl 14), .inl iv], mW C (S, P, K, F, B, G, E), 0, 0)) rfl ?_
    refine m_iald rfl rfl (by omega) (by omega) (by decide) ?_
    show m_Sem X 103 (14, [some (.inr (.inl 13)), some (.inl a), some (.inl b), some (.inl law), some (.inl (s : Int)), some (.inl iv), none], [.inl (S 0), .inl iv], mW C (S, P, K, F, B, G, E), 0, 0) _
    rw [hs0]
    refine m_icmp rfl ⟨by omega, by omega⟩ ⟨by omega, by omega⟩ (fun (zc1 : n ≤ iv) => absurd zc1 (by omega)) (fun (zc1 : ¬ n ≤ iv) => ?_)
    refine m_run 2 (ps' := (20, [some (.inr (.inl 13)), some (.inl a), some (.inl b), some (.inl law), some (.inl (s : Int)), some (.inl iv), none], [.inl 6, .inl law], mW C (S, P, K, F, B, G, E), 0, 0)) rfl ?_
    refine m_icmp rfl hw ⟨by omega, by omega⟩ (fun (zc2 : ¬ law = 6) => ?_) (fun (zc2 : ¬ ¬ law = 6) => ?_)
    · have e9 : difF n tb (decide (law = 6)) a b iv = difS n (tb iv a) (tb iv b) := by rw [decide_eq_false zc2]; rfl
      rw [e9] at hu hdi
      refine m_run 4 (ps' := (49, [some (.inr (.inl 13)), some (.inl a), some (.inl b), some (.inl law), some (.inl (s : Int)), some (.inl iv), none], [.inl a, .inl iv, .inr (.inl 13), .inr (.inl 13)], mW C (S, P, K, F, B, G, E), 0, 0)) rfl ?_
      refine m_callVF [.inl iv, .inl a] [.inr (.inl 13)] rfl rfl ⟨_, rfl, rfl⟩ rfl rfl (d_times (a := iv) (b := a) hR (by omega) (by omega) (by omega) (by omega)) ?_
      have zt1 := (hR.2.2 iv a (by omega) (by omega) (by omega) (by omega)).2
      show m_Sem X 103 (52, [some (.inr (.inl 13)), some (.inl a), some (.inl b), some (.inl law), some (.inl (s : Int)), some (.inl iv), none], [.inl (tb iv a), .inr (.inl 13)], mW C (S, P, K, F, B, G, E), 0, 0) _
      refine m_run 3 (ps' := (56, [some (.inr (.inl 13)), some (.inl a), some (.inl b), some (.inl law), some (.inl (s : Int)), some (.inl iv), none], [.inl b, .inl iv, .inr (.inl 13), .inl (tb iv a), .inr (.inl 13)], mW C (S, P, K, F, B, G, E), 0, 0)) rfl ?_
      refine m_callVF [.inl iv, .inl b] [.inl (tb iv a), .inr (.inl 13)] rfl rfl ⟨_, rfl, rfl⟩ rfl rfl (d_times (a := iv) (b := b) hR (by omega) (by omega) (by omega) (by omega)) ?_
      have zt2 := (hR.2.2 iv b (by omega) (by omega) (by omega) (by omega)).2
      show m_Sem X 103 (59, [some (.inr (.inl 13)), some (.inl a), some (.inl b), some (.inl law), some (.inl (s : Int)), some (.inl iv), none], [.inl (tb iv b), .inl (tb iv a), .inr (.inl 13)], mW C (S, P, K, F, B, G, E), 0, 0) _
      refine m_callVF [.inl (tb iv a), .inl (tb iv b)] [] rfl rfl ⟨_, rfl, rfl⟩ rfl rfl (d_less (a := (tb iv a)) (b := (tb iv b)) hn hs0 (by omega) (by omega) (by omega) (by omega)) ?_
      have zt3 := difS_in (n := n) (a := (tb iv a)) (b := (tb iv b)) hn (by omega) (by omega) (by omega) (by omega)
      show m_Sem X 103 (62, [some (.inr (.inl 13)), some (.inl a), some (.inl b), some (.inl law), some (.inl (s : Int)), some (.inl iv), none], [.inl (difS n (tb iv a) (tb iv b))], mW C (S, P, K, F, B, G, E), 0, 0) _
      refine m_run 7 (ps' := (72, [some (.inr (.inl 13)), some (.inl a), some (.inl b), some (.inl law), some (.inl (s : Int)), some (.inl iv), some (.inl (difS n (tb iv a) (tb iv b)))], [.inl 1, .inl ((Int32.ofInt ((Int32.ofInt (s : Int) >>> (Int32.ofInt (difS n (tb iv a) (tb iv b)) &&& 31)).toInt) &&& Int32.ofInt 1).toInt)], mW C (S, P, K, F, B, G, E), 0, 0)) rfl ?_
      refine m_icmp rfl (by rw [m_bit9 hs hdi.1 (by omega)]; exact bI_R _) ⟨by omega, by omega⟩ (fun (zc3 : ¬ (Int32.ofInt ((Int32.ofInt (s : Int) >>> (Int32.ofInt (difS n (tb iv a) (tb iv b)) &&& 31)).toInt) &&& Int32.ofInt 1).toInt = 1) => ?_) (fun (zc3 : ¬ ¬ (Int32.ofInt ((Int32.ofInt (s : Int) >>> (Int32.ofInt (difS n (tb iv a) (tb iv b)) &&& 31)).toInt) &&& Int32.ofInt 1).toInt = 1) => ?_)
      · refine m_run 8 (ps' := (6, [some (.inr (.inl 13)), some (.inl a), some (.inl b), some (.inl law), some (.inl ((Int32.ofInt (s : Int) ||| Int32.ofInt ((Int32.ofInt 1 <<< (Int32.ofInt (difS n (tb iv a) (tb iv b)) &&& 31)).toInt)).toInt)), some (.inl (iv + 1)), some (.inl (difS n (tb iv a) (tb iv b)))], [], mW C (S, P, K, F, B, G, E), 0, 0)) rfl ?_
        refine m_weak [some (.inr (.inl 13)), some (.inl a), some (.inl b), some (.inl law), some (.inl ((Int32.ofInt (s : Int) ||| Int32.ofInt ((Int32.ofInt 1 <<< (Int32.ofInt (difS n (tb iv a) (tb iv b)) &&& 31)).toInt)).toInt)), some (.inl (iv + 1)), none] ⟨rfl, ⟨rfl, ⟨rfl, ⟨rfl, ⟨rfl, ⟨rfl, trivial⟩⟩⟩⟩⟩⟩ ?_
        rw [m_bit9 hs hdi.1 (by omega)] at zc3
        rw [if_neg (fun h8 => zc3 (by rw [h8]; rfl))] at hu
        have hw9 := pow9 hdi.1 (by omega)
        rw [m_shl1 hdi.1 (by omega), m_or (by omega) (by omega)]
        exact ih _ (or9 hs hw9) hu
      · replace zc3 : (Int32.ofInt ((Int32.ofInt (s : Int) >>> (Int32.ofInt (difS n (tb iv a) (tb iv b)) &&& 31)).toInt) &&& Int32.ofInt 1).toInt = 1 := Decidable.not_not.mp zc3
        refine m_run 1 (ps' := (76, [some (.inr (.inl 13)), some (.inl a), some (.inl b), some (.inl law), some (.inl (s : Int)), some (.inl iv), some (.inl (difS n (tb iv a) (tb iv b)))], [.inl 0], mW C (S, P, K, F, B, G, E), 0, 0)) rfl ?_
        exact m_ret1 rfl (Or.inr ⟨rfl, Or.inl rfl⟩) rfl (m_Vb (by rw [m_bit9 hs hdi.1 (by omega)] at zc3; rw [if_pos (bI_n0.mp (by omega))] at hu; rw [← hu]; rfl))
    · replace zc2 : law = 6 := Decidable.not_not.mp zc2
      have e9 : difF n tb (decide (law = 6)) a b iv = difS n (tb a iv) (tb b iv) := by rw [decide_eq_true zc2]; rfl
      rw [e9] at hu hdi
      refine m_run 4 (ps' := (28, [some (.inr (.inl 13)), some (.inl a), some (.inl b), some (.inl law), some (.inl (s : Int)), some (.inl iv), none], [.inl iv, .inl a, .inr (.inl 13), .inr (.inl 13)], mW C (S, P, K, F, B, G, E), 0, 0)) rfl ?_
      refine m_callVF [.inl a, .inl iv] [.inr (.inl 13)] rfl rfl ⟨_, rfl, rfl⟩ rfl rfl (d_times (a := a) (b := iv) hR (by omega) (by omega) (by omega) (by omega)) ?_
      have zt1 := (hR.2.2 a iv (by omega) (by omega) (by omega) (by omega)).2
      show m_Sem X 103 (31, [some (.inr (.inl 13)), some (.inl a), some (.inl b), some (.inl law), some (.inl (s : Int)), some (.inl iv), none], [.inl (tb a iv), .inr (.inl 13)], mW C (S, P, K, F, B, G, E), 0, 0) _
      refine m_run 3 (ps' := (35, [some (.inr (.inl 13)), some (.inl a), some (.inl b), some (.inl law), some (.inl (s : Int)), some (.inl iv), none], [.inl iv, .inl b, .inr (.inl 13), .inl (tb a iv), .inr (.inl 13)], mW C (S, P, K, F, B, G, E), 0, 0)) rfl ?_
      refine m_callVF [.inl b, .inl iv] [.inl (tb a iv), .inr (.inl 13)] rfl rfl ⟨_, rfl, rfl⟩ rfl rfl (d_times (a := b) (b := iv) hR (by omega) (by omega) (by omega) (by omega)) ?_
      have zt2 := (hR.2.2 b iv (by omega) (by omega) (by omega) (by omega)).2
      show m_Sem X 103 (38, [some (.inr (.inl 13)), some (.inl a), some (.inl b), some (.inl law), some (.inl (s : Int)), some (.inl iv), none], [.inl (tb b iv), .inl (tb a iv), .inr (.inl 13)], mW C (S, P, K, F, B, G, E), 0, 0) _
      refine m_callVF [.inl (tb a iv), .inl (tb b iv)] [] rfl rfl ⟨_, rfl, rfl⟩ rfl rfl (d_less (a := (tb a iv)) (b := (tb b iv)) hn hs0 (by omega) (by omega) (by omega) (by omega)) ?_
      have zt3 := difS_in (n := n) (a := (tb a iv)) (b := (tb b iv)) hn (by omega) (by omega) (by omega) (by omega)
      show m_Sem X 103 (41, [some (.inr (.inl 13)), some (.inl a), some (.inl b), some (.inl law), some (.inl (s : Int)), some (.inl iv), none], [.inl (difS n (tb a iv) (tb b iv))], mW C (S, P, K, F, B, G, E), 0, 0) _
      refine m_run 8 (ps' := (72, [some (.inr (.inl 13)), some (.inl a), some (.inl b), some (.inl law), some (.inl (s : Int)), some (.inl iv), some (.inl (difS n (tb a iv) (tb b iv)))], [.inl 1, .inl ((Int32.ofInt ((Int32.ofInt (s : Int) >>> (Int32.ofInt (difS n (tb a iv) (tb b iv)) &&& 31)).toInt) &&& Int32.ofInt 1).toInt)], mW C (S, P, K, F, B, G, E), 0, 0)) rfl ?_
      refine m_icmp rfl (by rw [m_bit9 hs hdi.1 (by omega)]; exact bI_R _) ⟨by omega, by omega⟩ (fun (zc3 : ¬ (Int32.ofInt ((Int32.ofInt (s : Int) >>> (Int32.ofInt (difS n (tb a iv) (tb b iv)) &&& 31)).toInt) &&& Int32.ofInt 1).toInt = 1) => ?_) (fun (zc3 : ¬ ¬ (Int32.ofInt ((Int32.ofInt (s : Int) >>> (Int32.ofInt (difS n (tb a iv) (tb b iv)) &&& 31)).toInt) &&& Int32.ofInt 1).toInt = 1) => ?_)
      · refine m_run 8 (ps' := (6, [some (.inr (.inl 13)), some (.inl a), some (.inl b), some (.inl law), some (.inl ((Int32.ofInt (s : Int) ||| Int32.ofInt ((Int32.ofInt 1 <<< (Int32.ofInt (difS n (tb a iv) (tb b iv)) &&& 31)).toInt)).toInt)), some (.inl (iv + 1)), some (.inl (difS n (tb a iv) (tb b iv)))], [], mW C (S, P, K, F, B, G, E), 0, 0)) rfl ?_
        refine m_weak [some (.inr (.inl 13)), some (.inl a), some (.inl b), some (.inl law), some (.inl ((Int32.ofInt (s : Int) ||| Int32.ofInt ((Int32.ofInt 1 <<< (Int32.ofInt (difS n (tb a iv) (tb b iv)) &&& 31)).toInt)).toInt)), some (.inl (iv + 1)), none] ⟨rfl, ⟨rfl, ⟨rfl, ⟨rfl, ⟨rfl, ⟨rfl, trivial⟩⟩⟩⟩⟩⟩ ?_
        rw [m_bit9 hs hdi.1 (by omega)] at zc3
        rw [if_neg (fun h8 => zc3 (by rw [h8]; rfl))] at hu
        have hw9 := pow9 hdi.1 (by omega)
        rw [m_shl1 hdi.1 (by omega), m_or (by omega) (by omega)]
        exact ih _ (or9 hs hw9) hu
      · replace zc3 : (Int32.ofInt ((Int32.ofInt (s : Int) >>> (Int32.ofInt (difS n (tb a iv) (tb b iv)) &&& 31)).toInt) &&& Int32.ofInt 1).toInt = 1 := Decidable.not_not.mp zc3
        refine m_run 1 (ps' := (76, [some (.inr (.inl 13)), some (.inl a), some (.inl b), some (.inl law), some (.inl (s : Int)), some (.inl iv), some (.inl (difS n (tb a iv) (tb b iv)))], [.inl 0], mW C (S, P, K, F, B, G, E), 0, 0)) rfl ?_
        exact m_ret1 rfl (Or.inr ⟨rfl, Or.inl rfl⟩) rfl (m_Vb (by rw [m_bit9 hs hdi.1 (by omega)] at zc3; rw [if_pos (bI_n0.mp (by omega))] at hu; rw [← hu]; rfl))
set_option maxHeartbeats 4000000 in
set_option maxRecDepth 100000 in
theorem d_unl {X : Nat × Nat × (Nat → Int32)} {C : CS} {n : Int} {S : Int → Int} {P K : TS} {F : Int × Int × Int} {B : (Nat → Int64) × (Nat → Int64)} {G : Int → Int} {E : Int × Int} {tb : Int → Int → Int} {a b law : Int} (hw : m_R law) (hR : repM n S tb) (ha : 0 ≤ a) (ha2 : a < n) (hb : 0 ≤ b) (hb2 : b < n) : m_Run X 103 [.inr (.inl 13), .inl a, .inl b, .inl law] (mW C (S, P, K, F, B, G, E)) (m_V (bI (unlB n tb law a b)) (mW C (S, P, K, F, B, G, E))) := by
  have hn := hR.1
  have hl := okN_lo hn
  have hs0 := hR.2.1
  show m_Sem X 103 (0, [some (.inr (.inl 13)), some (.inl a), some (.inl b), some (.inl law), none, none, none], [], mW C (S, P, K, F, B, G, E), 0, 0) _
  refine m_run 4 (ps' := (6, [some (.inr (.inl 13)), some (.inl a), some (.inl b), some (.inl law), some (.inl 0), some (.inl 0), none], [], mW C (S, P, K, F, B, G, E), 0, 0)) rfl ?_
  refine m_weak [some (.inr (.inl 13)), some (.inl a), some (.inl b), some (.inl law), some (.inl 0), some (.inl 0), none] ⟨rfl, ⟨rfl, ⟨rfl, ⟨rfl, ⟨rfl, ⟨rfl, trivial⟩⟩⟩⟩⟩⟩ ?_
  exact e_unl (v := unlB n tb law a b) hw hR ha ha2 hb hb2 0 (by omega) (by omega) 0 (by omega) (by rw [z_sub]; exact dist_once (by omega) (by omega) (fun j g1 g2 => difF_in hn (repM.tb hR) ha ha2 hb hb2 g1 g2))
set_option maxHeartbeats 4000000 in
set_option maxRecDepth 100000 in
theorem d_hf {X : Nat × Nat × (Nat → Int32)} {C : CS} {n : Int} {S : Int → Int} {P K : TS} {F : Int × Int × Int} {B : (Nat → Int64) × (Nat → Int64)} {G : Int → Int} {E : Int × Int} {tb : Int → Int → Int} {law a b c : Int} (hR : repM n S tb) (hw : 0 ≤ law) (hw2 : law < 8) (ha : 0 ≤ a) (ha2 : a < n) (hb : 0 ≤ b) (hb2 : b < n) (hc : 0 ≤ c) (hc2 : c < n) : m_Run X 104 [.inr (.inl 13), .inl law, .inl a, .inl b, .inl c] (mW C (S, P, K, F, B, G, E)) (m_V (bI (holdsS n tb law a b c)) (mW C (S, P, K, F, B, G, E))) := by
  have hn := hR.1
  have hl := okN_lo hn
  have hs0 := hR.2.1
  show m_Sem X 104 (0, [some (.inr (.inl 13)), some (.inl law), some (.inl a), some (.inl b), some (.inl c)], [], mW C (S, P, K, F, B, G, E), 0, 0) _
  refine m_run 1 (ps' := (1, [some (.inr (.inl 13)), some (.inl law), some (.inl a), some (.inl b), some (.inl c)], [.inl law], mW C (S, P, K, F, B, G, E), 0, 0)) rfl ?_
  rcases (show law = 0 ∨ law = 1 ∨ law = 2 ∨ law = 3 ∨ law = 4 ∨ law = 5 ∨ 5 < law by omega) with rfl | rfl | rfl | rfl | rfl | rfl | zs1
  · refine m_tabIn (tgt := 40) rfl ⟨by decide, by decide⟩ (by decide) (by decide) rfl rfl ?_
    refine m_run 3 (ps' := (43, [some (.inr (.inl 13)), some (.inl 0), some (.inl a), some (.inl b), some (.inl c)], [.inl a, .inl 0, .inr (.inl 13)], mW C (S, P, K, F, B, G, E), 0, 0)) rfl ?_
    refine m_callVF [.inl 0, .inl a] [] rfl rfl ⟨_, rfl, rfl⟩ rfl rfl (d_times (a := 0) (b := a) hR (by omega) (by omega) (by omega) (by omega)) ?_
    have zt1 := (hR.2.2 0 a (by omega) (by omega) (by omega) (by omega)).2
    show m_Sem X 104 (46, [some (.inr (.inl 13)), some (.inl 0), some (.inl a), some (.inl b), some (.inl c)], [.inl (tb 0 a)], mW C (S, P, K, F, B, G, E), 0, 0) _
    refine m_if rfl ⟨by omega, by omega⟩ (fun (zc1 : ¬ (tb 0 a) = 0) => ?_) (fun (zc1 : ¬ ¬ (tb 0 a) = 0) => ?_)
    · refine m_run 1 (ps' := (63, [some (.inr (.inl 13)), some (.inl 0), some (.inl a), some (.inl b), some (.inl c)], [.inl 0], mW C (S, P, K, F, B, G, E), 0, 0)) rfl ?_
      exact m_ret1 rfl (Or.inr ⟨rfl, Or.inl rfl⟩) rfl (m_Vb (b0 (by unfold holdsS; simp [*])))
    · replace zc1 : (tb 0 a) = 0 := Decidable.not_not.mp zc1
      refine m_run 3 (ps' := (52, [some (.inr (.inl 13)), some (.inl 0), some (.inl a), some (.inl b), some (.inl c)], [.inl 0, .inl a, .inr (.inl 13)], mW C (S, P, K, F, B, G, E), 0, 0)) rfl ?_
      refine m_callVF [.inl a, .inl 0] [] rfl rfl ⟨_, rfl, rfl⟩ rfl rfl (d_times (a := a) (b := 0) hR (by omega) (by omega) (by omega) (by omega)) ?_
      have zt2 := (hR.2.2 a 0 (by omega) (by omega) (by omega) (by omega)).2
      show m_Sem X 104 (55, [some (.inr (.inl 13)), some (.inl 0), some (.inl a), some (.inl b), some (.inl c)], [.inl (tb a 0)], mW C (S, P, K, F, B, G, E), 0, 0) _
      refine m_if rfl ⟨by omega, by omega⟩ (fun (zc2 : ¬ (tb a 0) = 0) => ?_) (fun (zc2 : ¬ ¬ (tb a 0) = 0) => ?_)
      · refine m_run 1 (ps' := (63, [some (.inr (.inl 13)), some (.inl 0), some (.inl a), some (.inl b), some (.inl c)], [.inl 0], mW C (S, P, K, F, B, G, E), 0, 0)) rfl ?_
        exact m_ret1 rfl (Or.inr ⟨rfl, Or.inl rfl⟩) rfl (m_Vb (b0 (by unfold holdsS; simp [*])))
      · replace zc2 : (tb a 0) = 0 := Decidable.not_not.mp zc2
        refine m_run 2 (ps' := (63, [some (.inr (.inl 13)), some (.inl 0), some (.inl a), some (.inl b), some (.inl c)], [.inl 1], mW C (S, P, K, F, B, G, E), 0, 0)) rfl ?_
        exact m_ret1 rfl (Or.inr ⟨rfl, Or.inr rfl⟩) rfl (m_Vb (b1 (by unfold holdsS; simp [*])))
  · refine m_tabIn (tgt := 64) rfl ⟨by decide, by decide⟩ (by decide) (by decide) rfl rfl ?_
    refine m_run 3 (ps' := (67, [some (.inr (.inl 13)), some (.inl 1), some (.inl a), some (.inl b), some (.inl c)], [.inl a, .inl 1, .inr (.inl 13)], mW C (S, P, K, F, B, G, E), 0, 0)) rfl ?_
    refine m_callVF [.inl 1, .inl a] [] rfl rfl ⟨_, rfl, rfl⟩ rfl rfl (d_times (a := 1) (b := a) hR (by omega) (by omega) (by omega) (by omega)) ?_
    have zt1 := (hR.2.2 1 a (by omega) (by omega) (by omega) (by omega)).2
    show m_Sem X 104 (70, [some (.inr (.inl 13)), some (.inl 1), some (.inl a), some (.inl b), some (.inl c)], [.inl (tb 1 a)], mW C (S, P, K, F, B, G, E), 0, 0) _
    refine m_run 1 (ps' := (71, [some (.inr (.inl 13)), some (.inl 1), some (.inl a), some (.inl b), some (.inl c)], [.inl a, .inl (tb 1 a)], mW C (S, P, K, F, B, G, E), 0, 0)) rfl ?_
    refine m_icmp rfl ⟨by omega, by omega⟩ ⟨by omega, by omega⟩ (fun (zc1 : ¬ (tb 1 a) = a) => ?_) (fun (zc1 : ¬ ¬ (tb 1 a) = a) => ?_)
    · refine m_run 1 (ps' := (89, [some (.inr (.inl 13)), some (.inl 1), some (.inl a), some (.inl b), some (.inl c)], [.inl 0], mW C (S, P, K, F, B, G, E), 0, 0)) rfl ?_
      exact m_ret1 rfl (Or.inr ⟨rfl, Or.inl rfl⟩) rfl (m_Vb (b0 (by unfold holdsS; simp [*])))
    · replace zc1 : (tb 1 a) = a := Decidable.not_not.mp zc1
      refine m_run 3 (ps' := (77, [some (.inr (.inl 13)), some (.inl 1), some (.inl a), some (.inl b), some (.inl c)], [.inl 1, .inl a, .inr (.inl 13)], mW C (S, P, K, F, B, G, E), 0, 0)) rfl ?_
      refine m_callVF [.inl a, .inl 1] [] rfl rfl ⟨_, rfl, rfl⟩ rfl rfl (d_times (a := a) (b := 1) hR (by omega) (by omega) (by omega) (by omega)) ?_
      have zt2 := (hR.2.2 a 1 (by omega) (by omega) (by omega) (by omega)).2
      show m_Sem X 104 (80, [some (.inr (.inl 13)), some (.inl 1), some (.inl a), some (.inl b), some (.inl c)], [.inl (tb a 1)], mW C (S, P, K, F, B, G, E), 0, 0) _
      refine m_run 1 (ps' := (81, [some (.inr (.inl 13)), some (.inl 1), some (.inl a), some (.inl b), some (.inl c)], [.inl a, .inl (tb a 1)], mW C (S, P, K, F, B, G, E), 0, 0)) rfl ?_
      refine m_icmp rfl ⟨by omega, by omega⟩ ⟨by omega, by omega⟩ (fun (zc2 : ¬ (tb a 1) = a) => ?_) (fun (zc2 : ¬ ¬ (tb a 1) = a) => ?_)
      · refine m_run 1 (ps' := (89, [some (.inr (.inl 13)), some (.inl 1), some (.inl a), some (.inl b), some (.inl c)], [.inl 0], mW C (S, P, K, F, B, G, E), 0, 0)) rfl ?_
        exact m_ret1 rfl (Or.inr ⟨rfl, Or.inl rfl⟩) rfl (m_Vb (b0 (by unfold holdsS; simp [*])))
      · replace zc2 : (tb a 1) = a := Decidable.not_not.mp zc2
        refine m_run 2 (ps' := (89, [some (.inr (.inl 13)), some (.inl 1), some (.inl a), some (.inl b), some (.inl c)], [.inl 1], mW C (S, P, K, F, B, G, E), 0, 0)) rfl ?_
        exact m_ret1 rfl (Or.inr ⟨rfl, Or.inr rfl⟩) rfl (m_Vb (b1 (by unfold holdsS; simp [*])))
  · refine m_tabIn (tgt := 90) rfl ⟨by decide, by decide⟩ (by decide) (by decide) rfl rfl ?_
    refine m_run 5 (ps' := (96, [some (.inr (.inl 13)), some (.inl 2), some (.inl a), some (.inl b), some (.inl c)], [.inl c, .inl b, .inr (.inl 13), .inl a, .inr (.inl 13)], mW C (S, P, K, F, B, G, E), 0, 0)) rfl ?_
    refine m_callVF [.inl b, .inl c] [.inl a, .inr (.inl 13)] rfl rfl ⟨_, rfl, rfl⟩ rfl rfl (d_sum (a := b) (b := c) hn hs0 (by omega) (by omega) (by omega) (by omega)) ?_
    have zt1 := sumS_in (n := n) (a := b) (b := c) hn (by omega) (by omega) (by omega) (by omega)
    show m_Sem X 104 (99, [some (.inr (.inl 13)), some (.inl 2), some (.inl a), some (.inl b), some (.inl c)], [.inl (sumS n b c), .inl a, .inr (.inl 13)], mW C (S, P, K, F, B, G, E), 0, 0) _
    refine m_callVF [.inl a, .inl (sumS n b c)] [] rfl rfl ⟨_, rfl, rfl⟩ rfl rfl (d_times (a := a) (b := (sumS n b c)) hR (by omega) (by omega) (by omega) (by omega)) ?_
    have zt2 := (hR.2.2 a (sumS n b c) (by omega) (by omega) (by omega) (by omega)).2
    show m_Sem X 104 (102, [some (.inr (.inl 13)), some (.inl 2), some (.inl a), some (.inl b), some (.inl c)], [.inl (tb a (sumS n b c))], mW C (S, P, K, F, B, G, E), 0, 0) _
    refine m_run 4 (ps' := (106, [some (.inr (.inl 13)), some (.inl 2), some (.inl a), some (.inl b), some (.inl c)], [.inl b, .inl a, .inr (.inl 13), .inr (.inl 13), .inl (tb a (sumS n b c))], mW C (S, P, K, F, B, G, E), 0, 0)) rfl ?_
    refine m_callVF [.inl a, .inl b] [.inr (.inl 13), .inl (tb a (sumS n b c))] rfl rfl ⟨_, rfl, rfl⟩ rfl rfl (d_times (a := a) (b := b) hR (by omega) (by omega) (by omega) (by omega)) ?_
    have zt3 := (hR.2.2 a b (by omega) (by omega) (by omega) (by omega)).2
    show m_Sem X 104 (109, [some (.inr (.inl 13)), some (.inl 2), some (.inl a), some (.inl b), some (.inl c)], [.inl (tb a b), .inr (.inl 13), .inl (tb a (sumS n b c))], mW C (S, P, K, F, B, G, E), 0, 0) _
    refine m_run 3 (ps' := (113, [some (.inr (.inl 13)), some (.inl 2), some (.inl a), some (.inl b), some (.inl c)], [.inl c, .inl a, .inr (.inl 13), .inl (tb a b), .inr (.inl 13), .inl (tb a (sumS n b c))], mW C (S, P, K, F, B, G, E), 0, 0)) rfl ?_
    refine m_callVF [.inl a, .inl c] [.inl (tb a b), .inr (.inl 13), .inl (tb a (sumS n b c))] rfl rfl ⟨_, rfl, rfl⟩ rfl rfl (d_times (a := a) (b := c) hR (by omega) (by omega) (by omega) (by omega)) ?_
    have zt4 := (hR.2.2 a c (by omega) (by omega) (by omega) (by omega)).2
    show m_Sem X 104 (116, [some (.inr (.inl 13)), some (.inl 2), some (.inl a), some (.inl b), some (.inl c)], [.inl (tb a c), .inl (tb a b), .inr (.inl 13), .inl (tb a (sumS n b c))], mW C (S, P, K, F, B, G, E), 0, 0) _
    refine m_callVF [.inl (tb a b), .inl (tb a c)] [.inl (tb a (sumS n b c))] rfl rfl ⟨_, rfl, rfl⟩ rfl rfl (d_sum (a := (tb a b)) (b := (tb a c)) hn hs0 (by omega) (by omega) (by omega) (by omega)) ?_
    have zt5 := sumS_in (n := n) (a := (tb a b)) (b := (tb a c)) hn (by omega) (by omega) (by omega) (by omega)
    show m_Sem X 104 (119, [some (.inr (.inl 13)), some (.inl 2), some (.inl a), some (.inl b), some (.inl c)], [.inl (sumS n (tb a b) (tb a c)), .inl (tb a (sumS n b c))], mW C (S, P, K, F, B, G, E), 0, 0) _
    refine m_icmp rfl ⟨by omega, by omega⟩ ⟨by omega, by omega⟩ (fun (zc1 : ¬ (tb a (sumS n b c)) = (sumS n (tb a b) (tb a c))) => ?_) (fun (zc1 : ¬ ¬ (tb a (sumS n b c)) = (sumS n (tb a b) (tb a c))) => ?_)
    · refine m_run 1 (ps' := (127, [some (.inr (.inl 13)), some (.inl 2), some (.inl a), some (.inl b), some (.inl c)], [.inl 0], mW C (S, P, K, F, B, G, E), 0, 0)) rfl ?_
      exact m_ret1 rfl (Or.inr ⟨rfl, Or.inl rfl⟩) rfl (m_Vb (b0 (by unfold holdsS; simp [*])))
    · replace zc1 : (tb a (sumS n b c)) = (sumS n (tb a b) (tb a c)) := Decidable.not_not.mp zc1
      refine m_run 2 (ps' := (127, [some (.inr (.inl 13)), some (.inl 2), some (.inl a), some (.inl b), some (.inl c)], [.inl 1], mW C (S, P, K, F, B, G, E), 0, 0)) rfl ?_
      exact m_ret1 rfl (Or.inr ⟨rfl, Or.inr rfl⟩) rfl (m_Vb (b1 (by unfold holdsS; simp [*])))
  · refine m_tabIn (tgt := 128) rfl ⟨by decide, by decide⟩ (by decide) (by decide) rfl rfl ?_
    refine m_run 4 (ps' := (132, [some (.inr (.inl 13)), some (.inl 3), some (.inl a), some (.inl b), some (.inl c)], [.inl b, .inl a, .inr (.inl 13), .inr (.inl 13)], mW C (S, P, K, F, B, G, E), 0, 0)) rfl ?_
    refine m_callVF [.inl a, .inl b] [.inr (.inl 13)] rfl rfl ⟨_, rfl, rfl⟩ rfl rfl (d_sum (a := a) (b := b) hn hs0 (by omega) (by omega) (by omega) (by omega)) ?_
    have zt1 := sumS_in (n := n) (a := a) (b := b) hn (by omega) (by omega) (by omega) (by omega)
    show m_Sem X 104 (135, [some (.inr (.inl 13)), some (.inl 3), some (.inl a), some (.inl b), some (.inl c)], [.inl (sumS n a b), .inr (.inl 13)], mW C (S, P, K, F, B, G, E), 0, 0) _
    refine m_run 1 (ps' := (137, [some (.inr (.inl 13)), some (.inl 3), some (.inl a), some (.inl b), some (.inl c)], [.inl c, .inl (sumS n a b), .inr (.inl 13)], mW C (S, P, K, F, B, G, E), 0, 0)) rfl ?_
    refine m_callVF [.inl (sumS n a b), .inl c] [] rfl rfl ⟨_, rfl, rfl⟩ rfl rfl (d_times (a := (sumS n a b)) (b := c) hR (by omega) (by omega) (by omega) (by omega)) ?_
    have zt2 := (hR.2.2 (sumS n a b) c (by omega) (by omega) (by omega) (by omega)).2
    show m_Sem X 104 (140, [some (.inr (.inl 13)), some (.inl 3), some (.inl a), some (.inl b), some (.inl c)], [.inl (tb (sumS n a b) c)], mW C (S, P, K, F, B, G, E), 0, 0) _
    refine m_run 4 (ps' := (145, [some (.inr (.inl 13)), some (.inl 3), some (.inl a), some (.inl b), some (.inl c)], [.inl c, .inl a, .inr (.inl 13), .inr (.inl 13), .inl (tb (sumS n a b) c)], mW C (S, P, K, F, B, G, E), 0, 0)) rfl ?_
    refine m_callVF [.inl a, .inl c] [.inr (.inl 13), .inl (tb (sumS n a b) c)] rfl rfl ⟨_, rfl, rfl⟩ rfl rfl (d_times (a := a) (b := c) hR (by omega) (by omega) (by omega) (by omega)) ?_
    have zt3 := (hR.2.2 a c (by omega) (by omega) (by omega) (by omega)).2
    show m_Sem X 104 (148, [some (.inr (.inl 13)), some (.inl 3), some (.inl a), some (.inl b), some (.inl c)], [.inl (tb a c), .inr (.inl 13), .inl (tb (sumS n a b) c)], mW C (S, P, K, F, B, G, E), 0, 0) _
    refine m_run 3 (ps' := (152, [some (.inr (.inl 13)), some (.inl 3), some (.inl a), some (.inl b), some (.inl c)], [.inl c, .inl b, .inr (.inl 13), .inl (tb a c), .inr (.inl 13), .inl (tb (sumS n a b) c)], mW C (S, P, K, F, B, G, E), 0, 0)) rfl ?_
    refine m_callVF [.inl b, .inl c] [.inl (tb a c), .inr (.inl 13), .inl (tb (sumS n a b) c)] rfl rfl ⟨_, rfl, rfl⟩ rfl rfl (d_times (a := b) (b := c) hR (by omega) (by omega) (by omega) (by omega)) ?_
    have zt4 := (hR.2.2 b c (by omega) (by omega) (by omega) (by omega)).2
    show m_Sem X 104 (155, [some (.inr (.inl 13)), some (.inl 3), some (.inl a), some (.inl b), some (.inl c)], [.inl (tb b c), .inl (tb a c), .inr (.inl 13), .inl (tb (sumS n a b) c)], mW C (S, P, K, F, B, G, E), 0, 0) _
    refine m_callVF [.inl (tb a c), .inl (tb b c)] [.inl (tb (sumS n a b) c)] rfl rfl ⟨_, rfl, rfl⟩ rfl rfl (d_sum (a := (tb a c)) (b := (tb b c)) hn hs0 (by omega) (by omega) (by omega) (by omega)) ?_
    have zt5 := sumS_in (n := n) (a := (tb a c)) (b := (tb b c)) hn (by omega) (by omega) (by omega) (by omega)
    show m_Sem X 104 (158, [some (.inr (.inl 13)), some (.inl 3), some (.inl a), some (.inl b), some (.inl c)], [.inl (sumS n (tb a c) (tb b c)), .inl (tb (sumS n a b) c)], mW C (S, P, K, F, B, G, E), 0, 0) _
    refine m_icmp rfl ⟨by omega, by omega⟩ ⟨by omega, by omega⟩ (fun (zc1 : ¬ (tb (sumS n a b) c) = (sumS n (tb a c) (tb b c))) => ?_) (fun (zc1 : ¬ ¬ (tb (sumS n a b) c) = (sumS n (tb a c) (tb b c))) => ?_)
    · refine m_run 1 (ps' := (166, [some (.inr (.inl 13)), some (.inl 3), some (.inl a), some (.inl b), some (.inl c)], [.inl 0], mW C (S, P, K, F, B, G, E), 0, 0)) rfl ?_
      exact m_ret1 rfl (Or.inr ⟨rfl, Or.inl rfl⟩) rfl (m_Vb (b0 (by unfold holdsS; simp [*])))
    · replace zc1 : (tb (sumS n a b) c) = (sumS n (tb a c) (tb b c)) := Decidable.not_not.mp zc1
      refine m_run 2 (ps' := (166, [some (.inr (.inl 13)), some (.inl 3), some (.inl a), some (.inl b), some (.inl c)], [.inl 1], mW C (S, P, K, F, B, G, E), 0, 0)) rfl ?_
      exact m_ret1 rfl (Or.inr ⟨rfl, Or.inr rfl⟩) rfl (m_Vb (b1 (by unfold holdsS; simp [*])))
  · refine m_tabIn (tgt := 167) rfl ⟨by decide, by decide⟩ (by decide) (by decide) rfl rfl ?_
    refine m_run 4 (ps' := (171, [some (.inr (.inl 13)), some (.inl 4), some (.inl a), some (.inl b), some (.inl c)], [.inl b, .inl a, .inr (.inl 13), .inr (.inl 13)], mW C (S, P, K, F, B, G, E), 0, 0)) rfl ?_
    refine m_callVF [.inl a, .inl b] [.inr (.inl 13)] rfl rfl ⟨_, rfl, rfl⟩ rfl rfl (d_times (a := a) (b := b) hR (by omega) (by omega) (by omega) (by omega)) ?_
    have zt1 := (hR.2.2 a b (by omega) (by omega) (by omega) (by omega)).2
    show m_Sem X 104 (174, [some (.inr (.inl 13)), some (.inl 4), some (.inl a), some (.inl b), some (.inl c)], [.inl (tb a b), .inr (.inl 13)], mW C (S, P, K, F, B, G, E), 0, 0) _
    refine m_run 1 (ps' := (176, [some (.inr (.inl 13)), some (.inl 4), some (.inl a), some (.inl b), some (.inl c)], [.inl c, .inl (tb a b), .inr (.inl 13)], mW C (S, P, K, F, B, G, E), 0, 0)) rfl ?_
    refine m_callVF [.inl (tb a b), .inl c] [] rfl rfl ⟨_, rfl, rfl⟩ rfl rfl (d_times (a := (tb a b)) (b := c) hR (by omega) (by omega) (by omega) (by omega)) ?_
    have zt2 := (hR.2.2 (tb a b) c (by omega) (by omega) (by omega) (by omega)).2
    show m_Sem X 104 (179, [some (.inr (.inl 13)), some (.inl 4), some (.inl a), some (.inl b), some (.inl c)], [.inl (tb (tb a b) c)], mW C (S, P, K, F, B, G, E), 0, 0) _
    refine m_run 5 (ps' := (185, [some (.inr (.inl 13)), some (.inl 4), some (.inl a), some (.inl b), some (.inl c)], [.inl c, .inl b, .inr (.inl 13), .inl a, .inr (.inl 13), .inl (tb (tb a b) c)], mW C (S, P, K, F, B, G, E), 0, 0)) rfl ?_
    refine m_callVF [.inl b, .inl c] [.inl a, .inr (.inl 13), .inl (tb (tb a b) c)] rfl rfl ⟨_, rfl, rfl⟩ rfl rfl (d_times (a := b) (b := c) hR (by omega) (by omega) (by omega) (by omega)) ?_
    have zt3 := (hR.2.2 b c (by omega) (by omega) (by omega) (by omega)).2
    show m_Sem X 104 (188, [some (.inr (.inl 13)), some (.inl 4), some (.inl a), some (.inl b), some (.inl c)], [.inl (tb b c), .inl a, .inr (.inl 13), .inl (tb (tb a b) c)], mW C (S, P, K, F, B, G, E), 0, 0) _
    refine m_callVF [.inl a, .inl (tb b c)] [.inl (tb (tb a b) c)] rfl rfl ⟨_, rfl, rfl⟩ rfl rfl (d_times (a := a) (b := (tb b c)) hR (by omega) (by omega) (by omega) (by omega)) ?_
    have zt4 := (hR.2.2 a (tb b c) (by omega) (by omega) (by omega) (by omega)).2
    show m_Sem X 104 (191, [some (.inr (.inl 13)), some (.inl 4), some (.inl a), some (.inl b), some (.inl c)], [.inl (tb a (tb b c)), .inl (tb (tb a b) c)], mW C (S, P, K, F, B, G, E), 0, 0) _
    refine m_icmp rfl ⟨by omega, by omega⟩ ⟨by omega, by omega⟩ (fun (zc1 : ¬ (tb (tb a b) c) = (tb a (tb b c))) => ?_) (fun (zc1 : ¬ ¬ (tb (tb a b) c) = (tb a (tb b c))) => ?_)
    · refine m_run 1 (ps' := (199, [some (.inr (.inl 13)), some (.inl 4), some (.inl a), some (.inl b), some (.inl c)], [.inl 0], mW C (S, P, K, F, B, G, E), 0, 0)) rfl ?_
      exact m_ret1 rfl (Or.inr ⟨rfl, Or.inl rfl⟩) rfl (m_Vb (b0 (by unfold holdsS; simp [*])))
    · replace zc1 : (tb (tb a b) c) = (tb a (tb b c)) := Decidable.not_not.mp zc1
      refine m_run 2 (ps' := (199, [some (.inr (.inl 13)), some (.inl 4), some (.inl a), some (.inl b), some (.inl c)], [.inl 1], mW C (S, P, K, F, B, G, E), 0, 0)) rfl ?_
      exact m_ret1 rfl (Or.inr ⟨rfl, Or.inr rfl⟩) rfl (m_Vb (b1 (by unfold holdsS; simp [*])))
  · refine m_tabIn (tgt := 200) rfl ⟨by decide, by decide⟩ (by decide) (by decide) rfl rfl ?_
    refine m_run 3 (ps' := (203, [some (.inr (.inl 13)), some (.inl 5), some (.inl a), some (.inl b), some (.inl c)], [.inl b, .inl a, .inr (.inl 13)], mW C (S, P, K, F, B, G, E), 0, 0)) rfl ?_
    refine m_callVF [.inl a, .inl b] [] rfl rfl ⟨_, rfl, rfl⟩ rfl rfl (d_times (a := a) (b := b) hR (by omega) (by omega) (by omega) (by omega)) ?_
    have zt1 := (hR.2.2 a b (by omega) (by omega) (by omega) (by omega)).2
    show m_Sem X 104 (206, [some (.inr (.inl 13)), some (.inl 5), some (.inl a), some (.inl b), some (.inl c)], [.inl (tb a b)], mW C (S, P, K, F, B, G, E), 0, 0) _
    refine m_run 3 (ps' := (209, [some (.inr (.inl 13)), some (.inl 5), some (.inl a), some (.inl b), some (.inl c)], [.inl a, .inl b, .inr (.inl 13), .inl (tb a b)], mW C (S, P, K, F, B, G, E), 0, 0)) rfl ?_
    refine m_callVF [.inl b, .inl a] [.inl (tb a b)] rfl rfl ⟨_, rfl, rfl⟩ rfl rfl (d_times (a := b) (b := a) hR (by omega) (by omega) (by omega) (by omega)) ?_
    have zt2 := (hR.2.2 b a (by omega) (by omega) (by omega) (by omega)).2
    show m_Sem X 104 (212, [some (.inr (.inl 13)), some (.inl 5), some (.inl a), some (.inl b), some (.inl c)], [.inl (tb b a), .inl (tb a b)], mW C (S, P, K, F, B, G, E), 0, 0) _
    refine m_icmp rfl ⟨by omega, by omega⟩ ⟨by omega, by omega⟩ (fun (zc1 : ¬ (tb a b) = (tb b a)) => ?_) (fun (zc1 : ¬ ¬ (tb a b) = (tb b a)) => ?_)
    · refine m_run 1 (ps' := (220, [some (.inr (.inl 13)), some (.inl 5), some (.inl a), some (.inl b), some (.inl c)], [.inl 0], mW C (S, P, K, F, B, G, E), 0, 0)) rfl ?_
      exact m_ret1 rfl (Or.inr ⟨rfl, Or.inl rfl⟩) rfl (m_Vb (b0 (by unfold holdsS; simp [*])))
    · replace zc1 : (tb a b) = (tb b a) := Decidable.not_not.mp zc1
      refine m_run 2 (ps' := (220, [some (.inr (.inl 13)), some (.inl 5), some (.inl a), some (.inl b), some (.inl c)], [.inl 1], mW C (S, P, K, F, B, G, E), 0, 0)) rfl ?_
      exact m_ret1 rfl (Or.inr ⟨rfl, Or.inr rfl⟩) rfl (m_Vb (b1 (by unfold holdsS; simp [*])))
  · refine m_tabOut (tgt := 221) rfl ⟨by omega, by omega⟩ (Or.inr (by omega)) rfl ?_
    refine m_run 2 (ps' := (223, [some (.inr (.inl 13)), some (.inl law), some (.inl a), some (.inl b), some (.inl c)], [.inl b, .inl a], mW C (S, P, K, F, B, G, E), 0, 0)) rfl ?_
    refine m_icmp rfl ⟨by omega, by omega⟩ ⟨by omega, by omega⟩ (fun (zc1 : a = b) => ?_) (fun (zc1 : ¬ a = b) => ?_)
    · refine m_run 2 (ps' := (241, [some (.inr (.inl 13)), some (.inl law), some (.inl a), some (.inl b), some (.inl c)], [.inl 1], mW C (S, P, K, F, B, G, E), 0, 0)) rfl ?_
      exact m_ret1 rfl (Or.inr ⟨rfl, Or.inr rfl⟩) rfl (m_Vb (b1 (by unfold holdsS; (try unfold unlB at *); simp only [show ¬ law = 0 by omega, show ¬ law = 1 by omega, show ¬ law = 2 by omega, show ¬ law = 3 by omega, show ¬ law = 4 by omega, show ¬ law = 5 by omega, if_false]; simp [*])))
    · refine m_run 4 (ps' := (230, [some (.inr (.inl 13)), some (.inl law), some (.inl a), some (.inl b), some (.inl c)], [.inl law, .inl b, .inl a, .inr (.inl 13)], mW C (S, P, K, F, B, G, E), 0, 0)) rfl ?_
      refine m_callVF [.inl a, .inl b, .inl law] [] rfl rfl ⟨_, rfl, rfl⟩ rfl rfl (d_unl (a := a) (b := b) (law := law) ⟨by omega, by omega⟩ hR (by omega) (by omega) (by omega) (by omega)) ?_
      show m_Sem X 104 (233, [some (.inr (.inl 13)), some (.inl law), some (.inl a), some (.inl b), some (.inl c)], [.inl (bI (unlB n tb law a b))], mW C (S, P, K, F, B, G, E), 0, 0) _
      refine m_if rfl (bI_R (unlB n tb law a b)) (fun (zc2 : (bI (unlB n tb law a b)) = 0) => ?_) (fun (zc2 : ¬ (bI (unlB n tb law a b)) = 0) => ?_)
      · replace zc2 : (unlB n tb law a b) = false := bI_e0.mp zc2
        refine m_run 1 (ps' := (241, [some (.inr (.inl 13)), some (.inl law), some (.inl a), some (.inl b), some (.inl c)], [.inl 0], mW C (S, P, K, F, B, G, E), 0, 0)) rfl ?_
        exact m_ret1 rfl (Or.inr ⟨rfl, Or.inl rfl⟩) rfl (m_Vb (b0 (by unfold holdsS; (try unfold unlB at *); simp only [show ¬ law = 0 by omega, show ¬ law = 1 by omega, show ¬ law = 2 by omega, show ¬ law = 3 by omega, show ¬ law = 4 by omega, show ¬ law = 5 by omega, if_false]; simp [*])))
      · replace zc2 : (unlB n tb law a b) = true := bI_n0.mp zc2
        refine m_run 2 (ps' := (241, [some (.inr (.inl 13)), some (.inl law), some (.inl a), some (.inl b), some (.inl c)], [.inl 1], mW C (S, P, K, F, B, G, E), 0, 0)) rfl ?_
        exact m_ret1 rfl (Or.inr ⟨rfl, Or.inr rfl⟩) rfl (m_Vb (b1 (by unfold holdsS; (try unfold unlB at *); simp only [show ¬ law = 0 by omega, show ¬ law = 1 by omega, show ¬ law = 2 by omega, show ¬ law = 3 by omega, show ¬ law = 4 by omega, show ¬ law = 5 by omega, if_false]; simp [*])))
set_option maxHeartbeats 4000000 in
set_option maxRecDepth 100000 in
theorem e_witC {X : Nat × Nat × (Nat → Int32)} {C : CS} {n : Int} {S : Int → Int} {P K : TS} {F : Int × Int × Int} {B : (Nat → Int64) × (Nat → Int64)} {G : Int → Int} {E : Int × Int} {tb : Int → Int → Int} {law lb lc : Int} {Q : Option mPV → mPW → Prop} {o : Option (Int × Int × Int)} (hR : repM n S tb) (hw : 0 ≤ law) (hw2 : law < 8) (hlb : 1 ≤ lb) (hlb2 : lb ≤ n) (hlc : 1 ≤ lc) (hlc2 : lc ≤ n) {a b : Int} (ha : 0 ≤ a) (ha2 : a < n) (hb : 0 ≤ b) (hb2 : b < lb) (K9 : o = none → m_Sem X 105 (46, [some (.inr (.inl 13)), some (.inl law), some (.inl n), some (.inl lb), some (.inl lc), some (.inl a), some (.inl (b + 1)), none], [], mW C (S, P, K, F, B, G, E), 0, 0) Q) (R : o ≠ none → Q (some (.inl (bI o.isNone))) (mW C (S, P, K, (o.getD F), B, G, E))) : ∀ c : Int, 0 ≤ c → c ≤ lc → ∀ (ho : optF (witC n tb law lc a b) (lc - c).toNat c = o), m_Sem X 105 (55, [some (.inr (.inl 13)), some (.inl law), some (.inl n), some (.inl lb), some (.inl lc), some (.inl a), some (.inl b), some (.inl c)], [], mW C (S, P, K, F, B, G, E), 0, 0) (Q) := by
  have hn := hR.1
  have hl := okN_lo hn
  have hs0 := hR.2.1
  refine m_down 0 lc ?_ ?_
  · intro ho
    rw [opt_end] at ho
    show m_Sem X 105 (55, [some (.inr (.inl 13)), some (.inl law), some (.inl n), some (.inl lb), some (.inl lc), some (.inl a), some (.inl b), some (.inl lc)], [], mW C (S, P, K, F, B, G, E), 0, 0) _
    refine m_run 2 (ps' := (59, [some (.inr (.inl 13)), some (.inl law), some (.inl n), some (.inl lb), some (.inl lc), some (.inl a), some (.inl b), some (.inl lc)], [.inl lc, .inl lc], mW C (S, P, K, F, B, G, E), 0, 0)) rfl ?_
    refine m_icmp rfl ⟨by omega, by omega⟩ ⟨by omega, by omega⟩ (fun (zc1 : lc ≤ lc) => ?_) (fun (zc1 : ¬ lc ≤ lc) => absurd zc1 (not_not_intro (by omega)))
    refine m_run 2 (ps' := (46, [some (.inr (.inl 13)), some (.inl law), some (.inl n), some (.inl lb), some (.inl lc), some (.inl a), some (.inl (b + 1)), some (.inl lc)], [], mW C (S, P, K, F, B, G, E), 0, 0)) rfl ?_
    refine m_weak [some (.inr (.inl 13)), some (.inl law), some (.inl n), some (.inl lb), some (.inl lc), some (.inl a), some (.inl (b + 1)), none] ⟨rfl, ⟨rfl, ⟨rfl, ⟨rfl, ⟨rfl, ⟨rfl, ⟨rfl, trivial⟩⟩⟩⟩⟩⟩⟩ ?_
    exact K9 ho.symm
  · intro c hi1 hi2 ih ho
    refine m_run 2 (ps' := (59, [some (.inr (.inl 13)), some (.inl law), some (.inl n), some (.inl lb), some (.inl lc), some (.inl a), some (.inl b), some (.inl c)], [.inl lc, .inl c], mW C (S, P, K, F, B, G, E), 0, 0)) rfl ?_
    refine m_icmp rfl ⟨by omega, by omega⟩ ⟨by omega, by omega⟩ (fun (zc1 : lc ≤ c) => absurd zc1 (by omega)) (fun (zc1 : ¬ lc ≤ c) => ?_)
    refine m_run 5 (ps' := (70, [some (.inr (.inl 13)), some (.inl law), some (.inl n), some (.inl lb), some (.inl lc), some (.inl a), some (.inl b), some (.inl c)], [.inl c, .inl b, .inl a, .inl law, .inr (.inl 13)], mW C (S, P, K, F, B, G, E), 0, 0)) rfl ?_
    refine m_callVF [.inl law, .inl a, .inl b, .inl c] [] rfl rfl ⟨_, rfl, rfl⟩ rfl rfl (d_hf (law := law) (a := a) (b := b) (c := c) hR (by omega) (by omega) (by omega) (by omega) (by omega) (by omega) (by omega) (by omega)) ?_
    show m_Sem X 105 (73, [some (.inr (.inl 13)), some (.inl law), some (.inl n), some (.inl lb), some (.inl lc), some (.inl a), some (.inl b), some (.inl c)], [.inl (bI (holdsS n tb law a b c))], mW C (S, P, K, F, B, G, E), 0, 0) _
    refine m_if rfl (bI_R (holdsS n tb law a b c)) (fun (zc2 : ¬ (bI (holdsS n tb law a b c)) = 0) => ?_) (fun (zc2 : ¬ ¬ (bI (holdsS n tb law a b c)) = 0) => ?_)
    · replace zc2 : (holdsS n tb law a b c) = true := bI_n0.mp zc2
      refine m_run 2 (ps' := (55, [some (.inr (.inl 13)), some (.inl law), some (.inl n), some (.inl lb), some (.inl lc), some (.inl a), some (.inl b), some (.inl (c + 1))], [], mW C (S, P, K, F, B, G, E), 0, 0)) rfl ?_
      refine m_weak [some (.inr (.inl 13)), some (.inl law), some (.inl n), some (.inl lb), some (.inl lc), some (.inl a), some (.inl b), some (.inl (c + 1))] ⟨rfl, ⟨rfl, ⟨rfl, ⟨rfl, ⟨rfl, ⟨rfl, ⟨rfl, ⟨rfl, trivial⟩⟩⟩⟩⟩⟩⟩⟩ ?_
      have hh : witC n tb law lc a b c = none := by unfold witC; rw [if_pos zc2]
      rw [opt_n hi2 hh] at ho
      exact ih ho
    · replace zc2 : (holdsS n tb law a b c) = false := bI_e0.mp (Decidable.not_not.mp zc2)
      refine m_run 10 (ps' := (95, [some (.inr (.inl 13)), some (.inl law), some (.inl n), some (.inl lb), some (.inl lc), some (.inl a), some (.inl b), some (.inl c)], [.inl 0], mW C (S, P, K, (a, b, c), B, G, E), 0, 0)) rfl ?_
      exact m_ret1 rfl (Or.inr ⟨rfl, Or.inl rfl⟩) rfl (by
        have hh : witC n tb law lc a b c = some (a, b, c) := by unfold witC; rw [if_neg (by rw [zc2]; decide)]
        rw [opt_s hi2 hh] at ho
        subst ho
        exact R (fun h => by cases h))
set_option maxHeartbeats 4000000 in
set_option maxRecDepth 100000 in
theorem e_witB {X : Nat × Nat × (Nat → Int32)} {C : CS} {n : Int} {S : Int → Int} {P K : TS} {F : Int × Int × Int} {B : (Nat → Int64) × (Nat → Int64)} {G : Int → Int} {E : Int × Int} {tb : Int → Int → Int} {law lb lc : Int} {Q : Option mPV → mPW → Prop} {o : Option (Int × Int × Int)} (hR : repM n S tb) (hw : 0 ≤ law) (hw2 : law < 8) (hlb : 1 ≤ lb) (hlb2 : lb ≤ n) (hlc : 1 ≤ lc) (hlc2 : lc ≤ n) {a : Int} (ha : 0 ≤ a) (ha2 : a < n) (K9 : o = none → m_Sem X 105 (37, [some (.inr (.inl 13)), some (.inl law), some (.inl n), some (.inl lb), some (.inl lc), some (.inl (a + 1)), none, none], [], mW C (S, P, K, F, B, G, E), 0, 0) Q) (R : o ≠ none → Q (some (.inl (bI o.isNone))) (mW C (S, P, K, (o.getD F), B, G, E))) : ∀ b : Int, 0 ≤ b → b ≤ lb → ∀ (ho : optF (witB n tb law lc a) (lb - b).toNat b = o), m_Sem X 105 (46, [some (.inr (.inl 13)), some (.inl law), some (.inl n), some (.inl lb), some (.inl lc), some (.inl a), some (.inl b), none], [], mW C (S, P, K, F, B, G, E), 0, 0) (Q) := by
  have hn := hR.1
  have hl := okN_lo hn
  have hs0 := hR.2.1
  refine m_down 0 lb ?_ ?_
  · intro ho
    rw [opt_end] at ho
    show m_Sem X 105 (46, [some (.inr (.inl 13)), some (.inl law), some (.inl n), some (.inl lb), some (.inl lc), some (.inl a), some (.inl lb), none], [], mW C (S, P, K, F, B, G, E), 0, 0) _
    refine m_run 2 (ps' := (49, [some (.inr (.inl 13)), some (.inl law), some (.inl n), some (.inl lb), some (.inl lc), some (.inl a), some (.inl lb), none], [.inl lb, .inl lb], mW C (S, P, K, F, B, G, E), 0, 0)) rfl ?_
    refine m_icmp rfl ⟨by omega, by omega⟩ ⟨by omega, by omega⟩ (fun (zc1 : lb ≤ lb) => ?_) (fun (zc1 : ¬ lb ≤ lb) => absurd zc1 (not_not_intro (by omega)))
    refine m_run 2 (ps' := (37, [some (.inr (.inl 13)), some (.inl law), some (.inl n), some (.inl lb), some (.inl lc), some (.inl (a + 1)), some (.inl lb), none], [], mW C (S, P, K, F, B, G, E), 0, 0)) rfl ?_
    refine m_weak [some (.inr (.inl 13)), some (.inl law), some (.inl n), some (.inl lb), some (.inl lc), some (.inl (a + 1)), none, none] ⟨rfl, ⟨rfl, ⟨rfl, ⟨rfl, ⟨rfl, ⟨rfl, trivial⟩⟩⟩⟩⟩⟩ ?_
    exact K9 ho.symm
  · intro b hi1 hi2 ih ho
    refine m_run 2 (ps' := (49, [some (.inr (.inl 13)), some (.inl law), some (.inl n), some (.inl lb), some (.inl lc), some (.inl a), some (.inl b), none], [.inl lb, .inl b], mW C (S, P, K, F, B, G, E), 0, 0)) rfl ?_
    refine m_icmp rfl ⟨by omega, by omega⟩ ⟨by omega, by omega⟩ (fun (zc1 : lb ≤ b) => absurd zc1 (by omega)) (fun (zc1 : ¬ lb ≤ b) => ?_)
    refine m_run 2 (ps' := (55, [some (.inr (.inl 13)), some (.inl law), some (.inl n), some (.inl lb), some (.inl lc), some (.inl a), some (.inl b), some (.inl 0)], [], mW C (S, P, K, F, B, G, E), 0, 0)) rfl ?_
    refine m_weak [some (.inr (.inl 13)), some (.inl law), some (.inl n), some (.inl lb), some (.inl lc), some (.inl a), some (.inl b), some (.inl 0)] ⟨rfl, ⟨rfl, ⟨rfl, ⟨rfl, ⟨rfl, ⟨rfl, ⟨rfl, ⟨rfl, trivial⟩⟩⟩⟩⟩⟩⟩⟩ ?_
    cases hh : witB n tb law lc a b with
    | none =>
      rw [opt_n hi2 hh] at ho
      exact e_witC (o := none) hR hw hw2 hlb hlb2 hlc hlc2 ha ha2 hi1 hi2 (fun _ => ih ho) (fun h => absurd rfl h) 0 (by omega) (by omega) (by rw [z_sub]; exact hh)
    | some w9 =>
      rw [opt_s hi2 hh] at ho
      subst ho
      exact e_witC (o := some w9) hR hw hw2 hlb hlb2 hlc hlc2 ha ha2 hi1 hi2 (fun h => by cases h) R 0 (by omega) (by omega) (by rw [z_sub]; exact hh)
set_option maxHeartbeats 4000000 in
set_option maxRecDepth 100000 in
theorem e_witA {X : Nat × Nat × (Nat → Int32)} {C : CS} {n : Int} {S : Int → Int} {P K : TS} {F : Int × Int × Int} {B : (Nat → Int64) × (Nat → Int64)} {G : Int → Int} {E : Int × Int} {tb : Int → Int → Int} {law lb lc : Int} {Q : Option mPV → mPW → Prop} {o : Option (Int × Int × Int)} (hR : repM n S tb) (hw : 0 ≤ law) (hw2 : law < 8) (hlb : 1 ≤ lb) (hlb2 : lb ≤ n) (hlc : 1 ≤ lc) (hlc2 : lc ≤ n) (R : Q (some (.inl (bI o.isNone))) (mW C (S, P, K, (o.getD F), B, G, E))) : ∀ a : Int, 0 ≤ a → a ≤ n → ∀ (ho : optF (witA n tb law lb lc) (n - a).toNat a = o), m_Sem X 105 (37, [some (.inr (.inl 13)), some (.inl law), some (.inl n), some (.inl lb), some (.inl lc), some (.inl a), none, none], [], mW C (S, P, K, F, B, G, E), 0, 0) (Q) := by
  have hn := hR.1
  have hl := okN_lo hn
  have hs0 := hR.2.1
  refine m_down 0 n ?_ ?_
  · intro ho
    show m_Sem X 105 (37, [some (.inr (.inl 13)), some (.inl law), some (.inl n), some (.inl lb), some (.inl lc), some (.inl n), none, none], [], mW C (S, P, K, F, B, G, E), 0, 0) _
    refine m_run 2 (ps' := (40, [some (.inr (.inl 13)), some (.inl law), some (.inl n), some (.inl lb), some (.inl lc), some (.inl n), none, none], [.inl n, .inl n], mW C (S, P, K, F, B, G, E), 0, 0)) rfl ?_
    refine m_icmp rfl ⟨by omega, by omega⟩ ⟨by omega, by omega⟩ (fun (zc1 : n ≤ n) => ?_) (fun (zc1 : ¬ n ≤ n) => absurd zc1 (not_not_intro (by omega)))
    refine m_run 1 (ps' := (115, [some (.inr (.inl 13)), some (.inl law), some (.inl n), some (.inl lb), some (.inl lc), some (.inl n), none, none], [.inl 1], mW C (S, P, K, F, B, G, E), 0, 0)) rfl ?_
    exact m_ret1 rfl (Or.inr ⟨rfl, Or.inr rfl⟩) rfl (by rw [opt_end] at ho; subst ho; exact R)
  · intro a hi1 hi2 ih ho
    refine m_run 2 (ps' := (40, [some (.inr (.inl 13)), some (.inl law), some (.inl n), some (.inl lb), some (.inl lc), some (.inl a), none, none], [.inl n, .inl a], mW C (S, P, K, F, B, G, E), 0, 0)) rfl ?_
    refine m_icmp rfl ⟨by omega, by omega⟩ ⟨by omega, by omega⟩ (fun (zc1 : n ≤ a) => absurd zc1 (by omega)) (fun (zc1 : ¬ n ≤ a) => ?_)
    refine m_run 2 (ps' := (46, [some (.inr (.inl 13)), some (.inl law), some (.inl n), some (.inl lb), some (.inl lc), some (.inl a), some (.inl 0), none], [], mW C (S, P, K, F, B, G, E), 0, 0)) rfl ?_
    refine m_weak [some (.inr (.inl 13)), some (.inl law), some (.inl n), some (.inl lb), some (.inl lc), some (.inl a), some (.inl 0), none] ⟨rfl, ⟨rfl, ⟨rfl, ⟨rfl, ⟨rfl, ⟨rfl, ⟨rfl, trivial⟩⟩⟩⟩⟩⟩⟩ ?_
    cases hh : witA n tb law lb lc a with
    | none =>
      rw [opt_n hi2 hh] at ho
      exact e_witB (o := none) hR hw hw2 hlb hlb2 hlc hlc2 hi1 hi2 (fun _ => ih ho) (fun h => absurd rfl h) 0 (by omega) (by omega) (by rw [z_sub]; exact hh)
    | some w9 =>
      rw [opt_s hi2 hh] at ho
      subst ho
      exact e_witB (o := some w9) hR hw hw2 hlb hlb2 hlc hlc2 hi1 hi2 (fun h => by cases h) (fun _ => R) 0 (by omega) (by omega) (by rw [z_sub]; exact hh)
set_option maxHeartbeats 4000000 in
set_option maxRecDepth 100000 in
theorem d_hol {X : Nat × Nat × (Nat → Int32)} {C : CS} {n : Int} {S : Int → Int} {P K : TS} {F : Int × Int × Int} {B : (Nat → Int64) × (Nat → Int64)} {G : Int → Int} {E : Int × Int} {tb : Int → Int → Int} {law : Int} (hR : repM n S tb) (hw : 0 ≤ law) (hw2 : law < 8) : m_Run X 105 [.inr (.inl 13), .inl law] (mW C (S, P, K, F, B, G, E)) (m_V (bI (witS n tb law).isNone) (mW C (S, P, K, ((witS n tb law).getD F), B, G, E))) := by
  have hn := hR.1
  have hl := okN_lo hn
  have hs0 := hR.2.1
  show m_Sem X 105 (0, [some (.inr (.inl 13)), some (.inl law), none, none, none, none, none, none], [], mW C (S, P, K, F, B, G, E), 0, 0) _
  refine m_run 3 (ps' := (5, [some (.inr (.inl 13)), some (.inl law), none, none, none, none, none, none], [.inl 0, .inr (.inl 14)], mW C (S, P, K, F, B, G, E), 0, 0)) rfl ?_
  refine m_iald rfl rfl (by omega) (by omega) (by decide) ?_
  show m_Sem X 105 (6, [some (.inr (.inl 13)), some (.inl law), none, none, none, none, none, none], [.inl (S 0)], mW C (S, P, K, F, B, G, E), 0, 0) _
  rw [hs0]
  refine m_run 3 (ps' := (9, [some (.inr (.inl 13)), some (.inl law), some (.inl n), none, none, none, none, none], [.inl 2, .inl law], mW C (S, P, K, F, B, G, E), 0, 0)) rfl ?_
  refine m_icmp rfl ⟨by omega, by omega⟩ ⟨by omega, by omega⟩ (fun (zc1 : 2 ≤ law) => ?_) (fun (zc1 : ¬ 2 ≤ law) => ?_)
  · refine m_run 5 (ps' := (21, [some (.inr (.inl 13)), some (.inl law), some (.inl n), some (.inl n), none, none, none, none], [.inl 4, .inl 2, .inl law], mW C (S, P, K, F, B, G, E), 0, 0)) rfl ?_
    refine m_callSF [.inl law, .inl 2, .inl 4] [] rfl rfl rfl (d_in (v := law) (l := 2) (m := 4) ⟨by omega, by omega⟩ ⟨by omega, by omega⟩ ⟨by omega, by omega⟩) ?_
    show m_Sem X 105 (24, [some (.inr (.inl 13)), some (.inl law), some (.inl n), some (.inl n), none, none, none, none], [.inl (bI (insS law 2 4))], mW C (S, P, K, F, B, G, E), 0, 0) _
    refine m_if rfl (bI_R (insS law 2 4)) (fun (zc2 : (bI (insS law 2 4)) = 0) => ?_) (fun (zc2 : ¬ (bI (insS law 2 4)) = 0) => ?_)
    · replace zc2 : (insS law 2 4) = false := bI_e0.mp zc2
      have zi9 := insS_f.mp zc2
      refine m_run 4 (ps' := (37, [some (.inr (.inl 13)), some (.inl law), some (.inl n), some (.inl n), some (.inl 1), some (.inl 0), none, none], [], mW C (S, P, K, F, B, G, E), 0, 0)) rfl ?_
      refine m_weak [some (.inr (.inl 13)), some (.inl law), some (.inl n), some (.inl n), some (.inl 1), some (.inl 0), none, none] ⟨rfl, ⟨rfl, ⟨rfl, ⟨rfl, ⟨rfl, ⟨rfl, trivial⟩⟩⟩⟩⟩⟩ ?_
      exact e_witA (lb := n) (lc := 1) (o := witS n tb law) hR hw hw2 (by omega) (by omega) (by omega) (by omega) ⟨rfl, rfl⟩ 0 (by omega) (by omega) (by rw [z_sub]; unfold witS lbS lcS; rw [if_pos (by omega), if_neg (by omega)])
    · replace zc2 : (insS law 2 4) = true := bI_n0.mp zc2
      have zi9 := insS_i.mp zc2
      refine m_run 5 (ps' := (37, [some (.inr (.inl 13)), some (.inl law), some (.inl n), some (.inl n), some (.inl n), some (.inl 0), none, none], [], mW C (S, P, K, F, B, G, E), 0, 0)) rfl ?_
      refine m_weak [some (.inr (.inl 13)), some (.inl law), some (.inl n), some (.inl n), some (.inl n), some (.inl 0), none, none] ⟨rfl, ⟨rfl, ⟨rfl, ⟨rfl, ⟨rfl, ⟨rfl, trivial⟩⟩⟩⟩⟩⟩ ?_
      exact e_witA (lb := n) (lc := n) (o := witS n tb law) hR hw hw2 (by omega) (by omega) (by omega) (by omega) ⟨rfl, rfl⟩ 0 (by omega) (by omega) (by rw [z_sub]; unfold witS lbS lcS; rw [if_pos (by omega), if_pos (by omega)])
  · refine m_run 6 (ps' := (21, [some (.inr (.inl 13)), some (.inl law), some (.inl n), some (.inl 1), none, none, none, none], [.inl 4, .inl 2, .inl law], mW C (S, P, K, F, B, G, E), 0, 0)) rfl ?_
    refine m_callSF [.inl law, .inl 2, .inl 4] [] rfl rfl rfl (d_in (v := law) (l := 2) (m := 4) ⟨by omega, by omega⟩ ⟨by omega, by omega⟩ ⟨by omega, by omega⟩) ?_
    show m_Sem X 105 (24, [some (.inr (.inl 13)), some (.inl law), some (.inl n), some (.inl 1), none, none, none, none], [.inl (bI (insS law 2 4))], mW C (S, P, K, F, B, G, E), 0, 0) _
    refine m_if rfl (bI_R (insS law 2 4)) (fun (zc2 : (bI (insS law 2 4)) = 0) => ?_) (fun (zc2 : ¬ (bI (insS law 2 4)) = 0) => ?_)
    · replace zc2 : (insS law 2 4) = false := bI_e0.mp zc2
      have zi9 := insS_f.mp zc2
      refine m_run 4 (ps' := (37, [some (.inr (.inl 13)), some (.inl law), some (.inl n), some (.inl 1), some (.inl 1), some (.inl 0), none, none], [], mW C (S, P, K, F, B, G, E), 0, 0)) rfl ?_
      refine m_weak [some (.inr (.inl 13)), some (.inl law), some (.inl n), some (.inl 1), some (.inl 1), some (.inl 0), none, none] ⟨rfl, ⟨rfl, ⟨rfl, ⟨rfl, ⟨rfl, ⟨rfl, trivial⟩⟩⟩⟩⟩⟩ ?_
      exact e_witA (lb := 1) (lc := 1) (o := witS n tb law) hR hw hw2 (by omega) (by omega) (by omega) (by omega) ⟨rfl, rfl⟩ 0 (by omega) (by omega) (by rw [z_sub]; unfold witS lbS lcS; rw [if_neg (by omega), if_neg (by omega)])
    · replace zc2 : (insS law 2 4) = true := bI_n0.mp zc2
      have zi9 := insS_i.mp zc2
      refine m_run 5 (ps' := (37, [some (.inr (.inl 13)), some (.inl law), some (.inl n), some (.inl 1), some (.inl n), some (.inl 0), none, none], [], mW C (S, P, K, F, B, G, E), 0, 0)) rfl ?_
      refine m_weak [some (.inr (.inl 13)), some (.inl law), some (.inl n), some (.inl 1), some (.inl n), some (.inl 0), none, none] ⟨rfl, ⟨rfl, ⟨rfl, ⟨rfl, ⟨rfl, ⟨rfl, trivial⟩⟩⟩⟩⟩⟩ ?_
      exact e_witA (lb := 1) (lc := n) (o := witS n tb law) hR hw hw2 (by omega) (by omega) (by omega) (by omega) ⟨rfl, rfl⟩ 0 (by omega) (by omega) (by rw [z_sub]; unfold witS lbS lcS; rw [if_neg (by omega), if_pos (by omega)])
theorem wit_none {n : Int} {tb : Int → Int → Int} {l : Int} (h : (witS n tb l).isNone = true) : wcode (witS n tb l) = -1 := by
  cases hw : witS n tb l with
  | none => rfl
  | some w => rw [hw] at h; cases h
theorem wit_some {n : Int} {tb : Int → Int → Int} {l : Int} {F : Int × Int × Int} (hn : okN n) (h : (witS n tb l).isNone = false) : ¬ wcode (witS n tb l) = -1 ∧ welS (wcode (witS n tb l)) 1 = ((witS n tb l).getD F).1 ∧ welS (wcode (witS n tb l)) 2 = ((witS n tb l).getD F).2.1 ∧ welS (wcode (witS n tb l)) 3 = ((witS n tb l).getD F).2.2 := by
  have hl := okN_lo hn
  cases hw : witS n tb l with
  | none => rw [hw] at h; cases h
  | some w =>
    obtain ⟨a, b, c⟩ := w
    have h1 := witS_in hn hw
    show ¬ 81 * a + 9 * b + c = -1 ∧ (81 * a + 9 * b + c) / 81 = a ∧ (81 * a + 9 * b + c) / 9 % 9 = b ∧ (81 * a + 9 * b + c) % 9 = c
    omega
set_option maxHeartbeats 4000000 in
set_option maxRecDepth 100000 in
theorem d_law {X : Nat × Nat × (Nat → Int32)} {C : CS} {n : Int} {S : Int → Int} {P K : TS} {F : Int × Int × Int} {B : (Nat → Int64) × (Nat → Int64)} {G : Int → Int} {E : Int × Int} {tb : Int → Int → Int} {l wh : Int} (hl9 : m_R l) (hw : m_R wh) (hR : repM n S tb) : m_Run X 106 [.inr (.inl 13), .inl l, .inl wh] (mW C (S, P, K, F, B, G, E)) (fun r w => r = some (.inl (lawS n tb l wh)) ∧ ∃ F2 : Int × Int × Int, w = mW C (S, P, K, F2, B, G, E)) := by
  have hn := hR.1
  have hl := okN_lo hn
  have hs0 := hR.2.1
  show m_Sem X 106 (0, [some (.inr (.inl 13)), some (.inl l), some (.inl wh), none], [], mW C (S, P, K, F, B, G, E), 0, 0) _
  refine m_run 3 (ps' := (4, [some (.inr (.inl 13)), some (.inl l), some (.inl wh), none], [.inl 7, .inl 0, .inl l], mW C (S, P, K, F, B, G, E), 0, 0)) rfl ?_
  refine m_callSF [.inl l, .inl 0, .inl 7] [] rfl rfl rfl (d_in (v := l) (l := 0) (m := 7) hl9 ⟨by omega, by omega⟩ ⟨by omega, by omega⟩) ?_
  show m_Sem X 106 (7, [some (.inr (.inl 13)), some (.inl l), some (.inl wh), none], [.inl (bI (insS l 0 7))], mW C (S, P, K, F, B, G, E), 0, 0) _
  refine m_if rfl (bI_R _) (fun (zc1 : (bI (insS l 0 7)) = 0) => ?_) (fun (zc1 : ¬ (bI (insS l 0 7)) = 0) => ?_)
  · replace zc1 : (insS l 0 7) = false := bI_e0.mp zc1
    have zi1 := insS_f.mp zc1
    refine m_run 1 (ps' := (21, [some (.inr (.inl 13)), some (.inl l), some (.inl wh), none], [.inl (-1000001)], mW C (S, P, K, F, B, G, E), 0, 0)) rfl ?_
    exact m_ret1 rfl (Or.inl rfl) rfl (⟨congrArg (fun x => some (Sum.inl x)) (by unfold lawS; (repeat' split) <;> first | rfl | (exfalso; omega) | omega | simp_all), F, rfl⟩)
  · replace zc1 : (insS l 0 7) = true := bI_n0.mp zc1
    have zi1 := insS_i.mp zc1
    refine m_run 3 (ps' := (13, [some (.inr (.inl 13)), some (.inl l), some (.inl wh), none], [.inl 3, .inl 0, .inl wh], mW C (S, P, K, F, B, G, E), 0, 0)) rfl ?_
    refine m_callSF [.inl wh, .inl 0, .inl 3] [] rfl rfl rfl (d_in (v := wh) (l := 0) (m := 3) hw ⟨by omega, by omega⟩ ⟨by omega, by omega⟩) ?_
    show m_Sem X 106 (16, [some (.inr (.inl 13)), some (.inl l), some (.inl wh), none], [.inl (bI (insS wh 0 3))], mW C (S, P, K, F, B, G, E), 0, 0) _
    refine m_if rfl (bI_R _) (fun (zc2 : ¬ (bI (insS wh 0 3)) = 0) => ?_) (fun (zc2 : ¬ ¬ (bI (insS wh 0 3)) = 0) => ?_)
    · replace zc2 : (insS wh 0 3) = true := bI_n0.mp zc2
      have zi2 := insS_i.mp zc2
      refine m_run 2 (ps' := (24, [some (.inr (.inl 13)), some (.inl l), some (.inl wh), none], [.inl l, .inr (.inl 13)], mW C (S, P, K, F, B, G, E), 0, 0)) rfl ?_
      refine m_callVF [.inl l] [] rfl rfl ⟨_, rfl, rfl⟩ rfl rfl (d_hol (law := l) hR (by omega) (by omega)) ?_
      show m_Sem X 106 (27, [some (.inr (.inl 13)), some (.inl l), some (.inl wh), none], [.inl (bI ((witS n tb l).isNone))], mW C (S, P, K, ((witS n tb l).getD F), B, G, E), 0, 0) _
      refine m_run 2 (ps' := (29, [some (.inr (.inl 13)), some (.inl l), some (.inl wh), some (.inl (bI ((witS n tb l).isNone)))], [.inl wh], mW C (S, P, K, ((witS n tb l).getD F), B, G, E), 0, 0)) rfl ?_
      refine m_if rfl hw (fun (zc3 : ¬ wh = 0) => ?_) (fun (zc3 : ¬ ¬ wh = 0) => ?_)
      · refine m_run 1 (ps' := (43, [some (.inr (.inl 13)), some (.inl l), some (.inl wh), some (.inl (bI ((witS n tb l).isNone)))], [.inl (bI ((witS n tb l).isNone))], mW C (S, P, K, ((witS n tb l).getD F), B, G, E), 0, 0)) rfl ?_
        refine m_if rfl (bI_R _) (fun (zc4 : (bI ((witS n tb l).isNone)) = 0) => ?_) (fun (zc4 : ¬ (bI ((witS n tb l).isNone)) = 0) => ?_)
        · replace zc4 : ((witS n tb l).isNone) = false := bI_e0.mp zc4
          refine m_run 2 (ps' := (53, [some (.inr (.inl 13)), some (.inl l), some (.inl wh), some (.inl (bI ((witS n tb l).isNone)))], [.inl 1, .inl wh], mW C (S, P, K, ((witS n tb l).getD F), B, G, E), 0, 0)) rfl ?_
          refine m_icmp rfl hw ⟨by omega, by omega⟩ (fun (zc5 : ¬ wh = 1) => ?_) (fun (zc5 : ¬ ¬ wh = 1) => ?_)
          · refine m_run 2 (ps' := (65, [some (.inr (.inl 13)), some (.inl l), some (.inl wh), some (.inl (bI ((witS n tb l).isNone)))], [.inl 2, .inl wh], mW C (S, P, K, ((witS n tb l).getD F), B, G, E), 0, 0)) rfl ?_
            refine m_icmp rfl hw ⟨by omega, by omega⟩ (fun (zc6 : ¬ wh = 2) => ?_) (fun (zc6 : ¬ ¬ wh = 2) => ?_)
            · refine m_run 2 (ps' := (79, [some (.inr (.inl 13)), some (.inl l), some (.inl wh), some (.inl (bI ((witS n tb l).isNone)))], [.inl (((witS n tb l).getD F).2.2)], mW C (S, P, K, ((witS n tb l).getD F), B, G, E), 0, 0)) rfl ?_
              exact m_ret1 rfl (Or.inl rfl) rfl (⟨congrArg (fun x => some (Sum.inl x)) (by have zj := wit_some (F := F) hn zc4; unfold welS at zj; unfold lawS; unfold welS; (repeat' split) <;> first | rfl | (exfalso; omega) | omega | simp_all), _, rfl⟩)
            · replace zc6 : wh = 2 := Decidable.not_not.mp zc6
              refine m_run 3 (ps' := (79, [some (.inr (.inl 13)), some (.inl l), some (.inl wh), some (.inl (bI ((witS n tb l).isNone)))], [.inl (((witS n tb l).getD F).2.1)], mW C (S, P, K, ((witS n tb l).getD F), B, G, E), 0, 0)) rfl ?_
              exact m_ret1 rfl (Or.inl rfl) rfl (⟨congrArg (fun x => some (Sum.inl x)) (by have zj := wit_some (F := F) hn zc4; unfold welS at zj; unfold lawS; unfold welS; (repeat' split) <;> first | rfl | (exfalso; omega) | omega | simp_all), _, rfl⟩)
          · replace zc5 : wh = 1 := Decidable.not_not.mp zc5
            refine m_run 3 (ps' := (79, [some (.inr (.inl 13)), some (.inl l), some (.inl wh), some (.inl (bI ((witS n tb l).isNone)))], [.inl (((witS n tb l).getD F).1)], mW C (S, P, K, ((witS n tb l).getD F), B, G, E), 0, 0)) rfl ?_
            exact m_ret1 rfl (Or.inl rfl) rfl (⟨congrArg (fun x => some (Sum.inl x)) (by have zj := wit_some (F := F) hn zc4; unfold welS at zj; unfold lawS; unfold welS; (repeat' split) <;> first | rfl | (exfalso; omega) | omega | simp_all), _, rfl⟩)
        · replace zc4 : ((witS n tb l).isNone) = true := bI_n0.mp zc4
          refine m_run 2 (ps' := (79, [some (.inr (.inl 13)), some (.inl l), some (.inl wh), some (.inl (bI ((witS n tb l).isNone)))], [.inl (-1000004)], mW C (S, P, K, ((witS n tb l).getD F), B, G, E), 0, 0)) rfl ?_
          exact m_ret1 rfl (Or.inl rfl) rfl (⟨congrArg (fun x => some (Sum.inl x)) (by have zj := wit_none zc4; unfold lawS; (repeat' split) <;> first | rfl | (exfalso; omega) | omega | simp_all), _, rfl⟩)
      · replace zc3 : wh = 0 := Decidable.not_not.mp zc3
        refine m_run 1 (ps' := (33, [some (.inr (.inl 13)), some (.inl l), some (.inl wh), some (.inl (bI ((witS n tb l).isNone)))], [.inl (bI ((witS n tb l).isNone))], mW C (S, P, K, ((witS n tb l).getD F), B, G, E), 0, 0)) rfl ?_
        refine m_if rfl (bI_R _) (fun (zc4 : (bI ((witS n tb l).isNone)) = 0) => ?_) (fun (zc4 : ¬ (bI ((witS n tb l).isNone)) = 0) => ?_)
        · replace zc4 : ((witS n tb l).isNone) = false := bI_e0.mp zc4
          refine m_run 1 (ps' := (41, [some (.inr (.inl 13)), some (.inl l), some (.inl wh), some (.inl (bI ((witS n tb l).isNone)))], [.inl 0], mW C (S, P, K, ((witS n tb l).getD F), B, G, E), 0, 0)) rfl ?_
          exact m_ret1 rfl (Or.inl rfl) rfl (⟨congrArg (fun x => some (Sum.inl x)) (by have zj := (wit_some (F := F) hn zc4).1; unfold lawS; (repeat' split) <;> first | rfl | (exfalso; omega) | omega | simp_all), _, rfl⟩)
        · replace zc4 : ((witS n tb l).isNone) = true := bI_n0.mp zc4
          refine m_run 2 (ps' := (41, [some (.inr (.inl 13)), some (.inl l), some (.inl wh), some (.inl (bI ((witS n tb l).isNone)))], [.inl 1], mW C (S, P, K, ((witS n tb l).getD F), B, G, E), 0, 0)) rfl ?_
          exact m_ret1 rfl (Or.inl rfl) rfl (⟨congrArg (fun x => some (Sum.inl x)) (by have zj := wit_none zc4; unfold lawS; (repeat' split) <;> first | rfl | (exfalso; omega) | omega | simp_all), _, rfl⟩)
    · replace zc2 : (insS wh 0 3) = false := bI_e0.mp (Decidable.not_not.mp zc2)
      have zi2 := insS_f.mp zc2
      refine m_run 1 (ps' := (21, [some (.inr (.inl 13)), some (.inl l), some (.inl wh), none], [.inl (-1000001)], mW C (S, P, K, F, B, G, E), 0, 0)) rfl ?_
      exact m_ret1 rfl (Or.inl rfl) rfl (⟨congrArg (fun x => some (Sum.inl x)) (by unfold lawS; (repeat' split) <;> first | rfl | (exfalso; omega) | omega | simp_all), F, rfl⟩)
theorem isInR_0 {n : Int} {tb : Int → Int → Int} {a b : Int} : isInR n tb 0 1 a b = decide (tb a b = tb b a) := by
  show (fitsS n tb 0 a b 0 && true) = _
  rw [Bool.and_true]
  rfl
theorem fits_1 {n : Int} {tb : Int → Int → Int} {a b c : Int} : fitsS n tb 1 a b c = decide (tb (sumS n b c) a = sumS n (tb b a) (tb c a)) := rfl
theorem fits_2 {n : Int} {tb : Int → Int → Int} {a b c : Int} : fitsS n tb 2 a b c = decide (tb (tb a b) c = tb a (tb b c)) := rfl
set_option maxHeartbeats 4000000 in
set_option maxRecDepth 100000 in
theorem e_su1 {X : Nat × Nat × (Nat → Int32)} {C : CS} {n : Int} {S : Int → Int} {P K : TS} {F : Int × Int × Int} {B : (Nat → Int64) × (Nat → Int64)} {G : Int → Int} {E : Int × Int} {tb : Int → Int → Int} {a : Int} {Q : Option mPV → mPW → Prop} (hR : repM n S tb) (ha : 0 ≤ a) (ha2 : a < n) {b : Int} {v : Bool} (hb : 0 ≤ b) (hb2 : b < n) (K9 : m_Sem X 107 (5, [some (.inr (.inl 13)), some (.inl 1), some (.inl a), some (.inl (bI v)), some (.inl (b + 1)), none], [], mW C (S, P, K, F, B, G, E), 0, 0) Q) : ∀ c : Int, 0 ≤ c → c ≤ n → ∀ (o : Bool) (ho : (o && allF (fun c => fitsS n tb 1 a b c) (n - c).toNat c) = v), m_Sem X 107 (50, [some (.inr (.inl 13)), some (.inl 1), some (.inl a), some (.inl (bI o)), some (.inl b), some (.inl c)], [], mW C (S, P, K, F, B, G, E), 0, 0) (Q) := by
  have hn := hR.1
  have hl := okN_lo hn
  have hs0 := hR.2.1
  refine m_down 0 n ?_ ?_
  · intro o ho
    rw [all_end, Bool.and_true] at ho
    subst ho
    show m_Sem X 107 (50, [some (.inr (.inl 13)), some (.inl 1), some (.inl a), some (.inl (bI o)), some (.inl b), some (.inl n)], [], mW C (S, P, K, F, B, G, E), 0, 0) _
    refine m_run 4 (ps' := (57, [some (.inr (.inl 13)), some (.inl 1), some (.inl a), some (.inl (bI o)), some (.inl b), some (.inl n)], [.inl 0, .inr (.inl 14), .inl n], mW C (S, P, K, F, B, G, E), 0, 0)) rfl ?_
    refine m_iald rfl rfl (by omega) (by omega) (by decide) ?_
    show m_Sem X 107 (58, [some (.inr (.inl 13)), some (.inl 1), some (.inl a), some (.inl (bI o)), some (.inl b), some (.inl n)], [.inl (S 0), .inl n], mW C (S, P, K, F, B, G, E), 0, 0) _
    rw [hs0]
    refine m_icmp rfl ⟨by omega, by omega⟩ ⟨by omega, by omega⟩ (fun (zc1 : n ≤ n) => ?_) (fun (zc1 : ¬ n ≤ n) => absurd zc1 (not_not_intro (by omega)))
    refine m_run 2 (ps' := (5, [some (.inr (.inl 13)), some (.inl 1), some (.inl a), some (.inl (bI o)), some (.inl (b + 1)), some (.inl n)], [], mW C (S, P, K, F, B, G, E), 0, 0)) rfl ?_
    refine m_weak [some (.inr (.inl 13)), some (.inl 1), some (.inl a), some (.inl (bI o)), some (.inl (b + 1)), none] ⟨rfl, ⟨rfl, ⟨rfl, ⟨rfl, ⟨rfl, trivial⟩⟩⟩⟩⟩ ?_
    exact K9
  · intro c hi1 hi2 ih o ho
    refine m_run 4 (ps' := (57, [some (.inr (.inl 13)), some (.inl 1), some (.inl a), some (.inl (bI o)), some (.inl b), some (.inl c)], [.inl 0, .inr (.inl 14), .inl c], mW C (S, P, K, F, B, G, E), 0, 0)) rfl ?_
    refine m_iald rfl rfl (by omega) (by omega) (by decide) ?_
    show m_Sem X 107 (58, [some (.inr (.inl 13)), some (.inl 1), some (.inl a), some (.inl (bI o)), some (.inl b), some (.inl c)], [.inl (S 0), .inl c], mW C (S, P, K, F, B, G, E), 0, 0) _
    rw [hs0]
    refine m_icmp rfl ⟨by omega, by omega⟩ ⟨by omega, by omega⟩ (fun (zc1 : n ≤ c) => absurd zc1 (by omega)) (fun (zc1 : ¬ n ≤ c) => ?_)
    refine m_run 1 (ps' := (62, [some (.inr (.inl 13)), some (.inl 1), some (.inl a), some (.inl (bI o)), some (.inl b), some (.inl c)], [.inl 1], mW C (S, P, K, F, B, G, E), 0, 0)) rfl ?_
    refine m_if rfl ⟨by omega, by omega⟩ (fun (zc2 : 1 ≤ 0) => absurd zc2 (by omega)) (fun (zc2 : ¬ 1 ≤ 0) => ?_)
    refine m_run 1 (ps' := (66, [some (.inr (.inl 13)), some (.inl 1), some (.inl a), some (.inl (bI o)), some (.inl b), some (.inl c)], [.inl (bI o)], mW C (S, P, K, F, B, G, E), 0, 0)) rfl ?_
    refine m_if rfl (bI_R o) (fun (zc3 : (bI o) = 0) => ?_) (fun (zc3 : ¬ (bI o) = 0) => ?_)
    · replace zc3 : o = false := bI_e0.mp zc3
      refine m_run 4 (ps' := (50, [some (.inr (.inl 13)), some (.inl 1), some (.inl a), some (.inl 0), some (.inl b), some (.inl (c + 1))], [], mW C (S, P, K, F, B, G, E), 0, 0)) rfl ?_
      refine m_weak [some (.inr (.inl 13)), some (.inl 1), some (.inl a), some (.inl 0), some (.inl b), some (.inl (c + 1))] ⟨rfl, ⟨rfl, ⟨rfl, ⟨rfl, ⟨rfl, ⟨rfl, trivial⟩⟩⟩⟩⟩⟩ ?_
      first
      | (rw [zc3, Bool.false_and] at ho
         exact ih false (by rw [Bool.false_and]; exact ho))
      | (rw [zc3, all_f hi2 (by rw [fits_1]; exact decide_eq_false zc5)] at ho
         exact ih false (by rw [Bool.false_and]; exact ho))
    · replace zc3 : o = true := bI_n0.mp zc3
      refine m_run 2 (ps' := (71, [some (.inr (.inl 13)), some (.inl 1), some (.inl a), some (.inl (bI o)), some (.inl b), some (.inl c)], [.inl 1, .inl 1], mW C (S, P, K, F, B, G, E), 0, 0)) rfl ?_
      refine m_icmp rfl ⟨by omega, by omega⟩ ⟨by omega, by omega⟩ (fun (zc4 : ¬ 1 = 1) => absurd zc4 (by omega)) (fun (zc4 : ¬ ¬ 1 = 1) => ?_)
      refine m_run 4 (ps' := (80, [some (.inr (.inl 13)), some (.inl 1), some (.inl a), some (.inl (bI o)), some (.inl b), some (.inl c)], [.inl c, .inl b, .inr (.inl 13), .inr (.inl 13)], mW C (S, P, K, F, B, G, E), 0, 0)) rfl ?_
      refine m_callVF [.inl b, .inl c] [.inr (.inl 13)] rfl rfl ⟨_, rfl, rfl⟩ rfl rfl (d_sum (a := b) (b := c) hn hs0 (by omega) (by omega) (by omega) (by omega)) ?_
      have zt1 := sumS_in (n := n) (a := b) (b := c) hn (by omega) (by omega) (by omega) (by omega)
      show m_Sem X 107 (83, [some (.inr (.inl 13)), some (.inl 1), some (.inl a), some (.inl (bI o)), some (.inl b), some (.inl c)], [.inl (sumS n b c), .inr (.inl 13)], mW C (S, P, K, F, B, G, E), 0, 0) _
      refine m_run 1 (ps' := (84, [some (.inr (.inl 13)), some (.inl 1), some (.inl a), some (.inl (bI o)), some (.inl b), some (.inl c)], [.inl a, .inl (sumS n b c), .inr (.inl 13)], mW C (S, P, K, F, B, G, E), 0, 0)) rfl ?_
      refine m_callVF [.inl (sumS n b c), .inl a] [] rfl rfl ⟨_, rfl, rfl⟩ rfl rfl (d_times (a := (sumS n b c)) (b := a) hR (by omega) (by omega) (by omega) (by omega)) ?_
      have zt2 := (hR.2.2 (sumS n b c) a (by omega) (by omega) (by omega) (by omega)).2
      show m_Sem X 107 (87, [some (.inr (.inl 13)), some (.inl 1), some (.inl a), some (.inl (bI o)), some (.inl b), some (.inl c)], [.inl (tb (sumS n b c) a)], mW C (S, P, K, F, B, G, E), 0, 0) _
      refine m_run 4 (ps' := (92, [some (.inr (.inl 13)), some (.inl 1), some (.inl a), some (.inl (bI o)), some (.inl b), some (.inl c)], [.inl a, .inl b, .inr (.inl 13), .inr (.inl 13), .inl (tb (sumS n b c) a)], mW C (S, P, K, F, B, G, E), 0, 0)) rfl ?_
      refine m_callVF [.inl b, .inl a] [.inr (.inl 13), .inl (tb (sumS n b c) a)] rfl rfl ⟨_, rfl, rfl⟩ rfl rfl (d_times (a := b) (b := a) hR (by omega) (by omega) (by omega) (by omega)) ?_
      have zt3 := (hR.2.2 b a (by omega) (by omega) (by omega) (by omega)).2
      show m_Sem X 107 (95, [some (.inr (.inl 13)), some (.inl 1), some (.inl a), some (.inl (bI o)), some (.inl b), some (.inl c)], [.inl (tb b a), .inr (.inl 13), .inl (tb (sumS n b c) a)], mW C (S, P, K, F, B, G, E), 0, 0) _
      refine m_run 3 (ps' := (99, [some (.inr (.inl 13)), some (.inl 1), some (.inl a), some (.inl (bI o)), some (.inl b), some (.inl c)], [.inl a, .inl c, .inr (.inl 13), .inl (tb b a), .inr (.inl 13), .inl (tb (sumS n b c) a)], mW C (S, P, K, F, B, G, E), 0, 0)) rfl ?_
      refine m_callVF [.inl c, .inl a] [.inl (tb b a), .inr (.inl 13), .inl (tb (sumS n b c) a)] rfl rfl ⟨_, rfl, rfl⟩ rfl rfl (d_times (a := c) (b := a) hR (by omega) (by omega) (by omega) (by omega)) ?_
      have zt4 := (hR.2.2 c a (by omega) (by omega) (by omega) (by omega)).2
      show m_Sem X 107 (102, [some (.inr (.inl 13)), some (.inl 1), some (.inl a), some (.inl (bI o)), some (.inl b), some (.inl c)], [.inl (tb c a), .inl (tb b a), .inr (.inl 13), .inl (tb (sumS n b c) a)], mW C (S, P, K, F, B, G, E), 0, 0) _
      refine m_callVF [.inl (tb b a), .inl (tb c a)] [.inl (tb (sumS n b c) a)] rfl rfl ⟨_, rfl, rfl⟩ rfl rfl (d_sum (a := (tb b a)) (b := (tb c a)) hn hs0 (by omega) (by omega) (by omega) (by omega)) ?_
      have zt5 := sumS_in (n := n) (a := (tb b a)) (b := (tb c a)) hn (by omega) (by omega) (by omega) (by omega)
      show m_Sem X 107 (105, [some (.inr (.inl 13)), some (.inl 1), some (.inl a), some (.inl (bI o)), some (.inl b), some (.inl c)], [.inl (sumS n (tb b a) (tb c a)), .inl (tb (sumS n b c) a)], mW C (S, P, K, F, B, G, E), 0, 0) _
      refine m_icmp rfl ⟨by omega, by omega⟩ ⟨by omega, by omega⟩ (fun (zc5 : ¬ (tb (sumS n b c) a) = (sumS n (tb b a) (tb c a))) => ?_) (fun (zc5 : ¬ ¬ (tb (sumS n b c) a) = (sumS n (tb b a) (tb c a))) => ?_)
      · refine m_run 4 (ps' := (50, [some (.inr (.inl 13)), some (.inl 1), some (.inl a), some (.inl 0), some (.inl b), some (.inl (c + 1))], [], mW C (S, P, K, F, B, G, E), 0, 0)) rfl ?_
        refine m_weak [some (.inr (.inl 13)), some (.inl 1), some (.inl a), some (.inl 0), some (.inl b), some (.inl (c + 1))] ⟨rfl, ⟨rfl, ⟨rfl, ⟨rfl, ⟨rfl, ⟨rfl, trivial⟩⟩⟩⟩⟩⟩ ?_
        first
        | (rw [zc3, Bool.false_and] at ho
           exact ih false (by rw [Bool.false_and]; exact ho))
        | (rw [zc3, all_f hi2 (by rw [fits_1]; exact decide_eq_false zc5)] at ho
           exact ih false (by rw [Bool.false_and]; exact ho))
      · replace zc5 : (tb (sumS n b c) a) = (sumS n (tb b a) (tb c a)) := Decidable.not_not.mp zc5
        refine m_run 6 (ps' := (50, [some (.inr (.inl 13)), some (.inl 1), some (.inl a), some (.inl 1), some (.inl b), some (.inl (c + 1))], [], mW C (S, P, K, F, B, G, E), 0, 0)) rfl ?_
        refine m_weak [some (.inr (.inl 13)), some (.inl 1), some (.inl a), some (.inl 1), some (.inl b), some (.inl (c + 1))] ⟨rfl, ⟨rfl, ⟨rfl, ⟨rfl, ⟨rfl, ⟨rfl, trivial⟩⟩⟩⟩⟩⟩ ?_
        rw [zc3, all_t hi2 (by rw [fits_1]; exact decide_eq_true zc5)] at ho
        exact ih true ho
set_option maxHeartbeats 4000000 in
set_option maxRecDepth 100000 in
theorem e_sO1 {X : Nat × Nat × (Nat → Int32)} {C : CS} {n : Int} {S : Int → Int} {P K : TS} {F : Int × Int × Int} {B : (Nat → Int64) × (Nat → Int64)} {G : Int → Int} {E : Int × Int} {tb : Int → Int → Int} {a : Int} {Q : Option mPV → mPW → Prop} (hR : repM n S tb) (ha : 0 ≤ a) (ha2 : a < n) {v : Bool} (R : Q (some (.inl (bI v))) (mW C (S, P, K, F, B, G, E))) : ∀ b : Int, 0 ≤ b → b ≤ n → ∀ (o : Bool) (ho : (o && allF (isInR n tb 1 n a) (n - b).toNat b) = v), m_Sem X 107 (5, [some (.inr (.inl 13)), some (.inl 1), some (.inl a), some (.inl (bI o)), some (.inl b), none], [], mW C (S, P, K, F, B, G, E), 0, 0) (Q) := by
  have hn := hR.1
  have hl := okN_lo hn
  have hs0 := hR.2.1
  refine m_down 0 n ?_ ?_
  · intro o ho
    show m_Sem X 107 (5, [some (.inr (.inl 13)), some (.inl 1), some (.inl a), some (.inl (bI o)), some (.inl n), none], [], mW C (S, P, K, F, B, G, E), 0, 0) _
    refine m_run 4 (ps' := (12, [some (.inr (.inl 13)), some (.inl 1), some (.inl a), some (.inl (bI o)), some (.inl n), none], [.inl 0, .inr (.inl 14), .inl n], mW C (S, P, K, F, B, G, E), 0, 0)) rfl ?_
    refine m_iald rfl rfl (by omega) (by omega) (by decide) ?_
    show m_Sem X 107 (13, [some (.inr (.inl 13)), some (.inl 1), some (.inl a), some (.inl (bI o)), some (.inl n), none], [.inl (S 0), .inl n], mW C (S, P, K, F, B, G, E), 0, 0) _
    rw [hs0]
    refine m_icmp rfl ⟨by omega, by omega⟩ ⟨by omega, by omega⟩ (fun (zc1 : n ≤ n) => ?_) (fun (zc1 : ¬ n ≤ n) => absurd zc1 (not_not_intro (by omega)))
    refine m_run 1 (ps' := (159, [some (.inr (.inl 13)), some (.inl 1), some (.inl a), some (.inl (bI o)), some (.inl n), none], [.inl (bI o)], mW C (S, P, K, F, B, G, E), 0, 0)) rfl ?_
    exact m_ret1 rfl (Or.inr ⟨rfl, bI_01 o⟩) rfl (by rw [all_end, Bool.and_true] at ho; subst ho; exact R)
  · intro b hi1 hi2 ih o ho
    refine m_run 4 (ps' := (12, [some (.inr (.inl 13)), some (.inl 1), some (.inl a), some (.inl (bI o)), some (.inl b), none], [.inl 0, .inr (.inl 14), .inl b], mW C (S, P, K, F, B, G, E), 0, 0)) rfl ?_
    refine m_iald rfl rfl (by omega) (by omega) (by decide) ?_
    show m_Sem X 107 (13, [some (.inr (.inl 13)), some (.inl 1), some (.inl a), some (.inl (bI o)), some (.inl b), none], [.inl (S 0), .inl b], mW C (S, P, K, F, B, G, E), 0, 0) _
    rw [hs0]
    refine m_icmp rfl ⟨by omega, by omega⟩ ⟨by omega, by omega⟩ (fun (zc1 : n ≤ b) => absurd zc1 (by omega)) (fun (zc1 : ¬ n ≤ b) => ?_)
    refine m_run 1 (ps' := (17, [some (.inr (.inl 13)), some (.inl 1), some (.inl a), some (.inl (bI o)), some (.inl b), none], [.inl (bI o)], mW C (S, P, K, F, B, G, E), 0, 0)) rfl ?_
    refine m_if rfl (bI_R o) (fun (zc2 : (bI o) = 0) => ?_) (fun (zc2 : ¬ (bI o) = 0) => ?_)
    · replace zc2 : o = false := bI_e0.mp zc2
      refine m_run 4 (ps' := (50, [some (.inr (.inl 13)), some (.inl 1), some (.inl a), some (.inl 0), some (.inl b), some (.inl 0)], [], mW C (S, P, K, F, B, G, E), 0, 0)) rfl ?_
      refine m_weak [some (.inr (.inl 13)), some (.inl 1), some (.inl a), some (.inl 0), some (.inl b), some (.inl 0)] ⟨rfl, ⟨rfl, ⟨rfl, ⟨rfl, ⟨rfl, ⟨rfl, trivial⟩⟩⟩⟩⟩⟩ ?_
      rw [zc2] at ho
      refine e_su1 (v := false && isInR n tb 1 n a b) hR ha ha2 hi1 hi2 (ih _ ?_) 0 (by omega) (by omega) false (by rw [z_sub]; rfl)
      cases hh : isInR n tb 1 n a b with
      | true => rw [all_t hi2 hh] at ho; rw [Bool.and_true]; exact ho
      | false => rw [all_f hi2 hh, Bool.and_false] at ho; rw [Bool.and_false, Bool.false_and]; exact ho
    · replace zc2 : o = true := bI_n0.mp zc2
      refine m_run 1 (ps' := (21, [some (.inr (.inl 13)), some (.inl 1), some (.inl a), some (.inl (bI o)), some (.inl b), none], [.inl 1], mW C (S, P, K, F, B, G, E), 0, 0)) rfl ?_
      refine m_if rfl ⟨by omega, by omega⟩ (fun (zc3 : 0 < 1) => ?_) (fun (zc3 : ¬ 0 < 1) => absurd zc3 (not_not_intro (by omega)))
      refine m_run 5 (ps' := (50, [some (.inr (.inl 13)), some (.inl 1), some (.inl a), some (.inl 1), some (.inl b), some (.inl 0)], [], mW C (S, P, K, F, B, G, E), 0, 0)) rfl ?_
      refine m_weak [some (.inr (.inl 13)), some (.inl 1), some (.inl a), some (.inl 1), some (.inl b), some (.inl 0)] ⟨rfl, ⟨rfl, ⟨rfl, ⟨rfl, ⟨rfl, ⟨rfl, trivial⟩⟩⟩⟩⟩⟩ ?_
      rw [zc2] at ho
      refine e_su1 (v := true && isInR n tb 1 n a b) hR ha ha2 hi1 hi2 (ih _ ?_) 0 (by omega) (by omega) true (by rw [z_sub]; rfl)
      cases hh : isInR n tb 1 n a b with
      | true => rw [all_t hi2 hh] at ho; rw [Bool.and_true]; exact ho
      | false => rw [all_f hi2 hh, Bool.and_false] at ho; rw [Bool.and_false, Bool.false_and]; exact ho
set_option maxHeartbeats 4000000 in
set_option maxRecDepth 100000 in
theorem e_su2 {X : Nat × Nat × (Nat → Int32)} {C : CS} {n : Int} {S : Int → Int} {P K : TS} {F : Int × Int × Int} {B : (Nat → Int64) × (Nat → Int64)} {G : Int → Int} {E : Int × Int} {tb : Int → Int → Int} {a : Int} {Q : Option mPV → mPW → Prop} (hR : repM n S tb) (ha : 0 ≤ a) (ha2 : a < n) {b : Int} {v : Bool} (hb : 0 ≤ b) (hb2 : b < n) (K9 : m_Sem X 107 (5, [some (.inr (.inl 13)), some (.inl 2), some (.inl a), some (.inl (bI v)), some (.inl (b + 1)), none], [], mW C (S, P, K, F, B, G, E), 0, 0) Q) : ∀ c : Int, 0 ≤ c → c ≤ n → ∀ (o : Bool) (ho : (o && allF (fun c => fitsS n tb 2 a b c) (n - c).toNat c) = v), m_Sem X 107 (50, [some (.inr (.inl 13)), some (.inl 2), some (.inl a), some (.inl (bI o)), some (.inl b), some (.inl c)], [], mW C (S, P, K, F, B, G, E), 0, 0) (Q) := by
  have hn := hR.1
  have hl := okN_lo hn
  have hs0 := hR.2.1
  refine m_down 0 n ?_ ?_
  · intro o ho
    rw [all_end, Bool.and_true] at ho
    subst ho
    show m_Sem X 107 (50, [some (.inr (.inl 13)), some (.inl 2), some (.inl a), some (.inl (bI o)), some (.inl b), some (.inl n)], [], mW C (S, P, K, F, B, G, E), 0, 0) _
    refine m_run 4 (ps' := (57, [some (.inr (.inl 13)), some (.inl 2), some (.inl a), some (.inl (bI o)), some (.inl b), some (.inl n)], [.inl 0, .inr (.inl 14), .inl n], mW C (S, P, K, F, B, G, E), 0, 0)) rfl ?_
    refine m_iald rfl rfl (by omega) (by omega) (by decide) ?_
    show m_Sem X 107 (58, [some (.inr (.inl 13)), some (.inl 2), some (.inl a), some (.inl (bI o)), some (.inl b), some (.inl n)], [.inl (S 0), .inl n], mW C (S, P, K, F, B, G, E), 0, 0) _
    rw [hs0]
    refine m_icmp rfl ⟨by omega, by omega⟩ ⟨by omega, by omega⟩ (fun (zc1 : n ≤ n) => ?_) (fun (zc1 : ¬ n ≤ n) => absurd zc1 (not_not_intro (by omega)))
    refine m_run 2 (ps' := (5, [some (.inr (.inl 13)), some (.inl 2), some (.inl a), some (.inl (bI o)), some (.inl (b + 1)), some (.inl n)], [], mW C (S, P, K, F, B, G, E), 0, 0)) rfl ?_
    refine m_weak [some (.inr (.inl 13)), some (.inl 2), some (.inl a), some (.inl (bI o)), some (.inl (b + 1)), none] ⟨rfl, ⟨rfl, ⟨rfl, ⟨rfl, ⟨rfl, trivial⟩⟩⟩⟩⟩ ?_
    exact K9
  · intro c hi1 hi2 ih o ho
    refine m_run 4 (ps' := (57, [some (.inr (.inl 13)), some (.inl 2), some (.inl a), some (.inl (bI o)), some (.inl b), some (.inl c)], [.inl 0, .inr (.inl 14), .inl c], mW C (S, P, K, F, B, G, E), 0, 0)) rfl ?_
    refine m_iald rfl rfl (by omega) (by omega) (by decide) ?_
    show m_Sem X 107 (58, [some (.inr (.inl 13)), some (.inl 2), some (.inl a), some (.inl (bI o)), some (.inl b), some (.inl c)], [.inl (S 0), .inl c], mW C (S, P, K, F, B, G, E), 0, 0) _
    rw [hs0]
    refine m_icmp rfl ⟨by omega, by omega⟩ ⟨by omega, by omega⟩ (fun (zc1 : n ≤ c) => absurd zc1 (by omega)) (fun (zc1 : ¬ n ≤ c) => ?_)
    refine m_run 1 (ps' := (62, [some (.inr (.inl 13)), some (.inl 2), some (.inl a), some (.inl (bI o)), some (.inl b), some (.inl c)], [.inl 2], mW C (S, P, K, F, B, G, E), 0, 0)) rfl ?_
    refine m_if rfl ⟨by omega, by omega⟩ (fun (zc2 : 2 ≤ 0) => absurd zc2 (by omega)) (fun (zc2 : ¬ 2 ≤ 0) => ?_)
    refine m_run 1 (ps' := (66, [some (.inr (.inl 13)), some (.inl 2), some (.inl a), some (.inl (bI o)), some (.inl b), some (.inl c)], [.inl (bI o)], mW C (S, P, K, F, B, G, E), 0, 0)) rfl ?_
    refine m_if rfl (bI_R o) (fun (zc3 : (bI o) = 0) => ?_) (fun (zc3 : ¬ (bI o) = 0) => ?_)
    · replace zc3 : o = false := bI_e0.mp zc3
      refine m_run 4 (ps' := (50, [some (.inr (.inl 13)), some (.inl 2), some (.inl a), some (.inl 0), some (.inl b), some (.inl (c + 1))], [], mW C (S, P, K, F, B, G, E), 0, 0)) rfl ?_
      refine m_weak [some (.inr (.inl 13)), some (.inl 2), some (.inl a), some (.inl 0), some (.inl b), some (.inl (c + 1))] ⟨rfl, ⟨rfl, ⟨rfl, ⟨rfl, ⟨rfl, ⟨rfl, trivial⟩⟩⟩⟩⟩⟩ ?_
      first
      | (rw [zc3, Bool.false_and] at ho
         exact ih false (by rw [Bool.false_and]; exact ho))
      | (rw [zc3, all_f hi2 (by rw [fits_2]; exact decide_eq_false zc5)] at ho
         exact ih false (by rw [Bool.false_and]; exact ho))
    · replace zc3 : o = true := bI_n0.mp zc3
      refine m_run 2 (ps' := (71, [some (.inr (.inl 13)), some (.inl 2), some (.inl a), some (.inl (bI o)), some (.inl b), some (.inl c)], [.inl 1, .inl 2], mW C (S, P, K, F, B, G, E), 0, 0)) rfl ?_
      refine m_icmp rfl ⟨by omega, by omega⟩ ⟨by omega, by omega⟩ (fun (zc4 : ¬ 2 = 1) => ?_) (fun (zc4 : ¬ ¬ 2 = 1) => absurd zc4 (not_not_intro (by omega)))
      refine m_run 4 (ps' := (116, [some (.inr (.inl 13)), some (.inl 2), some (.inl a), some (.inl (bI o)), some (.inl b), some (.inl c)], [.inl b, .inl a, .inr (.inl 13), .inr (.inl 13)], mW C (S, P, K, F, B, G, E), 0, 0)) rfl ?_
      refine m_callVF [.inl a, .inl b] [.inr (.inl 13)] rfl rfl ⟨_, rfl, rfl⟩ rfl rfl (d_times (a := a) (b := b) hR (by omega) (by omega) (by omega) (by omega)) ?_
      have zt1 := (hR.2.2 a b (by omega) (by omega) (by omega) (by omega)).2
      show m_Sem X 107 (119, [some (.inr (.inl 13)), some (.inl 2), some (.inl a), some (.inl (bI o)), some (.inl b), some (.inl c)], [.inl (tb a b), .inr (.inl 13)], mW C (S, P, K, F, B, G, E), 0, 0) _
      refine m_run 1 (ps' := (121, [some (.inr (.inl 13)), some (.inl 2), some (.inl a), some (.inl (bI o)), some (.inl b), some (.inl c)], [.inl c, .inl (tb a b), .inr (.inl 13)], mW C (S, P, K, F, B, G, E), 0, 0)) rfl ?_
      refine m_callVF [.inl (tb a b), .inl c] [] rfl rfl ⟨_, rfl, rfl⟩ rfl rfl (d_times (a := (tb a b)) (b := c) hR (by omega) (by omega) (by omega) (by omega)) ?_
      have zt2 := (hR.2.2 (tb a b) c (by omega) (by omega) (by omega) (by omega)).2
      show m_Sem X 107 (124, [some (.inr (.inl 13)), some (.inl 2), some (.inl a), some (.inl (bI o)), some (.inl b), some (.inl c)], [.inl (tb (tb a b) c)], mW C (S, P, K, F, B, G, E), 0, 0) _
      refine m_run 5 (ps' := (131, [some (.inr (.inl 13)), some (.inl 2), some (.inl a), some (.inl (bI o)), some (.inl b), some (.inl c)], [.inl c, .inl b, .inr (.inl 13), .inl a, .inr (.inl 13), .inl (tb (tb a b) c)], mW C (S, P, K, F, B, G, E), 0, 0)) rfl ?_
      refine m_callVF [.inl b, .inl c] [.inl a, .inr (.inl 13), .inl (tb (tb a b) c)] rfl rfl ⟨_, rfl, rfl⟩ rfl rfl (d_times (a := b) (b := c) hR (by omega) (by omega) (by omega) (by omega)) ?_
      have zt3 := (hR.2.2 b c (by omega) (by omega) (by omega) (by omega)).2
      show m_Sem X 107 (134, [some (.inr (.inl 13)), some (.inl 2), some (.inl a), some (.inl (bI o)), some (.inl b), some (.inl c)], [.inl (tb b c), .inl a, .inr (.inl 13), .inl (tb (tb a b) c)], mW C (S, P, K, F, B, G, E), 0, 0) _
      refine m_callVF [.inl a, .inl (tb b c)] [.inl (tb (tb a b) c)] rfl rfl ⟨_, rfl, rfl⟩ rfl rfl (d_times (a := a) (b := (tb b c)) hR (by omega) (by omega) (by omega) (by omega)) ?_
      have zt4 := (hR.2.2 a (tb b c) (by omega) (by omega) (by omega) (by omega)).2
      show m_Sem X 107 (137, [some (.inr (.inl 13)), some (.inl 2), some (.inl a), some (.inl (bI o)), some (.inl b), some (.inl c)], [.inl (tb a (tb b c)), .inl (tb (tb a b) c)], mW C (S, P, K, F, B, G, E), 0, 0) _
      refine m_icmp rfl ⟨by omega, by omega⟩ ⟨by omega, by omega⟩ (fun (zc5 : ¬ (tb (tb a b) c) = (tb a (tb b c))) => ?_) (fun (zc5 : ¬ ¬ (tb (tb a b) c) = (tb a (tb b c))) => ?_)
      · refine m_run 4 (ps' := (50, [some (.inr (.inl 13)), some (.inl 2), some (.inl a), some (.inl 0), some (.inl b), some (.inl (c + 1))], [], mW C (S, P, K, F, B, G, E), 0, 0)) rfl ?_
        refine m_weak [some (.inr (.inl 13)), some (.inl 2), some (.inl a), some (.inl 0), some (.inl b), some (.inl (c + 1))] ⟨rfl, ⟨rfl, ⟨rfl, ⟨rfl, ⟨rfl, ⟨rfl, trivial⟩⟩⟩⟩⟩⟩ ?_
        first
        | (rw [zc3, Bool.false_and] at ho
           exact ih false (by rw [Bool.false_and]; exact ho))
        | (rw [zc3, all_f hi2 (by rw [fits_2]; exact decide_eq_false zc5)] at ho
           exact ih false (by rw [Bool.false_and]; exact ho))
      · replace zc5 : (tb (tb a b) c) = (tb a (tb b c)) := Decidable.not_not.mp zc5
        refine m_run 5 (ps' := (50, [some (.inr (.inl 13)), some (.inl 2), some (.inl a), some (.inl 1), some (.inl b), some (.inl (c + 1))], [], mW C (S, P, K, F, B, G, E), 0, 0)) rfl ?_
        refine m_weak [some (.inr (.inl 13)), some (.inl 2), some (.inl a), some (.inl 1), some (.inl b), some (.inl (c + 1))] ⟨rfl, ⟨rfl, ⟨rfl, ⟨rfl, ⟨rfl, ⟨rfl, trivial⟩⟩⟩⟩⟩⟩ ?_
        rw [zc3, all_t hi2 (by rw [fits_2]; exact decide_eq_true zc5)] at ho
        exact ih true ho
set_option maxHeartbeats 4000000 in
set_option maxRecDepth 100000 in
theorem e_sO2 {X : Nat × Nat × (Nat → Int32)} {C : CS} {n : Int} {S : Int → Int} {P K : TS} {F : Int × Int × Int} {B : (Nat → Int64) × (Nat → Int64)} {G : Int → Int} {E : Int × Int} {tb : Int → Int → Int} {a : Int} {Q : Option mPV → mPW → Prop} (hR : repM n S tb) (ha : 0 ≤ a) (ha2 : a < n) {v : Bool} (R : Q (some (.inl (bI v))) (mW C (S, P, K, F, B, G, E))) : ∀ b : Int, 0 ≤ b → b ≤ n → ∀ (o : Bool) (ho : (o && allF (isInR n tb 2 n a) (n - b).toNat b) = v), m_Sem X 107 (5, [some (.inr (.inl 13)), some (.inl 2), some (.inl a), some (.inl (bI o)), some (.inl b), none], [], mW C (S, P, K, F, B, G, E), 0, 0) (Q) := by
  have hn := hR.1
  have hl := okN_lo hn
  have hs0 := hR.2.1
  refine m_down 0 n ?_ ?_
  · intro o ho
    show m_Sem X 107 (5, [some (.inr (.inl 13)), some (.inl 2), some (.inl a), some (.inl (bI o)), some (.inl n), none], [], mW C (S, P, K, F, B, G, E), 0, 0) _
    refine m_run 4 (ps' := (12, [some (.inr (.inl 13)), some (.inl 2), some (.inl a), some (.inl (bI o)), some (.inl n), none], [.inl 0, .inr (.inl 14), .inl n], mW C (S, P, K, F, B, G, E), 0, 0)) rfl ?_
    refine m_iald rfl rfl (by omega) (by omega) (by decide) ?_
    show m_Sem X 107 (13, [some (.inr (.inl 13)), some (.inl 2), some (.inl a), some (.inl (bI o)), some (.inl n), none], [.inl (S 0), .inl n], mW C (S, P, K, F, B, G, E), 0, 0) _
    rw [hs0]
    refine m_icmp rfl ⟨by omega, by omega⟩ ⟨by omega, by omega⟩ (fun (zc1 : n ≤ n) => ?_) (fun (zc1 : ¬ n ≤ n) => absurd zc1 (not_not_intro (by omega)))
    refine m_run 1 (ps' := (159, [some (.inr (.inl 13)), some (.inl 2), some (.inl a), some (.inl (bI o)), some (.inl n), none], [.inl (bI o)], mW C (S, P, K, F, B, G, E), 0, 0)) rfl ?_
    exact m_ret1 rfl (Or.inr ⟨rfl, bI_01 o⟩) rfl (by rw [all_end, Bool.and_true] at ho; subst ho; exact R)
  · intro b hi1 hi2 ih o ho
    refine m_run 4 (ps' := (12, [some (.inr (.inl 13)), some (.inl 2), some (.inl a), some (.inl (bI o)), some (.inl b), none], [.inl 0, .inr (.inl 14), .inl b], mW C (S, P, K, F, B, G, E), 0, 0)) rfl ?_
    refine m_iald rfl rfl (by omega) (by omega) (by decide) ?_
    show m_Sem X 107 (13, [some (.inr (.inl 13)), some (.inl 2), some (.inl a), some (.inl (bI o)), some (.inl b), none], [.inl (S 0), .inl b], mW C (S, P, K, F, B, G, E), 0, 0) _
    rw [hs0]
    refine m_icmp rfl ⟨by omega, by omega⟩ ⟨by omega, by omega⟩ (fun (zc1 : n ≤ b) => absurd zc1 (by omega)) (fun (zc1 : ¬ n ≤ b) => ?_)
    refine m_run 1 (ps' := (17, [some (.inr (.inl 13)), some (.inl 2), some (.inl a), some (.inl (bI o)), some (.inl b), none], [.inl (bI o)], mW C (S, P, K, F, B, G, E), 0, 0)) rfl ?_
    refine m_if rfl (bI_R o) (fun (zc2 : (bI o) = 0) => ?_) (fun (zc2 : ¬ (bI o) = 0) => ?_)
    · replace zc2 : o = false := bI_e0.mp zc2
      refine m_run 4 (ps' := (50, [some (.inr (.inl 13)), some (.inl 2), some (.inl a), some (.inl 0), some (.inl b), some (.inl 0)], [], mW C (S, P, K, F, B, G, E), 0, 0)) rfl ?_
      refine m_weak [some (.inr (.inl 13)), some (.inl 2), some (.inl a), some (.inl 0), some (.inl b), some (.inl 0)] ⟨rfl, ⟨rfl, ⟨rfl, ⟨rfl, ⟨rfl, ⟨rfl, trivial⟩⟩⟩⟩⟩⟩ ?_
      rw [zc2] at ho
      refine e_su2 (v := false && isInR n tb 2 n a b) hR ha ha2 hi1 hi2 (ih _ ?_) 0 (by omega) (by omega) false (by rw [z_sub]; rfl)
      cases hh : isInR n tb 2 n a b with
      | true => rw [all_t hi2 hh] at ho; rw [Bool.and_true]; exact ho
      | false => rw [all_f hi2 hh, Bool.and_false] at ho; rw [Bool.and_false, Bool.false_and]; exact ho
    · replace zc2 : o = true := bI_n0.mp zc2
      refine m_run 1 (ps' := (21, [some (.inr (.inl 13)), some (.inl 2), some (.inl a), some (.inl (bI o)), some (.inl b), none], [.inl 2], mW C (S, P, K, F, B, G, E), 0, 0)) rfl ?_
      refine m_if rfl ⟨by omega, by omega⟩ (fun (zc3 : 0 < 2) => ?_) (fun (zc3 : ¬ 0 < 2) => absurd zc3 (not_not_intro (by omega)))
      refine m_run 5 (ps' := (50, [some (.inr (.inl 13)), some (.inl 2), some (.inl a), some (.inl 1), some (.inl b), some (.inl 0)], [], mW C (S, P, K, F, B, G, E), 0, 0)) rfl ?_
      refine m_weak [some (.inr (.inl 13)), some (.inl 2), some (.inl a), some (.inl 1), some (.inl b), some (.inl 0)] ⟨rfl, ⟨rfl, ⟨rfl, ⟨rfl, ⟨rfl, ⟨rfl, trivial⟩⟩⟩⟩⟩⟩ ?_
      rw [zc2] at ho
      refine e_su2 (v := true && isInR n tb 2 n a b) hR ha ha2 hi1 hi2 (ih _ ?_) 0 (by omega) (by omega) true (by rw [z_sub]; rfl)
      cases hh : isInR n tb 2 n a b with
      | true => rw [all_t hi2 hh] at ho; rw [Bool.and_true]; exact ho
      | false => rw [all_f hi2 hh, Bool.and_false] at ho; rw [Bool.and_false, Bool.false_and]; exact ho
set_option maxHeartbeats 4000000 in
set_option maxRecDepth 100000 in
theorem e_sO0 {X : Nat × Nat × (Nat → Int32)} {C : CS} {n : Int} {S : Int → Int} {P K : TS} {F : Int × Int × Int} {B : (Nat → Int64) × (Nat → Int64)} {G : Int → Int} {E : Int × Int} {tb : Int → Int → Int} {a : Int} {Q : Option mPV → mPW → Prop} (hR : repM n S tb) (ha : 0 ≤ a) (ha2 : a < n) {v : Bool} (R : Q (some (.inl (bI v))) (mW C (S, P, K, F, B, G, E))) : ∀ b : Int, 0 ≤ b → b ≤ n → ∀ (o : Bool) (ho : (o && allF (isInR n tb 0 1 a) (n - b).toNat b) = v), m_Sem X 107 (5, [some (.inr (.inl 13)), some (.inl 0), some (.inl a), some (.inl (bI o)), some (.inl b), none], [], mW C (S, P, K, F, B, G, E), 0, 0) (Q) := by
  have hn := hR.1
  have hl := okN_lo hn
  have hs0 := hR.2.1
  refine m_down 0 n ?_ ?_
  · intro o ho
    show m_Sem X 107 (5, [some (.inr (.inl 13)), some (.inl 0), some (.inl a), some (.inl (bI o)), some (.inl n), none], [], mW C (S, P, K, F, B, G, E), 0, 0) _
    refine m_run 4 (ps' := (12, [some (.inr (.inl 13)), some (.inl 0), some (.inl a), some (.inl (bI o)), some (.inl n), none], [.inl 0, .inr (.inl 14), .inl n], mW C (S, P, K, F, B, G, E), 0, 0)) rfl ?_
    refine m_iald rfl rfl (by omega) (by omega) (by decide) ?_
    show m_Sem X 107 (13, [some (.inr (.inl 13)), some (.inl 0), some (.inl a), some (.inl (bI o)), some (.inl n), none], [.inl (S 0), .inl n], mW C (S, P, K, F, B, G, E), 0, 0) _
    rw [hs0]
    refine m_icmp rfl ⟨by omega, by omega⟩ ⟨by omega, by omega⟩ (fun (zc1 : n ≤ n) => ?_) (fun (zc1 : ¬ n ≤ n) => absurd zc1 (not_not_intro (by omega)))
    refine m_run 1 (ps' := (159, [some (.inr (.inl 13)), some (.inl 0), some (.inl a), some (.inl (bI o)), some (.inl n), none], [.inl (bI o)], mW C (S, P, K, F, B, G, E), 0, 0)) rfl ?_
    exact m_ret1 rfl (Or.inr ⟨rfl, bI_01 o⟩) rfl (by rw [all_end, Bool.and_true] at ho; subst ho; exact R)
  · intro b hi1 hi2 ih o ho
    refine m_run 4 (ps' := (12, [some (.inr (.inl 13)), some (.inl 0), some (.inl a), some (.inl (bI o)), some (.inl b), none], [.inl 0, .inr (.inl 14), .inl b], mW C (S, P, K, F, B, G, E), 0, 0)) rfl ?_
    refine m_iald rfl rfl (by omega) (by omega) (by decide) ?_
    show m_Sem X 107 (13, [some (.inr (.inl 13)), some (.inl 0), some (.inl a), some (.inl (bI o)), some (.inl b), none], [.inl (S 0), .inl b], mW C (S, P, K, F, B, G, E), 0, 0) _
    rw [hs0]
    refine m_icmp rfl ⟨by omega, by omega⟩ ⟨by omega, by omega⟩ (fun (zc1 : n ≤ b) => absurd zc1 (by omega)) (fun (zc1 : ¬ n ≤ b) => ?_)
    refine m_run 1 (ps' := (17, [some (.inr (.inl 13)), some (.inl 0), some (.inl a), some (.inl (bI o)), some (.inl b), none], [.inl (bI o)], mW C (S, P, K, F, B, G, E), 0, 0)) rfl ?_
    refine m_if rfl (bI_R o) (fun (zc2 : (bI o) = 0) => ?_) (fun (zc2 : ¬ (bI o) = 0) => ?_)
    · replace zc2 : o = false := bI_e0.mp zc2
      refine m_run 8 (ps' := (57, [some (.inr (.inl 13)), some (.inl 0), some (.inl a), some (.inl 0), some (.inl b), some (.inl 0)], [.inl 0, .inr (.inl 14), .inl 0], mW C (S, P, K, F, B, G, E), 0, 0)) rfl ?_
      refine m_iald rfl rfl (by omega) (by omega) (by decide) ?_
      show m_Sem X 107 (58, [some (.inr (.inl 13)), some (.inl 0), some (.inl a), some (.inl 0), some (.inl b), some (.inl 0)], [.inl (S 0), .inl 0], mW C (S, P, K, F, B, G, E), 0, 0) _
      rw [hs0]
      refine m_icmp rfl ⟨by omega, by omega⟩ ⟨by omega, by omega⟩ (fun (zc3 : n ≤ 0) => absurd zc3 (by omega)) (fun (zc3 : ¬ n ≤ 0) => ?_)
      refine m_run 1 (ps' := (62, [some (.inr (.inl 13)), some (.inl 0), some (.inl a), some (.inl 0), some (.inl b), some (.inl 0)], [.inl 0], mW C (S, P, K, F, B, G, E), 0, 0)) rfl ?_
      refine m_if rfl ⟨by omega, by omega⟩ (fun (zc4 : 0 ≤ 0) => ?_) (fun (zc4 : ¬ 0 ≤ 0) => absurd zc4 (not_not_intro (by omega)))
      refine m_run 2 (ps' := (5, [some (.inr (.inl 13)), some (.inl 0), some (.inl a), some (.inl 0), some (.inl (b + 1)), some (.inl 0)], [], mW C (S, P, K, F, B, G, E), 0, 0)) rfl ?_
      refine m_weak [some (.inr (.inl 13)), some (.inl 0), some (.inl a), some (.inl 0), some (.inl (b + 1)), none] ⟨rfl, ⟨rfl, ⟨rfl, ⟨rfl, ⟨rfl, trivial⟩⟩⟩⟩⟩ ?_
      first
      | (rw [zc2, Bool.false_and] at ho
         exact ih false (by rw [Bool.false_and]; exact ho))
      | (rw [zc2, all_f hi2 (by rw [isInR_0]; exact decide_eq_false zc4)] at ho
         exact ih false (by rw [Bool.false_and]; exact ho))
    · replace zc2 : o = true := bI_n0.mp zc2
      refine m_run 1 (ps' := (21, [some (.inr (.inl 13)), some (.inl 0), some (.inl a), some (.inl (bI o)), some (.inl b), none], [.inl 0], mW C (S, P, K, F, B, G, E), 0, 0)) rfl ?_
      refine m_if rfl ⟨by omega, by omega⟩ (fun (zc3 : 0 < 0) => absurd zc3 (by omega)) (fun (zc3 : ¬ 0 < 0) => ?_)
      refine m_run 3 (ps' := (28, [some (.inr (.inl 13)), some (.inl 0), some (.inl a), some (.inl (bI o)), some (.inl b), none], [.inl b, .inl a, .inr (.inl 13)], mW C (S, P, K, F, B, G, E), 0, 0)) rfl ?_
      refine m_callVF [.inl a, .inl b] [] rfl rfl ⟨_, rfl, rfl⟩ rfl rfl (d_times (a := a) (b := b) hR (by omega) (by omega) (by omega) (by omega)) ?_
      have zt1 := (hR.2.2 a b (by omega) (by omega) (by omega) (by omega)).2
      show m_Sem X 107 (31, [some (.inr (.inl 13)), some (.inl 0), some (.inl a), some (.inl (bI o)), some (.inl b), none], [.inl (tb a b)], mW C (S, P, K, F, B, G, E), 0, 0) _
      refine m_run 3 (ps' := (35, [some (.inr (.inl 13)), some (.inl 0), some (.inl a), some (.inl (bI o)), some (.inl b), none], [.inl a, .inl b, .inr (.inl 13), .inl (tb a b)], mW C (S, P, K, F, B, G, E), 0, 0)) rfl ?_
      refine m_callVF [.inl b, .inl a] [.inl (tb a b)] rfl rfl ⟨_, rfl, rfl⟩ rfl rfl (d_times (a := b) (b := a) hR (by omega) (by omega) (by omega) (by omega)) ?_
      have zt2 := (hR.2.2 b a (by omega) (by omega) (by omega) (by omega)).2
      show m_Sem X 107 (38, [some (.inr (.inl 13)), some (.inl 0), some (.inl a), some (.inl (bI o)), some (.inl b), none], [.inl (tb b a), .inl (tb a b)], mW C (S, P, K, F, B, G, E), 0, 0) _
      refine m_icmp rfl ⟨by omega, by omega⟩ ⟨by omega, by omega⟩ (fun (zc4 : ¬ (tb a b) = (tb b a)) => ?_) (fun (zc4 : ¬ ¬ (tb a b) = (tb b a)) => ?_)
      · refine m_run 8 (ps' := (57, [some (.inr (.inl 13)), some (.inl 0), some (.inl a), some (.inl 0), some (.inl b), some (.inl 0)], [.inl 0, .inr (.inl 14), .inl 0], mW C (S, P, K, F, B, G, E), 0, 0)) rfl ?_
        refine m_iald rfl rfl (by omega) (by omega) (by decide) ?_
        show m_Sem X 107 (58, [some (.inr (.inl 13)), some (.inl 0), some (.inl a), some (.inl 0), some (.inl b), some (.inl 0)], [.inl (S 0), .inl 0], mW C (S, P, K, F, B, G, E), 0, 0) _
        rw [hs0]
        refine m_icmp rfl ⟨by omega, by omega⟩ ⟨by omega, by omega⟩ (fun (zc5 : n ≤ 0) => absurd zc5 (by omega)) (fun (zc5 : ¬ n ≤ 0) => ?_)
        refine m_run 1 (ps' := (62, [some (.inr (.inl 13)), some (.inl 0), some (.inl a), some (.inl 0), some (.inl b), some (.inl 0)], [.inl 0], mW C (S, P, K, F, B, G, E), 0, 0)) rfl ?_
        refine m_if rfl ⟨by omega, by omega⟩ (fun (zc6 : 0 ≤ 0) => ?_) (fun (zc6 : ¬ 0 ≤ 0) => absurd zc6 (not_not_intro (by omega)))
        refine m_run 2 (ps' := (5, [some (.inr (.inl 13)), some (.inl 0), some (.inl a), some (.inl 0), some (.inl (b + 1)), some (.inl 0)], [], mW C (S, P, K, F, B, G, E), 0, 0)) rfl ?_
        refine m_weak [some (.inr (.inl 13)), some (.inl 0), some (.inl a), some (.inl 0), some (.inl (b + 1)), none] ⟨rfl, ⟨rfl, ⟨rfl, ⟨rfl, ⟨rfl, trivial⟩⟩⟩⟩⟩ ?_
        first
        | (rw [zc2, Bool.false_and] at ho
           exact ih false (by rw [Bool.false_and]; exact ho))
        | (rw [zc2, all_f hi2 (by rw [isInR_0]; exact decide_eq_false zc4)] at ho
           exact ih false (by rw [Bool.false_and]; exact ho))
      · replace zc4 : (tb a b) = (tb b a) := Decidable.not_not.mp zc4
        refine m_run 9 (ps' := (57, [some (.inr (.inl 13)), some (.inl 0), some (.inl a), some (.inl 1), some (.inl b), some (.inl 0)], [.inl 0, .inr (.inl 14), .inl 0], mW C (S, P, K, F, B, G, E), 0, 0)) rfl ?_
        refine m_iald rfl rfl (by omega) (by omega) (by decide) ?_
        show m_Sem X 107 (58, [some (.inr (.inl 13)), some (.inl 0), some (.inl a), some (.inl 1), some (.inl b), some (.inl 0)], [.inl (S 0), .inl 0], mW C (S, P, K, F, B, G, E), 0, 0) _
        rw [hs0]
        refine m_icmp rfl ⟨by omega, by omega⟩ ⟨by omega, by omega⟩ (fun (zc5 : n ≤ 0) => absurd zc5 (by omega)) (fun (zc5 : ¬ n ≤ 0) => ?_)
        refine m_run 1 (ps' := (62, [some (.inr (.inl 13)), some (.inl 0), some (.inl a), some (.inl 1), some (.inl b), some (.inl 0)], [.inl 0], mW C (S, P, K, F, B, G, E), 0, 0)) rfl ?_
        refine m_if rfl ⟨by omega, by omega⟩ (fun (zc6 : 0 ≤ 0) => ?_) (fun (zc6 : ¬ 0 ≤ 0) => absurd zc6 (not_not_intro (by omega)))
        refine m_run 2 (ps' := (5, [some (.inr (.inl 13)), some (.inl 0), some (.inl a), some (.inl 1), some (.inl (b + 1)), some (.inl 0)], [], mW C (S, P, K, F, B, G, E), 0, 0)) rfl ?_
        refine m_weak [some (.inr (.inl 13)), some (.inl 0), some (.inl a), some (.inl 1), some (.inl (b + 1)), none] ⟨rfl, ⟨rfl, ⟨rfl, ⟨rfl, ⟨rfl, trivial⟩⟩⟩⟩⟩ ?_
        rw [zc2, all_t hi2 (by rw [isInR_0]; exact decide_eq_true zc4)] at ho
        exact ih true ho
set_option maxHeartbeats 4000000 in
set_option maxRecDepth 100000 in
theorem d_such {X : Nat × Nat × (Nat → Int32)} {C : CS} {n : Int} {S : Int → Int} {P K : TS} {F : Int × Int × Int} {B : (Nat → Int64) × (Nat → Int64)} {G : Int → Int} {E : Int × Int} {tb : Int → Int → Int} {j a : Int} (hR : repM n S tb) (hj : 0 ≤ j) (hj2 : j < 3) (ha : 0 ≤ a) (ha2 : a < n) : m_Run X 107 [.inr (.inl 13), .inl j, .inl a] (mW C (S, P, K, F, B, G, E)) (m_V (bI (isInS n tb j a)) (mW C (S, P, K, F, B, G, E))) := by
  have hn := hR.1
  have hl := okN_lo hn
  have hs0 := hR.2.1
  show m_Sem X 107 (0, [some (.inr (.inl 13)), some (.inl j), some (.inl a), none, none, none], [], mW C (S, P, K, F, B, G, E), 0, 0) _
  refine m_run 4 (ps' := (5, [some (.inr (.inl 13)), some (.inl j), some (.inl a), some (.inl 1), some (.inl 0), none], [], mW C (S, P, K, F, B, G, E), 0, 0)) rfl ?_
  rcases (show j = 0 ∨ j = 1 ∨ j = 2 by omega) with rfl | rfl | rfl
  · refine m_weak [some (.inr (.inl 13)), some (.inl 0), some (.inl a), some (.inl 1), some (.inl 0), none] ⟨rfl, ⟨rfl, ⟨rfl, ⟨rfl, ⟨rfl, trivial⟩⟩⟩⟩⟩ ?_
    exact e_sO0 (v := isInS n tb 0 a) hR ha ha2 ⟨rfl, rfl⟩ 0 (by omega) (by omega) true (by rw [z_sub]; rfl)
  · refine m_weak [some (.inr (.inl 13)), some (.inl 1), some (.inl a), some (.inl 1), some (.inl 0), none] ⟨rfl, ⟨rfl, ⟨rfl, ⟨rfl, ⟨rfl, trivial⟩⟩⟩⟩⟩ ?_
    exact e_sO1 (v := isInS n tb 1 a) hR ha ha2 ⟨rfl, rfl⟩ 0 (by omega) (by omega) true (by rw [z_sub]; rfl)
  · refine m_weak [some (.inr (.inl 13)), some (.inl 2), some (.inl a), some (.inl 1), some (.inl 0), none] ⟨rfl, ⟨rfl, ⟨rfl, ⟨rfl, ⟨rfl, trivial⟩⟩⟩⟩⟩ ?_
    exact e_sO2 (v := isInS n tb 2 a) hR ha ha2 ⟨rfl, rfl⟩ 0 (by omega) (by omega) true (by rw [z_sub]; rfl)
set_option maxHeartbeats 4000000 in
set_option maxRecDepth 100000 in
theorem e_els {X : Nat × Nat × (Nat → Int32)} {C : CS} {n : Int} {S : Int → Int} {P K : TS} {F : Int × Int × Int} {B : (Nat → Int64) × (Nat → Int64)} {G : Int → Int} {E : Int × Int} {tb : Int → Int → Int} {wh v : Int} (hw1 : 0 ≤ wh) (hw2 : wh < 3) (hR : repM n S tb) : ∀ iv : Int, 0 ≤ iv → iv ≤ n → ∀ (s : Nat) (hs : s < 512) (hu : elsK (isInS n tb wh) (n - iv).toNat iv s = v), m_Sem X 108 (16, [some (.inr (.inl 13)), some (.inl wh), some (.inl (s : Int)), some (.inl iv)], [], mW C (S, P, K, F, B, G, E), 0, 0) (m_V v (mW C (S, P, K, F, B, G, E))) := by
  have hn := hR.1
  have hl := okN_lo hn
  have hs0 := hR.2.1
  refine m_down 0 n ?_ ?_
  · intro s hs hu
    show m_Sem X 108 (16, [some (.inr (.inl 13)), some (.inl wh), some (.inl (s : Int)), some (.inl n)], [], mW C (S, P, K, F, B, G, E), 0, 0) _
    refine m_run 4 (ps' := (22, [some (.inr (.inl 13)), some (.inl wh), some (.inl (s : Int)), some (.inl n)], [.inl 0, .inr (.inl 14), .inl n], mW C (S, P, K, F, B, G, E), 0, 0)) rfl ?_
    refine m_iald rfl rfl (by omega) (by omega) (by decide) ?_
    show m_Sem X 108 (23, [some (.inr (.inl 13)), some (.inl wh), some (.inl (s : Int)), some (.inl n)], [.inl (S 0), .inl n], mW C (S, P, K, F, B, G, E), 0, 0) _
    rw [hs0]
    refine m_icmp rfl ⟨by omega, by omega⟩ ⟨by omega, by omega⟩ (fun (zc1 : n ≤ n) => ?_) (fun (zc1 : ¬ n ≤ n) => absurd zc1 (not_not_intro (by omega)))
    refine m_run 1 (ps' := (52, [some (.inr (.inl 13)), some (.inl wh), some (.inl (s : Int)), some (.inl n)], [.inl (s : Int)], mW C (S, P, K, F, B, G, E), 0, 0)) rfl ?_
    exact m_ret1 rfl (Or.inl rfl) rfl (m_Vi (by rw [els_end] at hu; exact hu))
  · intro iv hi1 hi2 ih s hs hu
    rw [els_step hi2] at hu
    refine m_run 4 (ps' := (22, [some (.inr (.inl 13)), some (.inl wh), some (.inl (s : Int)), some (.inl iv)], [.inl 0, .inr (.inl 14), .inl iv], mW C (S, P, K, F, B, G, E), 0, 0)) rfl ?_
    refine m_iald rfl rfl (by omega) (by omega) (by decide) ?_
    show m_Sem X 108 (23, [some (.inr (.inl 13)), some (.inl wh), some (.inl (s : Int)), some (.inl iv)], [.inl (S 0), .inl iv], mW C (S, P, K, F, B, G, E), 0, 0) _
    rw [hs0]
    refine m_icmp rfl ⟨by omega, by omega⟩ ⟨by omega, by omega⟩ (fun (zc1 : n ≤ iv) => absurd zc1 (by omega)) (fun (zc1 : ¬ n ≤ iv) => ?_)
    refine m_run 4 (ps' := (30, [some (.inr (.inl 13)), some (.inl wh), some (.inl (s : Int)), some (.inl iv)], [.inl iv, .inl wh, .inr (.inl 13), .inl (s : Int)], mW C (S, P, K, F, B, G, E), 0, 0)) rfl ?_
    refine m_callVF [.inl wh, .inl iv] [.inl (s : Int)] rfl rfl ⟨_, rfl, rfl⟩ rfl rfl (d_such (j := wh) (a := iv) hR (by omega) (by omega) (by omega) (by omega)) ?_
    show m_Sem X 108 (33, [some (.inr (.inl 13)), some (.inl wh), some (.inl (s : Int)), some (.inl iv)], [.inl (bI (isInS n tb wh iv)), .inl (s : Int)], mW C (S, P, K, F, B, G, E), 0, 0) _
    refine m_if rfl (bI_R (isInS n tb wh iv)) (fun (zc2 : (bI (isInS n tb wh iv)) = 0) => ?_) (fun (zc2 : ¬ (bI (isInS n tb wh iv)) = 0) => ?_)
    · replace zc2 : (isInS n tb wh iv) = false := bI_e0.mp zc2
      refine m_run 5 (ps' := (16, [some (.inr (.inl 13)), some (.inl wh), some (.inl ((Int32.ofInt (s : Int) ||| Int32.ofInt 0).toInt)), some (.inl (iv + 1))], [], mW C (S, P, K, F, B, G, E), 0, 0)) rfl ?_
      refine m_weak [some (.inr (.inl 13)), some (.inl wh), some (.inl ((Int32.ofInt (s : Int) ||| Int32.ofInt 0).toInt)), some (.inl (iv + 1))] ⟨rfl, ⟨rfl, ⟨rfl, ⟨rfl, trivial⟩⟩⟩⟩ ?_
      rw [zc2] at hu
      have e9 := m_or (a := s) (b := 0) (by omega) (by omega)
      rw [Nat.or_zero] at e9
      rw [show (Int32.ofInt (s : Int) ||| Int32.ofInt 0).toInt = (s : Int) from e9]
      exact ih _ hs hu
    · replace zc2 : (isInS n tb wh iv) = true := bI_n0.mp zc2
      refine m_run 8 (ps' := (16, [some (.inr (.inl 13)), some (.inl wh), some (.inl ((Int32.ofInt (s : Int) ||| Int32.ofInt ((Int32.ofInt 1 <<< (Int32.ofInt iv &&& 31)).toInt)).toInt)), some (.inl (iv + 1))], [], mW C (S, P, K, F, B, G, E), 0, 0)) rfl ?_
      refine m_weak [some (.inr (.inl 13)), some (.inl wh), some (.inl ((Int32.ofInt (s : Int) ||| Int32.ofInt ((Int32.ofInt 1 <<< (Int32.ofInt iv &&& 31)).toInt)).toInt)), some (.inl (iv + 1))] ⟨rfl, ⟨rfl, ⟨rfl, ⟨rfl, trivial⟩⟩⟩⟩ ?_
      rw [zc2] at hu
      have hw := pow9 hi1 (by omega)
      rw [m_shl1 hi1 (by omega), m_or (by omega) (by omega)]
      exact ih _ (or9 hs hw) hu
set_option maxHeartbeats 4000000 in
set_option maxRecDepth 100000 in
theorem d_els {X : Nat × Nat × (Nat → Int32)} {C : CS} {n : Int} {S : Int → Int} {P K : TS} {F : Int × Int × Int} {B : (Nat → Int64) × (Nat → Int64)} {G : Int → Int} {E : Int × Int} {tb : Int → Int → Int} {wh : Int} (hw : m_R wh) (hR : repM n S tb) : m_Run X 108 [.inr (.inl 13), .inl wh] (mW C (S, P, K, F, B, G, E)) (m_V (elmS n tb wh) (mW C (S, P, K, F, B, G, E))) := by
  have hn := hR.1
  have hl := okN_lo hn
  have hs0 := hR.2.1
  show m_Sem X 108 (0, [some (.inr (.inl 13)), some (.inl wh), none, none], [], mW C (S, P, K, F, B, G, E), 0, 0) _
  refine m_run 3 (ps' := (3, [some (.inr (.inl 13)), some (.inl wh), none, none], [.inl 2, .inl 0, .inl wh], mW C (S, P, K, F, B, G, E), 0, 0)) rfl ?_
  refine m_callSF [.inl wh, .inl 0, .inl 2] [] rfl rfl rfl (d_in (v := wh) (l := 0) (m := 2) hw ⟨by omega, by omega⟩ ⟨by omega, by omega⟩) ?_
  show m_Sem X 108 (6, [some (.inr (.inl 13)), some (.inl wh), none, none], [.inl (bI (insS wh 0 2))], mW C (S, P, K, F, B, G, E), 0, 0) _
  refine m_if rfl (bI_R _) (fun (zc1 : ¬ (bI (insS wh 0 2)) = 0) => ?_) (fun (zc1 : ¬ ¬ (bI (insS wh 0 2)) = 0) => ?_)
  · replace zc1 : (insS wh 0 2) = true := bI_n0.mp zc1
    refine m_run 4 (ps' := (16, [some (.inr (.inl 13)), some (.inl wh), some (.inl 0), some (.inl 0)], [], mW C (S, P, K, F, B, G, E), 0, 0)) rfl ?_
    refine m_weak [some (.inr (.inl 13)), some (.inl wh), some (.inl 0), some (.inl 0)] ⟨rfl, ⟨rfl, ⟨rfl, ⟨rfl, trivial⟩⟩⟩⟩ ?_
    have zi9 := insS_i.mp zc1
    have e9 : elmS n tb wh = elsK (isInS n tb wh) n.toNat 0 0 := by unfold elmS; rw [if_neg (by omega), if_neg (by omega)]
    rw [e9]
    exact e_els (by omega) (by omega) hR 0 (by omega) (by omega) 0 (by omega) (by rw [z_sub])
  · replace zc1 : (insS wh 0 2) = false := bI_e0.mp (Decidable.not_not.mp zc1)
    refine m_run 1 (ps' := (11, [some (.inr (.inl 13)), some (.inl wh), none, none], [.inl (-1000001)], mW C (S, P, K, F, B, G, E), 0, 0)) rfl ?_
    exact m_ret1 rfl (Or.inl rfl) rfl (m_Vi (by have zi9 := insS_f.mp zc1; unfold elmS; (repeat' split) <;> first | rfl | (exfalso; omega) | omega | simp_all))
