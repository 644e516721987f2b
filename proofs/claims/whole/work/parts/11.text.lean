def dropH (h : HS) : HS := (3, m_cpy h.2.1 h.2.1 1 0 3, m_cpy h.2.2 h.2.2 81 0 (3 * 81))
def pushH (n : Int) (T : Int → Int) (h : HS) : HS := (h.1 + 1, m_up h.2.1 h.1 n, m_cpy T h.2.2 0 (h.1 * 81) 81)
def keepH (n : Int) (T : Int → Int) (h : HS) : HS := if h.1 = 4 then pushH n T (dropH h) else pushH n T h
set_option maxHeartbeats 4000000 in
set_option maxRecDepth 100000 in
theorem k_drop {X : Nat × Nat × (Nat → Int32)} {n : Int} {T : Int → Int} {hc : Int} {hs hp : Int → Int} {t : TS} {x : XS} {M : MS} : m_Run X 4 [.inr (.inl 4)] (mW (n, T, (hc, hs, hp), t, x) M) (m_U (mW (n, T, dropH (hc, hs, hp), t, x) M)) := by
  show m_Sem X 4 (0, [some (.inr (.inl 4)), none], [], mW (n, T, (hc, hs, hp), t, x) M, 0, 0) _
  refine m_run 9 (ps' := (13, [some (.inr (.inl 4)), some (.inl 3)], [.inl 3, .inl 0, .inr (.inl 5), .inl 1, .inr (.inl 5)], mW (n, T, (hc, hs, hp), t, x) M, 0, 0)) rfl ?_
  refine m_acp rfl rfl rfl (by omega) (by omega) (by omega) (by omega) (by omega) (by decide) (by decide) rfl rfl ?_
  show m_Sem X 4 (16, [some (.inr (.inl 4)), some (.inl 3)], [], mW (n, T, (hc, (m_cpy hs hs 1 0 3), hp), t, x) M, 0, 0) _
  refine m_run 9 (ps' := (31, [some (.inr (.inl 4)), some (.inl 3)], [.inl (3 * 81), .inl 0, .inr (.inl 6), .inl 81, .inr (.inl 6)], mW (n, T, (hc, (m_cpy hs hs 1 0 3), hp), t, x) M, 0, 0)) rfl ?_
  refine m_acp rfl rfl rfl (by omega) (by omega) (by omega) (by omega) (by omega) (by decide) (by decide) rfl rfl ?_
  show m_Sem X 4 (34, [some (.inr (.inl 4)), some (.inl 3)], [], mW (n, T, (hc, (m_cpy hs hs 1 0 3), (m_cpy hp hp 81 0 (3 * 81))), t, x) M, 0, 0) _
  refine m_run 3 (ps' := (39, [some (.inr (.inl 4)), some (.inl 3)], [], mW (n, T, (3, (m_cpy hs hs 1 0 3), (m_cpy hp hp 81 0 (3 * 81))), t, x) M, 0, 0)) rfl ?_
  exact m_ret0 rfl rfl rfl (⟨rfl, rfl⟩)
set_option maxHeartbeats 4000000 in
set_option maxRecDepth 100000 in
theorem k_keep {X : Nat × Nat × (Nat → Int32)} {n : Int} {T : Int → Int} {hc : Int} {hs hp : Int → Int} {t : TS} {x : XS} {M : MS} (hn : m_R n) (h1 : 0 ≤ hc) (h2 : hc ≤ 4) : m_Run X 2 [.inr (.inl 4), .inr (.inl 2)] (mW (n, T, (hc, hs, hp), t, x) M) (m_U (mW (n, T, keepH n T (hc, hs, hp), t, x) M)) := by
  show m_Sem X 2 (0, [some (.inr (.inl 4)), some (.inr (.inl 2))], [], mW (n, T, (hc, hs, hp), t, x) M, 0, 0) _
  refine m_run 3 (ps' := (5, [some (.inr (.inl 4)), some (.inr (.inl 2))], [.inl 4, .inl hc], mW (n, T, (hc, hs, hp), t, x) M, 0, 0)) rfl ?_
  refine m_icmp rfl ⟨by omega, by omega⟩ ⟨by omega, by omega⟩ (fun (zc1 : hc < 4) => ?_) (fun (zc1 : ¬ hc < 4) => ?_)
  · refine m_run 2 (ps' := (16, [some (.inr (.inl 4)), some (.inr (.inl 2))], [.inl hc], mW (n, T, (hc, hs, hp), t, x) M, 0, 0)) rfl ?_
    refine m_if rfl ⟨by omega, by omega⟩ (fun (zc2 : hc < 0) => absurd zc2 (by omega)) (fun (zc2 : ¬ hc < 0) => ?_)
    refine m_run 3 (ps' := (24, [some (.inr (.inl 4)), some (.inr (.inl 2))], [.inl 4, .inl hc], mW (n, T, (hc, hs, hp), t, x) M, 0, 0)) rfl ?_
    refine m_icmp rfl ⟨by omega, by omega⟩ ⟨by omega, by omega⟩ (fun (zc3 : 4 ≤ hc) => absurd zc3 (by omega)) (fun (zc3 : ¬ 4 ≤ hc) => ?_)
    refine m_run 6 (ps' := (39, [some (.inr (.inl 4)), some (.inr (.inl 2))], [.inl n, .inl hc, .inr (.inl 5)], mW (n, T, (hc, hs, hp), t, x) M, 0, 0)) rfl ?_
    refine m_iast rfl rfl (by omega) (by omega) (by decide) ?_
    show m_Sem X 2 (40, [some (.inr (.inl 4)), some (.inr (.inl 2))], [], mW (n, T, (hc, (m_up hs hc n), hp), t, x) M, 0, 0) _
    refine m_run 10 (ps' := (58, [some (.inr (.inl 4)), some (.inr (.inl 2))], [.inl 81, .inl (hc * 81), .inr (.inl 6), .inl 0, .inr (.inl 3)], mW (n, T, (hc, (m_up hs hc n), hp), t, x) M, 0, 0)) rfl ?_
    refine m_acp rfl rfl rfl (by omega) (by omega) (by omega) (by omega) (by omega) (by decide) (by decide) rfl rfl ?_
    show m_Sem X 2 (61, [some (.inr (.inl 4)), some (.inr (.inl 2))], [], mW (n, T, (hc, (m_up hs hc n), (m_cpy T hp 0 (hc * 81) 81)), t, x) M, 0, 0) _
    refine m_run 6 (ps' := (71, [some (.inr (.inl 4)), some (.inr (.inl 2))], [], mW (n, T, ((hc + 1), (m_up hs hc n), (m_cpy T hp 0 (hc * 81) 81)), t, x) M, 0, 0)) rfl ?_
    exact m_ret0 rfl rfl rfl (⟨rfl, by unfold keepH; (first | rw [if_pos (show hc = 4 by omega)] | rw [if_neg (show ¬ hc = 4 by omega)]) <;> rfl⟩)
  · refine m_run 1 (ps' := (9, [some (.inr (.inl 4)), some (.inr (.inl 2))], [.inr (.inl 4)], mW (n, T, (hc, hs, hp), t, x) M, 0, 0)) rfl ?_
    refine m_callVU [] [] rfl rfl ⟨_, rfl, rfl⟩ rfl rfl k_drop ?_
    show m_Sem X 2 (12, [some (.inr (.inl 4)), some (.inr (.inl 2))], [], mW (n, T, (3, (m_cpy hs hs 1 0 3), (m_cpy hp hp 81 0 (3 * 81))), t, x) M, 0, 0) _
    refine m_run 2 (ps' := (16, [some (.inr (.inl 4)), some (.inr (.inl 2))], [.inl 3], mW (n, T, (3, (m_cpy hs hs 1 0 3), (m_cpy hp hp 81 0 (3 * 81))), t, x) M, 0, 0)) rfl ?_
    refine m_if rfl ⟨by omega, by omega⟩ (fun (zc2 : 3 < 0) => absurd zc2 (by omega)) (fun (zc2 : ¬ 3 < 0) => ?_)
    refine m_run 3 (ps' := (24, [some (.inr (.inl 4)), some (.inr (.inl 2))], [.inl 4, .inl 3], mW (n, T, (3, (m_cpy hs hs 1 0 3), (m_cpy hp hp 81 0 (3 * 81))), t, x) M, 0, 0)) rfl ?_
    refine m_icmp rfl ⟨by omega, by omega⟩ ⟨by omega, by omega⟩ (fun (zc3 : 4 ≤ 3) => absurd zc3 (by omega)) (fun (zc3 : ¬ 4 ≤ 3) => ?_)
    refine m_run 6 (ps' := (39, [some (.inr (.inl 4)), some (.inr (.inl 2))], [.inl n, .inl 3, .inr (.inl 5)], mW (n, T, (3, (m_cpy hs hs 1 0 3), (m_cpy hp hp 81 0 (3 * 81))), t, x) M, 0, 0)) rfl ?_
    refine m_iast rfl rfl (by omega) (by omega) (by decide) ?_
    show m_Sem X 2 (40, [some (.inr (.inl 4)), some (.inr (.inl 2))], [], mW (n, T, (3, (m_up (m_cpy hs hs 1 0 3) 3 n), (m_cpy hp hp 81 0 (3 * 81))), t, x) M, 0, 0) _
    refine m_run 10 (ps' := (58, [some (.inr (.inl 4)), some (.inr (.inl 2))], [.inl 81, .inl (3 * 81), .inr (.inl 6), .inl 0, .inr (.inl 3)], mW (n, T, (3, (m_up (m_cpy hs hs 1 0 3) 3 n), (m_cpy hp hp 81 0 (3 * 81))), t, x) M, 0, 0)) rfl ?_
    refine m_acp rfl rfl rfl (by omega) (by omega) (by omega) (by omega) (by omega) (by decide) (by decide) rfl rfl ?_
    show m_Sem X 2 (61, [some (.inr (.inl 4)), some (.inr (.inl 2))], [], mW (n, T, (3, (m_up (m_cpy hs hs 1 0 3) 3 n), (m_cpy T (m_cpy hp hp 81 0 (3 * 81)) 0 (3 * 81) 81)), t, x) M, 0, 0) _
    refine m_run 6 (ps' := (71, [some (.inr (.inl 4)), some (.inr (.inl 2))], [], mW (n, T, ((3 + 1), (m_up (m_cpy hs hs 1 0 3) 3 n), (m_cpy T (m_cpy hp hp 81 0 (3 * 81)) 0 (3 * 81) 81)), t, x) M, 0, 0)) rfl ?_
    exact m_ret0 rfl rfl rfl (⟨rfl, by unfold keepH; (first | rw [if_pos (show hc = 4 by omega)] | rw [if_neg (show ¬ hc = 4 by omega)]) <;> rfl⟩)
def popT (T : Int → Int) (h : HS) : Int → Int := m_cpy h.2.2 T ((h.1 - 1) * 81) 0 81
set_option maxHeartbeats 4000000 in
set_option maxRecDepth 100000 in
theorem k_rest {X : Nat × Nat × (Nat → Int32)} {n : Int} {T : Int → Int} {hc : Int} {hs hp : Int → Int} {t : TS} {x : XS} {M : MS} (h1 : 1 ≤ hc) (h2 : hc ≤ 4) : m_Run X 3 [.inr (.inl 4), .inr (.inl 2)] (mW (n, T, (hc, hs, hp), t, x) M) (m_U (mW (hs (hc - 1), popT T (hc, hs, hp), (hc - 1, hs, hp), t, x) M)) := by
  show m_Sem X 3 (0, [some (.inr (.inl 4)), some (.inr (.inl 2))], [], mW (n, T, (hc, hs, hp), t, x) M, 0, 0) _
  refine m_run 2 (ps' := (4, [some (.inr (.inl 4)), some (.inr (.inl 2))], [.inl hc], mW (n, T, (hc, hs, hp), t, x) M, 0, 0)) rfl ?_
  refine m_if rfl ⟨by omega, by omega⟩ (fun (zc1 : hc ≤ 0) => absurd zc1 (by omega)) (fun (zc1 : ¬ hc ≤ 0) => ?_)
  refine m_run 3 (ps' := (12, [some (.inr (.inl 4)), some (.inr (.inl 2))], [.inl 4, .inl hc], mW (n, T, (hc, hs, hp), t, x) M, 0, 0)) rfl ?_
  refine m_icmp rfl ⟨by omega, by omega⟩ ⟨by omega, by omega⟩ (fun (zc2 : 4 < hc) => absurd zc2 (by omega)) (fun (zc2 : ¬ 4 < hc) => ?_)
  refine m_run 11 (ps' := (34, [some (.inr (.inl 4)), some (.inr (.inl 2))], [.inl (hc - 1), .inr (.inl 5), .inr (.inl 2)], mW (n, T, ((hc - 1), hs, hp), t, x) M, 0, 0)) rfl ?_
  refine m_iald rfl rfl (by omega) (by omega) (by decide) ?_
  refine m_run 11 (ps' := (56, [some (.inr (.inl 4)), some (.inr (.inl 2))], [.inl 81, .inl 0, .inr (.inl 3), .inl ((hc - 1) * 81), .inr (.inl 6)], mW ((hs (hc - 1)), T, ((hc - 1), hs, hp), t, x) M, 0, 0)) rfl ?_
  refine m_acp rfl rfl rfl (by omega) (by omega) (by omega) (by omega) (by omega) (by decide) (by decide) rfl rfl ?_
  show m_Sem X 3 (59, [some (.inr (.inl 4)), some (.inr (.inl 2))], [], mW ((hs (hc - 1)), (m_cpy hp T ((hc - 1) * 81) 0 81), ((hc - 1), hs, hp), t, x) M, 0, 0) _
  exact m_ret0 rfl rfl rfl (⟨rfl, rfl⟩)
def okS (ln : Int) (sg : Int → Int) : Prop := 0 ≤ ln ∧ ln ≤ 60 ∧ ∀ i, 0 ≤ i → i < 60 → 0 ≤ sg i ∧ sg i < 128
def sgS (ln : Int) (sg : Int → Int) (p : Int) : Int := if p < 0 then 0 else if ln ≤ p then 0 else sg p
def digS (ln : Int) (sg : Int → Int) (p : Int) : Int := if sgS ln sg p < 48 then -1 else if 57 < sgS ln sg p then -1 else sgS ln sg p - 48
theorem sgS_in {ln : Int} {sg : Int → Int} (h : okS ln sg) (p : Int) : 0 ≤ sgS ln sg p ∧ sgS ln sg p < 128 := by
  obtain ⟨h1, h2, h3⟩ := h
  unfold sgS
  split
  · omega
  · split
    · omega
    · exact h3 p (by omega) (by omega)
theorem digS_in {ln : Int} {sg : Int → Int} (p : Int) : -1 ≤ digS ln sg p ∧ digS ln sg p ≤ 9 := by
  unfold digS
  split
  · omega
  · split <;> omega
set_option maxHeartbeats 4000000 in
set_option maxRecDepth 100000 in
theorem k_app {X : Nat × Nat × (Nat → Int32)} {n : Int} {T : Int → Int} {h : HS} {ln : Int} {sg : Int → Int} {x : XS} {M : MS} {c : Int} (hS : okS ln sg) (hc : 0 ≤ c) (hc2 : c < 65536) : m_Run X 52 [.inr (.inl 7), .inl c] (mW (n, T, h, (ln, sg), x) M) (m_V (bI (decide (ln < 60))) (mW (n, T, h, (if ln < 60 then (ln + 1, m_up sg ln c) else (ln, sg)), x) M)) := by
  obtain ⟨hs1, hs2, hs3⟩ := id hS
  show m_Sem X 52 (0, [some (.inr (.inl 7)), some (.inl c)], [], mW (n, T, h, (ln, sg), x) M, 0, 0) _
  refine m_run 2 (ps' := (4, [some (.inr (.inl 7)), some (.inl c)], [.inl ln], mW (n, T, h, (ln, sg), x) M, 0, 0)) rfl ?_
  refine m_if rfl ⟨by omega, by omega⟩ (fun (zc1 : ln < 0) => absurd zc1 (by omega)) (fun (zc1 : ¬ ln < 0) => ?_)
  refine m_run 5 (ps' := (16, [some (.inr (.inl 7)), some (.inl c)], [.inl 60, .inl ln], mW (n, T, h, (ln, sg), x) M, 0, 0)) rfl ?_
  refine m_icmp rfl ⟨by omega, by omega⟩ ⟨by omega, by omega⟩ (fun (zc2 : ln < 60) => ?_) (fun (zc2 : ¬ ln < 60) => ?_)
  · refine m_run 5 (ps' := (30, [some (.inr (.inl 7)), some (.inl c)], [.inl c, .inl ln, .inr (.inl 8)], mW (n, T, h, (ln, sg), x) M, 0, 0)) rfl ?_
    refine m_cast rfl rfl (by omega) (by omega) (by decide) (by omega) (by omega) ?_
    show m_Sem X 52 (31, [some (.inr (.inl 7)), some (.inl c)], [], mW (n, T, h, (ln, (m_up sg ln c)), x) M, 0, 0) _
    refine m_run 7 (ps' := (42, [some (.inr (.inl 7)), some (.inl c)], [.inl 1], mW (n, T, h, ((ln + 1), (m_up sg ln c)), x) M, 0, 0)) rfl ?_
    exact m_ret1 rfl (Or.inr ⟨rfl, Or.inr rfl⟩) rfl (m_Vw (by rw [decide_eq_true (show ln < 60 by omega)]; rfl) (by rw [if_pos (show ln < 60 by omega)]))
  · refine m_run 1 (ps' := (20, [some (.inr (.inl 7)), some (.inl c)], [.inl 0], mW (n, T, h, (ln, sg), x) M, 0, 0)) rfl ?_
    exact m_ret1 rfl (Or.inr ⟨rfl, Or.inl rfl⟩) rfl (m_Vw (by rw [decide_eq_false (show ¬ ln < 60 by omega)]; rfl) (by rw [if_neg (show ¬ ln < 60 by omega)]))
set_option maxHeartbeats 4000000 in
set_option maxRecDepth 100000 in
theorem k_sg {X : Nat × Nat × (Nat → Int32)} {n : Int} {T : Int → Int} {h : HS} {ln : Int} {sg : Int → Int} {x : XS} {M : MS} {p : Int} (hS : okS ln sg) (hp : m_R p) : m_Run X 57 [.inr (.inl 7), .inl p] (mW (n, T, h, (ln, sg), x) M) (m_V (sgS ln sg p) (mW (n, T, h, (ln, sg), x) M)) := by
  obtain ⟨hs1, hs2, hs3⟩ := id hS
  show m_Sem X 57 (0, [some (.inr (.inl 7)), some (.inl p)], [], mW (n, T, h, (ln, sg), x) M, 0, 0) _
  refine m_run 1 (ps' := (1, [some (.inr (.inl 7)), some (.inl p)], [.inl p], mW (n, T, h, (ln, sg), x) M, 0, 0)) rfl ?_
  refine m_if rfl hp (fun (zc1 : p < 0) => ?_) (fun (zc1 : ¬ p < 0) => ?_)
  · refine m_run 1 (ps' := (31, [some (.inr (.inl 7)), some (.inl p)], [.inl 0], mW (n, T, h, (ln, sg), x) M, 0, 0)) rfl ?_
    exact m_ret1 rfl (Or.inl rfl) rfl (m_Vi (by unfold sgS; (repeat' split) <;> first | rfl | (exfalso; omega) | omega | simp_all))
  · refine m_run 3 (ps' := (9, [some (.inr (.inl 7)), some (.inl p)], [.inl ln, .inl p], mW (n, T, h, (ln, sg), x) M, 0, 0)) rfl ?_
    refine m_icmp rfl hp ⟨by omega, by omega⟩ (fun (zc2 : ln ≤ p) => ?_) (fun (zc2 : ¬ ln ≤ p) => ?_)
    · refine m_run 1 (ps' := (31, [some (.inr (.inl 7)), some (.inl p)], [.inl 0], mW (n, T, h, (ln, sg), x) M, 0, 0)) rfl ?_
      exact m_ret1 rfl (Or.inl rfl) rfl (m_Vi (by unfold sgS; (repeat' split) <;> first | rfl | (exfalso; omega) | omega | simp_all))
    · refine m_run 4 (ps' := (18, [some (.inr (.inl 7)), some (.inl p)], [.inl 60, .inl p], mW (n, T, h, (ln, sg), x) M, 0, 0)) rfl ?_
      refine m_icmp rfl hp ⟨by omega, by omega⟩ (fun (zc3 : 60 ≤ p) => absurd zc3 (by omega)) (fun (zc3 : ¬ 60 ≤ p) => ?_)
      refine m_run 3 (ps' := (26, [some (.inr (.inl 7)), some (.inl p)], [.inl p, .inr (.inl 8)], mW (n, T, h, (ln, sg), x) M, 0, 0)) rfl ?_
      refine m_cald rfl rfl (by omega) (by omega) (by decide) ?_
      refine m_run 1 (ps' := (31, [some (.inr (.inl 7)), some (.inl p)], [.inl (sg p)], mW (n, T, h, (ln, sg), x) M, 0, 0)) rfl ?_
      exact m_ret1 rfl (Or.inl rfl) rfl (m_Vi (by unfold sgS; (repeat' split) <;> first | rfl | (exfalso; omega) | omega | simp_all))
set_option maxHeartbeats 4000000 in
set_option maxRecDepth 100000 in
theorem k_dg {X : Nat × Nat × (Nat → Int32)} {n : Int} {T : Int → Int} {h : HS} {ln : Int} {sg : Int → Int} {x : XS} {M : MS} {p : Int} (hS : okS ln sg) (hp : m_R p) : m_Run X 56 [.inr (.inl 7), .inl p] (mW (n, T, h, (ln, sg), x) M) (m_V (digS ln sg p) (mW (n, T, h, (ln, sg), x) M)) := by
  obtain ⟨hs1, hs2, hs3⟩ := id hS
  show m_Sem X 56 (0, [some (.inr (.inl 7)), some (.inl p), none], [], mW (n, T, h, (ln, sg), x) M, 0, 0) _
  refine m_run 2 (ps' := (2, [some (.inr (.inl 7)), some (.inl p), none], [.inl p, .inr (.inl 7)], mW (n, T, h, (ln, sg), x) M, 0, 0)) rfl ?_
  refine m_callVF [.inl p] [] rfl rfl ⟨_, rfl, rfl⟩ rfl rfl (k_sg (p := p) hS hp) ?_
  have zt1 := sgS_in hS p
  show m_Sem X 56 (5, [some (.inr (.inl 7)), some (.inl p), none], [.inl (sgS ln sg p)], mW (n, T, h, (ln, sg), x) M, 0, 0) _
  refine m_run 3 (ps' := (9, [some (.inr (.inl 7)), some (.inl p), some (.inl (sgS ln sg p))], [.inl 48, .inl (sgS ln sg p)], mW (n, T, h, (ln, sg), x) M, 0, 0)) rfl ?_
  refine m_icmp rfl ⟨by omega, by omega⟩ ⟨by omega, by omega⟩ (fun (zc1 : (sgS ln sg p) < 48) => ?_) (fun (zc1 : ¬ (sgS ln sg p) < 48) => ?_)
  · refine m_run 1 (ps' := (26, [some (.inr (.inl 7)), some (.inl p), some (.inl (sgS ln sg p))], [.inl (-1)], mW (n, T, h, (ln, sg), x) M, 0, 0)) rfl ?_
    exact m_ret1 rfl (Or.inl rfl) rfl (m_Vi (by unfold digS; (repeat' split) <;> first | rfl | (exfalso; omega) | omega | simp_all))
  · refine m_run 2 (ps' := (15, [some (.inr (.inl 7)), some (.inl p), some (.inl (sgS ln sg p))], [.inl 57, .inl (sgS ln sg p)], mW (n, T, h, (ln, sg), x) M, 0, 0)) rfl ?_
    refine m_icmp rfl ⟨by omega, by omega⟩ ⟨by omega, by omega⟩ (fun (zc2 : 57 < (sgS ln sg p)) => ?_) (fun (zc2 : ¬ 57 < (sgS ln sg p)) => ?_)
    · refine m_run 1 (ps' := (26, [some (.inr (.inl 7)), some (.inl p), some (.inl (sgS ln sg p))], [.inl (-1)], mW (n, T, h, (ln, sg), x) M, 0, 0)) rfl ?_
      exact m_ret1 rfl (Or.inl rfl) rfl (m_Vi (by unfold digS; (repeat' split) <;> first | rfl | (exfalso; omega) | omega | simp_all))
    · refine m_run 4 (ps' := (26, [some (.inr (.inl 7)), some (.inl p), some (.inl (sgS ln sg p))], [.inl ((sgS ln sg p) - 48)], mW (n, T, h, (ln, sg), x) M, 0, 0)) rfl ?_
      exact m_ret1 rfl (Or.inl rfl) rfl (m_Vi (by unfold digS; (repeat' split) <;> first | rfl | (exfalso; omega) | omega | simp_all))
def formS (ln : Int) (sg : Int → Int) (s : Int) : Bool := (decide (digS ln sg s ≠ -1) && decide (digS ln sg (s + 2) ≠ -1) && decide (digS ln sg (s + 4) ≠ -1)) && (decide (sgS ln sg (s + 1) = 42) && decide (sgS ln sg (s + 3) = 61) && decide (sgS ln sg (s + 5) = 59))
def elemS (n ln : Int) (sg : Int → Int) (s : Int) : Bool := inN n (digS ln sg s) && inN n (digS ln sg (s + 2)) && inN n (digS ln sg (s + 4))
def reaS (n ln : Int) (sg : Int → Int) (s : Int) : Int := if formS ln sg s = false then 1 else if elemS n ln sg s = true then 0 else 2
theorem reaS_in (n ln : Int) (sg : Int → Int) (s : Int) : 0 ≤ reaS n ln sg s ∧ reaS n ln sg s ≤ 2 := by
  unfold reaS
  split
  · omega
  · split <;> omega
set_option maxHeartbeats 4000000 in
set_option maxRecDepth 100000 in
theorem k_rea {X : Nat × Nat × (Nat → Int32)} {n : Int} {T : Int → Int} {h : HS} {ln : Int} {sg : Int → Int} {x : XS} {M : MS} {s : Int} (hn : okN n) (hS : okS ln sg) (h1 : 0 ≤ s) (h2 : s ≤ 100) : m_Run X 54 [.inr (.inl 7), .inl s, .inr (.inl 2)] (mW (n, T, h, (ln, sg), x) M) (m_V (reaS n ln sg s) (mW (n, T, h, (ln, sg), x) M)) := by
  obtain ⟨hs1, hs2, hs3⟩ := id hS
  have hl := okN_lo hn
  show m_Sem X 54 (0, [some (.inr (.inl 7)), some (.inl s), some (.inr (.inl 2)), none, none, none, none], [], mW (n, T, h, (ln, sg), x) M, 0, 0) _
  refine m_run 2 (ps' := (2, [some (.inr (.inl 7)), some (.inl s), some (.inr (.inl 2)), none, none, none, none], [.inl s, .inr (.inl 7)], mW (n, T, h, (ln, sg), x) M, 0, 0)) rfl ?_
  refine m_callVF [.inl s] [] rfl rfl ⟨_, rfl, rfl⟩ rfl rfl (k_dg (p := s) hS ⟨by omega, by omega⟩) ?_
  have zt1 := digS_in (ln := ln) (sg := sg) s
  show m_Sem X 54 (5, [some (.inr (.inl 7)), some (.inl s), some (.inr (.inl 2)), none, none, none, none], [.inl (digS ln sg s)], mW (n, T, h, (ln, sg), x) M, 0, 0) _
  refine m_run 5 (ps' := (10, [some (.inr (.inl 7)), some (.inl s), some (.inr (.inl 2)), some (.inl (digS ln sg s)), none, none, none], [.inl (s + 2), .inr (.inl 7)], mW (n, T, h, (ln, sg), x) M, 0, 0)) rfl ?_
  refine m_callVF [.inl (s + 2)] [] rfl rfl ⟨_, rfl, rfl⟩ rfl rfl (k_dg (p := (s + 2)) hS ⟨by omega, by omega⟩) ?_
  have zt2 := digS_in (ln := ln) (sg := sg) (s + 2)
  show m_Sem X 54 (13, [some (.inr (.inl 7)), some (.inl s), some (.inr (.inl 2)), some (.inl (digS ln sg s)), none, none, none], [.inl (digS ln sg (s + 2))], mW (n, T, h, (ln, sg), x) M, 0, 0) _
  refine m_run 5 (ps' := (19, [some (.inr (.inl 7)), some (.inl s), some (.inr (.inl 2)), some (.inl (digS ln sg s)), some (.inl (digS ln sg (s + 2))), none, none], [.inl (s + 4), .inr (.inl 7)], mW (n, T, h, (ln, sg), x) M, 0, 0)) rfl ?_
  refine m_callVF [.inl (s + 4)] [] rfl rfl ⟨_, rfl, rfl⟩ rfl rfl (k_dg (p := (s + 4)) hS ⟨by omega, by omega⟩) ?_
  have zt3 := digS_in (ln := ln) (sg := sg) (s + 4)
  show m_Sem X 54 (22, [some (.inr (.inl 7)), some (.inl s), some (.inr (.inl 2)), some (.inl (digS ln sg s)), some (.inl (digS ln sg (s + 2))), none, none], [.inl (digS ln sg (s + 4))], mW (n, T, h, (ln, sg), x) M, 0, 0) _
  refine m_run 3 (ps' := (26, [some (.inr (.inl 7)), some (.inl s), some (.inr (.inl 2)), some (.inl (digS ln sg s)), some (.inl (digS ln sg (s + 2))), some (.inl (digS ln sg (s + 4))), none], [.inl (-1), .inl (digS ln sg s)], mW (n, T, h, (ln, sg), x) M, 0, 0)) rfl ?_
  refine m_icmp rfl ⟨by omega, by omega⟩ ⟨by omega, by omega⟩ (fun (zc1 : (digS ln sg s) = (-1)) => ?_) (fun (zc1 : ¬ (digS ln sg s) = (-1)) => ?_)
  · refine m_run 3 (ps' := (50, [some (.inr (.inl 7)), some (.inl s), some (.inr (.inl 2)), some (.inl (digS ln sg s)), some (.inl (digS ln sg (s + 2))), some (.inl (digS ln sg (s + 4))), some (.inl 0)], [.inl 0], mW (n, T, h, (ln, sg), x) M, 0, 0)) rfl ?_
    refine m_if rfl ⟨by omega, by omega⟩ (fun (zc2 : 0 = 0) => ?_) (fun (zc2 : ¬ 0 = 0) => absurd zc2 (not_not_intro (by omega)))
    refine m_run 1 (ps' := (90, [some (.inr (.inl 7)), some (.inl s), some (.inr (.inl 2)), some (.inl (digS ln sg s)), some (.inl (digS ln sg (s + 2))), some (.inl (digS ln sg (s + 4))), some (.inl 0)], [.inl 1], mW (n, T, h, (ln, sg), x) M, 0, 0)) rfl ?_
    exact m_ret1 rfl (Or.inl rfl) rfl (m_Vi (by unfold reaS; rw [if_pos (by unfold formS; simp [*])]))
  · refine m_run 2 (ps' := (32, [some (.inr (.inl 7)), some (.inl s), some (.inr (.inl 2)), some (.inl (digS ln sg s)), some (.inl (digS ln sg (s + 2))), some (.inl (digS ln sg (s + 4))), none], [.inl (-1), .inl (digS ln sg (s + 2))], mW (n, T, h, (ln, sg), x) M, 0, 0)) rfl ?_
    refine m_icmp rfl ⟨by omega, by omega⟩ ⟨by omega, by omega⟩ (fun (zc2 : (digS ln sg (s + 2)) = (-1)) => ?_) (fun (zc2 : ¬ (digS ln sg (s + 2)) = (-1)) => ?_)
    · refine m_run 3 (ps' := (50, [some (.inr (.inl 7)), some (.inl s), some (.inr (.inl 2)), some (.inl (digS ln sg s)), some (.inl (digS ln sg (s + 2))), some (.inl (digS ln sg (s + 4))), some (.inl 0)], [.inl 0], mW (n, T, h, (ln, sg), x) M, 0, 0)) rfl ?_
      refine m_if rfl ⟨by omega, by omega⟩ (fun (zc3 : 0 = 0) => ?_) (fun (zc3 : ¬ 0 = 0) => absurd zc3 (not_not_intro (by omega)))
      refine m_run 1 (ps' := (90, [some (.inr (.inl 7)), some (.inl s), some (.inr (.inl 2)), some (.inl (digS ln sg s)), some (.inl (digS ln sg (s + 2))), some (.inl (digS ln sg (s + 4))), some (.inl 0)], [.inl 1], mW (n, T, h, (ln, sg), x) M, 0, 0)) rfl ?_
      exact m_ret1 rfl (Or.inl rfl) rfl (m_Vi (by unfold reaS; rw [if_pos (by unfold formS; simp [*])]))
    · refine m_run 2 (ps' := (38, [some (.inr (.inl 7)), some (.inl s), some (.inr (.inl 2)), some (.inl (digS ln sg s)), some (.inl (digS ln sg (s + 2))), some (.inl (digS ln sg (s + 4))), none], [.inl (-1), .inl (digS ln sg (s + 4))], mW (n, T, h, (ln, sg), x) M, 0, 0)) rfl ?_
      refine m_icmp rfl ⟨by omega, by omega⟩ ⟨by omega, by omega⟩ (fun (zc3 : (digS ln sg (s + 4)) = (-1)) => ?_) (fun (zc3 : ¬ (digS ln sg (s + 4)) = (-1)) => ?_)
      · refine m_run 3 (ps' := (50, [some (.inr (.inl 7)), some (.inl s), some (.inr (.inl 2)), some (.inl (digS ln sg s)), some (.inl (digS ln sg (s + 2))), some (.inl (digS ln sg (s + 4))), some (.inl 0)], [.inl 0], mW (n, T, h, (ln, sg), x) M, 0, 0)) rfl ?_
        refine m_if rfl ⟨by omega, by omega⟩ (fun (zc4 : 0 = 0) => ?_) (fun (zc4 : ¬ 0 = 0) => absurd zc4 (not_not_intro (by omega)))
        refine m_run 1 (ps' := (90, [some (.inr (.inl 7)), some (.inl s), some (.inr (.inl 2)), some (.inl (digS ln sg s)), some (.inl (digS ln sg (s + 2))), some (.inl (digS ln sg (s + 4))), some (.inl 0)], [.inl 1], mW (n, T, h, (ln, sg), x) M, 0, 0)) rfl ?_
        exact m_ret1 rfl (Or.inl rfl) rfl (m_Vi (by unfold reaS; rw [if_pos (by unfold formS; simp [*])]))
      · refine m_run 4 (ps' := (50, [some (.inr (.inl 7)), some (.inl s), some (.inr (.inl 2)), some (.inl (digS ln sg s)), some (.inl (digS ln sg (s + 2))), some (.inl (digS ln sg (s + 4))), some (.inl 1)], [.inl 1], mW (n, T, h, (ln, sg), x) M, 0, 0)) rfl ?_
        refine m_if rfl ⟨by omega, by omega⟩ (fun (zc4 : 1 = 0) => absurd zc4 (by omega)) (fun (zc4 : ¬ 1 = 0) => ?_)
        refine m_run 4 (ps' := (57, [some (.inr (.inl 7)), some (.inl s), some (.inr (.inl 2)), some (.inl (digS ln sg s)), some (.inl (digS ln sg (s + 2))), some (.inl (digS ln sg (s + 4))), some (.inl 1)], [.inl (s + 1), .inr (.inl 7)], mW (n, T, h, (ln, sg), x) M, 0, 0)) rfl ?_
        refine m_callVF [.inl (s + 1)] [] rfl rfl ⟨_, rfl, rfl⟩ rfl rfl (k_sg (p := (s + 1)) hS ⟨by omega, by omega⟩) ?_
        have zt4 := sgS_in hS (s + 1)
        show m_Sem X 54 (60, [some (.inr (.inl 7)), some (.inl s), some (.inr (.inl 2)), some (.inl (digS ln sg s)), some (.inl (digS ln sg (s + 2))), some (.inl (digS ln sg (s + 4))), some (.inl 1)], [.inl (sgS ln sg (s + 1))], mW (n, T, h, (ln, sg), x) M, 0, 0) _
        refine m_run 1 (ps' := (62, [some (.inr (.inl 7)), some (.inl s), some (.inr (.inl 2)), some (.inl (digS ln sg s)), some (.inl (digS ln sg (s + 2))), some (.inl (digS ln sg (s + 4))), some (.inl 1)], [.inl 42, .inl (sgS ln sg (s + 1))], mW (n, T, h, (ln, sg), x) M, 0, 0)) rfl ?_
        refine m_icmp rfl ⟨by omega, by omega⟩ ⟨by omega, by omega⟩ (fun (zc5 : ¬ (sgS ln sg (s + 1)) = 42) => ?_) (fun (zc5 : ¬ ¬ (sgS ln sg (s + 1)) = 42) => ?_)
        · refine m_run 1 (ps' := (90, [some (.inr (.inl 7)), some (.inl s), some (.inr (.inl 2)), some (.inl (digS ln sg s)), some (.inl (digS ln sg (s + 2))), some (.inl (digS ln sg (s + 4))), some (.inl 1)], [.inl 1], mW (n, T, h, (ln, sg), x) M, 0, 0)) rfl ?_
          exact m_ret1 rfl (Or.inl rfl) rfl (m_Vi (by unfold reaS; rw [if_pos (by unfold formS; simp [*])]))
        · replace zc5 : (sgS ln sg (s + 1)) = 42 := Decidable.not_not.mp zc5
          refine m_run 4 (ps' := (69, [some (.inr (.inl 7)), some (.inl s), some (.inr (.inl 2)), some (.inl (digS ln sg s)), some (.inl (digS ln sg (s + 2))), some (.inl (digS ln sg (s + 4))), some (.inl 1)], [.inl (s + 3), .inr (.inl 7)], mW (n, T, h, (ln, sg), x) M, 0, 0)) rfl ?_
          refine m_callVF [.inl (s + 3)] [] rfl rfl ⟨_, rfl, rfl⟩ rfl rfl (k_sg (p := (s + 3)) hS ⟨by omega, by omega⟩) ?_
          have zt5 := sgS_in hS (s + 3)
          show m_Sem X 54 (72, [some (.inr (.inl 7)), some (.inl s), some (.inr (.inl 2)), some (.inl (digS ln sg s)), some (.inl (digS ln sg (s + 2))), some (.inl (digS ln sg (s + 4))), some (.inl 1)], [.inl (sgS ln sg (s + 3))], mW (n, T, h, (ln, sg), x) M, 0, 0) _
          refine m_run 1 (ps' := (74, [some (.inr (.inl 7)), some (.inl s), some (.inr (.inl 2)), some (.inl (digS ln sg s)), some (.inl (digS ln sg (s + 2))), some (.inl (digS ln sg (s + 4))), some (.inl 1)], [.inl 61, .inl (sgS ln sg (s + 3))], mW (n, T, h, (ln, sg), x) M, 0, 0)) rfl ?_
          refine m_icmp rfl ⟨by omega, by omega⟩ ⟨by omega, by omega⟩ (fun (zc6 : ¬ (sgS ln sg (s + 3)) = 61) => ?_) (fun (zc6 : ¬ ¬ (sgS ln sg (s + 3)) = 61) => ?_)
          · refine m_run 1 (ps' := (90, [some (.inr (.inl 7)), some (.inl s), some (.inr (.inl 2)), some (.inl (digS ln sg s)), some (.inl (digS ln sg (s + 2))), some (.inl (digS ln sg (s + 4))), some (.inl 1)], [.inl 1], mW (n, T, h, (ln, sg), x) M, 0, 0)) rfl ?_
            exact m_ret1 rfl (Or.inl rfl) rfl (m_Vi (by unfold reaS; rw [if_pos (by unfold formS; simp [*])]))
          · replace zc6 : (sgS ln sg (s + 3)) = 61 := Decidable.not_not.mp zc6
            refine m_run 4 (ps' := (81, [some (.inr (.inl 7)), some (.inl s), some (.inr (.inl 2)), some (.inl (digS ln sg s)), some (.inl (digS ln sg (s + 2))), some (.inl (digS ln sg (s + 4))), some (.inl 1)], [.inl (s + 5), .inr (.inl 7)], mW (n, T, h, (ln, sg), x) M, 0, 0)) rfl ?_
            refine m_callVF [.inl (s + 5)] [] rfl rfl ⟨_, rfl, rfl⟩ rfl rfl (k_sg (p := (s + 5)) hS ⟨by omega, by omega⟩) ?_
            have zt6 := sgS_in hS (s + 5)
            show m_Sem X 54 (84, [some (.inr (.inl 7)), some (.inl s), some (.inr (.inl 2)), some (.inl (digS ln sg s)), some (.inl (digS ln sg (s + 2))), some (.inl (digS ln sg (s + 4))), some (.inl 1)], [.inl (sgS ln sg (s + 5))], mW (n, T, h, (ln, sg), x) M, 0, 0) _
            refine m_run 1 (ps' := (86, [some (.inr (.inl 7)), some (.inl s), some (.inr (.inl 2)), some (.inl (digS ln sg s)), some (.inl (digS ln sg (s + 2))), some (.inl (digS ln sg (s + 4))), some (.inl 1)], [.inl 59, .inl (sgS ln sg (s + 5))], mW (n, T, h, (ln, sg), x) M, 0, 0)) rfl ?_
            refine m_icmp rfl ⟨by omega, by omega⟩ ⟨by omega, by omega⟩ (fun (zc7 : (sgS ln sg (s + 5)) = 59) => ?_) (fun (zc7 : ¬ (sgS ln sg (s + 5)) = 59) => ?_)
            · refine m_run 2 (ps' := (93, [some (.inr (.inl 7)), some (.inl s), some (.inr (.inl 2)), some (.inl (digS ln sg s)), some (.inl (digS ln sg (s + 2))), some (.inl (digS ln sg (s + 4))), some (.inl 1)], [.inl (digS ln sg s), .inr (.inl 2)], mW (n, T, h, (ln, sg), x) M, 0, 0)) rfl ?_
              refine m_callVF [.inl (digS ln sg s)] [] rfl rfl ⟨_, rfl, rfl⟩ rfl rfl (k_has (e := (digS ln sg s)) hn ⟨by omega, by omega⟩) ?_
              show m_Sem X 54 (96, [some (.inr (.inl 7)), some (.inl s), some (.inr (.inl 2)), some (.inl (digS ln sg s)), some (.inl (digS ln sg (s + 2))), some (.inl (digS ln sg (s + 4))), some (.inl 1)], [.inl (bI (inN n (digS ln sg s)))], mW (n, T, h, (ln, sg), x) M, 0, 0) _
              refine m_if rfl (bI_R (inN n (digS ln sg s))) (fun (zc8 : (bI (inN n (digS ln sg s))) = 0) => ?_) (fun (zc8 : ¬ (bI (inN n (digS ln sg s))) = 0) => ?_)
              · replace zc8 : (inN n (digS ln sg s)) = false := bI_e0.mp zc8
                refine m_run 1 (ps' := (122, [some (.inr (.inl 7)), some (.inl s), some (.inr (.inl 2)), some (.inl (digS ln sg s)), some (.inl (digS ln sg (s + 2))), some (.inl (digS ln sg (s + 4))), some (.inl 1)], [.inl 2], mW (n, T, h, (ln, sg), x) M, 0, 0)) rfl ?_
                exact m_ret1 rfl (Or.inl rfl) rfl (m_Vi (by unfold reaS; rw [if_neg (by unfold formS; simp [*]), if_neg (by unfold elemS; simp [*])]))
              · replace zc8 : (inN n (digS ln sg s)) = true := bI_n0.mp zc8
                have zi1 := inN_i.mp zc8
                refine m_run 2 (ps' := (102, [some (.inr (.inl 7)), some (.inl s), some (.inr (.inl 2)), some (.inl (digS ln sg s)), some (.inl (digS ln sg (s + 2))), some (.inl (digS ln sg (s + 4))), some (.inl 1)], [.inl (digS ln sg (s + 2)), .inr (.inl 2)], mW (n, T, h, (ln, sg), x) M, 0, 0)) rfl ?_
                refine m_callVF [.inl (digS ln sg (s + 2))] [] rfl rfl ⟨_, rfl, rfl⟩ rfl rfl (k_has (e := (digS ln sg (s + 2))) hn ⟨by omega, by omega⟩) ?_
                show m_Sem X 54 (105, [some (.inr (.inl 7)), some (.inl s), some (.inr (.inl 2)), some (.inl (digS ln sg s)), some (.inl (digS ln sg (s + 2))), some (.inl (digS ln sg (s + 4))), some (.inl 1)], [.inl (bI (inN n (digS ln sg (s + 2))))], mW (n, T, h, (ln, sg), x) M, 0, 0) _
                refine m_if rfl (bI_R (inN n (digS ln sg (s + 2)))) (fun (zc9 : (bI (inN n (digS ln sg (s + 2)))) = 0) => ?_) (fun (zc9 : ¬ (bI (inN n (digS ln sg (s + 2)))) = 0) => ?_)
                · replace zc9 : (inN n (digS ln sg (s + 2))) = false := bI_e0.mp zc9
                  refine m_run 1 (ps' := (122, [some (.inr (.inl 7)), some (.inl s), some (.inr (.inl 2)), some (.inl (digS ln sg s)), some (.inl (digS ln sg (s + 2))), some (.inl (digS ln sg (s + 4))), some (.inl 1)], [.inl 2], mW (n, T, h, (ln, sg), x) M, 0, 0)) rfl ?_
                  exact m_ret1 rfl (Or.inl rfl) rfl (m_Vi (by unfold reaS; rw [if_neg (by unfold formS; simp [*]), if_neg (by unfold elemS; simp [*])]))
                · replace zc9 : (inN n (digS ln sg (s + 2))) = true := bI_n0.mp zc9
                  have zi2 := inN_i.mp zc9
                  refine m_run 2 (ps' := (111, [some (.inr (.inl 7)), some (.inl s), some (.inr (.inl 2)), some (.inl (digS ln sg s)), some (.inl (digS ln sg (s + 2))), some (.inl (digS ln sg (s + 4))), some (.inl 1)], [.inl (digS ln sg (s + 4)), .inr (.inl 2)], mW (n, T, h, (ln, sg), x) M, 0, 0)) rfl ?_
                  refine m_callVF [.inl (digS ln sg (s + 4))] [] rfl rfl ⟨_, rfl, rfl⟩ rfl rfl (k_has (e := (digS ln sg (s + 4))) hn ⟨by omega, by omega⟩) ?_
                  show m_Sem X 54 (114, [some (.inr (.inl 7)), some (.inl s), some (.inr (.inl 2)), some (.inl (digS ln sg s)), some (.inl (digS ln sg (s + 2))), some (.inl (digS ln sg (s + 4))), some (.inl 1)], [.inl (bI (inN n (digS ln sg (s + 4))))], mW (n, T, h, (ln, sg), x) M, 0, 0) _
                  refine m_if rfl (bI_R (inN n (digS ln sg (s + 4)))) (fun (zc10 : (bI (inN n (digS ln sg (s + 4)))) = 0) => ?_) (fun (zc10 : ¬ (bI (inN n (digS ln sg (s + 4)))) = 0) => ?_)
                  · replace zc10 : (inN n (digS ln sg (s + 4))) = false := bI_e0.mp zc10
                    refine m_run 1 (ps' := (122, [some (.inr (.inl 7)), some (.inl s), some (.inr (.inl 2)), some (.inl (digS ln sg s)), some (.inl (digS ln sg (s + 2))), some (.inl (digS ln sg (s + 4))), some (.inl 1)], [.inl 2], mW (n, T, h, (ln, sg), x) M, 0, 0)) rfl ?_
                    exact m_ret1 rfl (Or.inl rfl) rfl (m_Vi (by unfold reaS; rw [if_neg (by unfold formS; simp [*]), if_neg (by unfold elemS; simp [*])]))
                  · replace zc10 : (inN n (digS ln sg (s + 4))) = true := bI_n0.mp zc10
                    have zi3 := inN_i.mp zc10
                    refine m_run 2 (ps' := (122, [some (.inr (.inl 7)), some (.inl s), some (.inr (.inl 2)), some (.inl (digS ln sg s)), some (.inl (digS ln sg (s + 2))), some (.inl (digS ln sg (s + 4))), some (.inl 1)], [.inl 0], mW (n, T, h, (ln, sg), x) M, 0, 0)) rfl ?_
                    exact m_ret1 rfl (Or.inl rfl) rfl (m_Vi (by unfold reaS; rw [if_neg (by unfold formS; simp [*]), if_pos (by unfold elemS; simp [*])]))
            · refine m_run 1 (ps' := (90, [some (.inr (.inl 7)), some (.inl s), some (.inr (.inl 2)), some (.inl (digS ln sg s)), some (.inl (digS ln sg (s + 2))), some (.inl (digS ln sg (s + 4))), some (.inl 1)], [.inl 1], mW (n, T, h, (ln, sg), x) M, 0, 0)) rfl ?_
              exact m_ret1 rfl (Or.inl rfl) rfl (m_Vi (by unfold reaS; rw [if_pos (by unfold formS; simp [*])]))
def fplF (n ln : Int) (sg : Int → Int) : Int → Option Int := fun j => if reaS n ln sg (6 * j) = 0 then none else some (6 * j)
def fplS (n ln : Int) (sg : Int → Int) : Option Int := optF (fplF n ln sg) ((ln + 5) / 6).toNat 0
theorem fplS_in {n ln : Int} {sg : Int → Int} {p : Int} (h : fplS n ln sg = some p) : 0 ≤ p ∧ p < ln ∧ p % 6 = 0 := by
  obtain ⟨j, h1, h2, h3, -⟩ := opt_some _ _ h
  unfold fplF at h3
  split at h3
  · cases h3
  · cases h3
    omega
set_option maxHeartbeats 4000000 in
set_option maxRecDepth 100000 in
theorem l_fpl {X : Nat × Nat × (Nat → Int32)} {n : Int} {T : Int → Int} {h : HS} {ln : Int} {sg : Int → Int} {x : XS} {M : MS} {o : Option Int} (hn : okN n) (hS : okS ln sg) : ∀ i : Int, 0 ≤ i → i ≤ (ln + 5) / 6 → ∀ (ho : optF (fplF n ln sg) ((ln + 5) / 6 - i).toNat i = o), m_Sem X 53 (2, [some (.inr (.inl 7)), some (.inr (.inl 2)), some (.inl (6 * i))], [], mW (n, T, h, (ln, sg), x) M, 0, 0) (m_V (oI o) (mW (n, T, h, (ln, sg), x) M)) := by
  obtain ⟨hs1, hs2, hs3⟩ := id hS
  have hl := okN_lo hn
  refine m_down 0 ((ln + 5) / 6) ?_ ?_
  · intro ho
    show m_Sem X 53 (2, [some (.inr (.inl 7)), some (.inr (.inl 2)), some (.inl (6 * ((ln + 5) / 6)))], [], mW (n, T, h, (ln, sg), x) M, 0, 0) _
    refine m_run 3 (ps' := (7, [some (.inr (.inl 7)), some (.inr (.inl 2)), some (.inl (6 * ((ln + 5) / 6)))], [.inl ln, .inl (6 * ((ln + 5) / 6))], mW (n, T, h, (ln, sg), x) M, 0, 0)) rfl ?_
    refine m_icmp rfl ⟨by omega, by omega⟩ ⟨by omega, by omega⟩ (fun (zc1 : ln ≤ (6 * ((ln + 5) / 6))) => ?_) (fun (zc1 : ¬ ln ≤ (6 * ((ln + 5) / 6))) => absurd zc1 (not_not_intro (by omega)))
    refine m_run 1 (ps' := (28, [some (.inr (.inl 7)), some (.inr (.inl 2)), some (.inl (6 * ((ln + 5) / 6)))], [.inl (-1)], mW (n, T, h, (ln, sg), x) M, 0, 0)) rfl ?_
    exact m_ret1 rfl (Or.inl rfl) rfl (m_Vi (by rw [opt_end] at ho; subst ho; rfl))
  · intro i hi1 hi2 ih ho
    refine m_run 3 (ps' := (7, [some (.inr (.inl 7)), some (.inr (.inl 2)), some (.inl (6 * i))], [.inl ln, .inl (6 * i)], mW (n, T, h, (ln, sg), x) M, 0, 0)) rfl ?_
    refine m_icmp rfl ⟨by omega, by omega⟩ ⟨by omega, by omega⟩ (fun (zc1 : ln ≤ (6 * i)) => absurd zc1 (by omega)) (fun (zc1 : ¬ ln ≤ (6 * i)) => ?_)
    refine m_run 3 (ps' := (13, [some (.inr (.inl 7)), some (.inr (.inl 2)), some (.inl (6 * i))], [.inr (.inl 2), .inl (6 * i), .inr (.inl 7)], mW (n, T, h, (ln, sg), x) M, 0, 0)) rfl ?_
    refine m_callVF [.inl (6 * i), .inr (.inl 2)] [] rfl rfl ⟨_, rfl, rfl⟩ rfl rfl (k_rea (s := (6 * i)) hn hS (by omega) (by omega)) ?_
    have zt1 := reaS_in n ln sg (6 * i)
    show m_Sem X 53 (16, [some (.inr (.inl 7)), some (.inr (.inl 2)), some (.inl (6 * i))], [.inl (reaS n ln sg (6 * i))], mW (n, T, h, (ln, sg), x) M, 0, 0) _
    refine m_if rfl ⟨by omega, by omega⟩ (fun (zc2 : (reaS n ln sg (6 * i)) = 0) => ?_) (fun (zc2 : ¬ (reaS n ln sg (6 * i)) = 0) => ?_)
    · refine m_run 2 (ps' := (2, [some (.inr (.inl 7)), some (.inr (.inl 2)), some (.inl ((6 * i) + 6))], [], mW (n, T, h, (ln, sg), x) M, 0, 0)) rfl ?_
      refine m_weak [some (.inr (.inl 7)), some (.inr (.inl 2)), some (.inl ((6 * i) + 6))] ⟨rfl, ⟨rfl, ⟨rfl, trivial⟩⟩⟩ ?_
      have hh : fplF n ln sg i = none := by unfold fplF; rw [if_pos zc2]
      rw [opt_n hi2 hh] at ho
      rw [show 6 * i + 6 = 6 * (i + 1) by omega]
      exact ih ho
    · refine m_run 1 (ps' := (20, [some (.inr (.inl 7)), some (.inr (.inl 2)), some (.inl (6 * i))], [.inl (6 * i)], mW (n, T, h, (ln, sg), x) M, 0, 0)) rfl ?_
      exact m_ret1 rfl (Or.inl rfl) rfl (m_Vi (by
        have hh : fplF n ln sg i = some (6 * i) := by unfold fplF; rw [if_neg zc2]
        rw [opt_s hi2 hh] at ho
        subst ho
        rfl))
set_option maxHeartbeats 4000000 in
set_option maxRecDepth 100000 in
theorem k_fpl {X : Nat × Nat × (Nat → Int32)} {n : Int} {T : Int → Int} {h : HS} {ln : Int} {sg : Int → Int} {x : XS} {M : MS} (hn : okN n) (hS : okS ln sg) : m_Run X 53 [.inr (.inl 7), .inr (.inl 2)] (mW (n, T, h, (ln, sg), x) M) (m_V (oI (fplS n ln sg)) (mW (n, T, h, (ln, sg), x) M)) := by
  obtain ⟨hs1, hs2, hs3⟩ := id hS
  have hl := okN_lo hn
  show m_Sem X 53 (0, [some (.inr (.inl 7)), some (.inr (.inl 2)), none], [], mW (n, T, h, (ln, sg), x) M, 0, 0) _
  refine m_run 2 (ps' := (2, [some (.inr (.inl 7)), some (.inr (.inl 2)), some (.inl 0)], [], mW (n, T, h, (ln, sg), x) M, 0, 0)) rfl ?_
  refine m_weak [some (.inr (.inl 7)), some (.inr (.inl 2)), some (.inl 0)] ⟨rfl, ⟨rfl, ⟨rfl, trivial⟩⟩⟩ ?_
  exact l_fpl hn hS 0 (by omega) (by omega) (by rw [z_sub]; rfl)
theorem oI_fpl {n ln : Int} {sg : Int → Int} (hS : okS ln sg) : -1 ≤ oI (fplS n ln sg) ∧ oI (fplS n ln sg) < 60 := by
  obtain ⟨h1, h2, -⟩ := hS
  cases h : fplS n ln sg with
  | none => exact ⟨by decide, by decide⟩
  | some p =>
    have h3 := fplS_in h
    show -1 ≤ p ∧ p < 60
    omega
/-- the table after the products of the text, from the product number j on -/
def setsT (ln : Int) (sg : Int → Int) : Nat → Int → (Int → Int) → (Int → Int)
  | 0, _, T => T
  | k + 1, j, T => setsT ln sg k (j + 1) (m_up T (9 * digS ln sg (6 * j) + digS ln sg (6 * j + 2)) (digS ln sg (6 * j + 4)))
theorem sets_end (ln : Int) (sg : Int → Int) (n : Int) (T : Int → Int) : setsT ln sg (n - n).toNat n T = T := by rw [nat_end]; rfl
theorem sets_step {ln : Int} {sg : Int → Int} {n i : Int} {T : Int → Int} (h : i < n) : setsT ln sg (n - i).toNat i T = setsT ln sg (n - (i + 1)).toNat (i + 1) (m_up T (9 * digS ln sg (6 * i) + digS ln sg (6 * i + 2)) (digS ln sg (6 * i + 4))) := by rw [nat_step h]; rfl
/-- no product of the text is at fault -/
def goodS (n ln : Int) (sg : Int → Int) : Prop := ∀ j, 0 ≤ j → j < (ln + 5) / 6 → (0 ≤ digS ln sg (6 * j) ∧ digS ln sg (6 * j) < n) ∧ (0 ≤ digS ln sg (6 * j + 2) ∧ digS ln sg (6 * j + 2) < n) ∧ (0 ≤ digS ln sg (6 * j + 4) ∧ digS ln sg (6 * j + 4) < n)
set_option maxHeartbeats 4000000 in
set_option maxRecDepth 100000 in
theorem l_sps {X : Nat × Nat × (Nat → Int32)} {n : Int} {h : HS} {ln : Int} {sg : Int → Int} {x : XS} {M : MS} {T2 : Int → Int} (hn : okN n) (hS : okS ln sg) (hg : goodS n ln sg) : ∀ i : Int, 0 ≤ i → i ≤ (ln + 5) / 6 → ∀ (T : Int → Int) (hT : okT T) (ho : setsT ln sg ((ln + 5) / 6 - i).toNat i T = T2), m_Sem X 55 (4, [some (.inr (.inl 7)), some (.inr (.inl 2)), some (.inl i), some (.inl (6 * i))], [], mW (n, T, h, (ln, sg), x) M, 0, 0) (m_V ((ln + 5) / 6) (mW (n, T2, h, (ln, sg), x) M)) := by
  obtain ⟨hs1, hs2, hs3⟩ := id hS
  have hl := okN_lo hn
  refine m_down 0 ((ln + 5) / 6) ?_ ?_
  · intro T hT ho
    show m_Sem X 55 (4, [some (.inr (.inl 7)), some (.inr (.inl 2)), some (.inl ((ln + 5) / 6)), some (.inl (6 * ((ln + 5) / 6)))], [], mW (n, T, h, (ln, sg), x) M, 0, 0) _
    refine m_run 3 (ps' := (9, [some (.inr (.inl 7)), some (.inr (.inl 2)), some (.inl ((ln + 5) / 6)), some (.inl (6 * ((ln + 5) / 6)))], [.inl ln, .inl (6 * ((ln + 5) / 6))], mW (n, T, h, (ln, sg), x) M, 0, 0)) rfl ?_
    refine m_icmp rfl ⟨by omega, by omega⟩ ⟨by omega, by omega⟩ (fun (zc1 : ln ≤ (6 * ((ln + 5) / 6))) => ?_) (fun (zc1 : ¬ ln ≤ (6 * ((ln + 5) / 6))) => absurd zc1 (not_not_intro (by omega)))
    refine m_run 1 (ps' := (46, [some (.inr (.inl 7)), some (.inr (.inl 2)), some (.inl ((ln + 5) / 6)), some (.inl (6 * ((ln + 5) / 6)))], [.inl ((ln + 5) / 6)], mW (n, T, h, (ln, sg), x) M, 0, 0)) rfl ?_
    exact m_ret1 rfl (Or.inl rfl) rfl (m_Vw rfl (by rw [sets_end] at ho; rw [ho]))
  · intro i hi1 hi2 ih T hT ho
    rw [sets_step hi2] at ho
    have hgi := hg i hi1 hi2
    have hp := hT (9 * digS ln sg (6 * i) + digS ln sg (6 * i + 2)) (by omega) (by omega)
    refine m_run 3 (ps' := (9, [some (.inr (.inl 7)), some (.inr (.inl 2)), some (.inl i), some (.inl (6 * i))], [.inl ln, .inl (6 * i)], mW (n, T, h, (ln, sg), x) M, 0, 0)) rfl ?_
    refine m_icmp rfl ⟨by omega, by omega⟩ ⟨by omega, by omega⟩ (fun (zc1 : ln ≤ (6 * i)) => absurd zc1 (by omega)) (fun (zc1 : ¬ ln ≤ (6 * i)) => ?_)
    refine m_run 3 (ps' := (15, [some (.inr (.inl 7)), some (.inr (.inl 2)), some (.inl i), some (.inl (6 * i))], [.inl (6 * i), .inr (.inl 7), .inr (.inl 2)], mW (n, T, h, (ln, sg), x) M, 0, 0)) rfl ?_
    refine m_callVF [.inl (6 * i)] [.inr (.inl 2)] rfl rfl ⟨_, rfl, rfl⟩ rfl rfl (k_dg (p := (6 * i)) hS ⟨by omega, by omega⟩) ?_
    have zt1 := digS_in (ln := ln) (sg := sg) (6 * i)
    show m_Sem X 55 (18, [some (.inr (.inl 7)), some (.inr (.inl 2)), some (.inl i), some (.inl (6 * i))], [.inl (digS ln sg (6 * i)), .inr (.inl 2)], mW (n, T, h, (ln, sg), x) M, 0, 0) _
    refine m_run 4 (ps' := (22, [some (.inr (.inl 7)), some (.inr (.inl 2)), some (.inl i), some (.inl (6 * i))], [.inl ((6 * i) + 2), .inr (.inl 7), .inl (digS ln sg (6 * i)), .inr (.inl 2)], mW (n, T, h, (ln, sg), x) M, 0, 0)) rfl ?_
    refine m_callVF [.inl ((6 * i) + 2)] [.inl (digS ln sg (6 * i)), .inr (.inl 2)] rfl rfl ⟨_, rfl, rfl⟩ rfl rfl (k_dg (p := ((6 * i) + 2)) hS ⟨by omega, by omega⟩) ?_
    have zt2 := digS_in (ln := ln) (sg := sg) ((6 * i) + 2)
    show m_Sem X 55 (25, [some (.inr (.inl 7)), some (.inr (.inl 2)), some (.inl i), some (.inl (6 * i))], [.inl (digS ln sg ((6 * i) + 2)), .inl (digS ln sg (6 * i)), .inr (.inl 2)], mW (n, T, h, (ln, sg), x) M, 0, 0) _
    refine m_run 4 (ps' := (29, [some (.inr (.inl 7)), some (.inr (.inl 2)), some (.inl i), some (.inl (6 * i))], [.inl ((6 * i) + 4), .inr (.inl 7), .inl (digS ln sg ((6 * i) + 2)), .inl (digS ln sg (6 * i)), .inr (.inl 2)], mW (n, T, h, (ln, sg), x) M, 0, 0)) rfl ?_
    refine m_callVF [.inl ((6 * i) + 4)] [.inl (digS ln sg ((6 * i) + 2)), .inl (digS ln sg (6 * i)), .inr (.inl 2)] rfl rfl ⟨_, rfl, rfl⟩ rfl rfl (k_dg (p := ((6 * i) + 4)) hS ⟨by omega, by omega⟩) ?_
    have zt3 := digS_in (ln := ln) (sg := sg) ((6 * i) + 4)
    show m_Sem X 55 (32, [some (.inr (.inl 7)), some (.inr (.inl 2)), some (.inl i), some (.inl (6 * i))], [.inl (digS ln sg ((6 * i) + 4)), .inl (digS ln sg ((6 * i) + 2)), .inl (digS ln sg (6 * i)), .inr (.inl 2)], mW (n, T, h, (ln, sg), x) M, 0, 0) _
    refine m_callVF [.inl (digS ln sg (6 * i)), .inl (digS ln sg ((6 * i) + 2)), .inl (digS ln sg ((6 * i) + 4))] [] rfl rfl ⟨_, rfl, rfl⟩ rfl rfl (k_set (T := T) (a := (digS ln sg (6 * i))) (b := (digS ln sg ((6 * i) + 2))) (r := (digS ln sg ((6 * i) + 4))) ⟨by omega, by omega⟩ ⟨by omega, by omega⟩ (by omega) (by omega) ⟨by omega, by omega⟩ ⟨by omega, by omega⟩) ?_
    show m_Sem X 55 (35, [some (.inr (.inl 7)), some (.inr (.inl 2)), some (.inl i), some (.inl (6 * i))], [.inl (if T (9 * (digS ln sg (6 * i)) + (digS ln sg ((6 * i) + 2))) = (digS ln sg ((6 * i) + 4)) then 0 else 1)], mW (n, (m_up T (9 * (digS ln sg (6 * i)) + (digS ln sg ((6 * i) + 2))) (digS ln sg ((6 * i) + 4))), h, (ln, sg), x) M, 0, 0) _
    refine m_run 4 (ps' := (4, [some (.inr (.inl 7)), some (.inr (.inl 2)), some (.inl (i + 1)), some (.inl ((6 * i) + 6))], [], mW (n, (m_up T (9 * (digS ln sg (6 * i)) + (digS ln sg ((6 * i) + 2))) (digS ln sg ((6 * i) + 4))), h, (ln, sg), x) M, 0, 0)) rfl ?_
    refine m_weak [some (.inr (.inl 7)), some (.inr (.inl 2)), some (.inl (i + 1)), some (.inl ((6 * i) + 6))] ⟨rfl, ⟨rfl, ⟨rfl, ⟨rfl, trivial⟩⟩⟩⟩ ?_
    rw [show 6 * i + 6 = 6 * (i + 1) by omega]
    exact ih _ (okT_up hT (by omega) (by omega)) ho
set_option maxHeartbeats 4000000 in
set_option maxRecDepth 100000 in
theorem k_sps {X : Nat × Nat × (Nat → Int32)} {n : Int} {T : Int → Int} {h : HS} {ln : Int} {sg : Int → Int} {x : XS} {M : MS} (hn : okN n) (hS : okS ln sg) (hg : goodS n ln sg) (hT : okT T) : m_Run X 55 [.inr (.inl 7), .inr (.inl 2)] (mW (n, T, h, (ln, sg), x) M) (m_V ((ln + 5) / 6) (mW (n, setsT ln sg ((ln + 5) / 6).toNat 0 T, h, (ln, sg), x) M)) := by
  obtain ⟨hs1, hs2, hs3⟩ := id hS
  have hl := okN_lo hn
  show m_Sem X 55 (0, [some (.inr (.inl 7)), some (.inr (.inl 2)), none, none], [], mW (n, T, h, (ln, sg), x) M, 0, 0) _
  refine m_run 4 (ps' := (4, [some (.inr (.inl 7)), some (.inr (.inl 2)), some (.inl 0), some (.inl 0)], [], mW (n, T, h, (ln, sg), x) M, 0, 0)) rfl ?_
  refine m_weak [some (.inr (.inl 7)), some (.inr (.inl 2)), some (.inl 0), some (.inl 0)] ⟨rfl, ⟨rfl, ⟨rfl, ⟨rfl, trivial⟩⟩⟩⟩ ?_
  exact l_sps hn hS hg 0 (by omega) (by omega) T hT (by rw [z_sub])
