def dropH (h : HS) : HS := (3, m_cpy h.2.1 h.2.1 1 0 3, m_cpy h.2.2 h.2.2 81 0 (3 * 81))
def pushH (n : Int) (T : Int → Int) (h : HS) : HS := (h.1 + 1, m_up h.2.1 h.1 n, m_cpy T h.2.2 0 (h.1 * 81) 81)
def keepH (n : Int) (T : Int → Int) (h : HS) : HS := if h.1 = 4 then pushH n T (dropH h) else pushH n T h
set_option maxHeartbeats 4000000 in
set_option maxRecDepth 100000 in
theorem k_drop {X : Nat × Nat × (Nat → Int32)} {n : Int} {T : Int → Int} {hc : Int} {hs hp : Int → Int} {t : TS} {x : XS} {M : MS} : m_Run X 3 [.inr (.inl 4)] (mW (n, T, (hc, hs, hp), t, x) M) (m_U (mW (n, T, dropH (hc, hs, hp), t, x) M)) := by
  show m_Sem X 3 (0, [some (.inr (.inl 4)), none], [], mW (n, T, (hc, hs, hp), t, x) M, 0, 0) _
  refine m_run 9 (ps' := (13, [some (.inr (.inl 4)), some (.inl 3)], [.inl 3, .inl 0, .inr (.inl 5), .inl 1, .inr (.inl 5)], mW (n, T, (hc, hs, hp), t, x) M, 0, 0)) rfl ?_
  refine m_acp rfl rfl rfl (by omega) (by omega) (by omega) (by omega) (by omega) (by decide) (by decide) rfl rfl ?_
  show m_Sem X 3 (16, [some (.inr (.inl 4)), some (.inl 3)], [], mW (n, T, (hc, (m_cpy hs hs 1 0 3), hp), t, x) M, 0, 0) _
  refine m_run 9 (ps' := (31, [some (.inr (.inl 4)), some (.inl 3)], [.inl (3 * 81), .inl 0, .inr (.inl 6), .inl 81, .inr (.inl 6)], mW (n, T, (hc, (m_cpy hs hs 1 0 3), hp), t, x) M, 0, 0)) rfl ?_
  refine m_acp rfl rfl rfl (by omega) (by omega) (by omega) (by omega) (by omega) (by decide) (by decide) rfl rfl ?_
  show m_Sem X 3 (34, [some (.inr (.inl 4)), some (.inl 3)], [], mW (n, T, (hc, (m_cpy hs hs 1 0 3), (m_cpy hp hp 81 0 (3 * 81))), t, x) M, 0, 0) _
  refine m_run 3 (ps' := (39, [some (.inr (.inl 4)), some (.inl 3)], [], mW (n, T, (3, (m_cpy hs hs 1 0 3), (m_cpy hp hp 81 0 (3 * 81))), t, x) M, 0, 0)) rfl ?_
  exact m_ret0 rfl rfl rfl (⟨rfl, rfl⟩)
set_option maxHeartbeats 4000000 in
set_option maxRecDepth 100000 in
theorem k_keep {X : Nat × Nat × (Nat → Int32)} {n : Int} {T : Int → Int} {hc : Int} {hs hp : Int → Int} {t : TS} {x : XS} {M : MS} (hn : m_R n) (h1 : 0 ≤ hc) (h2 : hc ≤ 4) : m_Run X 2 [.inr (.inl 4), .inr (.inl 2)] (mW (n, T, (hc, hs, hp), t, x) M) (m_U (mW (n, T, keepH n T (hc, hs, hp), t, x) M)) := by
  show m_Sem X 2 (0, [some (.inr (.inl 4)), some (.inr (.inl 2))], [], mW (n, T, (hc, hs, hp), t, x) M, 0, 0) _
  refine m_run 3 (ps' := (5, [some (.inr (.inl 4)), some (.inr (.inl 2))], [.inl 4, .inl hc], mW (n, T, (hc, hs, hp), t, x) M, 0, 0)) rfl ?_
  refine m_icmp rfl ⟨by omega, by omega⟩ ⟨by omega, by omega⟩ (fun (zc1 : hc < 4) => ?_) (fun (zc1 : ¬ hc < 4) => ?_)
  · refine m_run 2 (ps' := (16, [some (.inr (.inl 4)), some (.inr (.inl 2))], [.inl hc], mW (n, T, (hc, hs, hp), t, x) M, 0, 0)) rfl ?_
    refine m_if rfl ⟨by omega, by omega⟩ (fun (zc2 : hc < 0) => absurd zc2 (by omega)) (fun (zc2 : ¬ hc < 0) => ?_)
    refine m_run 3 (ps' := (24, [some (.inr (.inl 4)), some (.inr (.inl 2))], [.inl 4, .inl hc], mW (n, T, (hc, hs, hp), t, x) M, 0, 0)) rfl ?_
    refine m_icmp rfl ⟨by omega, by omega⟩ ⟨by omega, by omega⟩ (fun (zc3 : 4 ≤ hc) => absurd zc3 (by omega)) (fun (zc3 : ¬ 4 ≤ hc) => ?_)
    refine m_run 6 (ps' := (39, [some (.inr (.inl 4)), some (.inr (.inl 2))], [.inl n, .inl hc, .inr (.inl 5)], mW (n, T, (hc, hs, hp), t, x) M, 0, 0)) rfl ?_
    refine m_iast rfl rfl (by omega) (by omega) (by decide) ?_
    show m_Sem X 2 (40, [some (.inr (.inl 4)), some (.inr (.inl 2))], [], mW (n, T, (hc, (m_up hs hc n), hp), t, x) M, 0, 0) _
    refine m_run 10 (ps' := (58, [some (.inr (.inl 4)), some (.inr (.inl 2))], [.inl 81, .inl (hc * 81), .inr (.inl 6), .inl 0, .inr (.inl 3)], mW (n, T, (hc, (m_up hs hc n), hp), t, x) M, 0, 0)) rfl ?_
    refine m_acp rfl rfl rfl (by omega) (by omega) (by omega) (by omega) (by omega) (by decide) (by decide) rfl rfl ?_
    show m_Sem X 2 (61, [some (.inr (.inl 4)), some (.inr (.inl 2))], [], mW (n, T, (hc, (m_up hs hc n), (m_cpy T hp 0 (hc * 81) 81)), t, x) M, 0, 0) _
    refine m_run 6 (ps' := (71, [some (.inr (.inl 4)), some (.inr (.inl 2))], [], mW (n, T, ((hc + 1), (m_up hs hc n), (m_cpy T hp 0 (hc * 81) 81)), t, x) M, 0, 0)) rfl ?_
    exact m_ret0 rfl rfl rfl (⟨rfl, by unfold keepH; (first | rw [if_pos (show hc = 4 by omega)] | rw [if_neg (show ¬ hc = 4 by omega)]) <;> rfl⟩)
  · refine m_run 1 (ps' := (9, [some (.inr (.inl 4)), some (.inr (.inl 2))], [.inr (.inl 4)], mW (n, T, (hc, hs, hp), t, x) M, 0, 0)) rfl ?_
    refine m_callVU [] [] rfl rfl ⟨_, rfl, rfl⟩ rfl rfl k_drop ?_
    show m_Sem X 2 (12, [some (.inr (.inl 4)), some (.inr (.inl 2))], [], mW (n, T, (3, (m_cpy hs hs 1 0 3), (m_cpy hp hp 81 0 (3 * 81))), t, x) M, 0, 0) _
    refine m_run 2 (ps' := (16, [some (.inr (.inl 4)), some (.inr (.inl 2))], [.inl 3], mW (n, T, (3, (m_cpy hs hs 1 0 3), (m_cpy hp hp 81 0 (3 * 81))), t, x) M, 0, 0)) rfl ?_
    refine m_if rfl ⟨by omega, by omega⟩ (fun (zc2 : 3 < 0) => absurd zc2 (by omega)) (fun (zc2 : ¬ 3 < 0) => ?_)
    refine m_run 3 (ps' := (24, [some (.inr (.inl 4)), some (.inr (.inl 2))], [.inl 4, .inl 3], mW (n, T, (3, (m_cpy hs hs 1 0 3), (m_cpy hp hp 81 0 (3 * 81))), t, x) M, 0, 0)) rfl ?_
    refine m_icmp rfl ⟨by omega, by omega⟩ ⟨by omega, by omega⟩ (fun (zc3 : 4 ≤ 3) => absurd zc3 (by omega)) (fun (zc3 : ¬ 4 ≤ 3) => ?_)
    refine m_run 6 (ps' := (39, [some (.inr (.inl 4)), some (.inr (.inl 2))], [.inl n, .inl 3, .inr (.inl 5)], mW (n, T, (3, (m_cpy hs hs 1 0 3), (m_cpy hp hp 81 0 (3 * 81))), t, x) M, 0, 0)) rfl ?_
    refine m_iast rfl rfl (by omega) (by omega) (by decide) ?_
    show m_Sem X 2 (40, [some (.inr (.inl 4)), some (.inr (.inl 2))], [], mW (n, T, (3, (m_up (m_cpy hs hs 1 0 3) 3 n), (m_cpy hp hp 81 0 (3 * 81))), t, x) M, 0, 0) _
    refine m_run 10 (ps' := (58, [some (.inr (.inl 4)), some (.inr (.inl 2))], [.inl 81, .inl (3 * 81), .inr (.inl 6), .inl 0, .inr (.inl 3)], mW (n, T, (3, (m_up (m_cpy hs hs 1 0 3) 3 n), (m_cpy hp hp 81 0 (3 * 81))), t, x) M, 0, 0)) rfl ?_
    refine m_acp rfl rfl rfl (by omega) (by omega) (by omega) (by omega) (by omega) (by decide) (by decide) rfl rfl ?_
    show m_Sem X 2 (61, [some (.inr (.inl 4)), some (.inr (.inl 2))], [], mW (n, T, (3, (m_up (m_cpy hs hs 1 0 3) 3 n), (m_cpy T (m_cpy hp hp 81 0 (3 * 81)) 0 (3 * 81) 81)), t, x) M, 0, 0) _
    refine m_run 6 (ps' := (71, [some (.inr (.inl 4)), some (.inr (.inl 2))], [], mW (n, T, ((3 + 1), (m_up (m_cpy hs hs 1 0 3) 3 n), (m_cpy T (m_cpy hp hp 81 0 (3 * 81)) 0 (3 * 81) 81)), t, x) M, 0, 0)) rfl ?_
    exact m_ret0 rfl rfl rfl (⟨rfl, by unfold keepH; (first | rw [if_pos (show hc = 4 by omega)] | rw [if_neg (show ¬ hc = 4 by omega)]) <;> rfl⟩)
