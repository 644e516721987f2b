
def m_stp (mi : Nat) (ps : mPS) : Option mPS := match m_fetch mi ps.1 with
  | some e => m_exec mi e.2.1 e.2.2.1 e.2.2.2.1 e.2.2.2.2 ps.1 ps.2.1 ps.2.2.1 ps.2.2.2.1 ps.2.2.2.2.1 ps.2.2.2.2.2
  | none => none
def m_go : Nat → Nat → mPS → Option mPS
  | 0, _, ps => some ps
  | n + 1, mi, ps => match m_stp mi ps with
    | some q => m_go n mi q
    | none => none
theorem m_step {X : Nat × Nat × (Nat → Int32)} {mi : Nat} {ps ps' : mPS} {Q : Option mPV → mPW → Prop} (h : m_stp mi ps = some ps') (K : m_Sem X mi ps' Q) : m_Sem X mi ps Q := by
  obtain ⟨pc, L, S, w, bc, bs⟩ := ps
  unfold m_stp at h
  split at h
  next e hf =>
    obtain ⟨pc', ins, x, y, z⟩ := e
    have hpc : pc' = pc := (m_fetch_ok hf).1
    subst hpc
    exact m_step1 hf h K
  next => cases h
/-- some plain steps at once -/
theorem m_run {X : Nat × Nat × (Nat → Int32)} {mi : Nat} : ∀ (n : Nat) {ps ps' : mPS} {Q : Option mPV → mPW → Prop}, m_go n mi ps = some ps' → m_Sem X mi ps' Q → m_Sem X mi ps Q
  | 0, ps, ps', Q, h, K => by cases h; exact K
  | n + 1, ps, ps', Q, h, K => by
    unfold m_go at h
    split at h
    next q hq => exact m_step hq (m_run n h K)
    next => cases h
def m_cnd : Jvm.ClassFile.Cond → Int → Int → Prop
  | .eq, a, b => a = b
  | .ne, a, b => ¬ a = b
  | .lt, a, b => a < b
  | .ge, a, b => b ≤ a
  | .gt, a, b => b < a
  | .le, a, b => a ≤ b

set_option maxHeartbeats 4000000 in
set_option maxRecDepth 100000 in
theorem m_if {X : Nat × Nat × (Nat → Int32)} {mi pc x y : Nat} {z : Int} {L : List (Option mPV)} {S : List mPV} {w : mPW} {bc bs : Nat} {Q : Option mPV → mPW → Prop} {cd : Jvm.ClassFile.Cond} {off : Int} {a : Int} (hf : m_fetch mi pc = some (pc, .ifCond cd off, x, y, z)) (ha : m_R a) (kt : m_cnd cd a 0 → m_Sem X mi (x, L, S, w, bc, bs) Q) (kf : ¬ m_cnd cd a 0 → m_Sem X mi (pc + 3, L, S, w, bc, bs) Q) : m_Sem X mi (pc, L, .inl a :: S, w, bc, bs) Q := by
  intro p l e s m args below meth c N0 aI D Qf hC hF H locs ls k n hl hlen hP hS hk hb1 hb2
  have hok := (m_fetch_ok hf).2
  obtain ⟨hx, hb, hml, hown, hts, hin, hK, h0, hX⟩ := id hC
  unfold m_okb at hok
  simp only [Bool.and_eq_true] at hok
  obtain ⟨hok1, hok2⟩ := hok
  dsimp only at hok1 hok2 hl hlen hP hS hk hb1 hb2
  have hdec := of_decide_eq_true hok1
  dsimp only [m_len] at hdec
  have ht := of_decide_eq_true hok2
  cases cd
  case eq =>
    refine lv_if_eq hx hb hdec ht (fun h => ?_) (fun h => ?_)
    · exact kt ((m_R_eq ha m_R_0).mp h) p l e s m args below meth c N0 aI D Qf hC hF H locs ls k n hl hlen hP hS hk hb1 hb2
    · exact kf (fun hc => h ((m_R_eq ha m_R_0).mpr hc)) p l e s m args below meth c N0 aI D Qf hC hF H locs ls k n hl hlen hP hS hk hb1 hb2
  case ne =>
    refine lv_if_ne hx hb hdec ht (fun h => ?_) (fun h => ?_)
    · exact kt (fun hc => h ((m_R_eq ha m_R_0).mpr hc)) p l e s m args below meth c N0 aI D Qf hC hF H locs ls k n hl hlen hP hS hk hb1 hb2
    · exact kf (fun hc => hc ((m_R_eq ha m_R_0).mp h)) p l e s m args below meth c N0 aI D Qf hC hF H locs ls k n hl hlen hP hS hk hb1 hb2
  case lt =>
    refine lv_if_lt hx hb hdec ht (fun h => ?_) (fun h => ?_)
    · exact kt ((m_R_lt ha m_R_0).mp h) p l e s m args below meth c N0 aI D Qf hC hF H locs ls k n hl hlen hP hS hk hb1 hb2
    · exact kf (fun hc => h ((m_R_lt ha m_R_0).mpr hc)) p l e s m args below meth c N0 aI D Qf hC hF H locs ls k n hl hlen hP hS hk hb1 hb2
  case ge =>
    refine lv_if_ge hx hb hdec ht (fun h => ?_) (fun h => ?_)
    · exact kt ((m_R_le m_R_0 ha).mp h) p l e s m args below meth c N0 aI D Qf hC hF H locs ls k n hl hlen hP hS hk hb1 hb2
    · exact kf (fun hc => h ((m_R_le m_R_0 ha).mpr hc)) p l e s m args below meth c N0 aI D Qf hC hF H locs ls k n hl hlen hP hS hk hb1 hb2
  case gt =>
    refine lv_if_gt hx hb hdec ht (fun h => ?_) (fun h => ?_)
    · exact kt ((m_R_lt m_R_0 ha).mp h) p l e s m args below meth c N0 aI D Qf hC hF H locs ls k n hl hlen hP hS hk hb1 hb2
    · exact kf (fun hc => h ((m_R_lt m_R_0 ha).mpr hc)) p l e s m args below meth c N0 aI D Qf hC hF H locs ls k n hl hlen hP hS hk hb1 hb2
  case le =>
    refine lv_if_le hx hb hdec ht (fun h => ?_) (fun h => ?_)
    · exact kt ((m_R_le ha m_R_0).mp h) p l e s m args below meth c N0 aI D Qf hC hF H locs ls k n hl hlen hP hS hk hb1 hb2
    · exact kf (fun hc => h ((m_R_le ha m_R_0).mpr hc)) p l e s m args below meth c N0 aI D Qf hC hF H locs ls k n hl hlen hP hS hk hb1 hb2

set_option maxHeartbeats 4000000 in
set_option maxRecDepth 100000 in
theorem m_icmp {X : Nat × Nat × (Nat → Int32)} {mi pc x y : Nat} {z : Int} {L : List (Option mPV)} {S : List mPV} {w : mPW} {bc bs : Nat} {Q : Option mPV → mPW → Prop} {cd : Jvm.ClassFile.Cond} {off : Int} {a b : Int} (hf : m_fetch mi pc = some (pc, .if_icmp cd off, x, y, z)) (ha : m_R a) (hb0 : m_R b) (kt : m_cnd cd a b → m_Sem X mi (x, L, S, w, bc, bs) Q) (kf : ¬ m_cnd cd a b → m_Sem X mi (pc + 3, L, S, w, bc, bs) Q) : m_Sem X mi (pc, L, .inl b :: .inl a :: S, w, bc, bs) Q := by
  intro p l e s m args below meth c N0 aI D Qf hC hF H locs ls k n hl hlen hP hS hk hb1 hb2
  have hok := (m_fetch_ok hf).2
  obtain ⟨hx, hb, hml, hown, hts, hin, hK, h0, hX⟩ := id hC
  unfold m_okb at hok
  simp only [Bool.and_eq_true] at hok
  obtain ⟨hok1, hok2⟩ := hok
  dsimp only at hok1 hok2 hl hlen hP hS hk hb1 hb2
  have hdec := of_decide_eq_true hok1
  dsimp only [m_len] at hdec
  have ht := of_decide_eq_true hok2
  cases cd
  case eq =>
    refine lv_icmp_eq hx hb hdec ht (fun h => ?_) (fun h => ?_)
    · exact kt ((m_R_eq ha hb0).mp h) p l e s m args below meth c N0 aI D Qf hC hF H locs ls k n hl hlen hP hS hk hb1 hb2
    · exact kf (fun hc => h ((m_R_eq ha hb0).mpr hc)) p l e s m args below meth c N0 aI D Qf hC hF H locs ls k n hl hlen hP hS hk hb1 hb2
  case ne =>
    refine lv_icmp_ne hx hb hdec ht (fun h => ?_) (fun h => ?_)
    · exact kt (fun hc => h ((m_R_eq ha hb0).mpr hc)) p l e s m args below meth c N0 aI D Qf hC hF H locs ls k n hl hlen hP hS hk hb1 hb2
    · exact kf (fun hc => hc ((m_R_eq ha hb0).mp h)) p l e s m args below meth c N0 aI D Qf hC hF H locs ls k n hl hlen hP hS hk hb1 hb2
  case lt =>
    refine lv_icmp_lt hx hb hdec ht (fun h => ?_) (fun h => ?_)
    · exact kt ((m_R_lt ha hb0).mp h) p l e s m args below meth c N0 aI D Qf hC hF H locs ls k n hl hlen hP hS hk hb1 hb2
    · exact kf (fun hc => h ((m_R_lt ha hb0).mpr hc)) p l e s m args below meth c N0 aI D Qf hC hF H locs ls k n hl hlen hP hS hk hb1 hb2
  case ge =>
    refine lv_icmp_ge hx hb hdec ht (fun h => ?_) (fun h => ?_)
    · exact kt ((m_R_le hb0 ha).mp h) p l e s m args below meth c N0 aI D Qf hC hF H locs ls k n hl hlen hP hS hk hb1 hb2
    · exact kf (fun hc => h ((m_R_le hb0 ha).mpr hc)) p l e s m args below meth c N0 aI D Qf hC hF H locs ls k n hl hlen hP hS hk hb1 hb2
  case gt =>
    refine lv_icmp_gt hx hb hdec ht (fun h => ?_) (fun h => ?_)
    · exact kt ((m_R_lt hb0 ha).mp h) p l e s m args below meth c N0 aI D Qf hC hF H locs ls k n hl hlen hP hS hk hb1 hb2
    · exact kf (fun hc => h ((m_R_lt hb0 ha).mpr hc)) p l e s m args below meth c N0 aI D Qf hC hF H locs ls k n hl hlen hP hS hk hb1 hb2
  case le =>
    refine lv_icmp_le hx hb hdec ht (fun h => ?_) (fun h => ?_)
    · exact kt ((m_R_le ha hb0).mp h) p l e s m args below meth c N0 aI D Qf hC hF H locs ls k n hl hlen hP hS hk hb1 hb2
    · exact kf (fun hc => h ((m_R_le ha hb0).mpr hc)) p l e s m args below meth c N0 aI D Qf hC hF H locs ls k n hl hlen hP hS hk hb1 hb2


def m_up (f : Int → Int) (j v : Int) : Int → Int := fun i => if i = j then v else f i
theorem m_up_s (f : Int → Int) (j v : Int) : m_up f j v j = v := if_pos rfl
theorem m_up_n (f : Int → Int) {j i : Int} (v : Int) (h : ¬ i = j) : m_up f j v i = f i := if_neg h
theorem m_up_cv (f : Int → Int) {j : Int} (v : Int) (hj : 0 ≤ j) : (fun i : Nat => Int32.ofInt (m_up f j v (i : Int))) = upd (fun i : Nat => Int32.ofInt (f (i : Int))) j.toNat (Int32.ofInt v) := by
  funext i
  by_cases h : (i : Int) = j
  · have h2 : i = j.toNat := by omega
    rw [h, m_up_s]
    simp [upd, h2]
  · have h2 : ¬ i = j.toNat := by omega
    rw [m_up_n f v h]
    simp [upd, h2]
theorem m_vin {j : Int} {v : Nat} (h1 : 0 ≤ j) (h2 : j < v) (h3 : v < 2147483648) : vp_in (Int32.ofInt j) v := by
  have hR : m_R j := ⟨by omega, by omega⟩
  rw [vp_in_iff, m_R_to hR]
  exact ⟨h1, h2⟩
theorem m_nat {j : Int} {v : Nat} (h1 : 0 ≤ j) (h2 : j < v) (h3 : v < 2147483648) : (Int32.ofInt j).toNatClampNeg = j.toNat := m_R_nat ⟨by omega, by omega⟩

set_option maxHeartbeats 4000000 in
set_option maxRecDepth 100000 in
theorem m_iald {X : Nat × Nat × (Nat → Int32)} {mi pc x y : Nat} {z : Int} {L : List (Option mPV)} {S : List mPV} {w : mPW} {bc bs : Nat} {Q : Option mPV → mPW → Prop} {j : Int} {q v : Nat} {f : Int → Int} (hf : m_fetch mi pc = some (pc, .iaload, x, y, z)) (hw : w[q]? = some (.inl (0, v, .inl f))) (h1 : 0 ≤ j) (h2 : j < v) (h3 : v < 2147483648) (K : m_Sem X mi (pc + 1, L, .inl (f j) :: S, w, bc, bs) Q) : m_Sem X mi (pc, L, .inl j :: .inr (.inl q) :: S, w, bc, bs) Q := by
  intro p l e s m args below meth c N0 aI D Qf hC hF H locs ls k n hl hlen hP hS hk hb1 hb2
  have hok := (m_fetch_ok hf).2
  obtain ⟨hx, hb, hml, hown, hts, hin, hK, h0, hX⟩ := id hC
  unfold m_okb at hok
  simp only [Bool.and_eq_true] at hok
  obtain ⟨hok1, hok2⟩ := hok
  dsimp only at hok1 hok2 hl hlen hP hS hk hb1 hb2
  have hdec := of_decide_eq_true hok1
  dsimp only [m_len] at hdec
  refine va_iald hx hb hK hP q 0 (m_cw_at hw) rfl (m_vin h1 h2 h3) hdec ?_
  rw [m_nat h1 h2 h3]
  have hj : ((j.toNat : Nat) : Int) = j := Int.toNat_of_nonneg h1
  show W p l e _ s m args below meth c H locs k n Qf (F0 m _ ls (.int (Int32.ofInt (f ((j.toNat : Nat) : Int))) :: _))
  rw [hj]
  exact K p l e s m args below meth c N0 aI D Qf hC hF H locs ls k n hl hlen hP hS hk hb1 hb2

set_option maxHeartbeats 4000000 in
set_option maxRecDepth 100000 in
theorem m_cald {X : Nat × Nat × (Nat → Int32)} {mi pc x y : Nat} {z : Int} {L : List (Option mPV)} {S : List mPV} {w : mPW} {bc bs : Nat} {Q : Option mPV → mPW → Prop} {j : Int} {q v : Nat} {f : Int → Int} (hf : m_fetch mi pc = some (pc, .caload, x, y, z)) (hw : w[q]? = some (.inl (1, v, .inl f))) (h1 : 0 ≤ j) (h2 : j < v) (h3 : v < 2147483648) (K : m_Sem X mi (pc + 1, L, .inl (f j) :: S, w, bc, bs) Q) : m_Sem X mi (pc, L, .inl j :: .inr (.inl q) :: S, w, bc, bs) Q := by
  intro p l e s m args below meth c N0 aI D Qf hC hF H locs ls k n hl hlen hP hS hk hb1 hb2
  have hok := (m_fetch_ok hf).2
  obtain ⟨hx, hb, hml, hown, hts, hin, hK, h0, hX⟩ := id hC
  unfold m_okb at hok
  simp only [Bool.and_eq_true] at hok
  obtain ⟨hok1, hok2⟩ := hok
  dsimp only at hok1 hok2 hl hlen hP hS hk hb1 hb2
  have hdec := of_decide_eq_true hok1
  dsimp only [m_len] at hdec
  refine va_cald hx hb hK hP q 1 (m_cw_at hw) rfl (m_vin h1 h2 h3) hdec ?_
  rw [m_nat h1 h2 h3]
  have hj : ((j.toNat : Nat) : Int) = j := Int.toNat_of_nonneg h1
  show W p l e _ s m args below meth c H locs k n Qf (F0 m _ ls (.int (Int32.ofInt (f ((j.toNat : Nat) : Int))) :: _))
  rw [hj]
  exact K p l e s m args below meth c N0 aI D Qf hC hF H locs ls k n hl hlen hP hS hk hb1 hb2

set_option maxHeartbeats 4000000 in
set_option maxRecDepth 100000 in
theorem m_lald {X : Nat × Nat × (Nat → Int32)} {mi pc x y : Nat} {z : Int} {L : List (Option mPV)} {S : List mPV} {w : mPW} {bc bs : Nat} {Q : Option mPV → mPW → Prop} {j : Int} {q v : Nat} {f : Nat → Int64} (hf : m_fetch mi pc = some (pc, .laload, x, y, z)) (hw : w[q]? = some (.inl (2, v, .inr f))) (h1 : 0 ≤ j) (h2 : j < v) (h3 : v < 2147483648) (K : m_Sem X mi (pc + 1, L, .inr (.inr (.long (f j.toNat))) :: S, w, bc, bs) Q) : m_Sem X mi (pc, L, .inl j :: .inr (.inl q) :: S, w, bc, bs) Q := by
  intro p l e s m args below meth c N0 aI D Qf hC hF H locs ls k n hl hlen hP hS hk hb1 hb2
  have hok := (m_fetch_ok hf).2
  obtain ⟨hx, hb, hml, hown, hts, hin, hK, h0, hX⟩ := id hC
  unfold m_okb at hok
  simp only [Bool.and_eq_true] at hok
  obtain ⟨hok1, hok2⟩ := hok
  dsimp only at hok1 hok2 hl hlen hP hS hk hb1 hb2
  have hdec := of_decide_eq_true hok1
  dsimp only [m_len] at hdec
  refine va_lald hx hb hK hP q 2 (m_cw_at hw) rfl (m_vin h1 h2 h3) hdec ?_
  rw [m_nat h1 h2 h3]
  exact K p l e s m args below meth c N0 aI D Qf hC hF H locs ls k n hl hlen hP hS hk hb1 hb2

set_option maxHeartbeats 4000000 in
set_option maxRecDepth 100000 in
theorem m_iast {X : Nat × Nat × (Nat → Int32)} {mi pc x y : Nat} {z : Int} {L : List (Option mPV)} {S : List mPV} {w : mPW} {bc bs : Nat} {Q : Option mPV → mPW → Prop} {j u : Int} {q v : Nat} {f : Int → Int} (hf : m_fetch mi pc = some (pc, .iastore, x, y, z)) (hw : w[q]? = some (.inl (0, v, .inl f))) (h1 : 0 ≤ j) (h2 : j < v) (h3 : v < 2147483648) (K : m_Sem X mi (pc + 1, L, S, w.set q (.inl (0, v, .inl (m_up f j u))), bc, bs) Q) : m_Sem X mi (pc, L, .inl u :: .inl j :: .inr (.inl q) :: S, w, bc, bs) Q := by
  intro p l e s m args below meth c N0 aI D Qf hC hF H locs ls k n hl hlen hP hS hk hb1 hb2
  have hok := (m_fetch_ok hf).2
  obtain ⟨hx, hb, hml, hown, hts, hin, hK, h0, hX⟩ := id hC
  unfold m_okb at hok
  simp only [Bool.and_eq_true] at hok
  obtain ⟨hok1, hok2⟩ := hok
  dsimp only at hok1 hok2 hl hlen hP hS hk hb1 hb2
  have hdec := of_decide_eq_true hok1
  dsimp only [m_len] at hdec
  refine va_iast hx hb hK hP m_cw_D hS q 0 (m_cw_at hw) rfl (m_vin h1 h2 h3) hdec (fun H1 locs1 hP1 _ hS1 => ?_)
  have hP2 : va_P D vwCl (m_cw N0 aI 0 (w.set q (.inl (0, v, .inl (m_up f j u))))) H1 := by
    rw [m_cw_set, Nat.zero_add]
    show va_P D vwCl ((m_cw N0 aI 0 w).set q (N0 + q, .inl (aI 0, v, .inl (fun i : Nat => Int32.ofInt (m_up f j u (i : Int)))))) H1
    rw [m_nat h1 h2 h3] at hP1
    rw [m_up_cv f u h1]
    exact hP1
  exact K p l e s m args below meth c N0 aI D Qf hC hF H1 locs1 ls k n hl hlen hP2 hS1 (by rw [hk, List.length_set]) hb1 hb2

theorem m_chr {u : Int} (h4 : 0 ≤ u) (h5 : u < 65536) : vp_nar .char (Int32.ofInt u) = Int32.ofInt u := by
  have e : Int32.ofInt u = nI u.toNat := by
    rw [nI, ← Int32.ofInt_eq_ofNat, Int.toNat_of_nonneg h4]
  rw [e]
  have h := (pk_charN (q := u.toNat) (by omega)).1
  unfold vp_nar
  rw [h]
set_option maxHeartbeats 4000000 in
set_option maxRecDepth 100000 in
theorem m_cast {X : Nat × Nat × (Nat → Int32)} {mi pc x y : Nat} {z : Int} {L : List (Option mPV)} {S : List mPV} {w : mPW} {bc bs : Nat} {Q : Option mPV → mPW → Prop} {j u : Int} {q v : Nat} {f : Int → Int} (hf : m_fetch mi pc = some (pc, .castore, x, y, z)) (hw : w[q]? = some (.inl (1, v, .inl f))) (h1 : 0 ≤ j) (h2 : j < v) (h3 : v < 2147483648) (h4 : 0 ≤ u) (h5 : u < 65536) (K : m_Sem X mi (pc + 1, L, S, w.set q (.inl (1, v, .inl (m_up f j u))), bc, bs) Q) : m_Sem X mi (pc, L, .inl u :: .inl j :: .inr (.inl q) :: S, w, bc, bs) Q := by
  intro p l e s m args below meth c N0 aI D Qf hC hF H locs ls k n hl hlen hP hS hk hb1 hb2
  have hok := (m_fetch_ok hf).2
  obtain ⟨hx, hb, hml, hown, hts, hin, hK, h0, hX⟩ := id hC
  unfold m_okb at hok
  simp only [Bool.and_eq_true] at hok
  obtain ⟨hok1, hok2⟩ := hok
  dsimp only at hok1 hok2 hl hlen hP hS hk hb1 hb2
  have hdec := of_decide_eq_true hok1
  dsimp only [m_len] at hdec
  refine va_cast hx hb hK hP m_cw_D hS q 1 (m_cw_at hw) rfl (m_vin h1 h2 h3) hdec (fun H1 locs1 hP1 _ hS1 => ?_)
  have hP2 : va_P D vwCl (m_cw N0 aI 0 (w.set q (.inl (1, v, .inl (m_up f j u))))) H1 := by
    rw [m_cw_set, Nat.zero_add]
    show va_P D vwCl ((m_cw N0 aI 0 w).set q (N0 + q, .inl (aI 1, v, .inl (fun i : Nat => Int32.ofInt (m_up f j u (i : Int)))))) H1
    rw [m_nat h1 h2 h3] at hP1
    rw [show vp_nar .char (Int32.ofInt u) = Int32.ofInt u from m_chr h4 h5] at hP1
    rw [m_up_cv f u h1]
    exact hP1
  exact K p l e s m args below meth c N0 aI D Qf hC hF H1 locs1 ls k n hl hlen hP2 hS1 (by rw [hk, List.length_set]) hb1 hb2

set_option maxHeartbeats 4000000 in
set_option maxRecDepth 100000 in
theorem m_last {X : Nat × Nat × (Nat → Int32)} {mi pc x y : Nat} {z : Int} {L : List (Option mPV)} {S : List mPV} {w : mPW} {bc bs : Nat} {Q : Option mPV → mPW → Prop} {j : Int} {u : Int64} {q v : Nat} {f : Nat → Int64} (hf : m_fetch mi pc = some (pc, .lastore, x, y, z)) (hw : w[q]? = some (.inl (2, v, .inr f))) (h1 : 0 ≤ j) (h2 : j < v) (h3 : v < 2147483648) (K : m_Sem X mi (pc + 1, L, S, w.set q (.inl (2, v, .inr (vp_updL f j.toNat u))), bc, bs) Q) : m_Sem X mi (pc, L, .inr (.inr (.long u)) :: .inl j :: .inr (.inl q) :: S, w, bc, bs) Q := by
  intro p l e s m args below meth c N0 aI D Qf hC hF H locs ls k n hl hlen hP hS hk hb1 hb2
  have hok := (m_fetch_ok hf).2
  obtain ⟨hx, hb, hml, hown, hts, hin, hK, h0, hX⟩ := id hC
  unfold m_okb at hok
  simp only [Bool.and_eq_true] at hok
  obtain ⟨hok1, hok2⟩ := hok
  dsimp only at hok1 hok2 hl hlen hP hS hk hb1 hb2
  have hdec := of_decide_eq_true hok1
  dsimp only [m_len] at hdec
  refine va_last hx hb hK hP m_cw_D hS q 2 (m_cw_at hw) rfl (m_vin h1 h2 h3) hdec (fun H1 locs1 hP1 _ hS1 => ?_)
  have hP2 : va_P D vwCl (m_cw N0 aI 0 (w.set q (.inl (2, v, .inr (vp_updL f j.toNat u))))) H1 := by
    rw [m_cw_set, Nat.zero_add]
    show va_P D vwCl ((m_cw N0 aI 0 w).set q (N0 + q, .inl (aI 2, v, .inr (.inl (vp_updL f j.toNat u))))) H1
    rw [m_nat h1 h2 h3] at hP1
    exact hP1
  exact K p l e s m args below meth c N0 aI D Qf hC hF H1 locs1 ls k n hl hlen hP2 hS1 (by rw [hk, List.length_set]) hb1 hb2

set_option maxHeartbeats 4000000 in
set_option maxRecDepth 100000 in
theorem m_div {X : Nat × Nat × (Nat → Int32)} {mi pc x y : Nat} {z : Int} {L : List (Option mPV)} {S : List mPV} {w : mPW} {bc bs : Nat} {Q : Option mPV → mPW → Prop} {a b : Int} (hf : m_fetch mi pc = some (pc, .idiv, x, y, z)) (h1 : 0 ≤ a) (h2 : a < 2147483648) (h3 : 0 < b) (h4 : b < 2147483648) (K : m_Sem X mi (pc + 1, L, .inl (a / b) :: S, w, bc, bs) Q) : m_Sem X mi (pc, L, .inl b :: .inl a :: S, w, bc, bs) Q := by
  intro p l e s m args below meth c N0 aI D Qf hC hF H locs ls k n hl hlen hP hS hk hb1 hb2
  have hok := (m_fetch_ok hf).2
  obtain ⟨hx, hb, hml, hown, hts, hin, hK, h0, hX⟩ := id hC
  unfold m_okb at hok
  simp only [Bool.and_eq_true] at hok
  obtain ⟨hok1, hok2⟩ := hok
  dsimp only at hok1 hok2 hl hlen hP hS hk hb1 hb2
  have hdec := of_decide_eq_true hok1
  dsimp only [m_len] at hdec
  have hne : ¬ Int32.ofInt b = 0 := by
    have h := m_R_eq (x := b) (y := 0) ⟨by omega, h4⟩ m_R_0
    rw [show Int32.ofInt 0 = 0 from rfl] at h
    rw [h]
    omega
  refine lv_idiv hx hb hdec hne ?_
  rw [← m_R_div h1 h2 h3 h4]
  exact K p l e s m args below meth c N0 aI D Qf hC hF H locs ls k n hl hlen hP hS hk hb1 hb2

set_option maxHeartbeats 4000000 in
set_option maxRecDepth 100000 in
theorem m_rem {X : Nat × Nat × (Nat → Int32)} {mi pc x y : Nat} {z : Int} {L : List (Option mPV)} {S : List mPV} {w : mPW} {bc bs : Nat} {Q : Option mPV → mPW → Prop} {a b : Int} (hf : m_fetch mi pc = some (pc, .irem, x, y, z)) (h1 : 0 ≤ a) (h2 : a < 2147483648) (h3 : 0 < b) (h4 : b < 2147483648) (K : m_Sem X mi (pc + 1, L, .inl (a % b) :: S, w, bc, bs) Q) : m_Sem X mi (pc, L, .inl b :: .inl a :: S, w, bc, bs) Q := by
  intro p l e s m args below meth c N0 aI D Qf hC hF H locs ls k n hl hlen hP hS hk hb1 hb2
  have hok := (m_fetch_ok hf).2
  obtain ⟨hx, hb, hml, hown, hts, hin, hK, h0, hX⟩ := id hC
  unfold m_okb at hok
  simp only [Bool.and_eq_true] at hok
  obtain ⟨hok1, hok2⟩ := hok
  dsimp only at hok1 hok2 hl hlen hP hS hk hb1 hb2
  have hdec := of_decide_eq_true hok1
  dsimp only [m_len] at hdec
  have hne : ¬ Int32.ofInt b = 0 := by
    have h := m_R_eq (x := b) (y := 0) ⟨by omega, h4⟩ m_R_0
    rw [show Int32.ofInt 0 = 0 from rfl] at h
    rw [h]
    omega
  refine lv_irem hx hb hdec hne ?_
  rw [← m_R_rem h1 h2 h3 h4]
  exact K p l e s m args below meth c N0 aI D Qf hC hF H locs ls k n hl hlen hP hS hk hb1 hb2

set_option maxHeartbeats 4000000 in
set_option maxRecDepth 100000 in
theorem m_i2c {X : Nat × Nat × (Nat → Int32)} {mi pc x y : Nat} {z : Int} {L : List (Option mPV)} {S : List mPV} {w : mPW} {bc bs : Nat} {Q : Option mPV → mPW → Prop} {a : Int} (hf : m_fetch mi pc = some (pc, .i2c, x, y, z)) (h1 : 0 ≤ a) (h2 : a < 65536) (K : m_Sem X mi (pc + 1, L, .inl a :: S, w, bc, bs) Q) : m_Sem X mi (pc, L, .inl a :: S, w, bc, bs) Q := by
  intro p l e s m args below meth c N0 aI D Qf hC hF H locs ls k n hl hlen hP hS hk hb1 hb2
  have hok := (m_fetch_ok hf).2
  obtain ⟨hx, hb, hml, hown, hts, hin, hK, h0, hX⟩ := id hC
  unfold m_okb at hok
  simp only [Bool.and_eq_true] at hok
  obtain ⟨hok1, hok2⟩ := hok
  dsimp only at hok1 hok2 hl hlen hP hS hk hb1 hb2
  have hdec := of_decide_eq_true hok1
  dsimp only [m_len] at hdec
  have hv : ((Int32.ofInt a).toUInt32 % 65536).toInt32 = Int32.ofInt a := by
    have e : Int32.ofInt a = nI a.toNat := by
      rw [nI, ← Int32.ofInt_eq_ofNat, Int.toNat_of_nonneg h1]
    rw [pk_char, e, pk_tn (by omega), Nat.mod_eq_of_lt (by omega)]
  refine lv_i2c hx hb hdec hv ?_
  exact K p l e s m args below meth c N0 aI D Qf hC hF H locs ls k n hl hlen hP hS hk hb1 hb2

set_option maxHeartbeats 4000000 in
set_option maxRecDepth 100000 in
theorem m_fdiv {X : Nat × Nat × (Nat → Int32)} {mi pc x y : Nat} {z : Int} {L : List (Option mPV)} {S : List mPV} {w : mPW} {bc bs : Nat} {Q : Option mPV → mPW → Prop} {a b v : UInt32} (hf : m_fetch mi pc = some (pc, .fdiv, x, y, z)) (hv : FP.fdiv a b = v) (hn : vf_n32 v) (K : m_Sem X mi (pc + 1, L, .inr (.inr (.float v)) :: S, w, bc, bs) Q) : m_Sem X mi (pc, L, .inr (.inr (.float b)) :: .inr (.inr (.float a)) :: S, w, bc, bs) Q := by
  intro p l e s m args below meth c N0 aI D Qf hC hF H locs ls k n hl hlen hP hS hk hb1 hb2
  have hok := (m_fetch_ok hf).2
  obtain ⟨hx, hb, hml, hown, hts, hin, hK, h0, hX⟩ := id hC
  unfold m_okb at hok
  simp only [Bool.and_eq_true] at hok
  obtain ⟨hok1, hok2⟩ := hok
  dsimp only at hok1 hok2 hl hlen hP hS hk hb1 hb2
  have hdec := of_decide_eq_true hok1
  dsimp only [m_len] at hdec
  subst hv
  refine lv_fdiv hx hb hdec hn ?_
  exact K p l e s m args below meth c N0 aI D Qf hC hF H locs ls k n hl hlen hP hS hk hb1 hb2

set_option maxHeartbeats 4000000 in
set_option maxRecDepth 100000 in
theorem m_fmul {X : Nat × Nat × (Nat → Int32)} {mi pc x y : Nat} {z : Int} {L : List (Option mPV)} {S : List mPV} {w : mPW} {bc bs : Nat} {Q : Option mPV → mPW → Prop} {a b v : UInt32} (hf : m_fetch mi pc = some (pc, .fmul, x, y, z)) (hv : FP.fmul a b = v) (hn : vf_n32 v) (K : m_Sem X mi (pc + 1, L, .inr (.inr (.float v)) :: S, w, bc, bs) Q) : m_Sem X mi (pc, L, .inr (.inr (.float b)) :: .inr (.inr (.float a)) :: S, w, bc, bs) Q := by
  intro p l e s m args below meth c N0 aI D Qf hC hF H locs ls k n hl hlen hP hS hk hb1 hb2
  have hok := (m_fetch_ok hf).2
  obtain ⟨hx, hb, hml, hown, hts, hin, hK, h0, hX⟩ := id hC
  unfold m_okb at hok
  simp only [Bool.and_eq_true] at hok
  obtain ⟨hok1, hok2⟩ := hok
  dsimp only at hok1 hok2 hl hlen hP hS hk hb1 hb2
  have hdec := of_decide_eq_true hok1
  dsimp only [m_len] at hdec
  subst hv
  refine lv_fmul hx hb hdec hn ?_
  exact K p l e s m args below meth c N0 aI D Qf hC hF H locs ls k n hl hlen hP hS hk hb1 hb2

set_option maxHeartbeats 4000000 in
set_option maxRecDepth 100000 in
theorem m_fsub {X : Nat × Nat × (Nat → Int32)} {mi pc x y : Nat} {z : Int} {L : List (Option mPV)} {S : List mPV} {w : mPW} {bc bs : Nat} {Q : Option mPV → mPW → Prop} {a b v : UInt32} (hf : m_fetch mi pc = some (pc, .fsub, x, y, z)) (hv : FP.fsub a b = v) (hn : vf_n32 v) (K : m_Sem X mi (pc + 1, L, .inr (.inr (.float v)) :: S, w, bc, bs) Q) : m_Sem X mi (pc, L, .inr (.inr (.float b)) :: .inr (.inr (.float a)) :: S, w, bc, bs) Q := by
  intro p l e s m args below meth c N0 aI D Qf hC hF H locs ls k n hl hlen hP hS hk hb1 hb2
  have hok := (m_fetch_ok hf).2
  obtain ⟨hx, hb, hml, hown, hts, hin, hK, h0, hX⟩ := id hC
  unfold m_okb at hok
  simp only [Bool.and_eq_true] at hok
  obtain ⟨hok1, hok2⟩ := hok
  dsimp only at hok1 hok2 hl hlen hP hS hk hb1 hb2
  have hdec := of_decide_eq_true hok1
  dsimp only [m_len] at hdec
  subst hv
  refine lv_fsub hx hb hdec hn ?_
  exact K p l e s m args below meth c N0 aI D Qf hC hF H locs ls k n hl hlen hP hS hk hb1 hb2

set_option maxHeartbeats 4000000 in
set_option maxRecDepth 100000 in
theorem m_tabIn {X : Nat × Nat × (Nat → Int32)} {mi pc x y : Nat} {z : Int} {L : List (Option mPV)} {S : List mPV} {w : mPW} {bc bs : Nat} {Q : Option mPV → mPW → Prop} {df lo hi : Int} {offs : Array Int} {a off : Int} {tgt : Nat} (hf : m_fetch mi pc = some (pc, .tableswitch df lo hi offs, x, y, z)) (ha : m_R a) (h1 : lo ≤ a) (h2 : a ≤ hi) (ho : offs[(a - lo).toNat]? = some off) (ht : (pc : Int) + off = (tgt : Int)) (K : m_Sem X mi (tgt, L, S, w, bc, bs) Q) : m_Sem X mi (pc, L, .inl a :: S, w, bc, bs) Q := by
  intro p l e s m args below meth c N0 aI D Qf hC hF H locs ls k n hl hlen hP hS hk hb1 hb2
  have hok := (m_fetch_ok hf).2
  obtain ⟨hx, hb, hml, hown, hts, hin, hK, h0, hX⟩ := id hC
  unfold m_okb at hok
  simp only [Bool.and_eq_true] at hok
  obtain ⟨hok1, hok2⟩ := hok
  dsimp only at hok1 hok2 hl hlen hP hS hk hb1 hb2
  obtain ⟨len, hdec⟩ : ∃ len, decode (m_cd mi) pc = .ok (.tableswitch df lo hi offs, len) := by
    split at hok1
    next i len h =>
      have h2 := of_decide_eq_true hok1
      rw [h2] at h
      exact ⟨len, h⟩
    next => cases hok1
  refine lv_tableIn hx hb hdec (by rw [m_R_to ha]; omega) (by rw [m_R_to ha]; omega) (by rw [m_R_to ha]; exact ho) ht ?_
  exact K p l e s m args below meth c N0 aI D Qf hC hF H locs ls k n hl hlen hP hS hk hb1 hb2

set_option maxHeartbeats 4000000 in
set_option maxRecDepth 100000 in
theorem m_tabOut {X : Nat × Nat × (Nat → Int32)} {mi pc x y : Nat} {z : Int} {L : List (Option mPV)} {S : List mPV} {w : mPW} {bc bs : Nat} {Q : Option mPV → mPW → Prop} {df lo hi : Int} {offs : Array Int} {a : Int} {tgt : Nat} (hf : m_fetch mi pc = some (pc, .tableswitch df lo hi offs, x, y, z)) (ha : m_R a) (h1 : a < lo ∨ hi < a) (ht : (pc : Int) + df = (tgt : Int)) (K : m_Sem X mi (tgt, L, S, w, bc, bs) Q) : m_Sem X mi (pc, L, .inl a :: S, w, bc, bs) Q := by
  intro p l e s m args below meth c N0 aI D Qf hC hF H locs ls k n hl hlen hP hS hk hb1 hb2
  have hok := (m_fetch_ok hf).2
  obtain ⟨hx, hb, hml, hown, hts, hin, hK, h0, hX⟩ := id hC
  unfold m_okb at hok
  simp only [Bool.and_eq_true] at hok
  obtain ⟨hok1, hok2⟩ := hok
  dsimp only at hok1 hok2 hl hlen hP hS hk hb1 hb2
  obtain ⟨len, hdec⟩ : ∃ len, decode (m_cd mi) pc = .ok (.tableswitch df lo hi offs, len) := by
    split at hok1
    next i len h =>
      have h2 := of_decide_eq_true hok1
      rw [h2] at h
      exact ⟨len, h⟩
    next => cases hok1
  refine lv_tableOut hx hb hdec (by rw [m_R_to ha]; exact h1) ht ?_
  exact K p l e s m args below meth c N0 aI D Qf hC hF H locs ls k n hl hlen hP hS hk hb1 hb2

set_option maxHeartbeats 4000000 in
set_option maxRecDepth 100000 in
theorem m_ret1 {X : Nat × Nat × (Nat → Int32)} {mi pc x y : Nat} {z : Int} {L : List (Option mPV)} {w : mPW} {bc bs : Nat} {Q : Option mPV → mPW → Prop} {a : Int} (hf : m_fetch mi pc = some (pc, .ireturn, x, y, z)) (hr : m_rok mi (some (.inl a))) (hc : bc = 0) (K : Q (some (.inl a)) w) : m_Sem X mi (pc, L, [.inl a], w, bc, bs) Q := by
  intro p l e s m args below meth c N0 aI D Qf hC hF H locs ls k n hl hlen hP hS hk hb1 hb2
  have hok := (m_fetch_ok hf).2
  obtain ⟨hx, hb, hml, hown, hts, hin, hK, h0, hX⟩ := id hC
  unfold m_okb at hok
  simp only [Bool.and_eq_true] at hok
  obtain ⟨hok1, hok2⟩ := hok
  dsimp only at hok1 hok2 hl hlen hP hS hk hb1 hb2
  have hdec := of_decide_eq_true hok1
  dsimp only [m_len] at hdec
  subst hc
  have hk2 : k = (m_rm mi).cells := by omega
  subst hk2
  exact hF (some (.inl a)) w H locs n pc ls K hr hP hS (Or.inr hk) (by omega) hdec

set_option maxHeartbeats 4000000 in
set_option maxRecDepth 100000 in
theorem m_ret0 {X : Nat × Nat × (Nat → Int32)} {mi pc x y : Nat} {z : Int} {L : List (Option mPV)} {w : mPW} {bc bs : Nat} {Q : Option mPV → mPW → Prop} (hf : m_fetch mi pc = some (pc, .return_, x, y, z)) (hr : m_rok mi none) (hc : bc = 0) (K : Q none w) : m_Sem X mi (pc, L, [], w, bc, bs) Q := by
  intro p l e s m args below meth c N0 aI D Qf hC hF H locs ls k n hl hlen hP hS hk hb1 hb2
  have hok := (m_fetch_ok hf).2
  obtain ⟨hx, hb, hml, hown, hts, hin, hK, h0, hX⟩ := id hC
  unfold m_okb at hok
  simp only [Bool.and_eq_true] at hok
  obtain ⟨hok1, hok2⟩ := hok
  dsimp only at hok1 hok2 hl hlen hP hS hk hb1 hb2
  have hdec := of_decide_eq_true hok1
  dsimp only [m_len] at hdec
  subst hc
  have hk2 : k = (m_rm mi).cells := by omega
  subst hk2
  exact hF none w H locs n pc ls K hr hP hS (Or.inr hk) (by omega) hdec

set_option maxHeartbeats 4000000 in
set_option maxRecDepth 100000 in
theorem m_retz {X : Nat × Nat × (Nat → Int32)} {pc x y : Nat} {z : Int} {L : List (Option mPV)} {w : mPW} {bc bs : Nat} {Q : Option mPV → mPW → Prop} {a : Int} (hf : m_fetch 0 pc = some (pc, .ireturn, x, y, z)) (hr : m_rok 0 (some (.inl a))) (K : Q (some (.inl a)) w) : m_Sem X 0 (pc, L, [.inl a], w, bc, bs) Q := by
  intro p l e s m args below meth c N0 aI D Qf hC hF H locs ls k n hl hlen hP hS hk hb1 hb2
  have hok := (m_fetch_ok hf).2
  obtain ⟨hx, hb, hml, hown, hts, hin, hK, h0, hX⟩ := id hC
  unfold m_okb at hok
  simp only [Bool.and_eq_true] at hok
  obtain ⟨hok1, hok2⟩ := hok
  dsimp only at hok1 hok2 hl hlen hP hS hk hb1 hb2
  have hdec := of_decide_eq_true hok1
  dsimp only [m_len] at hdec
  refine W.widen (show k ≤ (m_rm 0).cells by omega) (Nat.le_refl n) ?_
  exact hF (some (.inl a)) w H locs n pc ls K hr hP hS (Or.inl rfl) (by omega) hdec


def m_sub : List (Option mPV) → List (Option mPV) → Prop
  | [], [] => True
  | none :: a, _ :: b => m_sub a b
  | some v :: a, o :: b => o = some v ∧ m_sub a b
  | _, _ => False
theorem m_sub_len : ∀ {a b : List (Option mPV)}, m_sub a b → a.length = b.length
  | [], [], _ => rfl
  | none :: a, _ :: b, h => congrArg Nat.succ (m_sub_len (a := a) (b := b) h)
  | some v :: a, o :: b, h => congrArg Nat.succ (m_sub_len (a := a) (b := b) h.2)
  | [], _ :: _, h => h.elim
  | none :: _, [], h => h.elim
  | some _ :: _, [], h => h.elim
theorem m_sub_as {N0 : Nat} : ∀ {a b : List (Option mPV)} {k : Nat}, m_sub a b → ∀ q ∈ m_as N0 k a, q ∈ m_as N0 k b
  | [], [], _, _ => fun _ h => h
  | none :: a, o :: b, k, h => fun q hq => m_as_cons.mpr (Or.inr (m_sub_as (a := a) (b := b) h q hq))
  | some v :: a, o :: b, k, h => fun q hq => by
    rcases m_as_cons.mp hq with ⟨v', h1, h2⟩ | hq
    · exact m_as_cons.mpr (Or.inl ⟨v', by rw [h.1]; exact h1, h2⟩)
    · exact m_as_cons.mpr (Or.inr (m_sub_as (a := a) (b := b) h.2 q hq))
  | [], _ :: _, _, h => h.elim
  | none :: _, [], _, h => h.elim
  | some _ :: _, [], _, h => h.elim

set_option maxHeartbeats 4000000 in
set_option maxRecDepth 100000 in
theorem m_weak {X : Nat × Nat × (Nat → Int32)} {mi pc : Nat} {L : List (Option mPV)} {S : List mPV} {w : mPW} {bc bs : Nat} {Q : Option mPV → mPW → Prop} (L' : List (Option mPV)) (h : m_sub L' L) (K : m_Sem X mi (pc, L', S, w, bc, bs) Q) : m_Sem X mi (pc, L, S, w, bc, bs) Q := by
  intro p l e s m args below meth c N0 aI D Qf hC hF H locs ls k n hl hlen hP hS hk hb1 hb2
  exact K p l e s m args below meth c N0 aI D Qf hC hF H locs ls k n (m_has_mono hl (m_sub_as h)) ((m_sub_len h).trans hlen) hP hS hk hb1 hb2
theorem m_cons {X : Nat × Nat × (Nat → Int32)} {mi : Nat} {ps : mPS} {Q Q' : Option mPV → mPW → Prop} (K : m_Sem X mi ps Q) (h : ∀ r w, Q r w → Q' r w) : m_Sem X mi ps Q' := by
  intro p l e s m args below meth c N0 aI D Qf hC hF H locs ls k n hl hlen hP hS hk hb1 hb2
  exact K p l e s m args below meth c N0 aI D Qf hC (fun r w H locs n pc ls hq => hF r w H locs n pc ls (h r w hq)) H locs ls k n hl hlen hP hS hk hb1 hb2

set_option maxHeartbeats 4000000 in
set_option maxRecDepth 100000 in
theorem m_slen {b Ls : Nat} {xs : Nat → Int32} {mi pc x y : Nat} {z : Int} {L : List (Option mPV)} {S : List mPV} {w : mPW} {bc bs : Nat} {Q : Option mPV → mPW → Prop} (hf : m_fetch mi pc = some (pc, .arraylength, x, y, z)) (K : m_Sem (b, Ls, xs) mi (pc + 1, L, .inl (Ls : Int) :: S, w, bc, bs) Q) : m_Sem (b, Ls, xs) mi (pc, L, .inr (.inr (.ref b)) :: S, w, bc, bs) Q := by
  intro p l e s m args below meth c N0 aI D Qf hC hF H locs ls k n hl hlen hP hS hk hb1 hb2
  have hok := (m_fetch_ok hf).2
  obtain ⟨hx, hb, hml, hown, hts, hin, hK, h0, hX⟩ := id hC
  unfold m_okb at hok
  simp only [Bool.and_eq_true] at hok
  obtain ⟨hok1, hok2⟩ := hok
  dsimp only at hok1 hok2 hl hlen hP hS hk hb1 hb2
  have hdec := of_decide_eq_true hok1
  dsimp only [m_len] at hdec
  obtain ⟨hX1, hX2⟩ := hX
  dsimp only at hX1 hX2
  refine va_slen hx hb hX1 (show b < s.heap.size by omega) (show ¬ N0 ≤ b by omega) hS hdec ?_
  rw [show Int32.ofNat Ls = Int32.ofInt (Ls : Int) from Int32.ofInt_eq_ofNat.symm]
  exact K p l e s m args below meth c N0 aI D Qf hC hF H locs ls k n hl hlen hP hS hk hb1 hb2

set_option maxHeartbeats 4000000 in
set_option maxRecDepth 100000 in
theorem m_sld {b Ls : Nat} {xs : Nat → Int32} {mi pc x y : Nat} {z : Int} {L : List (Option mPV)} {S : List mPV} {w : mPW} {bc bs : Nat} {Q : Option mPV → mPW → Prop} {j : Int} (hf : m_fetch mi pc = some (pc, .iaload, x, y, z)) (h1 : 0 ≤ j) (h2 : j < Ls) (h3 : Ls < 2147483648) (K : m_Sem (b, Ls, xs) mi (pc + 1, L, .inl (xs j.toNat).toInt :: S, w, bc, bs) Q) : m_Sem (b, Ls, xs) mi (pc, L, .inl j :: .inr (.inr (.ref b)) :: S, w, bc, bs) Q := by
  intro p l e s m args below meth c N0 aI D Qf hC hF H locs ls k n hl hlen hP hS hk hb1 hb2
  have hok := (m_fetch_ok hf).2
  obtain ⟨hx, hb, hml, hown, hts, hin, hK, h0, hX⟩ := id hC
  unfold m_okb at hok
  simp only [Bool.and_eq_true] at hok
  obtain ⟨hok1, hok2⟩ := hok
  dsimp only at hok1 hok2 hl hlen hP hS hk hb1 hb2
  have hdec := of_decide_eq_true hok1
  dsimp only [m_len] at hdec
  obtain ⟨hX1, hX2⟩ := hX
  dsimp only at hX1 hX2
  refine va_sld hx hb hX1 (show b < s.heap.size by omega) (show ¬ N0 ≤ b by omega) hS (m_vin h1 h2 h3) hdec ?_
  rw [m_nat h1 h2 h3]
  have hv : xs j.toNat = Int32.ofInt (xs j.toNat).toInt := (Int32.ofInt_toInt _).symm
  rw [hv]
  exact K p l e s m args below meth c N0 aI D Qf hC hF H locs ls k n hl hlen hP hS hk hb1 hb2


def m_cpy (f g : Int → Int) (sp dp n : Int) : Int → Int := fun k => if dp ≤ k ∧ k < dp + n then f (sp + (k - dp)) else g k
theorem m_cpy_cv (f g : Int → Int) {sp dp n : Int} (h1 : 0 ≤ sp) (h2 : 0 ≤ dp) (h3 : 0 ≤ n) : (fun i : Nat => Int32.ofInt (m_cpy f g sp dp n (i : Int))) = va_cpy (fun i : Nat => Int32.ofInt (f (i : Int))) (fun i : Nat => Int32.ofInt (g (i : Int))) sp.toNat dp.toNat n.toNat := by
  funext i
  unfold m_cpy va_cpy
  by_cases h : dp ≤ (i : Int) ∧ (i : Int) < dp + n
  · have h' : dp.toNat ≤ i ∧ i < dp.toNat + n.toNat := by omega
    rw [if_pos h, if_pos h']
    show _ = Int32.ofInt (f ((sp.toNat + (i - dp.toNat) : Nat) : Int))
    rw [show ((sp.toNat + (i - dp.toNat) : Nat) : Int) = sp + ((i : Int) - dp) by omega]
  · have h' : ¬ (dp.toNat ≤ i ∧ i < dp.toNat + n.toNat) := by omega
    rw [if_neg h, if_neg h']

set_option maxHeartbeats 4000000 in
set_option maxRecDepth 100000 in
theorem m_acp {X : Nat × Nat × (Nat → Int32)} {mi pc y : Nat} {z : Int} {L : List (Option mPV)} {S : List mPV} {w : mPW} {bc bs : Nat} {Q : Option mPV → mPW → Prop} {i : Nat} {sp dp v : Int} {q q' a b : Nat} {f g : Int → Int} (hf : m_fetch mi pc = some (pc, .invokestatic i, 1001, y, z)) (hw : w[q]? = some (.inl (0, a, .inl f))) (hw' : w[q']? = some (.inl (0, b, .inl g))) (h1 : 0 ≤ sp) (h2 : 0 ≤ dp) (h3 : 0 ≤ v) (h4 : sp + v ≤ a) (h5 : dp + v ≤ b) (h6 : a < 2147483648) (h7 : b < 2147483648) (hr : Nat.ble 1 (m_rm mi).frames = true) (hr2 : Nat.ble ((S.map m_cat).sum + 18) (m_rm mi).locals = true) (K : m_Sem X mi (pc + 3, L, S, w.set q' (.inl (0, b, .inl (m_cpy f g sp dp v))), bc, bs) Q) : m_Sem X mi (pc, L, .inl v :: .inl dp :: .inr (.inl q') :: .inl sp :: .inr (.inl q) :: S, w, bc, bs) Q := by
  intro p l e s m args below meth c N0 aI D Qf hC hF H locs ls k n hl hlen hP hS hk hb1 hb2
  have hok := (m_fetch_ok hf).2
  obtain ⟨hx, hb, hml, hown, hts, hin, hK, h0, hX⟩ := id hC
  unfold m_okb at hok
  simp only [Bool.and_eq_true] at hok
  obtain ⟨hok1, hok2⟩ := hok
  dsimp only at hok1 hok2 hl hlen hP hS hk hb1 hb2
  have hdec := of_decide_eq_true hok1
  dsimp only [m_len] at hdec
  have hlk := m_mths_w _ (of_decide_eq_true hok2.1)
  have nn : ∀ u : Int, 0 ≤ u → m_R u → ¬ Int32.ofInt u < 0 := by
    intro u hu hR h
    have h8 := (m_R_lt hR m_R_0).mp h
    omega
  have R1 : m_R sp := ⟨by omega, by omega⟩
  have R2 : m_R dp := ⟨by omega, by omega⟩
  have R3 : m_R v := ⟨by omega, by omega⟩
  have hnw : nativeFrameWords "java/lang/System" "arraycopy" 5 ≤ 7 := by decide
  have hr2 := Nat.le_of_ble_eq_true hr2
  refine va_copyi hx hb (by rw [hml]; exact hl.1.symm) hown (hts _ hlk) (hts _ m_acp_w.1) (hts _ m_acp_w.2.1) (hts _ m_acp_w.2.2) hK hP m_cw_D hS q q' 0 0 (m_cw_at hw) (m_cw_at hw') rfl rfl rfl (nn sp h1 R1) (nn dp h2 R2) (nn v h3 R3) (by rw [m_R_nat R1, m_R_nat R3]; omega) (by rw [m_R_nat R2, m_R_nat R3]; omega) (fun _ _ => rfl) (Nat.le_of_ble_eq_true hr) (by rw [m_cats]; omega) hdec (fun H1 locs1 hP1 _ hS1 => ?_)
  have hP2 : va_P D vwCl (m_cw N0 aI 0 (w.set q' (.inl (0, b, .inl (m_cpy f g sp dp v))))) H1 := by
    rw [m_cw_set, Nat.zero_add]
    show va_P D vwCl ((m_cw N0 aI 0 w).set q' (N0 + q', .inl (aI 0, b, .inl (fun i : Nat => Int32.ofInt (m_cpy f g sp dp v (i : Int)))))) H1
    rw [m_cpy_cv f g h1 h2 h3]
    rw [m_R_nat R1, m_R_nat R2, m_R_nat R3] at hP1
    exact hP1
  exact K p l e s m args below meth c N0 aI D Qf hC hF H1 locs1 ls k n hl hlen hP2 hS1 (by rw [hk, List.length_set]) hb1 hb2


def m_ws (mi : Nat) : List Cond := Cond.code (m_y mi) (m_cd mi) (m_ml mi) (m_ret mi) :: lw_g
def m_Pc (X : Nat × Nat × (Nat → Int32)) (N0 : Nat) (aI : Nat → ClassId) (D : va_G) (as : List mPV) (w : mPW) : Array Value → State → Prop := fun a U => a = (as.map (m_cv N0)).toArray ∧ va_P D vwCl (m_cw N0 aI 0 w) U.heap ∧ U.heap.size = N0 + w.length ∧ va_K D vwCl (m_tys aI) U ∧ va_X X.1 X.2.1 X.2.2 U U.heap ∧ X.1 < N0
def m_Qc (mi N0 : Nat) (aI : Nat → ClassId) (D : va_G) (w : mPW) (Q : Option mPV → mPW → Prop) : Array Value → State → Outcome → State → Prop := fun _ st oc t => ∃ (r : Option mPV) (w' : mPW), Q r w' ∧ m_rok mi r ∧ oc = .returned (r.map (m_cv N0)) ∧ va_P D vwCl (m_cw N0 aI 0 w') t.heap ∧ w'.length = w.length + (m_rm mi).cells ∧ va_F (fun q => N0 ≤ q) st t
/-- a method's run from its entry -/
def m_Run (X : Nat × Nat × (Nat → Int32)) (mi : Nat) (as : List mPV) (w : mPW) (Q : Option mPV → mPW → Prop) : Prop := m_Sem X mi (0, m_ent as (m_ml mi), [], w, (m_rm mi).cells, (m_rm mi).slots) Q
theorem m_ofW {l : Launch} {y : MethodName} {ws ws' : List Cond} {rm : Room} {Pc : Array Value → State → Prop} {Qc : Array Value → State → Outcome → State → Prop} {mc ms : Nat} {free : Addr → Prop} {cc : ByteArray} {maxL : Nat} {ret : Option FieldType}
    (hy : plainFor y = true) (hw : ws = Cond.code y cc maxL ret :: ws')
    (body : ∀ p e s m args below meth c s₁, BodyLoose p l y (headSpec ws rm) cc maxL ret e s m args below meth c s₁ → c.maxLocals = maxL → Pc args s →
      W p l e (headSpec ws rm).room s m args below meth c s.heap [] 0 0 (MQ below Qc args s mc ms free) (entryFrame m args maxL)) : Met l y ws rm Pc Qc mc ms free := by
  refine MetFree.of_bodySF (code := cc) (maxLocals := maxL) (ret := ret) hy ?_ ?_
  · intro args s m h hn
    obtain ⟨meth, c, h1, h2, h3, h4, h5, h6, -, -⟩ := Cond.code_spec hn (atoms_spec (ws := ws) h _ (by rw [hw]; exact List.mem_cons_self))
    exact ⟨meth, c, h1, h2, h3, h4, h5, h6⟩
  · intro p e s m args below meth c s₁ B hml hP _
    have hh0 : s₁.heap = s.heap := by rw [B.state]; rfl
    obtain ⟨t, a1, o, b1, b2, b3⟩ := body p e s m args below meth c s₁ B hml hP s₁ hh0 (Stand.of_body B)
    exact ⟨t, o, a1, b1, b2, ⟨b3.1, b3.2⟩⟩
theorem m_blind {X : Nat × Nat × (Nat → Int32)} {N0 : Nat} {aI : Nat → ClassId} {D : va_G} {as : List mPV} {w : mPW} : FrameBlind (m_Pc X N0 aI D as w) := fun a U g mk h => ⟨h.1, h.2.1, h.2.2.1, va_K.moved (u := U) (U := U.calling g mk a) (Vm.Alike.refl U.vm) h.2.2.2.1, va_X.moved (u := U) (U := U.calling g mk a) (Vm.Alike.refl U.vm) h.2.2.2.2.1, h.2.2.2.2.2⟩

set_option maxHeartbeats 4000000 in
set_option maxRecDepth 100000 in
theorem m_met {X : Nat × Nat × (Nat → Int32)} {mi : Nat} {as : List mPV} {w : mPW} {Q : Option mPV → mPW → Prop} (l : Launch) (N0 : Nat) (aI : Nat → ClassId) (D : va_G) (h0 : 0 < mi) (h1 : mi < 62) (hwd : m_words as ≤ m_ml mi) (hr : m_Run X mi as w Q) : Met l (m_y mi) (m_ws mi) (m_rm mi) (m_Pc X N0 aI D as w) (m_Qc mi N0 aI D w Q) (m_rm mi).cells (m_rm mi).slots (fun q => N0 ≤ q) := by
  obtain ⟨g1, g2, g3, g4, g5, g6, ⟨g7, -, -, -⟩, g8⟩ := m_met_w mi h0 h1
  refine m_ofW (cc := m_cd mi) (maxL := m_ml mi) (ret := m_ret mi) g8 rfl ?_
  intro p e s m args below meth c s₁ B hml hv
  obtain ⟨rfl, hP, hz, hK, hX9⟩ := hv
  have hx := B.exec
  have hb := B.bytes
  have hret := B.returns
  have hts0 := atoms_spec (ws := m_ws mi) B.pre
  have hts : ∀ w ∈ lw_g, w.before _ s = true := fun w hw => hts0 w (List.mem_cons_of_mem _ hw)
  have hown : s.vm.findClass (m_y mi).cls = some m.cls := findClass_of_methodNamed B.named
  have hlocks := B.notSynchronized
  rw [g7] at hown
  obtain ⟨ls, hls, hl⟩ := m_entry (N0 := N0) as hwd
  rw [hls]
  refine hr p l e s m _ below meth c N0 aI D _ ⟨hx, hb, hml, hown, hts, fun hk => ?_, hK, by omega, hX9⟩ ?_ s.heap [] ls 0 0 hl (m_ent_len as _ hwd) hP va_S.rf (by show s.heap.size + 0 = N0 + w.length; omega) (by show 0 + (m_rm mi).cells = _; omega) (by show 0 + (m_rm mi).slots ≤ _; omega)
  · rw [(name_of_methodNamed B.named B.method).1]
    exact (g6 hk).1
  · intro r w' H locs n pc ls hq hrok hP' hS hk hn hdec
    have hk : s.heap.size + (m_rm mi).cells = N0 + w'.length := hk.resolve_left (by omega)
    refine W.widen (Nat.le_refl _) hn ?_
    have hend : ∀ t : State, t.heap = H → m_Qc mi N0 aI D w Q (as.map (m_cv N0)).toArray s (.returned (r.map (m_cv N0))) t := fun t ht => ⟨r, w', hq, hrok, rfl, by rw [ht]; exact hP', by omega, hS.F ht⟩
    rcases r with _ | v
    · have hr0 : m_ret mi = none := hrok
      exact W.vret hx hb (hret.trans hr0) (fun t ht _ => hend t ht) hS.2.2 hdec
    · rcases v with a | v
      · rcases (show m_ret mi = some .int ∨ (m_ret mi = some .boolean ∧ (a = 0 ∨ a = 1)) from hrok) with hr1 | ⟨hr1, ha⟩
        · exact W.iret hx hb (hret.trans hr1) (fun t ht _ => hend t ht) hS.2.2 hdec
        · exact W.zret hx hb (hret.trans hr1) (by rcases ha with rfl | rfl <;> rfl) (fun t ht _ => hend t ht) hS.2.2 hdec
      · exact absurd hrok id
theorem m_back {p : Program} {l : Launch} {e : Env} {R : Room} {s : State} {m : MethodId} {args : Array Value} {below : List Frame} {meth : Method} {c : Code} {H : Heap} {locs : List Loc} {k n mc ms pc mi N0 : Nat} {ls : Array Slot} {st0 rest : List Value} {aI : Nat → ClassId} {D : va_G} {w : mPW} {Q' : Option mPV → mPW → Prop} {a : Array Value} {Qf : State → Prop}
    (hr : va_Run p l e R s m args below meth c H locs k n mc ms (F0 m pc ls st0) rest (m_Qc mi N0 aI D w Q' a) (fun q => N0 ≤ q)) (hS : va_S (fun q => N0 ≤ q) s.heap H locs)
    (kk : ∀ (r : Option mPV) (w1 : mPW) (H1 : Heap) (locs1 : List Loc), Q' r w1 → m_rok mi r → va_P D vwCl (m_cw N0 aI 0 w1) H1 → va_S (fun q => N0 ≤ q) s.heap H1 locs1 → w1.length = w.length + (m_rm mi).cells → W p l e R s m args below meth c H1 locs1 (k + mc) (n + ms) Qf (F0 m (pc + 3) ls ((r.map (m_cv N0)).toList ++ rest))) : W p l e R s m args below meth c H locs k n Qf (F0 m pc ls st0) := by
  intro T hT X
  obtain ⟨v, st₀, t, T', L, h0, X', hL, e1, e2, ⟨r, w1, hq1, hrok, hv, hP1, hlen1, hz, hk⟩, st⟩ := hr T hT X
  have hv := Outcome.returned.inj hv
  subst hv
  rw [h0] at hz hk
  obtain ⟨t2, a1, b1⟩ := kk r w1 T'.heap (locs ++ L) hq1 hrok (by rw [e1]; exact hP1) ⟨Nat.le_trans hS.1 (by rw [e1]; exact hz), fun q h1 h2 => by rw [e1, hk q (Nat.lt_of_lt_of_le h1 hS.1) h2]; exact hS.2.1 q h1 h2, fun q hq => by
      rcases List.mem_append.mp hq with h | h
      · exact hS.2.2 q h
      · exact hL q h⟩ hlen1 T' rfl X'
  exact ⟨t2, st t2 a1, b1⟩
theorem m_good {ws : List Cond} (h : ∀ w ∈ ws, w ∈ lw_g) : GoodIn lw_g ws := fun w hw => ⟨h w hw, good_of_word (List.mem_filter.mp (h w hw)).2⟩
theorem m_ws_in {mi : Nat} (h0 : 0 < mi) (h1 : mi < 62) : ∀ w ∈ m_ws mi, w ∈ lw_g := by
  intro w hw
  rcases List.mem_cons.mp hw with rfl | hw
  · exact (m_met_w mi h0 h1).1
  · exact hw
/-- what a call asks of the room, by numbers -/
def m_cok (mi mi' na nw : Nat) (S : List mPV) (bc bs : Nat) : Bool :=
  (Nat.ble ((m_rm mi').frames + 1) (m_rm mi).frames && Nat.ble (8 + (m_ml mi' + 11) + (m_rm mi').locals) (m_rm mi).locals) && ((Nat.ble ((S.map m_cat).sum) 8 && Nat.ble nw (m_ml mi')) && ((Nat.beq na (m_np mi') && Nat.blt mi' 62) && (Nat.ble (m_rm mi').cells bc && Nat.ble (m_rm mi').slots bs)))
theorem m_cok_ok {mi mi' na nw : Nat} {S : List mPV} {bc bs : Nat} (h : m_cok mi mi' na nw S bc bs = true) : ((m_rm mi').frames + 1 ≤ (m_rm mi).frames ∧ 8 + (m_ml mi' + 11) + (m_rm mi').locals ≤ (m_rm mi).locals) ∧ (S.map m_cat).sum ≤ 8 ∧ nw ≤ m_ml mi' ∧ na = m_np mi' ∧ mi' < 62 ∧ (m_rm mi').cells ≤ bc ∧ (m_rm mi').slots ≤ bs := by
  unfold m_cok at h
  simp only [Bool.and_eq_true] at h
  obtain ⟨⟨h1, h2⟩, ⟨h3, h4⟩, ⟨h5, h6⟩, h7, h8⟩ := h
  exact ⟨⟨Nat.le_of_ble_eq_true h1, Nat.le_of_ble_eq_true h2⟩, Nat.le_of_ble_eq_true h3, Nat.le_of_ble_eq_true h4, Nat.eq_of_beq_eq_true h5, Nat.le_of_ble_eq_true h6, Nat.le_of_ble_eq_true h7, Nat.le_of_ble_eq_true h8⟩

set_option maxHeartbeats 4000000 in
set_option maxRecDepth 100000 in
theorem m_callV {X : Nat × Nat × (Nat → Int32)} {mi pc i mi' y : Nat} {z : Int} {L : List (Option mPV)} {S : List mPV} {w : mPW} {bc bs : Nat} {Q Q' : Option mPV → mPW → Prop} {q ci : Nat} {fs : List mPV} (as S' : List mPV) (hf : m_fetch mi pc = some (pc, .invokevirtual i, mi', y, z)) (hw : w[q]? = some (.inr (ci, fs))) (hc : ∃ r : vw_C, vwCl[ci]? = some r ∧ r.1 = (m_y mi').cls) (hst : S = as.reverse ++ .inr (.inl q) :: S') (hok0 : m_cok mi mi' as.length (m_words (.inr (.inl q) :: as)) S' bc bs = true) (C : m_Run X mi' (.inr (.inl q) :: as) w Q') (K : ∀ r w1, Q' r w1 → m_rok mi' r → m_Sem X mi (pc + 3, L, r.toList ++ S', w1, bc - (m_rm mi').cells, bs - (m_rm mi').slots) Q) : m_Sem X mi (pc, L, S, w, bc, bs) Q := by
  intro p l e s m args below meth c N0 aI D Qf hC hF H locs ls k n hl hlen hP hS hk hb1 hb2
  have hok := (m_fetch_ok hf).2
  obtain ⟨hx, hb, hml, hown, hts, hin, hK, h0, hX⟩ := id hC
  unfold m_okb at hok
  simp only [Bool.and_eq_true] at hok
  obtain ⟨hok1, hok2⟩ := hok
  dsimp only at hok1 hok2 hl hlen hP hS hk hb1 hb2
  have hdec := of_decide_eq_true hok1
  dsimp only [m_len] at hdec
  obtain ⟨hr1, hr2, hr3, hr4, hr5, hr6, hr7⟩ := m_cok_ok hok0
  have hlk := m_mths_w _ (of_decide_eq_true hok2.1)
  have hkd := of_decide_eq_true hok2.2
  have hkk : 0 < mi' ∧ m_kind mi' = 1 := ⟨hkd.2.1, hkd.2.2⟩
  have hlk : Cond.methodLink (m_own mi) i (m_y mi') ∈ lw_g := by
    have h : Cond.methodLink (m_own mi) i (m_yy mi') ∈ lw_g := hlk
    unfold m_yy at h
    rw [if_pos (by omega)] at h
    exact h
  obtain ⟨g1, g2, g3, g4, g5, g6, ⟨g7, g9, g10, g11⟩, g8⟩ := m_met_w mi' hkk.1 hr5
  intro T hT XT
  subst hT
  have hz := m_size (X := X) (mi := mi) h0 hP hS hk XT
  suffices key : W p l e (m_rm mi) s m args below meth c T.heap locs k n Qf (F0 m pc ls (S.map (m_cv N0))) from key T rfl XT
  have cw : CallW (m_rm mi) s args (m_own mi) (m_y mi').cls i (m_y mi') (m_cd mi') (m_ml mi') (m_ret mi') (m_ws mi') (m_rm mi') (m_rm mi').cells (m_rm mi').slots (m_np mi') := cwV (m_np mi') hts (m_good (fun w hw => by
    rcases List.mem_append.mp (show w ∈ ([.methodLink (m_own mi) i (m_y mi'), .instanceMethod (m_y mi'), .selects (m_y mi').cls (m_y mi') (m_y mi'), .initialized (m_y mi').cls] : List Cond) ++ m_ws mi' from hw) with hw | hw
    · simp only [List.mem_cons, List.not_mem_nil, or_false] at hw
      rcases hw with rfl | rfl | rfl | rfl
      · exact hlk
      · exact g4 (by omega)
      · exact g5 hkk.2
      · exact g2
    · exact m_ws_in hkk.1 hr5 w hw)) rfl rfl rfl ⟨rfl, g9, g10, g11⟩ hr1
  obtain ⟨rr, hc1, hc2⟩ := hc
  have hrecv := va_recv hK hP hc1 (m_cw_at hw)
  rw [hc2] at hrecv
  refine m_back (va_runV (b := N0 + q) (As := as.map (m_cv N0)) (rest := S'.map (m_cv N0)) ⟨hx, hb, hml, hown, hts⟩ (m_met l N0 aI D hkk.1 hr5 hr3 C) cw ⟨m_blind, hrecv, fun U hU hW => ⟨rfl, by rw [hU]; exact hP, by rw [hU]; exact hz, va_K.moved hW.alike hK, by rw [hU]; exact (hX.1.kept (hS.2.1 _ (Nat.lt_of_lt_of_le hX.2 h0) (Nat.not_le.mpr hX.2))).moved hW.alike, hX.2⟩⟩ rfl (by rw [List.length_map]; exact hr4) hl.1 (by rw [hst]; show (List.map (m_cv N0) _) = _; simp [List.map_append, List.map_reverse, m_cv]) (by show 2 * 0 + _ ≤ 8; rw [m_cats]; omega) hdec ⟨by omega, by omega⟩) hS ?_
  intro r w1 H1 locs1 hq hrok hP1 hS1 hlen1
  have hst2 : (r.map (m_cv N0)).toList ++ S'.map (m_cv N0) = (r.toList ++ S').map (m_cv N0) := by cases r <;> rfl
  rw [hst2]
  exact K r w1 hq hrok p l e s m args below meth c N0 aI D Qf hC hF H1 locs1 ls (k + (m_rm mi').cells) (n + (m_rm mi').slots) hl hlen hP1 hS1 (by rw [hlen1]; omega) (by show k + (m_rm mi').cells + (bc - (m_rm mi').cells) = _; omega) (by show n + (m_rm mi').slots + (bs - (m_rm mi').slots) ≤ _; omega)

set_option maxHeartbeats 4000000 in
set_option maxRecDepth 100000 in
theorem m_callS {X : Nat × Nat × (Nat → Int32)} {mi pc i mi' y : Nat} {z : Int} {L : List (Option mPV)} {S : List mPV} {w : mPW} {bc bs : Nat} {Q Q' : Option mPV → mPW → Prop} (as S' : List mPV) (hf : m_fetch mi pc = some (pc, .invokestatic i, mi', y, z)) (hst : S = as.reverse ++ S') (hok0 : m_cok mi mi' as.length (m_words as) S' bc bs = true) (C : m_Run X mi' as w Q') (K : ∀ r w1, Q' r w1 → m_rok mi' r → m_Sem X mi (pc + 3, L, r.toList ++ S', w1, bc - (m_rm mi').cells, bs - (m_rm mi').slots) Q) : m_Sem X mi (pc, L, S, w, bc, bs) Q := by
  intro p l e s m args below meth c N0 aI D Qf hC hF H locs ls k n hl hlen hP hS hk hb1 hb2
  have hok := (m_fetch_ok hf).2
  obtain ⟨hx, hb, hml, hown, hts, hin, hK, h0, hX⟩ := id hC
  unfold m_okb at hok
  simp only [Bool.and_eq_true] at hok
  obtain ⟨hok1, hok2⟩ := hok
  dsimp only at hok1 hok2 hl hlen hP hS hk hb1 hb2
  have hdec := of_decide_eq_true hok1
  dsimp only [m_len] at hdec
  obtain ⟨hr1, hr2, hr3, hr4, hr5, hr6, hr7⟩ := m_cok_ok hok0
  have hlk := m_mths_w _ (of_decide_eq_true hok2.1)
  have hkd := of_decide_eq_true hok2.2
  have hkk : 0 < mi' ∧ m_kind mi' = 0 := by
    rcases hkd with h | h | h
    · omega
    · omega
    · exact ⟨h.2.1, h.2.2⟩
  have hlk : Cond.methodLink (m_own mi) i (m_y mi') ∈ lw_g := by
    have h : Cond.methodLink (m_own mi) i (m_yy mi') ∈ lw_g := hlk
    unfold m_yy at h
    rw [if_pos (by omega)] at h
    exact h
  obtain ⟨g1, g2, g3, g4, g5, g6, ⟨g7, g9, g10, g11⟩, g8⟩ := m_met_w mi' hkk.1 hr5
  intro T hT XT
  subst hT
  have hz := m_size (X := X) (mi := mi) h0 hP hS hk XT
  suffices key : W p l e (m_rm mi) s m args below meth c T.heap locs k n Qf (F0 m pc ls (S.map (m_cv N0))) from key T rfl XT
  have cw : CallB (m_rm mi) s args (m_own mi) i (m_y mi') (m_cd mi') (m_ml mi') (m_ret mi') (m_ws mi') (m_rm mi') (m_rm mi').cells (m_rm mi').slots (m_np mi') ∧ (Cond.static (m_y mi')).before args s = true := ⟨callB_of (m_np mi') hts (m_good (m_ws_in hkk.1 hr5)) rfl rfl rfl (hts _ g2) (hts _ hlk) ⟨g9, g10, g11⟩ hr1, hts _ (g3 hkk.2)⟩
  refine m_back (va_runS (As := as.map (m_cv N0)) (rest := S'.map (m_cv N0)) ⟨hx, hb, hml, hown, hts⟩ (m_met l N0 aI D hkk.1 hr5 hr3 C) cw ⟨m_blind, fun U hU hW => ⟨rfl, by rw [hU]; exact hP, by rw [hU]; exact hz, va_K.moved hW.alike hK, by rw [hU]; exact (hX.1.kept (hS.2.1 _ (Nat.lt_of_lt_of_le hX.2 h0) (Nat.not_le.mpr hX.2))).moved hW.alike, hX.2⟩⟩ rfl (by rw [List.length_map]; exact hr4) hl.1 (by rw [hst]; show (List.map (m_cv N0) _) = _; simp [List.map_append, List.map_reverse, m_cv]) (by show 2 * 0 + _ ≤ 8; rw [m_cats]; omega) hdec ⟨by omega, by omega⟩) hS ?_
  intro r w1 H1 locs1 hq hrok hP1 hS1 hlen1
  have hst2 : (r.map (m_cv N0)).toList ++ S'.map (m_cv N0) = (r.toList ++ S').map (m_cv N0) := by cases r <;> rfl
  rw [hst2]
  exact K r w1 hq hrok p l e s m args below meth c N0 aI D Qf hC hF H1 locs1 ls (k + (m_rm mi').cells) (n + (m_rm mi').slots) hl hlen hP1 hS1 (by rw [hlen1]; omega) (by show k + (m_rm mi').cells + (bc - (m_rm mi').cells) = _; omega) (by show n + (m_rm mi').slots + (bs - (m_rm mi').slots) ≤ _; omega)

set_option maxHeartbeats 4000000 in
set_option maxRecDepth 100000 in
theorem m_callI {X : Nat × Nat × (Nat → Int32)} {mi pc i mi' y : Nat} {z : Int} {L : List (Option mPV)} {S : List mPV} {w : mPW} {bc bs : Nat} {Q Q' : Option mPV → mPW → Prop} {q : Nat} (as S' : List mPV) (hf : m_fetch mi pc = some (pc, .invokespecial i, mi', y, z)) (hst : S = as.reverse ++ .inr (.inl q) :: S') (hok0 : m_cok mi mi' as.length (m_words (.inr (.inl q) :: as)) S' bc bs = true) (C : m_Run X mi' (.inr (.inl q) :: as) w Q') (K : ∀ r w1, Q' r w1 → m_rok mi' r → m_Sem X mi (pc + 3, L, r.toList ++ S', w1, bc - (m_rm mi').cells, bs - (m_rm mi').slots) Q) : m_Sem X mi (pc, L, S, w, bc, bs) Q := by
  intro p l e s m args below meth c N0 aI D Qf hC hF H locs ls k n hl hlen hP hS hk hb1 hb2
  have hok := (m_fetch_ok hf).2
  obtain ⟨hx, hb, hml, hown, hts, hin, hK, h0, hX⟩ := id hC
  unfold m_okb at hok
  simp only [Bool.and_eq_true] at hok
  obtain ⟨hok1, hok2⟩ := hok
  dsimp only at hok1 hok2 hl hlen hP hS hk hb1 hb2
  have hdec := of_decide_eq_true hok1
  dsimp only [m_len] at hdec
  obtain ⟨hr1, hr2, hr3, hr4, hr5, hr6, hr7⟩ := m_cok_ok hok0
  have hlk := m_mths_w _ (of_decide_eq_true hok2.1)
  have hkd := of_decide_eq_true hok2.2
  have hkk : 0 < mi' ∧ m_kind mi' = 2 := by
    rcases hkd with h | h
    · omega
    · exact ⟨h.2.1, h.2.2⟩
  have hlk : Cond.methodLink (m_own mi) i (m_y mi') ∈ lw_g := by
    have h : Cond.methodLink (m_own mi) i (m_yy mi') ∈ lw_g := hlk
    unfold m_yy at h
    rw [if_pos (by omega)] at h
    exact h
  obtain ⟨g1, g2, g3, g4, g5, g6, ⟨g7, g9, g10, g11⟩, g8⟩ := m_met_w mi' hkk.1 hr5
  intro T hT XT
  subst hT
  have hz := m_size (X := X) (mi := mi) h0 hP hS hk XT
  suffices key : W p l e (m_rm mi) s m args below meth c T.heap locs k n Qf (F0 m pc ls (S.map (m_cv N0))) from key T rfl XT
  have hret := (g6 hkk.2).2
  have cw : CallB (m_rm mi) s args (m_own mi) i (m_y mi') (m_cd mi') (m_ml mi') none (m_ws mi') (m_rm mi') (m_rm mi').cells (m_rm mi').slots (m_np mi') ∧ (m_y mi').name = "<init>" ∧ (Cond.instanceMethod (m_y mi')).before args s = true := cwI (m_np mi') hts (m_good (m_ws_in hkk.1 hr5)) (by unfold m_ws; rw [hret]) rfl rfl (hts _ g2) (hts _ hlk) (hts _ (g4 (by omega))) (g6 hkk.2).1 ⟨g9, g10, g11⟩ hr1
  refine m_back (va_runI (b := N0 + q) (As := as.map (m_cv N0)) (rest := S'.map (m_cv N0)) ⟨hx, hb, hml, hown, hts⟩ (m_met l N0 aI D hkk.1 hr5 hr3 C) cw ⟨m_blind, fun U hU hW => ⟨rfl, by rw [hU]; exact hP, by rw [hU]; exact hz, va_K.moved hW.alike hK, by rw [hU]; exact (hX.1.kept (hS.2.1 _ (Nat.lt_of_lt_of_le hX.2 h0) (Nat.not_le.mpr hX.2))).moved hW.alike, hX.2⟩⟩ rfl (by rw [List.length_map]; exact hr4) hl.1 (by rw [hst]; show (List.map (m_cv N0) _) = _; simp [List.map_append, List.map_reverse, m_cv]) (by show 2 * 0 + _ ≤ 8; rw [m_cats]; omega) hdec ⟨by omega, by omega⟩) hS ?_
  intro r w1 H1 locs1 hq hrok hP1 hS1 hlen1
  have hst2 : (r.map (m_cv N0)).toList ++ S'.map (m_cv N0) = (r.toList ++ S').map (m_cv N0) := by cases r <;> rfl
  rw [hst2]
  exact K r w1 hq hrok p l e s m args below meth c N0 aI D Qf hC hF H1 locs1 ls (k + (m_rm mi').cells) (n + (m_rm mi').slots) hl hlen hP1 hS1 (by rw [hlen1]; omega) (by show k + (m_rm mi').cells + (bc - (m_rm mi').cells) = _; omega) (by show n + (m_rm mi').slots + (bs - (m_rm mi').slots) ≤ _; omega)

set_option maxHeartbeats 4000000 in
set_option maxRecDepth 100000 in
theorem m_callS2 {X : Nat × Nat × (Nat → Int32)} {mi pc i mi' mi0 y : Nat} {z : Int} {L : List (Option mPV)} {S : List mPV} {w : mPW} {bc bs : Nat} {Q Q' : Option mPV → mPW → Prop} (as S' : List mPV) (hf : m_fetch mi pc = some (pc, .invokestatic i, mi0, y, z)) (h90 : m_y mi' = m_y mi0) (h91 : mi0 < 1000) (h92 : 0 < mi' ∧ m_kind mi' = 0) (hst : S = as.reverse ++ S') (hok0 : m_cok mi mi' as.length (m_words as) S' bc bs = true) (C : m_Run X mi' as w Q') (K : ∀ r w1, Q' r w1 → m_rok mi' r → m_Sem X mi (pc + 3, L, r.toList ++ S', w1, bc - (m_rm mi').cells, bs - (m_rm mi').slots) Q) : m_Sem X mi (pc, L, S, w, bc, bs) Q := by
  intro p l e s m args below meth c N0 aI D Qf hC hF H locs ls k n hl hlen hP hS hk hb1 hb2
  have hok := (m_fetch_ok hf).2
  obtain ⟨hx, hb, hml, hown, hts, hin, hK, h0, hX⟩ := id hC
  unfold m_okb at hok
  simp only [Bool.and_eq_true] at hok
  obtain ⟨hok1, hok2⟩ := hok
  dsimp only at hok1 hok2 hl hlen hP hS hk hb1 hb2
  have hdec := of_decide_eq_true hok1
  dsimp only [m_len] at hdec
  obtain ⟨hr1, hr2, hr3, hr4, hr5, hr6, hr7⟩ := m_cok_ok hok0
  have hlk := m_mths_w _ (of_decide_eq_true hok2.1)
  have hkd := of_decide_eq_true hok2.2
  have hkk := h92
  have hlk : Cond.methodLink (m_own mi) i (m_y mi') ∈ lw_g := by
    have h : Cond.methodLink (m_own mi) i (m_yy mi0) ∈ lw_g := hlk
    unfold m_yy at h
    rw [if_pos h91] at h
    rw [h90]
    exact h
  obtain ⟨g1, g2, g3, g4, g5, g6, ⟨g7, g9, g10, g11⟩, g8⟩ := m_met_w mi' hkk.1 hr5
  intro T hT XT
  subst hT
  have hz := m_size (X := X) (mi := mi) h0 hP hS hk XT
  suffices key : W p l e (m_rm mi) s m args below meth c T.heap locs k n Qf (F0 m pc ls (S.map (m_cv N0))) from key T rfl XT
  have cw : CallB (m_rm mi) s args (m_own mi) i (m_y mi') (m_cd mi') (m_ml mi') (m_ret mi') (m_ws mi') (m_rm mi') (m_rm mi').cells (m_rm mi').slots (m_np mi') ∧ (Cond.static (m_y mi')).before args s = true := ⟨callB_of (m_np mi') hts (m_good (m_ws_in hkk.1 hr5)) rfl rfl rfl (hts _ g2) (hts _ hlk) ⟨g9, g10, g11⟩ hr1, hts _ (g3 hkk.2)⟩
  refine m_back (va_runS (As := as.map (m_cv N0)) (rest := S'.map (m_cv N0)) ⟨hx, hb, hml, hown, hts⟩ (m_met l N0 aI D hkk.1 hr5 hr3 C) cw ⟨m_blind, fun U hU hW => ⟨rfl, by rw [hU]; exact hP, by rw [hU]; exact hz, va_K.moved hW.alike hK, by rw [hU]; exact (hX.1.kept (hS.2.1 _ (Nat.lt_of_lt_of_le hX.2 h0) (Nat.not_le.mpr hX.2))).moved hW.alike, hX.2⟩⟩ rfl (by rw [List.length_map]; exact hr4) hl.1 (by rw [hst]; show (List.map (m_cv N0) _) = _; simp [List.map_append, List.map_reverse, m_cv]) (by show 2 * 0 + _ ≤ 8; rw [m_cats]; omega) hdec ⟨by omega, by omega⟩) hS ?_
  intro r w1 H1 locs1 hq hrok hP1 hS1 hlen1
  have hst2 : (r.map (m_cv N0)).toList ++ S'.map (m_cv N0) = (r.toList ++ S').map (m_cv N0) := by cases r <;> rfl
  rw [hst2]
  exact K r w1 hq hrok p l e s m args below meth c N0 aI D Qf hC hF H1 locs1 ls (k + (m_rm mi').cells) (n + (m_rm mi').slots) hl hlen hP1 hS1 (by rw [hlen1]; omega) (by show k + (m_rm mi').cells + (bc - (m_rm mi').cells) = _; omega) (by show n + (m_rm mi').slots + (bs - (m_rm mi').slots) ≤ _; omega)

