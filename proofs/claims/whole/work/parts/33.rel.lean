/-! Class and model beside one another: the same ring, the same kept states, the same text. -/
def kpR (n : Int) (T S : Int → Int) : Prop := ∃ tb, repC n T tb ∧ repM n S tb ∧ okT T
def hsR (h : HS) (P : TS) : Prop := P.1 = h.1 ∧ (0 ≤ h.1 ∧ h.1 ≤ 4) ∧ ∀ k, 0 ≤ k → k < h.1 → kpR (h.2.1 k) (fun j => h.2.2 (81 * k + j)) (fun j => P.2 (82 * k + j))
def Rel (c : CS) (m : MS) : Prop := kpR c.1 c.2.1 m.1 ∧ hsR c.2.2.1 m.2.1 ∧ m.2.2.1 = c.2.2.2.1 ∧ okS c.2.2.2.1.1 c.2.2.2.1.2
theorem kpR_congr {n : Int} {T T' S S' : Int → Int} (h : kpR n T S) (h1 : ∀ j, 0 ≤ j → j < 81 → T' j = T j) (h2 : ∀ j, 0 ≤ j → j < 82 → S' j = S j) : kpR n T' S' := by
  obtain ⟨tb, hC, hM, hT⟩ := h
  have hl := okN_lo hC.1
  refine ⟨tb, ⟨hC.1, fun a b g1 g2 g3 g4 => ?_⟩, ⟨hM.1, ?_, fun a b g1 g2 g3 g4 => ?_⟩, fun j g1 g2 => ?_⟩
  · rw [h1 _ (by omega) (by omega)]; exact hC.2 a b g1 g2 g3 g4
  · rw [h2 0 (by omega) (by omega)]; exact hM.2.1
  · rw [h2 _ (by omega) (by omega)]; exact hM.2.2 a b g1 g2 g3 g4
  · rw [h1 j g1 g2]; exact hT j g1 g2
theorem hs_keep {n : Int} {T S : Int → Int} {h : HS} {P P2 : TS} (hk : kpR n T S) (hh : hsR h P) (hs : svM S P P2) : hsR (keepH n T h) P2 := by
  obtain ⟨hc, hsz, hp⟩ := h
  obtain ⟨q, p⟩ := P
  obtain ⟨q2, p2⟩ := P2
  obtain ⟨h1, h2, h3⟩ := hh
  obtain ⟨s1, s2, s3⟩ := hs
  dsimp only at h1 h2 h3 s1 s2 s3
  unfold keepH
  by_cases h4 : hc = 4
  · rw [if_pos (show ((hc, hsz, hp) : HS).1 = 4 from h4)]
    rw [if_pos (by omega)] at s1
    simp only [if_pos (show q = 4 by omega)] at s3
    refine ⟨s1, ⟨by show (0 : Int) ≤ 3 + 1; decide, by show (3 : Int) + 1 ≤ 4; decide⟩, fun k g1 g2 => ?_⟩
    have g3 : k < 4 := g2
    show kpR (m_up (m_cpy hsz hsz 1 0 3) 3 n k) (fun j => m_cpy T (m_cpy hp hp 81 0 (3 * 81)) 0 (3 * 81) 81 (81 * k + j)) (fun j => p2 (82 * k + j))
    by_cases h5 : k = 3
    · subst h5
      rw [m_up_s]
      refine kpR_congr hk (fun j g4 g5 => ?_) (fun j g4 g5 => ?_)
      · unfold m_cpy
        rw [if_pos (by omega)]
        congr 1
        omega
      · rw [← s2 j g4 g5, s1]
        rfl
    · rw [m_up_n _ _ h5]
      have e1 : m_cpy hsz hsz 1 0 3 k = hsz (k + 1) := by
        unfold m_cpy
        rw [if_pos (by omega)]
        congr 1
        omega
      rw [e1]
      refine kpR_congr (h3 (k + 1) (by omega) (by omega)) (fun j g4 g5 => ?_) (fun j g4 g5 => ?_)
      · show m_cpy T (m_cpy hp hp 81 0 (3 * 81)) 0 (3 * 81) 81 (81 * k + j) = hp (81 * (k + 1) + j)
        unfold m_cpy
        rw [if_neg (by omega), if_pos (by omega)]
        congr 1
        omega
      · show p2 (82 * k + j) = p (82 * (k + 1) + j)
        rw [s3 (82 * k + j) (by omega) (by rw [s1]; omega)]
        congr 1
        omega
  · rw [if_neg (show ¬ ((hc, hsz, hp) : HS).1 = 4 from h4)]
    rw [if_neg (by omega)] at s1
    simp only [if_neg (show ¬ q = 4 by omega)] at s3
    refine ⟨by rw [s1, h1]; rfl, ⟨by show (0 : Int) ≤ hc + 1; omega, by show hc + 1 ≤ 4; omega⟩, fun k g1 g2 => ?_⟩
    have g3 : k < hc + 1 := g2
    show kpR (m_up hsz hc n k) (fun j => m_cpy T hp 0 (hc * 81) 81 (81 * k + j)) (fun j => p2 (82 * k + j))
    by_cases h5 : k = hc
    · subst h5
      rw [m_up_s]
      refine kpR_congr hk (fun j g4 g5 => ?_) (fun j g4 g5 => ?_)
      · unfold m_cpy
        rw [if_pos (by omega)]
        congr 1
        omega
      · rw [← s2 j g4 g5, s1, h1]
        congr 1
        omega
    · rw [m_up_n _ _ h5]
      refine kpR_congr (h3 k g1 (by omega)) (fun j g4 g5 => ?_) (fun j g4 g5 => ?_)
      · show m_cpy T hp 0 (hc * 81) 81 (81 * k + j) = hp (81 * k + j)
        unfold m_cpy
        rw [if_neg (by omega)]
      · show p2 (82 * k + j) = p (82 * k + j)
        exact s3 (82 * k + j) (by omega) (by rw [s1]; omega)
theorem hs_pop {T S3 : Int → Int} {hc : Int} {hsz hp p : Int → Int} (hh : hsR (hc, hsz, hp) (hc, p)) (h1 : 1 ≤ hc) (hs : ∀ j, 0 ≤ j → j < 82 → S3 j = p (82 * (hc - 1) + j)) : kpR (hsz (hc - 1)) (popT T (hc, hsz, hp)) S3 ∧ hsR (hc - 1, hsz, hp) (hc - 1, p) := by
  obtain ⟨-, h2, h3⟩ := hh
  dsimp only at h2 h3
  refine ⟨kpR_congr (h3 (hc - 1) (by omega) (by omega)) (fun j g1 g2 => ?_) (fun j g1 g2 => hs j g1 g2), rfl, ⟨by show 0 ≤ hc - 1; omega, by show hc - 1 ≤ 4; omega⟩, fun k g1 g2 => h3 k g1 (by have g3 : k < hc - 1 := g2; omega)⟩
  show popT T (hc, hsz, hp) j = hp (81 * (hc - 1) + j)
  unfold popT m_cpy
  rw [if_pos (by omega)]
  dsimp only
  congr 1
  omega
theorem kp_field {e : Int} {T S : Int → Int} (hn : okN e) (hT : okT T) (hF : ∀ a b, 0 ≤ a → a < e → 0 ≤ b → b < e → T (9 * a + b) = fpS e a b) (hM : fillM e S 9 0) : kpR e T S := by
  have hl := okN_lo hn
  refine ⟨fpS e, ⟨hn, fun a b g1 g2 g3 g4 => ⟨hF a b g1 g2 g3 g4, fpS_in hn g1 g2 g3 g4⟩⟩, ⟨hn, hM.1, fun a b g1 g2 g3 g4 => ⟨?_, fpS_in hn g1 g2 g3 g4⟩⟩, hT⟩
  rw [hM.2 a b g1 g3 (by omega) (Or.inl (by omega))]
  exact if_pos ⟨g2, g4⟩
theorem kp_twist {T S : Int → Int} (hT : okT T) (hF : ∀ a b, 0 ≤ a → a < 9 → 0 ≤ b → b < 9 → T (9 * a + b) = twS a b) (hM : repM 9 S twS) : kpR 9 T S :=
  ⟨twS, ⟨hM.1, fun a b g1 g2 g3 g4 => ⟨hF a b g1 g2 g3 g4, twS_in g1 g2 g3 g4⟩⟩, hM, hT⟩
theorem kp_exch {n : Int} {tb : Int → Int → Int} {T S : Int → Int} (ht : tbR n tb) (hT : okT T) (hF : ∀ a b, 0 ≤ a → a < n → 0 ≤ b → b < n → T (9 * a + b) = tb b a) (hM : repM n S (fun a b => tb b a)) : kpR n T S :=
  ⟨fun a b => tb b a, ⟨hM.1, fun a b g1 g2 g3 g4 => ⟨hF a b g1 g2 g3 g4, ht b a g3 g4 g1 g2⟩⟩, hM, hT⟩
def tbU (tb : Int → Int → Int) (a b r : Int) : Int → Int → Int := fun a' b' => if a' = a ∧ b' = b then r else tb a' b'
theorem rep_set {n : Int} {tb : Int → Int → Int} {T : Int → Int} {a b r : Int} (h : repC n T tb) (ha : 0 ≤ a ∧ a < n) (hb : 0 ≤ b ∧ b < n) (hr : 0 ≤ r ∧ r < n) : repC n (m_up T (9 * a + b) r) (tbU tb a b r) := by
  have hl := okN_lo h.1
  refine ⟨h.1, fun a' b' g1 g2 g3 g4 => ?_⟩
  unfold tbU
  by_cases he : a' = a ∧ b' = b
  · rw [if_pos he, he.1, he.2, m_up_s]; exact ⟨rfl, hr⟩
  · rw [if_neg he, m_up_n _ _ (by omega)]; exact h.2 a' b' g1 g2 g3 g4
theorem kp_set {n : Int} {tb : Int → Int → Int} {T S : Int → Int} {a b r : Int} (hC : repC n T tb) (hM : repM n S tb) (hT : okT T) (ha : 0 ≤ a ∧ a < n) (hb : 0 ≤ b ∧ b < n) (hr : 0 ≤ r ∧ r < n) : kpR n (m_up T (9 * a + b) r) (m_up S (1 + 9 * a + b) r) := by
  have hl := okN_lo hC.1
  refine ⟨tbU tb a b r, rep_set hC ha hb hr, repM_of hM.1 ((sh_0 S r ha.1 hb.1).trans hM.2.1) ?_, okT_up hT hr.1 (by omega)⟩
  rw [sh_up]
  exact (rep_set (repM_C hM) ha hb hr).2
theorem sets_rep {n ln : Int} {sg : Int → Int} (hg : goodS n ln sg) : ∀ (k : Nat) (j : Int) (T U : Int → Int) (tb : Int → Int → Int), 0 ≤ j → j + k ≤ (ln + 5) / 6 → repC n T tb → repC n U tb → okT T → ∃ tb2, repC n (setsT ln sg k j T) tb2 ∧ repC n (setsT ln sg k j U) tb2 ∧ okT (setsT ln sg k j T)
  | 0, j, T, U, tb, _, _, h1, h2, h3 => ⟨tb, h1, h2, h3⟩
  | k + 1, j, T, U, tb, h0, hk, h1, h2, h3 => by
    have hd := hg j h0 (by omega)
    have hl := okN_lo h1.1
    exact sets_rep hg k (j + 1) _ _ _ (by omega) (by omega) (rep_set h1 hd.1 hd.2.1 hd.2.2) (rep_set h2 hd.1 hd.2.1 hd.2.2) (okT_up h3 hd.2.2.1 (by omega))
theorem kp_play {n ln : Int} {sg : Int → Int} {tb : Int → Int → Int} {T S S3 : Int → Int} (hS : okS ln sg) (hg : oI (fplS n ln sg) = -1) (hC : repC n T tb) (hM : repM n S tb) (hT : okT T) (h0 : S3 0 = n) (h1 : shM S3 = setsT ln sg ((ln + 5) / 6).toNat 0 (shM S)) : kpR n (setsT ln sg ((ln + 5) / 6).toNat 0 T) S3 := by
  have hs := hS.1
  obtain ⟨tb2, g1, g2, g3⟩ := sets_rep (good_of hs hg) ((ln + 5) / 6).toNat 0 T (shM S) tb (by omega) (by omega) hC (repM_C hM) hT
  refine ⟨tb2, g1, repM_of hC.1 h0 ?_, g3⟩
  rw [h1]
  exact g2.2
theorem okS_typ {ln : Int} {sg : Int → Int} {c : Int} (h : okS ln sg) : okS (typT ln sg c).1 (typT ln sg c).2 := by
  obtain ⟨h1, h2, h3⟩ := h
  unfold typT
  split
  · exact ⟨h1, h2, h3⟩
  · split
    · exact ⟨h1, h2, h3⟩
    · split
      · refine ⟨by show 0 ≤ ln + 1; omega, by show ln + 1 ≤ 60; omega, fun i g1 g2 => ?_⟩
        show 0 ≤ m_up sg ln c i ∧ m_up sg ln c i < 128
        by_cases he : i = ln
        · rw [he, m_up_s]; omega
        · rw [m_up_n _ _ he]; exact h3 i g1 g2
      · exact ⟨h1, h2, h3⟩
theorem okS_0 {ln : Int} {sg : Int → Int} (h : okS ln sg) : okS 0 sg := ⟨Int.le_refl 0, by decide, h.2.2⟩
theorem i32_R (x : Int32) : m_R x.toInt := by
  have h1 := Int32.le_toInt x
  have h2 := Int32.toInt_lt x
  exact ⟨by omega, by omega⟩
/-- equal ints -/
theorem m_eqr {X : Nat × Nat × (Nat → Int32)} {mi pc x y : Nat} {z : Int} {L : List (Option mPV)} {S : List mPV} {w : mPW} {bc bs : Nat} {Q : Option mPV → mPW → Prop} {off : Int} {a : Int} (hf : m_fetch mi pc = some (pc, .if_icmp .eq off, x, y, z)) (K : m_Sem X mi (x, L, S, w, bc, bs) Q) : m_Sem X mi (pc, L, .inl a :: .inl a :: S, w, bc, bs) Q := by
  intro p l e s m args below meth c N0 aI D Qf hC hF H locs ls k n hl hlen hP hS hk hb1 hb2
  have hok := (m_fetch_ok hf).2
  obtain ⟨hx, hb, hml, hown, hts, hin, hK, h0, hX⟩ := id hC
  unfold m_okb at hok
  simp only [Bool.and_eq_true] at hok
  obtain ⟨hok1, hok2⟩ := hok
  dsimp only at hok1 hok2 hl hlen hP hS hk hb1 hb2
  have hdec := of_decide_eq_true hok1
  dsimp only [m_len] at hdec
  have ht := of_decide_eq_true hok2
  refine lv_icmp_eq hx hb hdec ht (fun h => ?_) (fun h => absurd rfl h)
  exact K p l e s m args below meth c N0 aI D Qf hC hF H locs ls k n hl hlen hP hS hk hb1 hb2
theorem rel_0 {T S : Int → Int} (hT : okT T) (hF : ∀ a b, 0 ≤ a → a < 3 → 0 ≤ b → b < 3 → T (9 * a + b) = fpS 3 a b) (hM : fillM 3 S 9 0) {z1 z2 p sg : Int → Int} (hsg : sg = fun _ => 0) {x : XS} {F : Int × Int × Int} {B : (Nat → Int64) × (Nat → Int64)} {G : Int → Int} {E : Int × Int} : Rel (3, T, (0, z1, z2), (0, sg), x) (S, (0, p), (0, sg), F, B, G, E) :=
  ⟨kp_field (by unfold okN; omega) hT hF hM, ⟨rfl, ⟨Int.le_refl 0, (by decide : (0 : Int) ≤ 4)⟩, fun k g1 g2 => absurd g2 (by show ¬ k < 0; omega)⟩, rfl, ⟨Int.le_refl 0, (by decide : (0 : Int) ≤ 60), fun i _ _ => by rw [hsg]; exact ⟨Int.le_refl 0, (by decide : (0 : Int) < 128)⟩⟩⟩
