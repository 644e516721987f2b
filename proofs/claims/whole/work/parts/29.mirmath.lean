/-! Mirrors: the map that a free point and its image make. -/
theorem eq_pt {n : Int} {tb : Int → Int → Int} (hn : okN n) (ht : tbR n tb) (hP : plP n tb) {l m p q : Int} (hne : l ≠ m) (a : onC n tb p l = true) (b : onC n tb p m = true) (c : onC n tb q l = true) (d : onC n tb q m = true) : p = q := by
  rw [← pl_mt_u hn ht hP hne a b, pl_mt_u hn ht hP hne c d]
theorem eq_ln {n : Int} {tb : Int → Int → Int} (hn : okN n) (ht : tbR n tb) (hP : plP n tb) {l m p q : Int} (hne : p ≠ q) (a : onC n tb p l = true) (b : onC n tb q l = true) (c : onC n tb p m = true) (d : onC n tb q m = true) : l = m := by
  rw [← pl_ln_u hn ht hP hne a b, pl_ln_u hn ht hP hne c d]
theorem ne_of {b : Bool} {P : Int → Bool} {x y : Int} (h1 : P x = true) (h2 : P y = false) : x ≠ y := fun h => by rw [h, h2] at h1; cases h1
/-- neither the centre nor on the axis -/
def frB (n : Int) (tb : Int → Int → Int) (ax ce p : Int) : Bool := inN (NP n) p && (! decide (p = ce) && ! onC n tb p ax)
theorem fr_i {n : Int} {tb : Int → Int → Int} {ax ce p : Int} : frB n tb ax ce p = true ↔ (0 ≤ p ∧ p < NP n) ∧ p ≠ ce ∧ onC n tb p ax = false := by
  unfold frB
  rw [Bool.and_eq_true, Bool.and_eq_true, inN_i, Bool.not_eq_true', Bool.not_eq_true', decide_eq_false_iff_not]
def leM (n : Int) (tb : Int → Int → Int) (ax ce b t r : Int) : Int := mtC n tb (lnC n tb (mtC n tb (lnC n tb b r) ax) t) (lnC n tb ce r)
theorem le_sp {n : Int} {tb : Int → Int → Int} (hn : okN n) (ht : tbR n tb) (hP : plP n tb) {ax ce b t r : Int} (hax : 0 ≤ ax ∧ ax < NP n) (hce : 0 ≤ ce ∧ ce < NP n) (fb : frB n tb ax ce b = true) (ft : frB n tb ax ce t = true) (fr : frB n tb ax ce r = true) (hct : onC n tb t (lnC n tb ce b) = true) (hr : onC n tb r (lnC n tb ce b) = false) :
    (onC n tb (mtC n tb (lnC n tb b r) ax) (lnC n tb b r) = true ∧ onC n tb (mtC n tb (lnC n tb b r) ax) ax = true) ∧ (onC n tb (leM n tb ax ce b t r) (lnC n tb (mtC n tb (lnC n tb b r) ax) t) = true ∧ onC n tb (leM n tb ax ce b t r) (lnC n tb ce r) = true) ∧ frB n tb ax ce (leM n tb ax ce b t r) = true ∧ lnC n tb (mtC n tb (lnC n tb b r) ax) t ≠ lnC n tb ce r := by
  obtain ⟨vb, nb, ob⟩ := fr_i.mp fb
  obtain ⟨vt, nt, ot⟩ := fr_i.mp ft
  obtain ⟨vr, nr, or_⟩ := fr_i.mp fr
  have cb := pl_ln hn ht hP hce.1 hce.2 vb.1 vb.2
  have br := pl_ln hn ht hP vb.1 vb.2 vr.1 vr.2
  have cr := pl_ln hn ht hP hce.1 hce.2 vr.1 vr.2
  have hs := pl_mt hn ht hP br.1.1 br.1.2 hax.1 hax.2
  unfold leM
  obtain ⟨CB, hCB⟩ : ∃ x, lnC n tb ce b = x := ⟨_, rfl⟩
  obtain ⟨BR, hBR⟩ : ∃ x, lnC n tb b r = x := ⟨_, rfl⟩
  obtain ⟨CR, hCR⟩ : ∃ x, lnC n tb ce r = x := ⟨_, rfl⟩
  rw [hCB] at cb hct hr
  rw [hBR] at br hs ⊢
  rw [hCR] at cr ⊢
  obtain ⟨s, hs0⟩ : ∃ x, mtC n tb BR ax = x := ⟨_, rfl⟩
  rw [hs0] at hs ⊢
  have st := pl_ln hn ht hP hs.1.1 hs.1.2 vt.1 vt.2
  obtain ⟨ST, hST⟩ : ∃ x, lnC n tb s t = x := ⟨_, rfl⟩
  rw [hST] at st ⊢
  have hx := pl_mt hn ht hP st.1.1 st.1.2 cr.1.1 cr.1.2
  obtain ⟨x, hx0⟩ : ∃ x, mtC n tb ST CR = x := ⟨_, rfl⟩
  rw [hx0] at hx ⊢
  have e1 : CR ≠ CB := fun h => by rw [h, hr] at cr; exact absurd cr.2.2 (by decide)
  have e2 : BR ≠ CB := fun h => by rw [h, hr] at br; exact absurd br.2.2 (by decide)
  have e3 : ST ≠ CR := fun h => nt (eq_pt hn ht hP e1 (h ▸ st.2.2) hct cr.2.1 cb.2.1)
  have e4 : x ≠ ce := fun h => by
    rw [h] at hx
    have h1 : ST = CB := eq_ln hn ht hP nt.symm hx.2.1 st.2.2 cb.2.1 hct
    have h2 : s = b := eq_pt hn ht hP e2 hs.2.1 (h1 ▸ st.2.1) br.2.1 cb.2.2
    rw [← h2, hs.2.2] at ob
    cases ob
  have e5 : onC n tb x ax = false := by
    cases h0 : onC n tb x ax with
    | false => rfl
    | true =>
      exfalso
      have h1 : ST ≠ ax := fun h => by rw [h, ot] at st; exact absurd st.2.2 (by decide)
      have h2 : x = s := eq_pt hn ht hP h1 hx.2.1 h0 st.2.1 hs.2.2
      have h3 : CR ≠ BR := fun h => e1 (eq_ln hn ht hP nb.symm cr.2.1 (h ▸ br.2.1) cb.2.1 cb.2.2)
      have h4 : s = r := eq_pt hn ht hP h3 (h2 ▸ hx.2.2) hs.2.1 cr.2.2 br.2.2
      rw [← h4, hs.2.2] at or_
      cases or_
  exact ⟨⟨hs.2.1, hs.2.2⟩, ⟨hx.2.1, hx.2.2⟩, fr_i.mpr ⟨hx.1, e4, e5⟩, e3⟩
theorem le_inj {n : Int} {tb : Int → Int → Int} (hn : okN n) (ht : tbR n tb) (hP : plP n tb) {ax ce b t r r2 : Int} (hax : 0 ≤ ax ∧ ax < NP n) (hce : 0 ≤ ce ∧ ce < NP n) (fb : frB n tb ax ce b = true) (ft : frB n tb ax ce t = true) (fr : frB n tb ax ce r = true) (fr2 : frB n tb ax ce r2 = true) (hct : onC n tb t (lnC n tb ce b) = true) (hr : onC n tb r (lnC n tb ce b) = false) (hr2 : onC n tb r2 (lnC n tb ce b) = false) (hray : lnC n tb ce r = lnC n tb ce r2) (he : leM n tb ax ce b t r = leM n tb ax ce b t r2) : r = r2 := by
  have s1 := le_sp hn ht hP hax hce fb ft fr hct hr
  have s2 := le_sp hn ht hP hax hce fb ft fr2 hct hr2
  rw [← he, ← hray] at s2
  obtain ⟨vb, nb, ob⟩ := fr_i.mp fb
  obtain ⟨vt, nt, ot⟩ := fr_i.mp ft
  obtain ⟨vr, nr, or_⟩ := fr_i.mp fr
  obtain ⟨vr2, nr2, or2⟩ := fr_i.mp fr2
  have cb := pl_ln hn ht hP hce.1 hce.2 vb.1 vb.2
  have br := pl_ln hn ht hP vb.1 vb.2 vr.1 vr.2
  have br2 := pl_ln hn ht hP vb.1 vb.2 vr2.1 vr2.2
  have cr := pl_ln hn ht hP hce.1 hce.2 vr.1 vr.2
  have cr2 := pl_ln hn ht hP hce.1 hce.2 vr2.1 vr2.2
  rw [← hray] at cr2
  have hs := pl_mt hn ht hP br.1.1 br.1.2 hax.1 hax.2
  have hs2 := pl_mt hn ht hP br2.1.1 br2.1.2 hax.1 hax.2
  have st := pl_ln hn ht hP hs.1.1 hs.1.2 vt.1 vt.2
  have st2 := pl_ln hn ht hP hs2.1.1 hs2.1.2 vt.1 vt.2
  obtain ⟨x, hx⟩ : ∃ x, leM n tb ax ce b t r = x := ⟨_, rfl⟩
  rw [hx] at s1 s2
  obtain ⟨CB, hCB⟩ : ∃ x, lnC n tb ce b = x := ⟨_, rfl⟩
  obtain ⟨BR, hBR⟩ : ∃ x, lnC n tb b r = x := ⟨_, rfl⟩
  obtain ⟨BR2, hBR2⟩ : ∃ x, lnC n tb b r2 = x := ⟨_, rfl⟩
  obtain ⟨CR, hCR⟩ : ∃ x, lnC n tb ce r = x := ⟨_, rfl⟩
  rw [hCB] at cb hct hr hr2
  rw [hBR] at br hs st s1
  rw [hBR2] at br2 hs2 st2 s2
  rw [hCR] at cr cr2 s1 s2
  obtain ⟨s, hs0⟩ : ∃ x, mtC n tb BR ax = x := ⟨_, rfl⟩
  obtain ⟨z, hz0⟩ : ∃ x, mtC n tb BR2 ax = x := ⟨_, rfl⟩
  rw [hs0] at hs st s1
  rw [hz0] at hs2 st2 s2
  have e1 : CR ≠ CB := fun h => by rw [h, hr] at cr; exact absurd cr.2.2 (by decide)
  have e2 : x ≠ t := fun h => nt (eq_pt hn ht hP e1 (h ▸ s1.2.1.2) hct cr.2.1 cb.2.1)
  have e3 : lnC n tb s t = lnC n tb z t := eq_ln hn ht hP e2 s1.2.1.1 st.2.2 s2.2.1.1 st2.2.2
  have e4 : lnC n tb s t ≠ ax := fun h => by rw [h, ot] at st; exact absurd st.2.2 (by decide)
  have e5 : s = z := eq_pt hn ht hP e4 st.2.1 hs.2.2 (e3 ▸ st2.2.1) hs2.2.2
  have e6 : b ≠ s := fun h => by rw [h, hs.2.2] at ob; cases ob
  have e7 : BR = BR2 := eq_ln hn ht hP e6 br.2.1 hs.2.1 br2.2.1 (e5 ▸ hs2.2.1)
  have e8 : BR ≠ CR := fun h => e1 (eq_ln hn ht hP nb.symm cr.2.1 (h ▸ br.2.1) cb.2.1 cb.2.2)
  exact eq_pt hn ht hP e8 br.2.2 cr.2.2 (e7 ▸ br2.2.2) cr2.2.2
/-- the map that leads q to to; an is a free point off their line -/
def imM (n : Int) (tb : Int → Int → Int) (ax ce q to an p : Int) : Int := if frB n tb ax ce p = true then (if onC n tb p (lnC n tb ce q) = true then leM n tb ax ce an (leM n tb ax ce q to an) p else leM n tb ax ce q to p) else p
/-- what a map needs -/
def mpP (n : Int) (tb : Int → Int → Int) (ax ce q to an : Int) : Prop := (okN n ∧ tbR n tb ∧ plP n tb) ∧ ((0 ≤ ax ∧ ax < NP n) ∧ (0 ≤ ce ∧ ce < NP n)) ∧ (frB n tb ax ce q = true ∧ frB n tb ax ce to = true ∧ onC n tb to (lnC n tb ce q) = true) ∧ frB n tb ax ce an = true ∧ onC n tb an (lnC n tb ce q) = false
theorem ray_ln {n : Int} {tb : Int → Int → Int} (hn : okN n) (ht : tbR n tb) (hP : plP n tb) {ax ce p l : Int} (fp : frB n tb ax ce p = true) (hc : onC n tb ce l = true) (hp : onC n tb p l = true) : lnC n tb ce p = l := pl_ln_u hn ht hP (fr_i.mp fp).2.1.symm hc hp
theorem mp_sw {n : Int} {tb : Int → Int → Int} {ax ce q to an p : Int} (H : mpP n tb ax ce q to an) (fp : frB n tb ax ce p = true) (hp : onC n tb p (lnC n tb ce q) = true) : frB n tb ax ce (leM n tb ax ce q to an) = true ∧ onC n tb (leM n tb ax ce q to an) (lnC n tb ce an) = true ∧ onC n tb p (lnC n tb ce an) = false := by
  obtain ⟨⟨hn, ht, hP⟩, ⟨hax, hce⟩, ⟨fq, fto, hto⟩, fan, han⟩ := H
  have h1 := le_sp hn ht hP hax hce fq fto fan hto han
  refine ⟨h1.2.2.1, h1.2.1.2, ?_⟩
  cases h0 : onC n tb p (lnC n tb ce an) with
  | false => rfl
  | true =>
    exfalso
    have van := (fr_i.mp fan).1
    have vq := (fr_i.mp fq).1
    have ca := pl_ln hn ht hP hce.1 hce.2 van.1 van.2
    have cq := pl_ln hn ht hP hce.1 hce.2 vq.1 vq.2
    have h2 := ray_ln hn ht hP fp ca.2.1 h0
    have h3 := ray_ln hn ht hP fp cq.2.1 hp
    rw [h2] at h3
    rw [h3, han] at ca
    exact absurd ca.2.2 (by decide)
theorem im_sp {n : Int} {tb : Int → Int → Int} {ax ce q to an p : Int} (H : mpP n tb ax ce q to an) (fp : frB n tb ax ce p = true) : frB n tb ax ce (imM n tb ax ce q to an p) = true ∧ onC n tb (imM n tb ax ce q to an p) (lnC n tb ce p) = true := by
  obtain ⟨⟨hn, ht, hP⟩, ⟨hax, hce⟩, ⟨fq, fto, hto⟩, fan, han⟩ := id H
  unfold imM
  rw [if_pos fp]
  split
  next hp =>
    have h1 := mp_sw H fp hp
    have h2 := le_sp hn ht hP hax hce fan h1.1 fp h1.2.1 h1.2.2
    exact ⟨h2.2.2.1, h2.2.1.2⟩
  next hp =>
    have h2 := le_sp hn ht hP hax hce fq fto fp hto (by simpa using hp)
    exact ⟨h2.2.2.1, h2.2.1.2⟩
theorem im_fx {n : Int} {tb : Int → Int → Int} {ax ce q to an p : Int} (fp : frB n tb ax ce p = false) : imM n tb ax ce q to an p = p := by
  unfold imM
  rw [if_neg (by rw [fp]; decide)]
theorem im_of {n : Int} {tb : Int → Int → Int} {ax ce q to an p : Int} (fp : frB n tb ax ce p = true) (hp : onC n tb p (lnC n tb ce q) = false) : imM n tb ax ce q to an p = leM n tb ax ce q to p := by
  unfold imM
  rw [if_pos fp, if_neg (by rw [hp]; decide)]
theorem im_in {n : Int} {tb : Int → Int → Int} {ax ce q to an p : Int} (H : mpP n tb ax ce q to an) (h1 : 0 ≤ p) (h2 : p < NP n) : 0 ≤ imM n tb ax ce q to an p ∧ imM n tb ax ce q to an p < NP n := by
  cases fp : frB n tb ax ce p with
  | true => exact (fr_i.mp (im_sp H fp).1).1
  | false => rw [im_fx fp]; exact ⟨h1, h2⟩
theorem im_inj {n : Int} {tb : Int → Int → Int} {ax ce q to an p p2 : Int} (H : mpP n tb ax ce q to an) (he : imM n tb ax ce q to an p = imM n tb ax ce q to an p2) : p = p2 := by
  obtain ⟨⟨hn, ht, hP⟩, ⟨hax, hce⟩, ⟨fq, fto, hto⟩, fan, han⟩ := id H
  cases fp : frB n tb ax ce p with
  | false =>
    cases fp2 : frB n tb ax ce p2 with
    | false => rw [im_fx fp, im_fx fp2] at he; exact he
    | true =>
      exfalso
      have h1 := (im_sp H fp2).1
      rw [← he, im_fx fp, fp] at h1
      cases h1
  | true =>
    cases fp2 : frB n tb ax ce p2 with
    | false =>
      exfalso
      have h1 := (im_sp H fp).1
      rw [he, im_fx fp2, fp2] at h1
      cases h1
    | true =>
      have h1 := im_sp H fp
      have h2 := im_sp H fp2
      rw [← he] at h2
      have vp := (fr_i.mp fp).1
      have vp2 := (fr_i.mp fp2).1
      have vq := (fr_i.mp fq).1
      have cp := pl_ln hn ht hP hce.1 hce.2 vp.1 vp.2
      have cp2 := pl_ln hn ht hP hce.1 hce.2 vp2.1 vp2.2
      have cq := pl_ln hn ht hP hce.1 hce.2 vq.1 vq.2
      have hray : lnC n tb ce p = lnC n tb ce p2 := by
        rw [← ray_ln hn ht hP h1.1 cp.2.1 h1.2, ray_ln hn ht hP h1.1 cp2.2.1 h2.2]
      unfold imM at he
      rw [if_pos fp, if_pos fp2] at he
      cases hp : onC n tb p (lnC n tb ce q) with
      | true =>
        have h3 : onC n tb p2 (lnC n tb ce q) = true := by
          rw [← ray_ln hn ht hP fp cq.2.1 hp, hray]; exact cp2.2.2
        rw [if_pos hp, if_pos h3] at he
        have s1 := mp_sw H fp hp
        have s2 := mp_sw H fp2 h3
        exact le_inj hn ht hP hax hce fan s1.1 fp fp2 s1.2.1 s1.2.2 s2.2.2 hray he
      | false =>
        have h3 : onC n tb p2 (lnC n tb ce q) = false := by
          cases h4 : onC n tb p2 (lnC n tb ce q) with
          | false => rfl
          | true =>
            exfalso
            have h5 := ray_ln hn ht hP fp2 cq.2.1 h4
            rw [← hray] at h5
            rw [h5, hp] at cp
            exact absurd cp.2.2 (by decide)
        rw [if_neg (by rw [hp]; decide), if_neg (by rw [h3]; decide)] at he
        exact le_inj hn ht hP hax hce fq fto fp fp2 hto hp h3 hray he
/-- one to one within a size: each comes -/
theorem inj_on {N : Int} {f : Int → Int} (h0 : 0 ≤ N) (hf : ∀ j, 0 ≤ j → j < N → 0 ≤ f j ∧ f j < N) (hi : ∀ j j', 0 ≤ j → j < j' → j' < N → f j ≠ f j') : ∀ v, 0 ≤ v → v < N → ∃ j, 0 ≤ j ∧ j < N ∧ f j = v := by
  have hle : ∀ v, cnV f v N.toNat 0 ≤ 1 := fun v => cnP_le1 _ _ (fun j j' g1 g2 g3 g4 => decide_eq_false (fun g5 => hi j j' g1 g2 (by omega) ((of_decide_eq_true g4).trans g5.symm)))
  have e1 : cnP (fun v => decide (cnV f v N.toNat 0 = 1)) N.toNat 0 = sumF (fun v => sumF (fun m => bI (decide (f m = v))) N.toNat 0) N.toNat 0 := by
    refine sum_congr _ _ (fun v g1 g2 => ?_)
    have g3 := hle v
    have g4 := (cnP_in (fun m => decide (f m = v)) N.toNat 0).1
    show bI (decide (cnV f v N.toNat 0 = 1)) = cnV f v N.toNat 0
    have g5 : 0 ≤ cnV f v N.toNat 0 := g4
    rcases (show cnV f v N.toNat 0 = 0 ∨ cnV f v N.toNat 0 = 1 by omega) with h | h <;> rw [h] <;> rfl
  have e2 : cnP (fun v => decide (cnV f v N.toNat 0 = 1)) N.toNat 0 = N.toNat := by
    rw [e1, cn_swap (fun v m => bI (decide (f m = v)))]
    rw [cn_const (c := 1) N.toNat 0 (fun m g1 g2 => ?_)]
    · omega
    · have g3 := hf m g1 (by omega)
      exact (cnP_one (p := fun v => decide (f m = v)) N.toNat 0).mpr ⟨f m, ⟨g3.1, by omega, decide_eq_true rfl⟩, fun j' _ _ g6 => (of_decide_eq_true g6).symm⟩
  intro v g1 g2
  have h1 := of_decide_eq_true ((cnP_all _ _).mp e2 v g1 (by omega))
  obtain ⟨j, hj, -⟩ := (cnP_one _ _).mp h1
  exact ⟨j, hj.1, by omega, of_decide_eq_true hj.2.2⟩
/-- each line is led into a line -/
def llP (n : Int) (tb : Int → Int → Int) (G : Int → Int) : Prop := ∀ l, 0 ≤ l → l < NP n → ∃ m, ∀ p, onC n tb p l = true → onC n tb (G p) m = true
theorem ll_an {n : Int} {tb : Int → Int → Int} {ax ce q to h k : Int} (H : mpP n tb ax ce q to h) (H2 : mpP n tb ax ce q to k) (hl : llP n tb (imM n tb ax ce q to h)) (p : Int) : imM n tb ax ce q to k p = imM n tb ax ce q to h p := by
  obtain ⟨⟨hn, ht, hP⟩, ⟨hax, hce⟩, ⟨fq, fto, hto⟩, fh, hh⟩ := id H
  obtain ⟨-, -, -, fk, hk⟩ := id H2
  cases fp : frB n tb ax ce p with
  | false => rw [im_fx fp, im_fx fp]
  | true =>
    cases hp : onC n tb p (lnC n tb ce q) with
    | false => rw [im_of fp hp, im_of fp hp]
    | true =>
      have vp := (fr_i.mp fp).1
      have vk := (fr_i.mp fk).1
      have kp := pl_ln hn ht hP vk.1 vk.2 vp.1 vp.2
      have s1 := mp_sw H2 fp hp
      have s2 := le_sp hn ht hP hax hce fk s1.1 fp s1.2.1 s1.2.2
      obtain ⟨m, hm⟩ := hl _ kp.1.1 kp.1.2
      have m1 := hm _ s2.1.1
      have m2 := hm _ kp.2.1
      have m3 := hm _ kp.2.2
      have fs : frB n tb ax ce (mtC n tb (lnC n tb k p) ax) = false := by
        cases h0 : frB n tb ax ce (mtC n tb (lnC n tb k p) ax) with
        | false => rfl
        | true => have h1 := (fr_i.mp h0).2.2; rw [s2.1.2] at h1; cases h1
      rw [im_fx fs] at m1
      have e1 : imM n tb ax ce q to h k = leM n tb ax ce q to k := by
        unfold imM
        rw [if_pos fk, if_neg (by rw [hk]; decide)]
      rw [e1] at m2
      have e2 : imM n tb ax ce q to k p = leM n tb ax ce k (leM n tb ax ce q to k) p := by
        unfold imM
        rw [if_pos fp, if_pos hp]
      rw [e2]
      have e3 : mtC n tb (lnC n tb k p) ax ≠ leM n tb ax ce q to k := fun h9 => by
        rw [h9, s1.1] at fs; cases fs
      have e4 := pl_ln_u hn ht hP e3 m1 m2
      refine eq_pt hn ht hP s2.2.2.2 s2.2.1.1 s2.2.1.2 (by rw [e4]; exact m3) (im_sp H fp).2
theorem ll_iff {n : Int} {tb : Int → Int → Int} {ax ce q to h k : Int} (H : mpP n tb ax ce q to h) (H2 : mpP n tb ax ce q to k) : llP n tb (imM n tb ax ce q to h) ↔ llP n tb (imM n tb ax ce q to k) := by
  constructor
  · intro hl l h1 h2
    obtain ⟨m, hm⟩ := hl l h1 h2
    exact ⟨m, fun p hp => by rw [ll_an H H2 hl p]; exact hm p hp⟩
  · intro hl l h1 h2
    obtain ⟨m, hm⟩ := hl l h1 h2
    exact ⟨m, fun p hp => by rw [ll_an H2 H hl p]; exact hm p hp⟩
theorem rg_v {n : Int} {f : Int → Int} {p : Int} (hn : okN n) (h1 : 0 ≤ p) (h2 : p < NP n) : rgS f p = f p := by
  have h91 := np_91 hn
  unfold rgS
  rw [if_neg (by omega), if_neg (by omega)]
/-- the class looks at the line of the first two images -/
theorem ld_iff {n : Int} {tb : Int → Int → Int} {G : Int → Int} {l : Int} (hn : okN n) (ht : tbR n tb) (hP : plP n tb) (hG : ∀ p, 0 ≤ p → p < NP n → 0 ≤ G p ∧ G p < NP n) (hi : ∀ p p', G p = G p' → p = p') (h1 : 0 ≤ l) (h2 : l < NP n) : ldX n tb G l = true ↔ ∃ m, ∀ p, onC n tb p l = true → onC n tb (G p) m = true := by
  have hln := okN_lo hn
  have he := pt_enum hn ht h1 h2
  have hv : ∀ i, 0 ≤ i → i ≤ n → rgS G (ptC n tb l i) = G (ptC n tb l i) := fun i g1 g2 => rg_v hn (he.1 i g1 g2).1 (he.1 i g1 g2).2.1
  have hw : ∀ i, 0 ≤ i → i ≤ n → 0 ≤ G (ptC n tb l i) ∧ G (ptC n tb l i) < NP n := fun i g1 g2 => hG _ (he.1 i g1 g2).1 (he.1 i g1 g2).2.1
  unfold ldX
  rw [hv 0 (by omega) (by omega), hv 1 (by omega) (by omega), all_iff]
  have w0 := hw 0 (by omega) (by omega)
  have w1 := hw 1 (by omega) (by omega)
  have hL := pl_ln hn ht hP w0.1 w0.2 w1.1 w1.2
  constructor
  · intro h
    refine ⟨lnC n tb (G (ptC n tb l 0)) (G (ptC n tb l 1)), fun p hp => ?_⟩
    · obtain ⟨i, i0, i1, hi9⟩ := he.2.2 p hp
      rw [← hi9]
      rcases (show i = 0 ∨ i = 1 ∨ 2 ≤ i by omega) with h3 | h3 | h3
      · rw [h3]; exact hL.2.1
      · rw [h3]; exact hL.2.2
      · have h4 := h i h3 (by omega)
        rw [hv i i0 i1] at h4
        exact h4
  · intro ⟨m, hm⟩ i g1 g2
    have hne : G (ptC n tb l 0) ≠ G (ptC n tb l 1) := fun h9 => by
      have h3 := hi _ _ h9
      have h4 := he.2.1 0 1 (by omega) (by omega) (by omega)
      omega
    rw [pl_ln_u hn ht hP hne (hm _ (he.1 0 (by omega) (by omega)).2.2) (hm _ (he.1 1 (by omega) (by omega)).2.2), hv i (by omega) (by omega)]
    exact hm _ (he.1 i (by omega) (by omega)).2.2
def mirG (n : Int) (tb : Int → Int → Int) (G : Int → Int) : Bool := allF (fun l => ldX n tb G l) (NP n).toNat 0
theorem mir_ll {n : Int} {tb : Int → Int → Int} {G : Int → Int} (hn : okN n) (ht : tbR n tb) (hP : plP n tb) (hG : ∀ p, 0 ≤ p → p < NP n → 0 ≤ G p ∧ G p < NP n) (hi : ∀ p p', G p = G p' → p = p') : mirG n tb G = true ↔ llP n tb G := by
  have hln := okN_lo hn
  have hq := sq_b hn
  have hnp : NP n = n * n + n + 1 := rfl
  unfold mirG
  rw [all_iff]
  exact ⟨fun h l g1 g2 => (ld_iff hn ht hP hG hi g1 g2).mp (h l g1 (by omega)), fun h l g1 g2 => (ld_iff hn ht hP hG hi g1 (by omega)).mpr (h l g1 (by omega))⟩
theorem mt_comm {n : Int} {tb : Int → Int → Int} (hn : okN n) (ht : tbR n tb) (hP : plP n tb) {l m : Int} (h1 : 0 ≤ l) (h2 : l < NP n) (h3 : 0 ≤ m) (h4 : m < NP n) : mtC n tb l m = mtC n tb m l := by
  by_cases he : l = m
  · rw [he]
  · have h5 := pl_mt hn ht hP h1 h2 h3 h4
    exact (pl_mt_u hn ht hP (Ne.symm he) h5.2.2 h5.2.1).symm
theorem ray_v {n : Int} {tb : Int → Int → Int} {ax ce p : Int} (fp : frB n tb ax ce p = true) : rayS n tb ax ce p = lnC n tb ce p := by
  obtain ⟨-, h1, h2⟩ := fr_i.mp fp
  unfold rayS
  rw [if_neg h1, if_neg (by rw [h2]; decide)]
theorem ray_n {n : Int} {tb : Int → Int → Int} {ax ce p : Int} (h1 : 0 ≤ p) (h2 : p < NP n) (fp : frB n tb ax ce p = false) : rayS n tb ax ce p = -1 := by
  unfold rayS
  by_cases h3 : p = ce
  · rw [if_pos h3]
  · rw [if_neg h3]
    cases h4 : onC n tb p ax with
    | true => rfl
    | false =>
      exfalso
      rw [fr_i.mpr ⟨⟨h1, h2⟩, h3, h4⟩] at fp
      cases fp
/-- the class's map is the same -/
theorem img_im {n : Int} {tb : Int → Int → Int} {ax ce q z hl : Int} (H : mpP n tb ax ce q z hl) {p : Int} (h1 : 0 ≤ p) (h2 : p < NP n) : imgX n tb (rayS n tb ax ce) (footX n tb (rayS n tb ax ce) ax q (lnC n tb ce q) hl) (lnC n tb ce q) hl z p = imM n tb ax ce q z hl p := by
  obtain ⟨⟨hn, ht, hP⟩, ⟨hax, hce⟩, ⟨fq, fto, hto⟩, fh, hh⟩ := id H
  have vq := (fr_i.mp fq).1
  have vz := (fr_i.mp fto).1
  have vh := (fr_i.mp fh).1
  have cq := pl_ln hn ht hP hce.1 hce.2 vq.1 vq.2
  unfold imgX
  cases fp : frB n tb ax ce p with
  | false => rw [if_pos (ray_n h1 h2 fp), im_fx fp]
  | true =>
    have cp := pl_ln hn ht hP hce.1 hce.2 h1 h2
    rw [if_neg (by rw [ray_v fp]; omega)]
    have lead : ∀ r, frB n tb ax ce r = true → onC n tb r (lnC n tb ce q) = false → mtC n tb (rayS n tb ax ce r) (lnC n tb (footX n tb (rayS n tb ax ce) ax q (lnC n tb ce q) hl r) z) = leM n tb ax ce q z r := by
      intro r fr or_
      have vr := (fr_i.mp fr).1
      have cr := pl_ln hn ht hP hce.1 hce.2 vr.1 vr.2
      have e1 : ¬ lnC n tb ce r = lnC n tb ce q := fun h9 => by rw [h9, or_] at cr; exact absurd cr.2.2 (by decide)
      unfold footX leM
      rw [ray_v fr, if_neg (by omega), if_neg e1]
      have qr := pl_ln hn ht hP vq.1 vq.2 vr.1 vr.2
      have s := pl_mt hn ht hP qr.1.1 qr.1.2 hax.1 hax.2
      have st := pl_ln hn ht hP s.1.1 s.1.2 vz.1 vz.2
      exact mt_comm hn ht hP cr.1.1 cr.1.2 st.1.1 st.1.2
    cases hp : onC n tb p (lnC n tb ce q) with
    | false =>
      have e1 : ¬ rayS n tb ax ce p = lnC n tb ce q := fun h9 => by rw [ray_v fp] at h9; rw [h9, hp] at cp; exact absurd cp.2.2 (by decide)
      rw [if_neg e1, lead p fp hp]
      unfold imM
      rw [if_pos fp, if_neg (by rw [hp]; decide)]
    | true =>
      have e1 : rayS n tb ax ce p = lnC n tb ce q := by rw [ray_v fp]; exact ray_ln hn ht hP fp cq.2.1 hp
      rw [if_pos e1, rg_v hn vh.1 vh.2]
      have e2 := lead hl fh hh
      rw [e2]
      have e3 : imM n tb ax ce q z hl p = leM n tb ax ce hl (leM n tb ax ce q z hl) p := by
        unfold imM
        rw [if_pos fp, if_pos hp]
      have e4 : footX n tb (rayS n tb ax ce) ax q (lnC n tb ce q) hl p = mtC n tb (lnC n tb hl p) ax := by
        unfold footX
        rw [if_neg (by rw [ray_v fp]; omega), if_pos e1]
      rw [e3, e4, ray_v fp]
      have s1 := mp_sw H fp hp
      have v1 := (fr_i.mp s1.1).1
      have qr := pl_ln hn ht hP vh.1 vh.2 h1 h2
      have s := pl_mt hn ht hP qr.1.1 qr.1.2 hax.1 hax.2
      have st := pl_ln hn ht hP s.1.1 s.1.2 v1.1 v1.2
      unfold leM
      exact mt_comm hn ht hP cp.1.1 cp.1.2 st.1.1 st.1.2
theorem mir_eq {n : Int} {tb : Int → Int → Int} {ax ce q z hl an : Int} {G : Int → Int} (H : mpP n tb ax ce q z hl) (H2 : mpP n tb ax ce q z an) (hG : ∀ p, 0 ≤ p → p < NP n → G p = imM n tb ax ce q z an p) : mirX n tb (rayS n tb ax ce) (footX n tb (rayS n tb ax ce) ax q (lnC n tb ce q) hl) (lnC n tb ce q) hl z = mirG n tb G := by
  obtain ⟨⟨hn, ht, hP⟩, -⟩ := id H
  have hln := okN_lo hn
  have hq := sq_b hn
  have hnp : NP n = n * n + n + 1 := rfl
  have e1 : mirX n tb (rayS n tb ax ce) (footX n tb (rayS n tb ax ce) ax q (lnC n tb ce q) hl) (lnC n tb ce q) hl z = mirG n tb (imM n tb ax ce q z hl) := by
    unfold mirX mirG
    exact all_congr _ _ (fun l g1 g2 => ld_congr hn ht (fun p g3 g4 => img_im H g3 g4))
  have e2 : mirG n tb G = mirG n tb (imM n tb ax ce q z an) := by
    unfold mirG
    exact all_congr _ _ (fun l g1 g2 => ld_congr hn ht hG)
  rw [e1, e2, Bool.eq_iff_iff, mir_ll hn ht hP (fun p g1 g2 => im_in H g1 g2) (fun p p' h => im_inj H h), mir_ll hn ht hP (fun p g1 g2 => im_in H2 g1 g2) (fun p p' h => im_inj H2 h)]
  exact ll_iff H H2
/-! There are free points. -/
theorem ex_off {n : Int} {tb : Int → Int → Int} (hn : okN n) (ht : tbR n tb) (hP : plP n tb) {l m : Int} (h1 : 0 ≤ l) (h2 : l < NP n) (h3 : 0 ≤ m) (h4 : m < NP n) (hne : l ≠ m) : ∃ d, (0 ≤ d ∧ d < NP n) ∧ onC n tb d l = false ∧ onC n tb d m = false := by
  have hln := okN_lo hn
  have one : ∀ l m, 0 ≤ l → l < NP n → l ≠ m → ∃ a, onC n tb a l = true ∧ onC n tb a m = false := by
    intro l m g1 g2 g3
    have he := pt_enum hn ht g1 g2
    have a0 := he.1 0 (by omega) (by omega)
    have a1 := he.1 1 (by omega) (by omega)
    have a2 := he.2.1 0 1 (by omega) (by omega) (by omega)
    cases k0 : onC n tb (ptC n tb l 0) m with
    | false => exact ⟨_, a0.2.2, k0⟩
    | true =>
      cases k1 : onC n tb (ptC n tb l 1) m with
      | false => exact ⟨_, a1.2.2, k1⟩
      | true => exact absurd (eq_ln hn ht hP (show ptC n tb l 0 ≠ ptC n tb l 1 by omega) a0.2.2 a1.2.2 k0 k1) g3
  obtain ⟨a, al, am⟩ := one l m h1 h2 hne
  obtain ⟨b, bm, bl⟩ := one m l h3 h4 (Ne.symm hne)
  have va := (onC_in al).1
  have vb := (onC_in bm).1
  have hk := pl_ln hn ht hP va.1 va.2 vb.1 vb.2
  have he := pt_enum hn ht hk.1.1 hk.1.2
  have a0 := he.1 0 (by omega) (by omega)
  have a1 := he.1 1 (by omega) (by omega)
  have a2 := he.1 2 (by omega) (by omega)
  have b0 := he.2.1 0 1 (by omega) (by omega) (by omega)
  have b1 := he.2.1 1 2 (by omega) (by omega) (by omega)
  have key : ∀ d, onC n tb d (lnC n tb a b) = true → d ≠ a → d ≠ b → onC n tb d l = false ∧ onC n tb d m = false := by
    intro d hd da db
    constructor
    · cases h0 : onC n tb d l with
      | false => rfl
      | true =>
        have h5 := eq_ln hn ht hP da hd hk.2.1 h0 al
        rw [h5, bl] at hk
        exact absurd hk.2.2 (by decide)
    · cases h0 : onC n tb d m with
      | false => rfl
      | true =>
        have h5 := eq_ln hn ht hP db hd hk.2.2 h0 bm
        rw [h5, am] at hk
        exact absurd hk.2.1 (by decide)
  by_cases c0 : ptC n tb (lnC n tb a b) 0 ≠ a ∧ ptC n tb (lnC n tb a b) 0 ≠ b
  · exact ⟨_, ⟨a0.1, a0.2.1⟩, key _ a0.2.2 c0.1 c0.2⟩
  · by_cases c1 : ptC n tb (lnC n tb a b) 1 ≠ a ∧ ptC n tb (lnC n tb a b) 1 ≠ b
    · exact ⟨_, ⟨a1.1, a1.2.1⟩, key _ a1.2.2 c1.1 c1.2⟩
    · exact ⟨_, ⟨a2.1, a2.2.1⟩, key _ a2.2.2 (by omega) (by omega)⟩
theorem ex_free {n : Int} {tb : Int → Int → Int} (hn : okN n) (ht : tbR n tb) (hP : plP n tb) {ax ce : Int} (hax : 0 ≤ ax ∧ ax < NP n) (hce : 0 ≤ ce ∧ ce < NP n) : ∃ p, frB n tb ax ce p = true := by
  have hln := okN_lo hn
  have he := lt_enum hn ht hce.1 hce.2
  have a0 := he.1 0 (by omega) (by omega)
  have a1 := he.1 1 (by omega) (by omega)
  have b0 := he.2.1 0 1 (by omega) (by omega) (by omega)
  have key : ∀ m, 0 ≤ m → m < NP n → onC n tb ce m = true → m ≠ ax → ∃ p, frB n tb ax ce p = true := by
    intro m g1 g2 g3 g4
    obtain ⟨d, vd, d1, d2⟩ := ex_off hn ht hP hax.1 hax.2 g1 g2 (Ne.symm g4)
    exact ⟨d, fr_i.mpr ⟨vd, fun h => (by rw [h, g3] at d2; cases d2), d1⟩⟩
  by_cases c0 : ltC n tb ce 0 = ax
  · exact key _ a1.1 a1.2.1 a1.2.2 (by omega)
  · exact key _ a0.1 a0.2.1 a0.2.2 c0
theorem ex_off2 {n : Int} {tb : Int → Int → Int} (hn : okN n) (ht : tbR n tb) (hP : plP n tb) {ax ce q : Int} (hax : 0 ≤ ax ∧ ax < NP n) (hce : 0 ≤ ce ∧ ce < NP n) (fq : frB n tb ax ce q = true) : ∃ p, frB n tb ax ce p = true ∧ onC n tb p (lnC n tb ce q) = false := by
  obtain ⟨vq, nq, oq⟩ := fr_i.mp fq
  have cq := pl_ln hn ht hP hce.1 hce.2 vq.1 vq.2
  have hne : ax ≠ lnC n tb ce q := fun h => by rw [h, cq.2.2] at oq; cases oq
  obtain ⟨d, vd, d1, d2⟩ := ex_off hn ht hP hax.1 hax.2 cq.1.1 cq.1.2 hne
  exact ⟨d, fr_i.mpr ⟨vd, fun h => (by rw [h, cq.2.1] at d2; cases d2), d1⟩, d2⟩
