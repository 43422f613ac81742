section
variable {yc yt ys ym no nb ya yw yv yu yo yk yp ye : Int32} {ycp ycf ymt kd ytk ytp ysk yoc ybt ybp ow ed wa yh ypr mo mb : Nat → Int32} {yof sv vr vl : Nat → Int64}
variable {N A : Nat} {ob : Nat → Bool} {ba : Nat → Int32} {of sl : Nat → Int64} {root : Int64}
theorem ym_p2 {O B : Nat} (hN : N ≤ 200) (hA : A ≤ 201) (hB : B = N - cu_O ob N) (hV : ∀ t, t < N → ob t = false → ∃ a, a < A ∧ ba t = nI a ∧ ybp (cu_g ob t) = nI a) (hS : ∀ a, a < A → vb_R ob N (sl (a * 7 + 6)) (sv a) ∧ ∀ k, k < 6 → vb_R ob N (sl (a * 7 + k)) (vr (6 * a + k))) : ∀ e i : Nat, i + e = 7 * B → ∀ (mo mb : Nat → Int32) (x1 : Int32), (x1 = 0 ∨ x1 = 1) → ym_I N A ob ba of sl root mo mb → ∃ mo' mb' y1, (y1 = 0 ∨ y1 = 1) ∧ ym_I N A ob ba of sl root mo' mb' ∧ (∀ t, t < N → ¬ ym_M ob mo mb t = 0 → ¬ ym_M ob mo' mb' t = 0) ∧ cn_z (ym_M ob mo mb) N ≤ cn_z (ym_M ob mo' mb') N ∧ (y1 = 0 → x1 = 0 ∧ mo' = mo ∧ mb' = mb ∧ ∀ t, t < N → ob t = false → ∀ a k, a < A → ba t = nI a → k < 7 → i ≤ 7 * cu_g ob t + k → ¬ ym_M ob mo mb t = 0 → ∀ s, s < N → vf_R ob (sl (a * 7 + k)) s → ¬ ym_M ob mo mb s = 0) ∧ (y1 = 1 → x1 = 1 ∨ cn_z (ym_M ob mo mb) N < cn_z (ym_M ob mo' mb') N) ∧ ∀ post : Int32 → SY → Prop, post y1 (yc, yt, ys, ym, nI O, nI B, ya, yw, yv, yu, yo, yk, yp, ye, ycp, ycf, ymt, kd, ytk, ytp, ysk, yoc, yof, ybt, ybp, sv, vr, ow, ed, wa, yh, vl, ypr, mo', mb') → wY_meetMore_56 post (e + 1) x1 (nI i) yc yt ys ym (nI O) (nI B) ya yw yv yu yo yk yp ye ycp ycf ymt kd ytk ytp ysk yoc yof ybt ybp sv vr ow ed wa yh vl ypr mo mb := by
  have l := cu_le ob N
  have e7 : (7 : Int32) * nI B = nI (7 * B) := pk_mul 7 B
  intro e
  induction e with
  | zero =>
    intro i h mo mb x1 hx I
    refine ⟨mo, mb, x1, hx, I, fun t ht h => h, Nat.le_refl _, fun z => ⟨z, rfl, rfl, fun t ht hb a k ha hba hk hi => ?_⟩, fun z => Or.inl z, fun post hp => br_t (by rw [e7]; exact nI_le (by omega) (by omega)) (And.intro (fi_nar hx) hp)⟩
    have := cu_gf hb ht
    omega
  | succ e ih =>
    intro i h mo mb x1 hx I
    obtain ⟨t, ht, hb, hg⟩ := cu_st0 (ob := ob) (N := N) (o := i / 7) (by omega)
    obtain ⟨a, ha, ea, eb⟩ := hV t ht hb
    rw [hg] at eb
    have eD : nI i / 7 = nI (i / 7) := pk_div (d := 7) (by omega) (by omega) (by omega)
    have er : nI i - nI (i / 7) * 7 = nI (i % 7) := by
      rw [← eD]
      exact pk_rem (d := 7) (by omega) (by omega) (by omega)
    have U : ∀ t', t' < N → ob t' = false → ∀ k, k < 7 → i ≤ 7 * cu_g ob t' + k → (t' = t ∧ k = i % 7) ∨ i + 1 ≤ 7 * cu_g ob t' + k := fun t' ht' hb' k hk hi => by
      by_cases q : i = 7 * cu_g ob t' + k
      · left
        exact ⟨cu_inj (hb'.trans hb.symm) (by omega), by omega⟩
      · right; omega
    have hle : ¬ (7 : Int32) * nI B ≤ nI i := by rw [e7]; exact nI_ge (by omega) (by omega)
    have i7 : i / 7 < 201 := by omega
    obtain ⟨y, hy, rr⟩ : ∃ y, ((i % 7 = 6 ∧ y = sv a) ∨ (¬ i % 7 = 6 ∧ y = vr (6 * a + i % 7))) ∧ vb_R ob N (sl (a * 7 + i % 7)) y := by
      obtain ⟨s1, s2⟩ := hS a ha
      by_cases q : i % 7 = 6
      · exact ⟨sv a, Or.inl ⟨q, rfl⟩, by rw [q]; exact s1⟩
      · exact ⟨vr (6 * a + i % 7), Or.inr ⟨q, rfl⟩, s2 _ (by omega)⟩
    have Wk : ∀ (mo mb : Nat → Int32) (post : Int32 → SY → Prop), wY_meetMore_109 post (wY_meetMore_56 post (e + 1)) x1 (nI i) y yc yt ys ym (nI O) (nI B) ya yw yv yu yo yk yp ye ycp ycf ymt kd ytk ytp ysk yoc yof ybt ybp sv vr ow ed wa yh vl ypr mo mb → wY_meetMore_56 post (e + 1 + 1) x1 (nI i) yc yt ys ym (nI O) (nI B) ya yw yv yu yo yk yp ye ycp ycf ymt kd ytk ytp ysk yoc yof ybt ybp sv vr ow ed wa yh vl ypr mo mb := fun mo mb post hp => by
      refine br_f hle (And.intro (by decide) (And.intro (by rw [eD]; exact vp_in_nI i7 (by decide)) (nm_r (e' := nI a) (by rw [eD, nI_clamp (by omega)]; exact eb) (And.intro (by decide) ?_))))
      rw [eD, er]
      rcases hy with ⟨q, rfl⟩ | ⟨q, rfl⟩
      · exact br_t (by rw [q]; rfl) (And.intro (vp_in_nI (by omega) (by decide)) (by rw [nI_clamp (by omega)]; exact hp))
      · have e6 : (6 : Int32) * nI a + nI (i % 7) = nI (6 * a + i % 7) := mt_j6
        exact br_f (ay_nIne (b := 6) q (by omega) (by decide)) (And.intro (by decide) (And.intro (by rw [e6]; exact vp_in_nI (by omega) (by decide)) (by rw [e6, nI_clamp (by omega)]; exact hp)))
    by_cases z : mb (i / 7) = 0
    · obtain ⟨mo2, mb2, y1, k1, k2, k3, k4, k5, k6, k7⟩ := ih (i + 1) (by omega) mo mb x1 hx I
      refine ⟨mo2, mb2, y1, k1, k2, k3, k4, fun y0 => ?_, k6, fun post hp => Wk mo mb post (And.intro (by decide) (And.intro (by rw [eD]; exact vp_in_nI i7 (by decide)) (br_t (by rw [eD, nI_clamp (by omega)]; exact z) (ym_132 hx (k7 post hp)))))⟩
      obtain ⟨q1, q2, q3, q4⟩ := k5 y0
      refine ⟨q1, q2, q3, fun t' ht' hb' a' k ha' hba' hk hi hM => ?_⟩
      rcases U t' ht' hb' k hk hi with ⟨rfl, _⟩ | hi'
      · rw [ym_f hb', hg] at hM
        exact absurd z hM
      · exact q4 t' ht' hb' a' k ha' hba' hk hi' hM
    · have Mt : ¬ ym_M ob mo mb t = 0 := by rw [ym_f hb, hg]; exact z
      have zz : ¬ mb (nI i / 7).toNatClampNeg = 0 := by rw [eD, nI_clamp (by omega)]; exact z
      have zv : vp_in (nI i / 7) 201 := by rw [eD]; exact vp_in_nI i7 (by decide)
      obtain ⟨mo1, mb1, q, j1, j2, j3, j4, j5⟩ := ym_meet (yc := yc) (yt := yt) (ys := ys) (ym := ym) (ya := ya) (yw := yw) (yv := yv) (yu := yu) (yo := yo) (yk := yk) (yp := yp) (ye := ye) (ycp := ycp) (ycf := ycf) (ymt := ymt) (kd := kd) (ytk := ytk) (ytp := ytp) (ysk := ysk) (yoc := yoc) (ybt := ybt) (ow := ow) (ed := ed) (wa := wa) (yh := yh) (vl := vl) (ypr := ypr) (no := nI O) (nb := nI B) (yof := yof) (ybp := ybp) (sv := sv) (vr := vr) hN rr (fun C hC s hs hv => hC.2 t ht (I C hC t ht Mt) _ (Or.inr ⟨hb, a, i % 7, ha, by omega, ea, rfl⟩) s hs hv) I
      rcases j4 with ⟨rfl, rfl, rfl⟩ | ⟨rfl, jc⟩
      · obtain ⟨mo2, mb2, y1, k1, k2, k3, k4, k5, k6, k7⟩ := ih (i + 1) (by omega) mo1 mb1 x1 hx I
        refine ⟨mo2, mb2, y1, k1, k2, k3, k4, fun y0 => ?_, k6, fun post hp => Wk mo1 mb1 post (And.intro (by decide) (And.intro zv (br_f zz (j5 _ (br_t rfl (ym_132 hx (k7 post hp)))))))⟩
        obtain ⟨q1, q2, q3, q4⟩ := k5 y0
        refine ⟨q1, q2, q3, fun t' ht' hb' a' k ha' hba' hk hi hM => ?_⟩
        rcases U t' ht' hb' k hk hi with ⟨rfl, rfl⟩ | hi'
        · have : a' = a := by
            rw [ea] at hba'
            exact ((nI_eq (by omega) (by omega)).mp hba').symm
          subst this
          exact j3
        · exact q4 t' ht' hb' a' k ha' hba' hk hi' hM
      · obtain ⟨mo2, mb2, y1, k1, k2, k3, k4, k5, k6, k7⟩ := ih (i + 1) (by omega) mo1 mb1 1 (Or.inr rfl) j1
        exact ⟨mo2, mb2, y1, k1, k2, fun t ht h => k3 t ht (j2 t ht h), by omega, fun y0 => absurd (k5 y0).1 (by decide), fun _ => Or.inr (by omega), fun post hp => Wk mo mb post (And.intro (by decide) (And.intro zv (br_f zz (j5 _ (br_f (by decide) (nm_r (nI_1 i) (k7 post hp)))))))⟩
theorem ym_more {O B : Nat} (hN : N ≤ 200) (hA : A ≤ 201) (hO : O = cu_O ob N) (hB : B = N - cu_O ob N) (hF : ∀ t, t < N → ob t = true → ∀ k, k < 4 → vb_R ob N (of (t * 4 + k)) (yof (4 * cu_g ob t + k))) (hV : ∀ t, t < N → ob t = false → ∃ a, a < A ∧ ba t = nI a ∧ ybp (cu_g ob t) = nI a) (hS : ∀ a, a < A → vb_R ob N (sl (a * 7 + 6)) (sv a) ∧ ∀ k, k < 6 → vb_R ob N (sl (a * 7 + k)) (vr (6 * a + k))) (I : ym_I N A ob ba of sl root mo mb) : ∃ mo' mb' y1, ym_I N A ob ba of sl root mo' mb' ∧ (∀ t, t < N → ¬ ym_M ob mo mb t = 0 → ¬ ym_M ob mo' mb' t = 0) ∧ ((y1 = 0 ∧ mo' = mo ∧ mb' = mb ∧ ∀ t, t < N → ¬ ym_M ob mo mb t = 0 → ∀ x, vf_V A ob ba of sl t x → ∀ s, s < N → vf_R ob x s → ¬ ym_M ob mo mb s = 0) ∨ (y1 = 1 ∧ cn_z (ym_M ob mo mb) N < cn_z (ym_M ob mo' mb') N)) ∧ ∀ post : Int32 → SY → Prop, post y1 (yc, yt, ys, ym, nI O, nI B, ya, yw, yv, yu, yo, yk, yp, ye, ycp, ycf, ymt, kd, ytk, ytp, ysk, yoc, yof, ybt, ybp, sv, vr, ow, ed, wa, yh, vl, ypr, mo', mb') → wpY_meetMore post (yc, yt, ys, ym, nI O, nI B, ya, yw, yv, yu, yo, yk, yp, ye, ycp, ycf, ymt, kd, ytk, ytp, ysk, yoc, yof, ybt, ybp, sv, vr, ow, ed, wa, yh, vl, ypr, mo, mb) := by
  obtain ⟨mo1, mb1, y1, a1, a2, a3, a4, a5, a6, a7⟩ := ym_p1 (yc := yc) (yt := yt) (ys := ys) (ym := ym) (ya := ya) (yw := yw) (yv := yv) (yu := yu) (yo := yo) (yk := yk) (yp := yp) (ye := ye) (ycp := ycp) (ycf := ycf) (ymt := ymt) (kd := kd) (ytk := ytk) (ytp := ytp) (ysk := ysk) (yoc := yoc) (ybt := ybt) (ow := ow) (ed := ed) (wa := wa) (yh := yh) (vl := vl) (ypr := ypr) (ybp := ybp) (sv := sv) (vr := vr) (B := B) hN hO hF (4 * O) 0 (by omega) mo mb 0 (Or.inl rfl) I
  obtain ⟨mo2, mb2, y2, b1, b2, b3, b4, b5, b6, b7⟩ := ym_p2 (yc := yc) (yt := yt) (ys := ys) (ym := ym) (ya := ya) (yw := yw) (yv := yv) (yu := yu) (yo := yo) (yk := yk) (yp := yp) (ye := ye) (ycp := ycp) (ycf := ycf) (ymt := ymt) (kd := kd) (ytk := ytk) (ytp := ytp) (ysk := ysk) (yoc := yoc) (ybt := ybt) (ow := ow) (ed := ed) (wa := wa) (yh := yh) (vl := vl) (ypr := ypr) (yof := yof) (O := O) hN hA hB hV hS (7 * B) 0 (by omega) mo1 mb1 y1 a1 a2
  refine ⟨mo2, mb2, y2, b2, fun t ht h => b3 t ht (a3 t ht h), ?_, fun post hp => Exists.intro _ (a7 post ⟨_, b7 post hp⟩)⟩
  rcases b1 with rfl | rfl
  · left
    obtain ⟨c1, c2, c3, c4⟩ := b5 rfl
    subst c1 c2 c3
    obtain ⟨d1, d2, d3, d4⟩ := a5 rfl
    subst d2 d3
    refine ⟨rfl, rfl, rfl, fun t ht hM x hx s hs hv => ?_⟩
    rcases hx with ⟨hb, k, hk, rfl⟩ | ⟨hb, a, k, ha, hk, hba, rfl⟩
    · exact d4 t ht hb k hk (Nat.zero_le _) hM s hs hv
    · exact c4 t ht hb a k ha hba hk (Nat.zero_le _) hM s hs hv
  · right
    refine ⟨rfl, ?_⟩
    rcases b6 rfl with z | z
    · rcases a6 z with q | q
      · exact absurd q (by decide)
      · omega
    · omega
theorem ym_while {O B : Nat} (hN : N ≤ 200) (hA : A ≤ 201) (hO : O = cu_O ob N) (hB : B = N - cu_O ob N) (hF : ∀ t, t < N → ob t = true → ∀ k, k < 4 → vb_R ob N (of (t * 4 + k)) (yof (4 * cu_g ob t + k))) (hV : ∀ t, t < N → ob t = false → ∃ a, a < A ∧ ba t = nI a ∧ ybp (cu_g ob t) = nI a) (hS : ∀ a, a < A → vb_R ob N (sl (a * 7 + 6)) (sv a) ∧ ∀ k, k < 6 → vb_R ob N (sl (a * 7 + k)) (vr (6 * a + k))) : ∀ (d : Nat) (mo mb : Nat → Int32), N + 1 ≤ cn_z (ym_M ob mo mb) N + d → ym_I N A ob ba of sl root mo mb → (∀ s, s < N → vf_R ob root s → ¬ ym_M ob mo mb s = 0) → ∃ mo' mb', ym_I N A ob ba of sl root mo' mb' ∧ rc_C N A ob ba of sl root (fun t => ¬ ym_M ob mo' mb' t = 0) ∧ ∀ post : Int32 → SY → Prop, (∃ m, wY_reach_69 post yc yt ys ym (nI O) (nI B) ya yw yv yu yo yk yp ye ycp ycf ymt kd ytk ytp ysk yoc yof ybt ybp sv vr ow ed wa yh vl ypr mo' mb' m 0 0) → ∃ m, wY_reach_53 post m 1 yc yt ys ym (nI O) (nI B) ya yw yv yu yo yk yp ye ycp ycf ymt kd ytk ytp ysk yoc yof ybt ybp sv vr ow ed wa yh vl ypr mo mb := by
  intro d
  induction d with
  | zero =>
    intro mo mb h
    have := cn_le (ym_M ob mo mb) N
    omega
  | succ d ih =>
    intro mo mb h I R
    obtain ⟨mo1, mb1, y1, a1, a2, a3, a4⟩ := ym_more (yc := yc) (yt := yt) (ys := ys) (ym := ym) (ya := ya) (yw := yw) (yv := yv) (yu := yu) (yo := yo) (yk := yk) (yp := yp) (ye := ye) (ycp := ycp) (ycf := ycf) (ymt := ymt) (kd := kd) (ytk := ytk) (ytp := ytp) (ysk := ysk) (yoc := yoc) (ybt := ybt) (ow := ow) (ed := ed) (wa := wa) (yh := yh) (vl := vl) (ypr := ypr) hN hA hO hB hF hV hS I
    rcases a3 with ⟨rfl, rfl, rfl, c⟩ | ⟨rfl, c⟩
    · exact ⟨mo1, mb1, I, ⟨R, fun t ht hM x hx s hs hv => c t ht hM x hx s hs hv⟩, fun post hp => ⟨2, br_f (by decide) (a4 _ (br_t rfl hp))⟩⟩
    · obtain ⟨mo2, mb2, b1, b2, b3⟩ := ih mo1 mb1 (by omega) a1 (fun s hs hv => a2 s hs (R s hs hv))
      refine ⟨mo2, mb2, b1, b2, fun post hp => ?_⟩
      obtain ⟨m, hm⟩ := b3 post hp
      exact ⟨m + 1, br_f (by decide) (a4 _ hm)⟩
theorem ym_ct (post : Int32 → SY → Prop) {O : Nat} (hO : O ≤ 200) (hp : post (nI (cn_z mo O)) (yc, yt, ys, ym, nI O, nb, ya, yw, yv, yu, yo, yk, yp, ye, ycp, ycf, ymt, kd, ytk, ytp, ysk, yoc, yof, ybt, ybp, sv, vr, ow, ed, wa, yh, vl, ypr, mo, mb)) : ∀ e k : Nat, k + e = O → wY_reach_69 post yc yt ys ym (nI O) nb ya yw yv yu yo yk yp ye ycp ycf ymt kd ytk ytp ysk yoc yof ybt ybp sv vr ow ed wa yh vl ypr mo mb (e + 1) (nI (cn_z mo k)) (nI k) := by
  intro e
  induction e with
  | zero =>
    intro k h
    have : k = O := by omega
    subst this
    exact br_t (nI_le (Nat.le_refl _) (by omega)) hp
  | succ e ih =>
    intro k h
    have I := ih (k + 1) (by omega)
    have q : cn_z mo (k + 1) = cn_z mo k + (if mo k = 0 then 0 else 1) := rfl
    by_cases z : mo k = 0
    · rw [q, if_pos z, Nat.add_zero] at I
      exact br_f (nI_ge (by omega) (by omega)) (And.intro (vp_in_nI (by omega) (by decide)) (br_t (by rw [nI_clamp (by omega)]; exact z) (nm_r (nI_1 k) I)))
    · rw [q, if_neg z] at I
      exact br_f (nI_ge (by omega) (by omega)) (And.intro (vp_in_nI (by omega) (by decide)) (br_f (by rw [nI_clamp (by omega)]; exact z) (nm_r (nI_1 _) (nm_r (nI_1 k) I))))
theorem ym_cl (post : Int32 → SY → Prop) (hp : wpY_meet (fun r u => match u with | (yc, yt, ys, ym, no, nb, ya, yw, yv, yu, yo, yk, yp, ye, ycp, ycf, ymt, kd, ytk, ytp, ysk, yoc, yof, ybt, ybp, sv, vr, ow, ed, wa, yh, vl, ypr, mo, mb) => ∃ m, wY_reach_53 post m r yc yt ys ym no nb ya yw yv yu yo yk yp ye ycp ycf ymt kd ytk ytp ysk yoc yof ybt ybp sv vr ow ed wa yh vl ypr mo mb) (yc, yt, ys, ym, no, nb, ya, yw, yv, yu, yo, yk, yp, ye, ycp, ycf, ymt, kd, ytk, ytp, ysk, yoc, yof, ybt, ybp, sv, vr, ow, ed, wa, yh, vl, ypr, um_n mo 201, um_n mb 201) (vl 0)) : ∀ e k : Nat, k + e = 201 → wY_reach_15 post yc yt ys ym no nb ya yw yv yu yo yk yp ye (e + 1) (nI k) ycp ycf ymt kd ytk ytp ysk yoc yof ybt ybp sv vr ow ed wa yh vl ypr (um_n mo k) (um_n mb k) := by
  intro e
  induction e with
  | zero =>
    intro k h
    have : k = 201 := by omega
    subst this
    exact br_t (by decide) hp
  | succ e ih =>
    intro k h
    exact br_f (nI_ge (b := 201) (by omega) (by decide)) (And.intro (vp_in_nI (by omega) (by decide)) (nm_r (e' := um_n mo (k + 1)) (by rw [nI_clamp (by omega), ay_n0]; rfl) (And.intro (vp_in_nI (by omega) (by decide)) (nm_r (e' := um_n mb (k + 1)) (by rw [nI_clamp (by omega), ay_n0]; rfl) (nm_r (nI_1 k) (ih (k + 1) (by omega)))))))
theorem ym_go {O B : Nat} (hN : N ≤ 200) (hA : A ≤ 201) (hO : O = cu_O ob N) (hB : B = N - cu_O ob N) (hr : vb_R ob N root (vl 0)) (hF : ∀ t, t < N → ob t = true → ∀ k, k < 4 → vb_R ob N (of (t * 4 + k)) (yof (4 * cu_g ob t + k))) (hV : ∀ t, t < N → ob t = false → ∃ a, a < A ∧ ba t = nI a ∧ ybp (cu_g ob t) = nI a) (hS : ∀ a, a < A → vb_R ob N (sl (a * 7 + 6)) (sv a) ∧ ∀ k, k < 6 → vb_R ob N (sl (a * 7 + k)) (vr (6 * a + k))) : ∃ mo' mb', ym_I N A ob ba of sl root mo' mb' ∧ rc_C N A ob ba of sl root (fun t => ¬ ym_M ob mo' mb' t = 0) ∧ ∀ post : Int32 → SY → Prop, post (nI (cn_z mo' O)) (yc, yt, ys, ym, nI O, nI B, ya, yw, yv, yu, yo, yk, yp, ye, ycp, ycf, ymt, kd, ytk, ytp, ysk, yoc, yof, ybt, ybp, sv, vr, ow, ed, wa, yh, vl, ypr, mo', mb') → ∃ m, wY_reach_15 post yc yt ys ym (nI O) (nI B) ya yw yv yu yo yk yp ye m 0 ycp ycf ymt kd ytk ytp ysk yoc yof ybt ybp sv vr ow ed wa yh vl ypr mo mb := by
  have l := cu_le ob N
  have z : ∀ t, t < N → ym_M ob (um_n mo 201) (um_n mb 201) t = 0 := fun t ht => by
    cases q : ob t with
    | true =>
      have := cu_gt q ht
      rw [ym_t q]; exact um_in (by omega)
    | false =>
      have := cu_gf q ht
      rw [ym_f q]; exact um_in (by omega)
  have I0 : ym_I N A ob ba of sl root (um_n mo 201) (um_n mb 201) := fun C hC t ht h => absurd (z t ht) h
  obtain ⟨mo1, mb1, q, a1, a2, a3, a4, a5⟩ := ym_meet (yc := yc) (yt := yt) (ys := ys) (ym := ym) (ya := ya) (yw := yw) (yv := yv) (yu := yu) (yo := yo) (yk := yk) (yp := yp) (ye := ye) (ycp := ycp) (ycf := ycf) (ymt := ymt) (kd := kd) (ytk := ytk) (ytp := ytp) (ysk := ysk) (yoc := yoc) (ybt := ybt) (ow := ow) (ed := ed) (wa := wa) (yh := yh) (vl := vl) (ypr := ypr) (no := nI O) (nb := nI B) (yof := yof) (ybp := ybp) (sv := sv) (vr := vr) hN hr (fun C hC s hs hv => hC.1 s hs hv) I0
  rcases a4 with ⟨rfl, rfl, rfl⟩ | ⟨rfl, _⟩
  · refine ⟨um_n mo 201, um_n mb 201, I0, ⟨a3, fun t ht h => absurd (z t ht) h⟩, fun post hp => ⟨202, ym_cl post (a5 _ (Exists.intro 1 (br_t rfl (Exists.intro (O + 1) (ym_ct post (by omega) hp O 0 (by omega)))))) 201 0 rfl⟩⟩
  · obtain ⟨mo2, mb2, b1, b2, b3⟩ := ym_while (yc := yc) (yt := yt) (ys := ys) (ym := ym) (ya := ya) (yw := yw) (yv := yv) (yu := yu) (yo := yo) (yk := yk) (yp := yp) (ye := ye) (ycp := ycp) (ycf := ycf) (ymt := ymt) (kd := kd) (ytk := ytk) (ytp := ytp) (ysk := ysk) (yoc := yoc) (ybt := ybt) (ow := ow) (ed := ed) (wa := wa) (yh := yh) (vl := vl) (ypr := ypr) hN hA hO hB hF hV hS (N + 1) mo1 mb1 (by omega) a1 a3
    refine ⟨mo2, mb2, b1, b2, fun post hp => ⟨202, ym_cl post (a5 _ ?_) 201 0 rfl⟩⟩
    exact b3 post (Exists.intro (O + 1) (ym_ct post (by omega) hp O 0 (by omega)))
end
