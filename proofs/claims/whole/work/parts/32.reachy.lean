/-! Y's marks -/
def ym_M (ob : Nat → Bool) (mo mb : Nat → Int32) : Nat → Int32 := fun t => if ob t = true then mo (cu_g ob t) else mb (cu_g ob t)
theorem ym_t {ob : Nat → Bool} {mo mb : Nat → Int32} {t : Nat} (h : ob t = true) : ym_M ob mo mb t = mo (cu_g ob t) := if_pos h
theorem ym_f {ob : Nat → Bool} {mo mb : Nat → Int32} {t : Nat} (h : ob t = false) : ym_M ob mo mb t = mb (cu_g ob t) := if_neg (by rw [h]; exact Bool.noConfusion)
theorem ym_u1 {ob : Nat → Bool} {mo mb : Nat → Int32} {s : Nat} (hb : ob s = true) : ym_M ob (upd mo (cu_g ob s) 1) mb = upd (ym_M ob mo mb) s 1 := by
  funext t
  by_cases e : t = s
  · subst e
    rw [ym_t hb, pk_us, pk_us]
  · rw [pk_un e]
    cases z : ob t with
    | true => rw [ym_t z, ym_t z, pk_un (fun y => e (cu_inj (z.trans hb.symm) y))]
    | false => rw [ym_f z, ym_f z]
theorem ym_u0 {ob : Nat → Bool} {mo mb : Nat → Int32} {s : Nat} (hb : ob s = false) : ym_M ob mo (upd mb (cu_g ob s) 1) = upd (ym_M ob mo mb) s 1 := by
  funext t
  by_cases e : t = s
  · subst e
    rw [ym_f hb, pk_us, pk_us]
  · rw [pk_un e]
    cases z : ob t with
    | true => rw [ym_t z, ym_t z]
    | false => rw [ym_f z, ym_f z, pk_un (fun y => e (cu_inj (z.trans hb.symm) y))]
theorem ym_cn {ob : Nat → Bool} {mo mb : Nat → Int32} : ∀ N, cn_z (xr_o ob (ym_M ob mo mb)) N = cn_z mo (cu_O ob N)
  | 0 => rfl
  | N + 1 => by
    show cn_z (xr_o ob (ym_M ob mo mb)) N + (if xr_o ob (ym_M ob mo mb) N = 0 then 0 else 1) = cn_z mo (cu_O ob (N + 1))
    rw [ym_cn N]
    cases z : ob N with
    | true =>
      rw [cu_st z, xr_ot z, ym_t z, show cu_g ob N = cu_O ob N from if_pos z]
      rfl
    | false => rw [cu_sf z, xr_of z, if_pos rfl, Nat.add_zero]
def ym_I (N A : Nat) (ob : Nat → Bool) (ba : Nat → Int32) (of sl : Nat → Int64) (root : Int64) (mo mb : Nat → Int32) : Prop := ∀ C, rc_C N A ob ba of sl root C → ∀ t, t < N → ¬ ym_M ob mo mb t = 0 → C t
theorem ym_mark {N A s : Nat} {ob : Nat → Bool} {ba : Nat → Int32} {of sl : Nat → Int64} {root x : Int64} {M M' : Nat → Int32} (hN : N ≤ 200) (hs : s < N) (hv : vf_R ob x s) (hm : ∀ C, rc_C N A ob ba of sl root C → ∀ s, s < N → vf_R ob x s → C s) (I : ∀ C, rc_C N A ob ba of sl root C → ∀ t, t < N → ¬ M t = 0 → C t) (z : M s = 0) (e : M' = upd M s 1) : (∀ C, rc_C N A ob ba of sl root C → ∀ t, t < N → ¬ M' t = 0 → C t) ∧ (∀ t, t < N → ¬ M t = 0 → ¬ M' t = 0) ∧ (∀ s, s < N → vf_R ob x s → ¬ M' s = 0) ∧ cn_z M' N = cn_z M N + 1 := by
  subst e
  refine ⟨fun C hC t ht hr => ?_, fun t ht hr => ?_, fun s' hs' hv' => ?_, cn_up z hs⟩
  · by_cases e : t = s
    · subst e; exact hm C hC t hs hv
    · rw [pk_un e] at hr; exact I C hC t ht hr
  · by_cases e : t = s
    · subst e; rw [pk_us]; decide
    · rw [pk_un e]; exact hr
  · rw [vf_one (by omega) (by omega) hv hv', pk_us]; decide
section
variable {yc yt ys ym no nb ya yw yv yu yo yk yp ye : Int32} {ycp ycf ymt kd ytk ytp ysk yoc ybt ybp ow ed wa yh ypr mo mb : Nat → Int32} {yof sv vr vl : Nat → Int64}
variable {N A : Nat} {ob : Nat → Bool} {ba : Nat → Int32} {of sl : Nat → Int64} {root : Int64}
theorem ym_33n (post : Int32 → SY → Prop) {x : Int64} {g : Int32} (h : ¬ vb_T x = 3) (hp : post 0 (yc, yt, ys, ym, no, nb, ya, yw, yv, yu, yo, yk, yp, ye, ycp, ycf, ymt, kd, ytk, ytp, ysk, yoc, yof, ybt, ybp, sv, vr, ow, ed, wa, yh, vl, ypr, mo, mb)) : wY_meet_33 post x g yc yt ys ym no nb ya yw yv yu yo yk yp ye ycp ycf ymt kd ytk ytp ysk yoc yof ybt ybp sv vr ow ed wa yh vl ypr mo mb := by
  unfold wY_meet_33
  exact ay_type _ rfl (br_f h hp)
theorem ym_33t (post : Int32 → SY → Prop) {x : Int64} {g : Int32} (h : vb_T x = 3) (hp : vp_in g 201 ∧ ((mb g.toNatClampNeg = 0 → vp_in g 201 ∧ ∀ y, y = upd mb g.toNatClampNeg (vp_nar .boolean 1) → post 1 (yc, yt, ys, ym, no, nb, ya, yw, yv, yu, yo, yk, yp, ye, ycp, ycf, ymt, kd, ytk, ytp, ysk, yoc, yof, ybt, ybp, sv, vr, ow, ed, wa, yh, vl, ypr, mo, y)) ∧ (¬ mb g.toNatClampNeg = 0 → post 0 (yc, yt, ys, ym, no, nb, ya, yw, yv, yu, yo, yk, yp, ye, ycp, ycf, ymt, kd, ytk, ytp, ysk, yoc, yof, ybt, ybp, sv, vr, ow, ed, wa, yh, vl, ypr, mo, mb)))) : wY_meet_33 post x g yc yt ys ym no nb ya yw yv yu yo yk yp ye ycp ycf ymt kd ytk ytp ysk yoc yof ybt ybp sv vr ow ed wa yh vl ypr mo mb := by
  unfold wY_meet_33
  exact ay_type _ h (br_t rfl hp)
theorem ym_meet {x y : Int64} (hN : N ≤ 200) (r : vb_R ob N x y) (hm : ∀ C, rc_C N A ob ba of sl root C → ∀ s, s < N → vf_R ob x s → C s) (I : ym_I N A ob ba of sl root mo mb) : ∃ mo' mb' q, ym_I N A ob ba of sl root mo' mb' ∧ (∀ t, t < N → ¬ ym_M ob mo mb t = 0 → ¬ ym_M ob mo' mb' t = 0) ∧ (∀ s, s < N → vf_R ob x s → ¬ ym_M ob mo' mb' s = 0) ∧ ((q = 0 ∧ mo' = mo ∧ mb' = mb) ∨ (q = 1 ∧ cn_z (ym_M ob mo' mb') N = cn_z (ym_M ob mo mb) N + 1)) ∧ ∀ post : Int32 → SY → Prop, post q (yc, yt, ys, ym, no, nb, ya, yw, yv, yu, yo, yk, yp, ye, ycp, ycf, ymt, kd, ytk, ytp, ysk, yoc, yof, ybt, ybp, sv, vr, ow, ed, wa, yh, vl, ypr, mo', mb') → wpY_meet post (yc, yt, ys, ym, no, nb, ya, yw, yv, yu, yo, yk, yp, ye, ycp, ycf, ymt, kd, ytk, ytp, ysk, yoc, yof, ybt, ybp, sv, vr, ow, ed, wa, yh, vl, ypr, mo, mb) y := by
  have l := cu_le ob N
  rcases r with ⟨rfl, rfl⟩ | ⟨i, rfl, rfl⟩ | ⟨t, a, b, rfl, rfl⟩ | ⟨t, a, b, rfl, rfl⟩
  · exact ⟨mo, mb, 0, I, fun t ht h => h, fun s hs hv => absurd hv (vf_no (by rw [vC_1]; decide) (by rw [vC_1]; decide)), Or.inl ⟨rfl, rfl, rfl⟩, fun post hp => by
      unfold wpY_meet
      exact ay_num _ (ay_type _ (vC_1 _) (br_f (by decide) (ym_33n post (by rw [vC_1]; decide) hp)))⟩
  · exact ⟨mo, mb, 0, I, fun t ht h => h, fun s hs hv => absurd hv (vf_no (by rw [vC_2]; decide) (by rw [vC_2]; decide)), Or.inl ⟨rfl, rfl, rfl⟩, fun post hp => by
      unfold wpY_meet
      exact ay_num _ (ay_type _ (vC_2 _) (br_f (by decide) (ym_33n post (by rw [vC_2]; decide) hp)))⟩
  · have g := cu_gf b a
    have hv : vf_R ob (vb_pk 3 (nI t)) t := Or.inl ⟨b, rfl⟩
    by_cases z : mb (cu_g ob t) = 0
    · obtain ⟨k1, k2, k3, k4⟩ := ym_mark (M := ym_M ob mo mb) (M' := ym_M ob mo (upd mb (cu_g ob t) 1)) hN a hv hm I (by rw [ym_f b]; exact z) (ym_u0 b)
      exact ⟨mo, upd mb (cu_g ob t) 1, 1, k1, k2, k3, Or.inr ⟨rfl, k4⟩, fun post hp => by
      unfold wpY_meet
      exact ay_num _ (ay_type _ (vC_3 _) (br_f (by decide) (ym_33t post (vC_3 _) ( (And.intro (vp_in_nI (by omega) (by decide)) (br_t (by rw [nI_clamp (by omega)]; exact z) (And.intro (vp_in_nI (by omega) (by decide)) (nm_r (e' := upd mb (cu_g ob t) 1) (by rw [nI_clamp (by omega), ay_n1]) hp))))))))⟩
    · exact ⟨mo, mb, 0, I, fun t ht h => h, fun s hs hv' => by rw [vf_one (by omega) (by omega) hv hv', ym_f b]; exact z, Or.inl ⟨rfl, rfl, rfl⟩, fun post hp => by
      unfold wpY_meet
      exact ay_num _ (ay_type _ (vC_3 _) (br_f (by decide) (ym_33t post (vC_3 _) ( (And.intro (vp_in_nI (by omega) (by decide)) (br_f (by rw [nI_clamp (by omega)]; exact z) hp))))))⟩
  · have g := cu_gt b a
    have hv : vf_R ob (vb_pk 4 (nI t)) t := Or.inr ⟨b, rfl⟩
    by_cases z : mo (cu_g ob t) = 0
    · obtain ⟨k1, k2, k3, k4⟩ := ym_mark (M := ym_M ob mo mb) (M' := ym_M ob (upd mo (cu_g ob t) 1) mb) hN a hv hm I (by rw [ym_t b]; exact z) (ym_u1 b)
      exact ⟨upd mo (cu_g ob t) 1, mb, 1, k1, k2, k3, Or.inr ⟨rfl, k4⟩, fun post hp => by
      unfold wpY_meet
      exact ay_num _ (ay_type _ (vC_4 _) (br_t rfl (And.intro (vp_in_nI (by omega) (by decide)) (br_t (by rw [nI_clamp (by omega)]; exact z) (And.intro (vp_in_nI (by omega) (by decide)) (nm_r (e' := upd mo (cu_g ob t) 1) (by rw [nI_clamp (by omega), ay_n1]) hp))))))⟩
    · exact ⟨mo, mb, 0, I, fun t ht h => h, fun s hs hv' => by rw [vf_one (by omega) (by omega) hv hv', ym_t b]; exact z, Or.inl ⟨rfl, rfl, rfl⟩, fun post hp => by
      unfold wpY_meet
      exact ay_num _ (ay_type _ (vC_4 _) (br_t rfl (And.intro (vp_in_nI (by omega) (by decide)) (br_f (by rw [nI_clamp (by omega)]; exact z) (ym_33n post (by rw [vC_4]; decide) hp)))))⟩
theorem ym_38 {x1 : Int32} {i : Nat} {post : Int32 → SY → Prop} {J : Int32 → Int32 → Int32 → Int32 → Int32 → Int32 → Int32 → Int32 → Int32 → Int32 → Int32 → Int32 → Int32 → Int32 → Int32 → Int32 → (Nat → Int32) → (Nat → Int32) → (Nat → Int32) → (Nat → Int32) → (Nat → Int32) → (Nat → Int32) → (Nat → Int32) → (Nat → Int32) → (Nat → Int64) → (Nat → Int32) → (Nat → Int32) → (Nat → Int64) → (Nat → Int64) → (Nat → Int32) → (Nat → Int32) → (Nat → Int32) → (Nat → Int32) → (Nat → Int64) → (Nat → Int32) → (Nat → Int32) → (Nat → Int32) → Prop} (h : x1 = 0 ∨ x1 = 1) (hp : J x1 (nI (i + 1)) yc yt ys ym no nb ya yw yv yu yo yk yp ye ycp ycf ymt kd ytk ytp ysk yoc yof ybt ybp sv vr ow ed wa yh vl ypr mo mb) : wY_meetMore_38 post J x1 (nI i) yc yt ys ym no nb ya yw yv yu yo yk yp ye ycp ycf ymt kd ytk ytp ysk yoc yof ybt ybp sv vr ow ed wa yh vl ypr mo mb := by
  rcases h with rfl | rfl
  · exact br_t rfl (nm_r (nI_1 i) hp)
  · exact br_f (by decide) (nm_r (nI_1 i) hp)
theorem ym_132 {x1 : Int32} {i : Nat} {post : Int32 → SY → Prop} {J : Int32 → Int32 → Int32 → Int32 → Int32 → Int32 → Int32 → Int32 → Int32 → Int32 → Int32 → Int32 → Int32 → Int32 → Int32 → Int32 → (Nat → Int32) → (Nat → Int32) → (Nat → Int32) → (Nat → Int32) → (Nat → Int32) → (Nat → Int32) → (Nat → Int32) → (Nat → Int32) → (Nat → Int64) → (Nat → Int32) → (Nat → Int32) → (Nat → Int64) → (Nat → Int64) → (Nat → Int32) → (Nat → Int32) → (Nat → Int32) → (Nat → Int32) → (Nat → Int64) → (Nat → Int32) → (Nat → Int32) → (Nat → Int32) → Prop} (h : x1 = 0 ∨ x1 = 1) (hp : J x1 (nI (i + 1)) yc yt ys ym no nb ya yw yv yu yo yk yp ye ycp ycf ymt kd ytk ytp ysk yoc yof ybt ybp sv vr ow ed wa yh vl ypr mo mb) : wY_meetMore_132 post J x1 (nI i) yc yt ys ym no nb ya yw yv yu yo yk yp ye ycp ycf ymt kd ytk ytp ysk yoc yof ybt ybp sv vr ow ed wa yh vl ypr mo mb := by
  rcases h with rfl | rfl
  · exact br_t rfl (nm_r (nI_1 i) hp)
  · exact br_f (by decide) (nm_r (nI_1 i) hp)
theorem ym_p1 {O B : Nat} (hN : N ≤ 200) (hO : O = cu_O ob N) (hV : ∀ t, t < N → ob t = true → ∀ k, k < 4 → vb_R ob N (of (t * 4 + k)) (yof (4 * cu_g ob t + k))) : ∀ e i : Nat, i + e = 4 * O → ∀ (mo mb : Nat → Int32) (x1 : Int32), (x1 = 0 ∨ x1 = 1) → ym_I N A ob ba of sl root mo mb → ∃ mo' mb' y1, (y1 = 0 ∨ y1 = 1) ∧ ym_I N A ob ba of sl root mo' mb' ∧ (∀ t, t < N → ¬ ym_M ob mo mb t = 0 → ¬ ym_M ob mo' mb' t = 0) ∧ cn_z (ym_M ob mo mb) N ≤ cn_z (ym_M ob mo' mb') N ∧ (y1 = 0 → x1 = 0 ∧ mo' = mo ∧ mb' = mb ∧ ∀ t, t < N → ob t = true → ∀ k, k < 4 → i ≤ 4 * cu_g ob t + k → ¬ ym_M ob mo mb t = 0 → ∀ s, s < N → vf_R ob (of (t * 4 + k)) s → ¬ ym_M ob mo mb s = 0) ∧ (y1 = 1 → x1 = 1 ∨ cn_z (ym_M ob mo mb) N < cn_z (ym_M ob mo' mb') N) ∧ ∀ post : Int32 → SY → Prop, (∃ m, wY_meetMore_56 post m y1 0 yc yt ys ym (nI O) (nI B) ya yw yv yu yo yk yp ye ycp ycf ymt kd ytk ytp ysk yoc yof ybt ybp sv vr ow ed wa yh vl ypr mo' mb') → wY_meetMore_4 post (e + 1) x1 (nI i) yc yt ys ym (nI O) (nI B) ya yw yv yu yo yk yp ye ycp ycf ymt kd ytk ytp ysk yoc yof ybt ybp sv vr ow ed wa yh vl ypr mo mb := by
  have l := cu_le ob N
  have e4 : (4 : Int32) * nI O = nI (4 * O) := pk_mul 4 O
  intro e
  induction e with
  | zero =>
    intro i h mo mb x1 hx I
    refine ⟨mo, mb, x1, hx, I, fun t ht h => h, Nat.le_refl _, fun z => ⟨z, rfl, rfl, fun t ht hb k hk hi => ?_⟩, fun z => Or.inl z, fun post hp => br_t (by rw [e4]; exact nI_le (by omega) (by omega)) hp⟩
    have := cu_gt hb ht
    omega
  | succ e ih =>
    intro i h mo mb x1 hx I
    obtain ⟨t, ht, hb, hg⟩ := cu_st1 (ob := ob) (N := N) (o := i / 4) (by omega)
    have eD : nI i / 4 = nI (i / 4) := pk_div (d := 4) (by omega) (by omega) (by omega)
    have U : ∀ t', t' < N → ob t' = true → ∀ k, k < 4 → i ≤ 4 * cu_g ob t' + k → (t' = t ∧ k = i % 4) ∨ i + 1 ≤ 4 * cu_g ob t' + k := fun t' ht' hb' k hk hi => by
      by_cases q : i = 4 * cu_g ob t' + k
      · left
        exact ⟨cu_inj (hb'.trans hb.symm) (by omega), by omega⟩
      · right; omega
    have hle : ¬ (4 : Int32) * nI O ≤ nI i := by rw [e4]; exact nI_ge (by omega) (by omega)
    by_cases z : mo (i / 4) = 0
    · obtain ⟨mo2, mb2, y1, k1, k2, k3, k4, k5, k6, k7⟩ := ih (i + 1) (by omega) mo mb x1 hx I
      refine ⟨mo2, mb2, y1, k1, k2, k3, k4, fun y => ?_, k6, fun post hp => br_f hle (And.intro (by decide) (And.intro (by rw [eD]; exact vp_in_nI (by omega) (by decide)) (br_t (by rw [eD, nI_clamp (by omega)]; exact z) (ym_38 hx (k7 post hp)))))⟩
      obtain ⟨q1, q2, q3, q4⟩ := k5 y
      refine ⟨q1, q2, q3, fun t' ht' hb' k hk hi hM => ?_⟩
      rcases U t' ht' hb' k hk hi with ⟨rfl, _⟩ | hi'
      · rw [ym_t hb', hg] at hM
        exact absurd z hM
      · exact q4 t' ht' hb' k hk hi' hM
    · have ei : 4 * cu_g ob t + i % 4 = i := by omega
      have rr := hV t ht hb (i % 4) (by omega)
      rw [ei] at rr
      have Mt : ¬ ym_M ob mo mb t = 0 := by rw [ym_t hb, hg]; exact z
      obtain ⟨mo1, mb1, q, j1, j2, j3, j4, j5⟩ := ym_meet (yc := yc) (yt := yt) (ys := ys) (ym := ym) (ya := ya) (yw := yw) (yv := yv) (yu := yu) (yo := yo) (yk := yk) (yp := yp) (ye := ye) (ycp := ycp) (ycf := ycf) (ymt := ymt) (kd := kd) (ytk := ytk) (ytp := ytp) (ysk := ysk) (yoc := yoc) (ybt := ybt) (ow := ow) (ed := ed) (wa := wa) (yh := yh) (vl := vl) (ypr := ypr) (no := nI O) (nb := nI B) (yof := yof) (ybp := ybp) (sv := sv) (vr := vr) hN rr (fun C hC s hs hv => hC.2 t ht (I C hC t ht Mt) _ (Or.inl ⟨hb, i % 4, by omega, rfl⟩) s hs hv) I
      have W : ∀ post : Int32 → SY → Prop, (¬ mo (nI i / 4).toNatClampNeg = 0) ∧ vp_in (nI i / 4) 201 ∧ vp_in (nI i) 804 ∧ yof (nI i).toNatClampNeg = yof i := fun post => ⟨by rw [eD, nI_clamp (by omega)]; exact z, by rw [eD]; exact vp_in_nI (by omega) (by decide), vp_in_nI (by omega) (by decide), by rw [nI_clamp (by omega)]⟩
      rcases j4 with ⟨rfl, rfl, rfl⟩ | ⟨rfl, jc⟩
      · obtain ⟨mo2, mb2, y1, k1, k2, k3, k4, k5, k6, k7⟩ := ih (i + 1) (by omega) mo1 mb1 x1 hx I
        refine ⟨mo2, mb2, y1, k1, k2, k3, k4, fun y => ?_, k6, fun post hp => br_f hle (And.intro (by decide) (And.intro (W post).2.1 (br_f (W post).1 (And.intro (W post).2.2.1 (by rw [(W post).2.2.2]; exact j5 _ (br_t rfl (ym_38 hx (k7 post hp))))))))⟩
        obtain ⟨q1, q2, q3, q4⟩ := k5 y
        refine ⟨q1, q2, q3, fun t' ht' hb' k hk hi hM => ?_⟩
        rcases U t' ht' hb' k hk hi with ⟨rfl, rfl⟩ | hi'
        · exact j3
        · exact q4 t' ht' hb' k hk hi' hM
      · obtain ⟨mo2, mb2, y1, k1, k2, k3, k4, k5, k6, k7⟩ := ih (i + 1) (by omega) mo1 mb1 1 (Or.inr rfl) j1
        refine ⟨mo2, mb2, y1, k1, k2, fun t ht h => k3 t ht (j2 t ht h), by omega, fun y => absurd (k5 y).1 (by decide), fun _ => Or.inr (by omega), fun post hp => br_f hle (And.intro (by decide) (And.intro (W post).2.1 (br_f (W post).1 (And.intro (W post).2.2.1 (by rw [(W post).2.2.2]; exact j5 _ (br_f (by decide) (nm_r (nI_1 i) (k7 post hp))))))))⟩
end
