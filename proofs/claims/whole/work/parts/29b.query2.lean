theorem im_value {u : SX} {v : SY} (I : rk_R u v) : wpX_value (fun r u' => wpY_value (fun r' v' => r' = r ∧ rk_R u' v') v) u := by
  obtain ⟨NC, NT, SP, KN, PN, SZ, G, mn, n, na, f, ws, vs, en, pc, tc, dc, no, nb, ya, yw, yv, yu, yo, yk, yp, ye, rs, cp, cf, mt, op, tk, tp, fp, sk, oc, bt, ba, rd, ac, af, fa, fw, fv, wt, wd, pr, mc, kd, yoc, ybt, ybp, ow, ed, wa, yh, ypr, mo, mb, of, sl, wv, yof, sv, vr, vl, rfl, rfl, S⟩ := I
  obtain ⟨u', v', F, gX, gY⟩ := pf_go (ns := nI SP) (sk := sk) (py := ypr) S.1 S.2.2.2.2 (n := n) (na := na) (f := f) (ws := ws) (vs := vs) (en := en) (pc := pc) (tc := tc) (dc := dc) (no := no) (nb := nb) (ya := ya) (yw := yw) (yv := yv) (yu := yu) (yo := yo) (yk := yk) (yp := yp) (ye := ye) (rs := rs) (oc := oc) (bt := bt) (ba := ba) (rd := rd) (ac := ac) (af := af) (fa := fa) (fw := fw) (fv := fv) (wt := wt) (wd := wd) (pr := pr) (mc := mc) (yoc := yoc) (ybt := ybt) (ybp := ybp) (ow := ow) (ed := ed) (wa := wa) (yh := yh) (mo := mo) (mb := mb) (of := of) (sl := sl) (wv := wv) (yof := yof) (sv := sv) (vr := vr) (vl := vl)
  have R := fr_k S F
  obtain ⟨N, A, T, Pc, D, ob, na1, f1, ws1, vs1, en1, ya1, yw1, yv1, yu1, rs1, oc1, bt1, ba1, rd1, ac1, af1, fa1, fw1, fv1, wt1, wd1, pr1, mc1, of1, sl1, wv1, yoc1, ybt1, ybp1, ow1, ed1, wa1, yh1, mo1, mb1, yof1, sv1, vr1, vl1, rfl, rfl, hen, ⟨hN, hP⟩, ⟨hm, ho⟩, hd⟩ := F
  by_cases e : en1 = 0
  · obtain ⟨_, _, _, hv⟩ := hd e
    have T := vB_T hv
    by_cases h2 : vb_T rs1 = 2
    · obtain ⟨e1, e2⟩ := vB_2 hv h2
      have Y1 : ∀ (u : SY) (P : Int32 → Prop), P rs1.toInt32 → wpY_number P u (vl1 0) := fun u P hP => by
        rw [e1]
        unfold wpY_number
        dsimp only
        exact hP
      have X1 : ∀ P : Int32 → Prop, P rs1.toInt32 → wpX_numberOf P rs1 := fun P hP => hP
      exact gX _ (br_t e (qx_sort _ h2 (br_t rfl (X1 _ (gY _ (br_t e (ay_type _ (T.symm.trans h2) (br_t rfl (Y1 _ _ ⟨rfl, R⟩)))))))))
    · exact gX _ (br_t e (qx_sort _ rfl (br_f h2 (gY _ (br_t e (ay_type _ T.symm (br_f h2 ⟨rfl, R⟩)))))))
  · exact gX _ (br_f e (gY _ (br_f e ⟨rfl, R⟩)))
theorem im_kind {u : SX} {v : SY} (I : rk_R u v) : wpX_kind (fun r u' => wpY_kind (fun r' v' => r' = r ∧ rk_R u' v') v) u := by
  obtain ⟨NC, NT, SP, KN, PN, SZ, G, mn, n, na, f, ws, vs, en, pc, tc, dc, no, nb, ya, yw, yv, yu, yo, yk, yp, ye, rs, cp, cf, mt, op, tk, tp, fp, sk, oc, bt, ba, rd, ac, af, fa, fw, fv, wt, wd, pr, mc, kd, yoc, ybt, ybp, ow, ed, wa, yh, ypr, mo, mb, of, sl, wv, yof, sv, vr, vl, rfl, rfl, S⟩ := I
  obtain ⟨u', v', F, gX, gY⟩ := pf_go (ns := nI SP) (sk := sk) (py := ypr) S.1 S.2.2.2.2 (n := n) (na := na) (f := f) (ws := ws) (vs := vs) (en := en) (pc := pc) (tc := tc) (dc := dc) (no := no) (nb := nb) (ya := ya) (yw := yw) (yv := yv) (yu := yu) (yo := yo) (yk := yk) (yp := yp) (ye := ye) (rs := rs) (oc := oc) (bt := bt) (ba := ba) (rd := rd) (ac := ac) (af := af) (fa := fa) (fw := fw) (fv := fv) (wt := wt) (wd := wd) (pr := pr) (mc := mc) (yoc := yoc) (ybt := ybt) (ybp := ybp) (ow := ow) (ed := ed) (wa := wa) (yh := yh) (mo := mo) (mb := mb) (of := of) (sl := sl) (wv := wv) (yof := yof) (sv := sv) (vr := vr) (vl := vl)
  have R := fr_k S F
  obtain ⟨N, A, T, Pc, D, ob, na1, f1, ws1, vs1, en1, ya1, yw1, yv1, yu1, rs1, oc1, bt1, ba1, rd1, ac1, af1, fa1, fw1, fv1, wt1, wd1, pr1, mc1, of1, sl1, wv1, yoc1, ybt1, ybp1, ow1, ed1, wa1, yh1, mo1, mb1, yof1, sv1, vr1, vl1, rfl, rfl, hen, ⟨hN, hP⟩, ⟨hm, ho⟩, hd⟩ := F
  by_cases e : en1 = 0
  · obtain ⟨_, _, H, hv⟩ := hd e
    have T := vB_T hv
    by_cases h4 : vb_T rs1 = 4
    · obtain ⟨t, ht, hb, e1, e2⟩ := vB_4 hv h4
      obtain ⟨⟨c, hc, c1, c2⟩, _⟩ := H.1 t ht hb
      have g1 := cu_gt hb ht
      have g2 := cu_le ob N
      subst e1
      exact gX _ (br_t e (qx_sort _ h4 (br_t rfl (qx_num _ (And.intro (vp_in_nI (by omega) (by decide)) (gY _ (br_t e (ay_type _ (T.symm.trans h4) (br_t (by decide) (by rw [e2]; exact ay_num _ (And.intro (vp_in_nI (by omega) (by decide)) ⟨by rw [nI_clamp (by omega), nI_clamp (by omega), c1, c2], R⟩)))))))))))
    · have n4 : ¬ 4 ≤ vb_T rs1 := by
        rcases hv with ⟨z, _⟩ | ⟨i, z, _⟩ | ⟨t, _, _, z, _⟩ | ⟨t, _, _, z, _⟩
        · rw [z, vC_1]; decide
        · rw [z, vC_2]; decide
        · rw [z, vC_3]; decide
        · exact absurd (by rw [z, vC_4]) h4
      exact gX _ (br_t e (qx_sort _ rfl (br_f h4 (gY _ (br_t e (ay_type _ T.symm (br_f n4 ⟨rfl, R⟩)))))))
  · exact gX _ (br_f e (gY _ (br_f e ⟨rfl, R⟩)))
section
variable {yc yt ys ym no nb ya yw yv yu yo yk yp ye : Int32} {ycp ycf ymt kd ytk ytp ysk yoc ybt ybp ow ed wa yh ypr mo mb : Nat → Int32} {yof sv vr vl : Nat → Int64}
theorem md_y (post : Int32 → SY → Prop) {O : Nat} {x : Int32} (hO : O ≤ 200) (ct : Nat → Nat) (hs : ∀ i, i < O → (yoc i = x ∧ ct (i + 1) = ct i + 1) ∨ (¬ yoc i = x ∧ ct (i + 1) = ct i)) (hp : post (nI (ct O)) (yc, yt, ys, ym, nI O, nb, ya, yw, yv, yu, yo, yk, yp, ye, ycp, ycf, ymt, kd, ytk, ytp, ysk, yoc, yof, ybt, ybp, sv, vr, ow, ed, wa, yh, vl, ypr, mo, mb)) : ∀ e k : Nat, k + e = O → wY_made_8 post x yc yt ys ym (nI O) nb ya yw yv yu yo yk yp ye ycp ycf ymt kd ytk ytp ysk yoc yof ybt ybp sv vr ow ed wa yh vl ypr mo mb (e + 1) (nI (ct k)) (nI k) := by
  intro e
  induction e with
  | zero =>
    intro k h
    have : k = O := by omega
    subst this
    exact br_t (nI_le (Nat.le_refl _) (by omega)) hp
  | succ e ih =>
    intro k h
    have I := ih (k + 1) (by omega)
    rcases hs k (by omega) with ⟨a, b⟩ | ⟨a, b⟩
    · rw [b] at I
      exact br_f (nI_ge (by omega) (by omega)) (And.intro (vp_in_nI (by omega) (by decide)) (br_t (by rw [nI_clamp (by omega)]; exact a) (nm_r (nI_1 _) (nm_r (nI_1 k) I))))
    · rw [b] at I
      exact br_f (nI_ge (by omega) (by omega)) (And.intro (vp_in_nI (by omega) (by decide)) (br_f (by rw [nI_clamp (by omega)]; exact a) (nm_r (nI_1 k) I)))
end
theorem im_made {u : SX} {v : SY} (I : rk_R u v) (v1 : Int32) : wpX_made (fun r u' => wpY_made (fun r' v' => r' = r ∧ rk_R u' v') v v1) u v1 := by
  obtain ⟨NC, NT, SP, KN, PN, SZ, G, mn, n, na, f, ws, vs, en, pc, tc, dc, no, nb, ya, yw, yv, yu, yo, yk, yp, ye, rs, cp, cf, mt, op, tk, tp, fp, sk, oc, bt, ba, rd, ac, af, fa, fw, fv, wt, wd, pr, mc, kd, yoc, ybt, ybp, ow, ed, wa, yh, ypr, mo, mb, of, sl, wv, yof, sv, vr, vl, rfl, rfl, S⟩ := I
  have hN6 : NC ≤ 6 := S.1.1
  obtain ⟨u', v', F, gX, gY⟩ := pf_go (ns := nI SP) (sk := sk) (py := ypr) S.1 S.2.2.2.2 (n := n) (na := na) (f := f) (ws := ws) (vs := vs) (en := en) (pc := pc) (tc := tc) (dc := dc) (no := no) (nb := nb) (ya := ya) (yw := yw) (yv := yv) (yu := yu) (yo := yo) (yk := yk) (yp := yp) (ye := ye) (rs := rs) (oc := oc) (bt := bt) (ba := ba) (rd := rd) (ac := ac) (af := af) (fa := fa) (fw := fw) (fv := fv) (wt := wt) (wd := wd) (pr := pr) (mc := mc) (yoc := yoc) (ybt := ybt) (ybp := ybp) (ow := ow) (ed := ed) (wa := wa) (yh := yh) (mo := mo) (mb := mb) (of := of) (sl := sl) (wv := wv) (yof := yof) (sv := sv) (vr := vr) (vl := vl)
  have R := fr_k S F
  obtain ⟨N, A, T, Pc, D, ob, na1, f1, ws1, vs1, en1, ya1, yw1, yv1, yu1, rs1, oc1, bt1, ba1, rd1, ac1, af1, fa1, fw1, fv1, wt1, wd1, pr1, mc1, of1, sl1, wv1, yoc1, ybt1, ybp1, ow1, ed1, wa1, yh1, mo1, mb1, yof1, sv1, vr1, vl1, rfl, rfl, hen, ⟨hN, hP⟩, ⟨hm, ho⟩, hd⟩ := F
  have hO := cu_le ob N
  obtain ⟨r, hr⟩ := fi_ex NC v1
  unfold wpX_made
  refine fx_cls _ hN6 hr ?_
  rcases hr with ⟨rfl, h⟩ | ⟨j, hj, rfl, ⟨rfl, h⟩ | ⟨rfl, h⟩⟩
  · refine br_t rfl (gY _ (Exists.intro _ (md_y _ (x := v1) (by omega) (fun _ => 0) (fun i hi => Or.inr ⟨fun z => ?_, rfl⟩) ⟨rfl, rk_i S⟩ (cu_O ob N) 0 (by omega))))
    obtain ⟨c, hc, ec⟩ := ho i hi
    rw [ec] at z
    rw [← z] at h
    exact nI_pos (by omega) h
  · refine br_t rfl (gY _ (Exists.intro _ (md_y _ (x := nI j) (by omega) (fun _ => 0) (fun i hi => Or.inr ⟨fun z => ?_, rfl⟩) ⟨rfl, rk_i S⟩ (cu_O ob N) 0 (by omega))))
    obtain ⟨c, hc, ec⟩ := ho i hi
    rw [ec, nI_eq (by omega) hj] at z
    omega
  · refine br_f (by decide) (gX _ (And.intro (vp_in_nI (by omega) (by decide)) (gY _ (Exists.intro _ (md_y _ (x := nI j) (by omega) (cu_n yoc1 j) (fun i hi => ?_) ⟨?_, R⟩ (cu_O ob N) 0 (by omega))))))
    · by_cases z : yoc1 i = nI j
      · refine Or.inl ⟨z, ?_⟩
        show cu_n yoc1 j i + (if yoc1 i = nI j then 1 else 0) = cu_n yoc1 j i + 1
        rw [if_pos z]
      · refine Or.inr ⟨z, ?_⟩
        show cu_n yoc1 j i + (if yoc1 i = nI j then 1 else 0) = cu_n yoc1 j i
        rw [if_neg z, Nat.add_zero]
    · rw [nI_clamp (by omega)]
      exact (hm j h).symm
