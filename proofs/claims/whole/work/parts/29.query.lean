section
variable {NC NT : Nat} {ns mn : Int32} {cp cf mt op tk tp fp sk kd py : Nat → Int32} {KN PN SZ : Nat → Nat}
theorem fr_k {SP : Nat} {G : Nat → Nat} {u' : SX} {v' : SY} (S : sg_S NC NT SP mn cp cf mt op tk tp fp sk kd KN PN SZ G) (F : fr_R NC NT (nI SP) mn cp cf mt op tk tp fp sk kd py KN PN SZ u' v') : rk_R u' v' := by
  obtain ⟨N, A, T, Pc, D, ob, na1, f1, ws1, vs1, en1, ya1, yw1, yv1, yu1, rs1, oc1, bt1, ba1, rd1, ac1, af1, fa1, fw1, fv1, wt1, wd1, pr1, mc1, of1, sl1, wv1, yoc1, ybt1, ybp1, ow1, ed1, wa1, yh1, mo1, mb1, yof1, sv1, vr1, vl1, rfl, rfl, _⟩ := F
  exact rk_i S
end
theorem qx_sort (post : Int32 → Prop) {x : Int64} {s : Int32} (h : vb_T x = s) (hp : post s) : wpX_sortOf post x := by
  subst h
  exact hp
theorem qx_num (post : Int32 → Prop) {s i : Int32} (h : post i) : wpX_numberOf post (vb_pk s i) := by
  unfold wpX_numberOf
  rw [vb_n]
  exact h
theorem im_run {u : SX} {v : SY} (I : rk_R u v) : wpX_run (fun r u' => wpY_run (fun r' v' => r' = r ∧ rk_R u' v') v) u := by
  obtain ⟨NC, NT, SP, KN, PN, SZ, G, mn, n, na, f, ws, vs, en, pc, tc, dc, no, nb, ya, yw, yv, yu, yo, yk, yp, ye, rs, cp, cf, mt, op, tk, tp, fp, sk, oc, bt, ba, rd, ac, af, fa, fw, fv, wt, wd, pr, mc, kd, yoc, ybt, ybp, ow, ed, wa, yh, ypr, mo, mb, of, sl, wv, yof, sv, vr, vl, rfl, rfl, S⟩ := I
  obtain ⟨u', v', F, gX, gY⟩ := pf_go (ns := nI SP) (sk := sk) (py := ypr) S.1 S.2.2.2.2 (n := n) (na := na) (f := f) (ws := ws) (vs := vs) (en := en) (pc := pc) (tc := tc) (dc := dc) (no := no) (nb := nb) (ya := ya) (yw := yw) (yv := yv) (yu := yu) (yo := yo) (yk := yk) (yp := yp) (ye := ye) (rs := rs) (oc := oc) (bt := bt) (ba := ba) (rd := rd) (ac := ac) (af := af) (fa := fa) (fw := fw) (fv := fv) (wt := wt) (wd := wd) (pr := pr) (mc := mc) (yoc := yoc) (ybt := ybt) (ybp := ybp) (ow := ow) (ed := ed) (wa := wa) (yh := yh) (mo := mo) (mb := mb) (of := of) (sl := sl) (wv := wv) (yof := yof) (sv := sv) (vr := vr) (vl := vl)
  have R := fr_k S F
  obtain ⟨N, A, T, Pc, D, ob, na1, f1, ws1, vs1, en1, ya1, yw1, yv1, yu1, rs1, oc1, bt1, ba1, rd1, ac1, af1, fa1, fw1, fv1, wt1, wd1, pr1, mc1, of1, sl1, wv1, yoc1, ybt1, ybp1, ow1, ed1, wa1, yh1, mo1, mb1, yof1, sv1, vr1, vl1, rfl, rfl, hen, ⟨hN, hP⟩, ⟨hm, ho⟩, hd⟩ := F
  exact gX _ (gY _ ⟨rfl, R⟩)
theorem im_printed {u : SX} {v : SY} (I : rk_R u v) : wpX_printed (fun r u' => wpY_printed (fun r' v' => r' = r ∧ rk_R u' v') v) u := by
  obtain ⟨NC, NT, SP, KN, PN, SZ, G, mn, n, na, f, ws, vs, en, pc, tc, dc, no, nb, ya, yw, yv, yu, yo, yk, yp, ye, rs, cp, cf, mt, op, tk, tp, fp, sk, oc, bt, ba, rd, ac, af, fa, fw, fv, wt, wd, pr, mc, kd, yoc, ybt, ybp, ow, ed, wa, yh, ypr, mo, mb, of, sl, wv, yof, sv, vr, vl, rfl, rfl, S⟩ := I
  obtain ⟨u', v', F, gX, gY⟩ := pf_go (ns := nI SP) (sk := sk) (py := ypr) S.1 S.2.2.2.2 (n := n) (na := na) (f := f) (ws := ws) (vs := vs) (en := en) (pc := pc) (tc := tc) (dc := dc) (no := no) (nb := nb) (ya := ya) (yw := yw) (yv := yv) (yu := yu) (yo := yo) (yk := yk) (yp := yp) (ye := ye) (rs := rs) (oc := oc) (bt := bt) (ba := ba) (rd := rd) (ac := ac) (af := af) (fa := fa) (fw := fw) (fv := fv) (wt := wt) (wd := wd) (pr := pr) (mc := mc) (yoc := yoc) (ybt := ybt) (ybp := ybp) (ow := ow) (ed := ed) (wa := wa) (yh := yh) (mo := mo) (mb := mb) (of := of) (sl := sl) (wv := wv) (yof := yof) (sv := sv) (vr := vr) (vl := vl)
  have R := fr_k S F
  obtain ⟨N, A, T, Pc, D, ob, na1, f1, ws1, vs1, en1, ya1, yw1, yv1, yu1, rs1, oc1, bt1, ba1, rd1, ac1, af1, fa1, fw1, fv1, wt1, wd1, pr1, mc1, of1, sl1, wv1, yoc1, ybt1, ybp1, ow1, ed1, wa1, yh1, mo1, mb1, yof1, sv1, vr1, vl1, rfl, rfl, hen, ⟨hN, hP⟩, ⟨hm, ho⟩, hd⟩ := F
  exact gX _ (gY _ ⟨rfl, R⟩)
theorem im_turns {u : SX} {v : SY} (I : rk_R u v) : wpX_turns (fun r u' => wpY_turns (fun r' v' => r' = r ∧ rk_R u' v') v) u := by
  obtain ⟨NC, NT, SP, KN, PN, SZ, G, mn, n, na, f, ws, vs, en, pc, tc, dc, no, nb, ya, yw, yv, yu, yo, yk, yp, ye, rs, cp, cf, mt, op, tk, tp, fp, sk, oc, bt, ba, rd, ac, af, fa, fw, fv, wt, wd, pr, mc, kd, yoc, ybt, ybp, ow, ed, wa, yh, ypr, mo, mb, of, sl, wv, yof, sv, vr, vl, rfl, rfl, S⟩ := I
  obtain ⟨u', v', F, gX, gY⟩ := pf_go (ns := nI SP) (sk := sk) (py := ypr) S.1 S.2.2.2.2 (n := n) (na := na) (f := f) (ws := ws) (vs := vs) (en := en) (pc := pc) (tc := tc) (dc := dc) (no := no) (nb := nb) (ya := ya) (yw := yw) (yv := yv) (yu := yu) (yo := yo) (yk := yk) (yp := yp) (ye := ye) (rs := rs) (oc := oc) (bt := bt) (ba := ba) (rd := rd) (ac := ac) (af := af) (fa := fa) (fw := fw) (fv := fv) (wt := wt) (wd := wd) (pr := pr) (mc := mc) (yoc := yoc) (ybt := ybt) (ybp := ybp) (ow := ow) (ed := ed) (wa := wa) (yh := yh) (mo := mo) (mb := mb) (of := of) (sl := sl) (wv := wv) (yof := yof) (sv := sv) (vr := vr) (vl := vl)
  have R := fr_k S F
  obtain ⟨N, A, T, Pc, D, ob, na1, f1, ws1, vs1, en1, ya1, yw1, yv1, yu1, rs1, oc1, bt1, ba1, rd1, ac1, af1, fa1, fw1, fv1, wt1, wd1, pr1, mc1, of1, sl1, wv1, yoc1, ybt1, ybp1, ow1, ed1, wa1, yh1, mo1, mb1, yof1, sv1, vr1, vl1, rfl, rfl, hen, ⟨hN, hP⟩, ⟨hm, ho⟩, hd⟩ := F
  exact gX _ (gY _ ⟨rfl, R⟩)
theorem im_deepest {u : SX} {v : SY} (I : rk_R u v) : wpX_deepest (fun r u' => wpY_deepest (fun r' v' => r' = r ∧ rk_R u' v') v) u := by
  obtain ⟨NC, NT, SP, KN, PN, SZ, G, mn, n, na, f, ws, vs, en, pc, tc, dc, no, nb, ya, yw, yv, yu, yo, yk, yp, ye, rs, cp, cf, mt, op, tk, tp, fp, sk, oc, bt, ba, rd, ac, af, fa, fw, fv, wt, wd, pr, mc, kd, yoc, ybt, ybp, ow, ed, wa, yh, ypr, mo, mb, of, sl, wv, yof, sv, vr, vl, rfl, rfl, S⟩ := I
  obtain ⟨u', v', F, gX, gY⟩ := pf_go (ns := nI SP) (sk := sk) (py := ypr) S.1 S.2.2.2.2 (n := n) (na := na) (f := f) (ws := ws) (vs := vs) (en := en) (pc := pc) (tc := tc) (dc := dc) (no := no) (nb := nb) (ya := ya) (yw := yw) (yv := yv) (yu := yu) (yo := yo) (yk := yk) (yp := yp) (ye := ye) (rs := rs) (oc := oc) (bt := bt) (ba := ba) (rd := rd) (ac := ac) (af := af) (fa := fa) (fw := fw) (fv := fv) (wt := wt) (wd := wd) (pr := pr) (mc := mc) (yoc := yoc) (ybt := ybt) (ybp := ybp) (ow := ow) (ed := ed) (wa := wa) (yh := yh) (mo := mo) (mb := mb) (of := of) (sl := sl) (wv := wv) (yof := yof) (sv := sv) (vr := vr) (vl := vl)
  have R := fr_k S F
  obtain ⟨N, A, T, Pc, D, ob, na1, f1, ws1, vs1, en1, ya1, yw1, yv1, yu1, rs1, oc1, bt1, ba1, rd1, ac1, af1, fa1, fw1, fv1, wt1, wd1, pr1, mc1, of1, sl1, wv1, yoc1, ybt1, ybp1, ow1, ed1, wa1, yh1, mo1, mb1, yof1, sv1, vr1, vl1, rfl, rfl, hen, ⟨hN, hP⟩, ⟨hm, ho⟩, hd⟩ := F
  exact gX _ (gY _ ⟨rfl, R⟩)
theorem im_output {u : SX} {v : SY} (I : rk_R u v) (v1 : Int32) : wpX_output (fun r u' => wpY_output (fun r' v' => r' = r ∧ rk_R u' v') v v1) u v1 := by
  obtain ⟨NC, NT, SP, KN, PN, SZ, G, mn, n, na, f, ws, vs, en, pc, tc, dc, no, nb, ya, yw, yv, yu, yo, yk, yp, ye, rs, cp, cf, mt, op, tk, tp, fp, sk, oc, bt, ba, rd, ac, af, fa, fw, fv, wt, wd, pr, mc, kd, yoc, ybt, ybp, ow, ed, wa, yh, ypr, mo, mb, of, sl, wv, yof, sv, vr, vl, rfl, rfl, S⟩ := I
  obtain ⟨u', v', F, gX, gY⟩ := pf_go (ns := nI SP) (sk := sk) (py := ypr) S.1 S.2.2.2.2 (n := n) (na := na) (f := f) (ws := ws) (vs := vs) (en := en) (pc := pc) (tc := tc) (dc := dc) (no := no) (nb := nb) (ya := ya) (yw := yw) (yv := yv) (yu := yu) (yo := yo) (yk := yk) (yp := yp) (ye := ye) (rs := rs) (oc := oc) (bt := bt) (ba := ba) (rd := rd) (ac := ac) (af := af) (fa := fa) (fw := fw) (fv := fv) (wt := wt) (wd := wd) (pr := pr) (mc := mc) (yoc := yoc) (ybt := ybt) (ybp := ybp) (ow := ow) (ed := ed) (wa := wa) (yh := yh) (mo := mo) (mb := mb) (of := of) (sl := sl) (wv := wv) (yof := yof) (sv := sv) (vr := vr) (vl := vl)
  have R := fr_k S F
  obtain ⟨N, A, T, Pc, D, ob, na1, f1, ws1, vs1, en1, ya1, yw1, yv1, yu1, rs1, oc1, bt1, ba1, rd1, ac1, af1, fa1, fw1, fv1, wt1, wd1, pr1, mc1, of1, sl1, wv1, yoc1, ybt1, ybp1, ow1, ed1, wa1, yh1, mo1, mb1, yof1, sv1, vr1, vl1, rfl, rfl, hen, ⟨hN, hP⟩, ⟨hm, ho⟩, hd⟩ := F
  rcases pk_ix v1 (n := Pc) (by omega) with h | h | ⟨j, hj, rfl⟩
  · exact gX _ (br_t h (gY _ (br_t h ⟨rfl, R⟩)))
  · have h0 : ¬ v1 < 0 := fun z => by
      rw [Int32.lt_iff_toInt_lt, show (0 : Int32).toInt = 0 from by decide] at z
      rw [Int32.le_iff_toInt_le, nI_toInt (by omega)] at h
      omega
    exact gX _ (br_f h0 (br_t h (gY _ (br_f h0 (br_t h ⟨rfl, R⟩)))))
  · exact gX _ (br_f (nI_pos (by omega)) (br_f (nI_ge hj (by omega)) (And.intro (vp_in_nI (by omega) (by decide)) (gY _ (br_f (nI_pos (by omega)) (br_f (nI_ge hj (by omega)) (And.intro (vp_in_nI (by omega) (by decide)) ⟨by rw [nI_clamp (by omega)]; exact pe_lt hj, R⟩)))))))
