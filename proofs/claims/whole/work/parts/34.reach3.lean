theorem im_reach {u : SX} {v : SY} (I : rk_R u v) : wpX_reach (fun r u' => wpY_reach (fun r' v' => r' = r ∧ rk_R u' v') v) u := by
  obtain ⟨NC, NT, SP, KN, PN, SZ, G, mn, n, na, f, ws, vs, en, pc, tc, dc, no, nb, ya, yw, yv, yu, yo, yk, yp, ye, rs, cp, cf, mt, op, tk, tp, fp, sk, oc, bt, ba, rd, ac, af, fa, fw, fv, wt, wd, pr, mc, kd, yoc, ybt, ybp, ow, ed, wa, yh, ypr, mo, mb, of, sl, wv, yof, sv, vr, vl, rfl, rfl, S⟩ := I
  obtain ⟨u', v', F, gX, gY⟩ := pf_go (ns := nI SP) (sk := sk) (py := ypr) S.1 S.2.2.2.2 (n := n) (na := na) (f := f) (ws := ws) (vs := vs) (en := en) (pc := pc) (tc := tc) (dc := dc) (no := no) (nb := nb) (ya := ya) (yw := yw) (yv := yv) (yu := yu) (yo := yo) (yk := yk) (yp := yp) (ye := ye) (rs := rs) (oc := oc) (bt := bt) (ba := ba) (rd := rd) (ac := ac) (af := af) (fa := fa) (fw := fw) (fv := fv) (wt := wt) (wd := wd) (pr := pr) (mc := mc) (yoc := yoc) (ybt := ybt) (ybp := ybp) (ow := ow) (ed := ed) (wa := wa) (yh := yh) (mo := mo) (mb := mb) (of := of) (sl := sl) (wv := wv) (yof := yof) (sv := sv) (vr := vr) (vl := vl)
  have R := fr_k S F
  obtain ⟨N, A, T, Pc, D, ob, na1, f1, ws1, vs1, en1, ya1, yw1, yv1, yu1, rs1, oc1, bt1, ba1, rd1, ac1, af1, fa1, fw1, fv1, wt1, wd1, pr1, mc1, of1, sl1, wv1, yoc1, ybt1, ybp1, ow1, ed1, wa1, yh1, mo1, mb1, yof1, sv1, vr1, vl1, rfl, rfl, hen, ⟨hN, hP⟩, ⟨hm, ho⟩, hd⟩ := F
  by_cases e : en1 = 0
  · obtain ⟨hvs, hA, ⟨H1, H2, H3⟩, hv⟩ := hd e
    subst hvs
    have hF : ∀ t, t < N → ob t = true → ∀ k, k < 4 → vb_R ob N (of1 (t * 4 + k)) (yof1 (4 * cu_g ob t + k)) := fun t ht hb k hk => (H1 t ht hb).2 k hk
    have hV : ∀ t, t < N → ob t = false → ∃ a, a < A ∧ ba1 t = nI a ∧ ybp1 (cu_g ob t) = nI a := fun t ht hb => by
      obtain ⟨tm, a, _, _, h1, _, _, h2, h3⟩ := H2 t ht hb
      exact ⟨a, h1, h2, h3⟩
    have hS : ∀ a, a < A → vb_R ob N (sl1 (a * 7 + 6)) (sv1 a) ∧ ∀ k, k < 6 → vb_R ob N (sl1 (a * 7 + k)) (vr1 (6 * a + k)) := fun a ha => ⟨(H3 a ha).1, (H3 a ha).2.1⟩
    have hVs : ∀ a, a < A → ∀ k, k < 7 → xr_k N ob (sl1 (a * 7 + k)) := fun a ha k hk => by
      by_cases q : k = 6
      · subst q
        exact xr_kb (hS a ha).1
      · exact xr_kb ((hS a ha).2 k (by omega))
    obtain ⟨rd2, wv2, X1, X2, X3⟩ := xr_go (nc := nI NC) (nt := nI NT) (ns := nI SP) (mn := mn) (n := nI N) (na := na1) (f := f1) (ws := ws1) (en := en1) (rs := rs1) (pc := nI Pc) (tc := nI T) (dc := nI D) (cp := cp) (cf := cf) (mt := mt) (op := op) (tk := tk) (tp := tp) (fp := fp) (sk := sk) (oc := oc1) (of := of1) (bt := bt1) (ba := ba1) (rd := rd1) (sl := sl1) (ac := ac1) (af := af1) (fa := fa1) (fw := fw1) (fv := fv1) (wt := wt1) (wd := wd1) (wv := wv1) (pr := pr1) (mc := mc1) (A := A) (ob := ob) hN hA (xr_kb hv) (fun t ht hb k hk => xr_kb (hF t ht hb k hk)) (fun t ht hb => by
      obtain ⟨a, h1, h2, _⟩ := hV t ht hb
      exact ⟨a, h1, h2⟩) hVs
    obtain ⟨mo2, mb2, Y1, Y2, Y3⟩ := ym_go (yc := nI NC) (yt := nI NT) (ys := nI SP) (ym := mn) (ya := ya1) (yw := yw1) (yv := yv1) (yu := yu1) (yo := nI D) (yk := nI T) (yp := nI Pc) (ye := en1) (ycp := cp) (ycf := cf) (ymt := mt) (kd := kd) (ytk := tk) (ytp := tp) (ysk := sk) (yoc := yoc1) (yof := yof1) (ybt := ybt1) (ybp := ybp1) (sv := sv1) (vr := vr1) (ow := ow1) (ed := ed1) (wa := wa1) (yh := yh1) (vl := vl1) (ypr := pe_P pr1 ypr Pc) (mo := mo1) (mb := mb1) (A := A) (ob := ob) (O := cu_O ob N) (B := N - cu_O ob N) hN hA rfl rfl hv hF hV hS
    have eq : ∀ t, t < N → (rd2 t = 0 ↔ ym_M ob mo2 mb2 t = 0) := fun t ht => ⟨fun z => Classical.byContradiction fun y => Y1 _ X2 t ht y z, fun z => Classical.byContradiction fun y => X1 _ Y2 t ht y z⟩
    have ct : cn_z mo2 (cu_O ob N) = cn_z (xr_o ob rd2) N := ((xr_oc eq).trans (ym_cn N)).symm
    exact gX _ (br_t e (X3 _ (gY _ (br_t e (Y3 _ ⟨congrArg nI ct, rk_i S⟩)))))
  · exact gX _ (br_f e (gY _ (br_f e ⟨rfl, R⟩)))
