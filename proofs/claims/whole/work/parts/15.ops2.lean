section
variable {NC NT : Nat} {ns mn : Int32} {cp cf mt op tk tp fp sk kd py : Nat → Int32} {KN PN SZ : Nat → Nat}
variable {N A T Pc D : Nat} {ob : Nat → Bool} {K : List (Bool × Nat × Nat)} {rs : Int64} {oc bt ba rd ac af fa fw fv wt wd pr mc : Nat → Int32} {of sl wv : Nat → Int64} {yoc ybt ybp ow ed wa yh mo mb : Nat → Int32} {yof sv vr vl : Nat → Int64}
variable {μ t : Nat}
theorem op_5 (r : (rl_R NC NT N A T Pc D ob K cp cf mt op tk tp fp kd KN PN SZ oc of bt ba sl ac af fa fw fv wt wd wv mc yoc yof ybt ybp sv vr ow ed wa yh vl)) (E : en_F NT K KN SZ t 0 wt wd wa) (hk : KN t = 5) (hm : 802 * (200 - T) + kl_C KN PN SZ K + 1 < μ) : nx_S NC NT ns mn cp cf mt op tk tp fp sk kd py KN PN SZ μ (nI NC, nI NT, ns, mn, nI N, nI A, nI (kl_F K), nI (kl_W K + 1), nI (kl_X KN K), -1, rs, nI Pc, nI T, nI D, cp, cf, mt, op, tk, tp, fp, sk, oc, of, bt, ba, rd, sl, ac, af, fa, fw, fv, wt, wd, wv, pr, mc) (nI NC, nI NT, ns, mn, nI (cu_O ob N), nI (N - cu_O ob N), nI A, nI (kl_Q KN K + 1), nI (kl_Y KN K), nI (kl_F K), nI D, nI T, nI Pc, -4, cp, cf, mt, kd, tk, tp, sk, yoc, yof, ybt, ybp, sv, vr, ow, ed, wa, yh, vl, pe_P pr py Pc, mo, mb) := by
  obtain ⟨⟨n1, n2, n3, n4, n5⟩, ⟨n6, n7, n8, n9, n10, n11⟩, ⟨n12, n13, n14, n15, n16⟩, b, nb1, nb2⟩ := rl_n r
  obtain ⟨⟨e1, e2⟩, e3, e4, e5⟩ := E
  have Z := rl_sz r e1
  obtain ⟨v1, v2, v3, v4, v5, v6, v7⟩ := rl_tm r e1
  rw [hk] at v2 v3 v4 v5 v6 Z
  obtain ⟨c, hc, ec⟩ := v5.2.2.1 rfl
  by_cases hT : T = 200
  · subst hT
    exact nx_UF r ⟨⟨e1, e2⟩, e3, e4, e5⟩ (by rw [hk]; decide) (by omega) (fun P hP => ax_fin_5 P (by omega) Z.2.2 e3 v3 (ax_new_n P hP)) (fun P hP => ay_step_E _ (by omega) (by omega) Z.2.2 e5 (ay_bg_5 P Z.2.2 v2 (ay_obj_n P hP))) (by omega) (fr_n r (Or.inr (Or.inl rfl)))
  · have g := cu_le ob N
    have C := cf_put (μ := 802 * (200 - (T + 1)) + kl_C KN PN SZ K + 1) (py := py) (ns := ns) (mn := mn) (sk := sk) (rs := rs) (rd := rd) (pr := pr) (mo := mo) (mb := mb) (rl_new r (by omega) hc) (x := vb_pk 4 (nI N)) (y := vb_pk 4 (nI (cu_O ob N))) (Or.inr (Or.inr (Or.inr ⟨N, by omega, cu_an _ _ _, rfl, by rw [cu_agt]⟩))) (Nat.le_refl _)
    rw [cu_at, Nat.add_sub_add_right] at C
    exact nx_U r ⟨⟨e1, e2⟩, e3, e4, e5⟩ (by rw [hk]; decide) (by omega) (fun P hP => ax_fin_5 P (by omega) Z.2.2 e3 v3 (by rw [ec]; exact ax_new_f P (by omega) (by omega) (by omega) (by omega) hP)) (fun P hP => ay_step_E _ (by omega) (by omega) Z.2.2 e5 (ay_bg_5 P Z.2.2 v2 (by rw [ec]; exact ay_obj_f P (by omega) (by omega) (by omega) hP))) (by omega) C
theorem op_13 (r : (rl_R NC NT N A T Pc D ob K cp cf mt op tk tp fp kd KN PN SZ oc of bt ba sl ac af fa fw fv wt wd wv mc yoc yof ybt ybp sv vr ow ed wa yh vl)) (E : en_F NT K KN SZ t 0 wt wd wa) (hk : KN t = 13) (hm : 802 * (200 - T) + kl_C KN PN SZ K + 1 < μ) : nx_S NC NT ns mn cp cf mt op tk tp fp sk kd py KN PN SZ μ (nI NC, nI NT, ns, mn, nI N, nI A, nI (kl_F K), nI (kl_W K + 1), nI (kl_X KN K), -1, rs, nI Pc, nI T, nI D, cp, cf, mt, op, tk, tp, fp, sk, oc, of, bt, ba, rd, sl, ac, af, fa, fw, fv, wt, wd, wv, pr, mc) (nI NC, nI NT, ns, mn, nI (cu_O ob N), nI (N - cu_O ob N), nI A, nI (kl_Q KN K + 1), nI (kl_Y KN K), nI (kl_F K), nI D, nI T, nI Pc, -4, cp, cf, mt, kd, tk, tp, sk, yoc, yof, ybt, ybp, sv, vr, ow, ed, wa, yh, vl, pe_P pr py Pc, mo, mb) := by
  obtain ⟨⟨n1, n2, n3, n4, n5⟩, ⟨n6, n7, n8, n9, n10, n11⟩, ⟨n12, n13, n14, n15, n16⟩, b, nb1, nb2⟩ := rl_n r
  obtain ⟨⟨e1, e2⟩, e3, e4, e5⟩ := E
  have Z := rl_sz r e1
  obtain ⟨v1, v2, v3, v4, v5, v6, v7⟩ := rl_tm r e1
  rw [hk] at v2 v3 v4 v5 v6 Z
  by_cases hT : T = 200
  · subst hT
    exact nx_UF r ⟨⟨e1, e2⟩, e3, e4, e5⟩ (by rw [hk]; decide) (by omega) (fun P hP => ax_fin_10 P (by omega) Z.2.2 e3 v3 (ax_block_n P hP)) (fun P hP => ay_step_E _ (by omega) (by omega) Z.2.2 e5 (ay_bg_13 P Z.2.2 v2 (ay_blk_n P hP))) (by omega) (fr_n r (Or.inr (Or.inl rfl)))
  · have g := cu_le ob N
    have C := cf_put (μ := 802 * (200 - (T + 1)) + kl_C KN PN SZ K + 1) (py := py) (ns := ns) (mn := mn) (sk := sk) (rs := rs) (rd := rd) (pr := pr) (mo := mo) (mb := mb) (rl_blk r (by omega) e1 hk n7) (x := vb_pk 3 (nI N)) (y := vb_pk 3 (nI (N - cu_O ob N))) (Or.inr (Or.inr (Or.inl ⟨N, by omega, cu_an _ _ _, rfl, by rw [cu_agf]⟩))) (Nat.le_refl _)
    rw [cu_af', cu_af] at C
    exact nx_U r ⟨⟨e1, e2⟩, e3, e4, e5⟩ (by rw [hk]; decide) (by omega) (fun P hP => ax_fin_10 P (by omega) Z.2.2 e3 v3 (ax_block_f P (by omega) (by omega) (by omega) n6 (by omega) hP)) (fun P hP => ay_step_E _ (by omega) (by omega) Z.2.2 e5 (ay_bg_13 P Z.2.2 v2 (ay_blk_f P (by omega) (by omega) (by omega) hP))) (by omega) C
theorem op_10 (r : (rl_R NC NT N A T Pc D ob K cp cf mt op tk tp fp kd KN PN SZ oc of bt ba sl ac af fa fw fv wt wd wv mc yoc yof ybt ybp sv vr ow ed wa yh vl)) (E : en_F NT K KN SZ t 1 wt wd wa) (hk : KN t = 10) (hv : vb_R ob N (wv (kl_X KN K)) (vl (kl_Y KN K))) (hm : 802 * (200 - T) + kl_C KN PN SZ K + 1 < μ) : nx_S NC NT ns mn cp cf mt op tk tp fp sk kd py KN PN SZ μ (nI NC, nI NT, ns, mn, nI N, nI A, nI (kl_F K), nI (kl_W K + 1), nI (kl_X KN K + 1), -1, rs, nI Pc, nI T, nI D, cp, cf, mt, op, tk, tp, fp, sk, oc, of, bt, ba, rd, sl, ac, af, fa, fw, fv, wt, wd, wv, pr, mc) (nI NC, nI NT, ns, mn, nI (cu_O ob N), nI (N - cu_O ob N), nI A, nI (kl_Q KN K + 1), nI (kl_Y KN K + 1), nI (kl_F K), nI D, nI T, nI Pc, -4, cp, cf, mt, kd, tk, tp, sk, yoc, yof, ybt, ybp, sv, vr, ow, ed, wa, yh, vl, pe_P pr py Pc, mo, mb) := by
  obtain ⟨⟨n1, n2, n3, n4, n5⟩, ⟨n6, n7, n8, n9, n10, n11⟩, ⟨n12, n13, n14, n15, n16⟩, b, nb1, nb2⟩ := rl_n r
  obtain ⟨⟨e1, e2⟩, e3, e4, e5⟩ := E
  have Z := rl_sz r e1
  obtain ⟨v1, v2, v3, v4, v5, v6, v7⟩ := rl_tm r e1
  rw [hk] at v2 v3 v4 v5 v6 Z
  obtain ⟨j, hj, ej⟩ := v5.1 (Or.inr rfl)
  exact nx_U r ⟨⟨e1, e2⟩, e3, e4, e5⟩ (by rw [hk]; decide) (by omega) (fun P hP => ax_fin_7 P (by omega) Z.2.2 e3 v3 (by rw [ej]; exact ax_set P (by omega) (by omega) (by omega) (by omega) n6 hP)) (fun P hP => ay_step_1 (s := 1) _ (by omega) (by omega) Z.2.2 (by omega) (by omega) e5 v2 (by decide) (ay_f1_10 P Z.2.2 v2 (by omega) ej hj (by omega) hP)) hm (cf_Vi (rl_set r n7 hj hv) hv (Nat.le_refl _))
theorem op_11 (r : (rl_R NC NT N A T Pc D ob K cp cf mt op tk tp fp kd KN PN SZ oc of bt ba sl ac af fa fw fv wt wd wv mc yoc yof ybt ybp sv vr ow ed wa yh vl)) (E : en_F NT K KN SZ t 1 wt wd wa) (hk : KN t = 11) (hv : vb_R ob N (wv (kl_X KN K)) (vl (kl_Y KN K))) (hm : 802 * (200 - T) + kl_C KN PN SZ K + 1 < μ) : nx_S NC NT ns mn cp cf mt op tk tp fp sk kd py KN PN SZ μ (nI NC, nI NT, ns, mn, nI N, nI A, nI (kl_F K), nI (kl_W K + 1), nI (kl_X KN K + 1), -1, rs, nI Pc, nI T, nI D, cp, cf, mt, op, tk, tp, fp, sk, oc, of, bt, ba, rd, sl, ac, af, fa, fw, fv, wt, wd, wv, pr, mc) (nI NC, nI NT, ns, mn, nI (cu_O ob N), nI (N - cu_O ob N), nI A, nI (kl_Q KN K + 1), nI (kl_Y KN K + 1), nI (kl_F K), nI D, nI T, nI Pc, -4, cp, cf, mt, kd, tk, tp, sk, yoc, yof, ybt, ybp, sv, vr, ow, ed, wa, yh, vl, pe_P pr py Pc, mo, mb) := by
  obtain ⟨⟨n1, n2, n3, n4, n5⟩, ⟨n6, n7, n8, n9, n10, n11⟩, ⟨n12, n13, n14, n15, n16⟩, b, nb1, nb2⟩ := rl_n r
  obtain ⟨⟨e1, e2⟩, e3, e4, e5⟩ := E
  have Z := rl_sz r e1
  obtain ⟨v1, v2, v3, v4, v5, v6, v7⟩ := rl_tm r e1
  rw [hk] at v2 v3 v4 v5 v6 Z
  obtain ⟨k, hk4, ek⟩ := v5.2.1 (Or.inr rfl)
  rcases op_fi (py := py) (ns := ns) (mn := mn) (sk := sk) (rs := rs) (rd := rd) (pr := pr) (mo := mo) (mb := mb) r hk4 with ⟨fx, fy⟩ | ⟨o, ho, h0, fx, fy⟩
  · exact nx_UF r ⟨⟨e1, e2⟩, e3, e4, e5⟩ (by rw [hk]; decide) (by omega) (fun P hP => ax_fin_8 P (by omega) Z.2.2 e3 v3 (by rw [ek]; exact ax_setf_s P (fx _ _) hP)) (fun P hP => ay_step_1 (s := 1) _ (by omega) (by omega) Z.2.2 (by omega) (by omega) e5 v2 (by decide) (ay_f1_11s P Z.2.2 v2 (by omega) (by rw [ek]; exact fy _ _) hP)) (by omega) (fr_n r (Or.inl rfl))
  · have g1 := cu_gt h0 ho
    have g2 := cu_le ob N
    exact nx_U r ⟨⟨e1, e2⟩, e3, e4, e5⟩ (by rw [hk]; decide) (by omega) (fun P hP => ax_fin_8 P (by omega) Z.2.2 e3 v3 (by rw [ek]; exact ax_setf_o P (fx _ _) (by omega) (by omega) hP)) (fun P hP => ay_step_1 (s := 1) _ (by omega) (by omega) Z.2.2 (by omega) (by omega) e5 v2 (by decide) (ay_f1_11o P Z.2.2 v2 (by omega) (by omega) (by rw [ek]; exact fy _ _) hP)) hm (cf_Vi (rl_fld r ho h0 hk4 hv) hv (Nat.le_refl _))
theorem op_12 (r : (rl_R NC NT N A T Pc D ob K cp cf mt op tk tp fp kd KN PN SZ oc of bt ba sl ac af fa fw fv wt wd wv mc yoc yof ybt ybp sv vr ow ed wa yh vl)) (E : en_F NT K KN SZ t 1 wt wd wa) (hk : KN t = 12) (hv : vb_R ob N (wv (kl_X KN K)) (vl (kl_Y KN K))) (hm : 802 * (200 - T) + kl_C KN PN SZ K + 1 < μ) : nx_S NC NT ns mn cp cf mt op tk tp fp sk kd py KN PN SZ μ (nI NC, nI NT, ns, mn, nI N, nI A, nI (kl_F K), nI (kl_W K + 1), nI (kl_X KN K + 1), -1, rs, nI Pc, nI T, nI D, cp, cf, mt, op, tk, tp, fp, sk, oc, of, bt, ba, rd, sl, ac, af, fa, fw, fv, wt, wd, wv, pr, mc) (nI NC, nI NT, ns, mn, nI (cu_O ob N), nI (N - cu_O ob N), nI A, nI (kl_Q KN K + 1), nI (kl_Y KN K + 1), nI (kl_F K), nI D, nI T, nI Pc, -4, cp, cf, mt, kd, tk, tp, sk, yoc, yof, ybt, ybp, sv, vr, ow, ed, wa, yh, vl, pe_P pr py Pc, mo, mb) := by
  obtain ⟨⟨n1, n2, n3, n4, n5⟩, ⟨n6, n7, n8, n9, n10, n11⟩, ⟨n12, n13, n14, n15, n16⟩, b, nb1, nb2⟩ := rl_n r
  obtain ⟨⟨e1, e2⟩, e3, e4, e5⟩ := E
  have Z := rl_sz r e1
  obtain ⟨v1, v2, v3, v4, v5, v6, v7⟩ := rl_tm r e1
  rw [hk] at v2 v3 v4 v5 v6 Z
  by_cases h4 : vb_T (wv (kl_X KN K)) = 4
  · obtain ⟨o, ho, h0, hx, hy⟩ := vB_4 hv h4
    obtain ⟨⟨c, hc, o1, o2⟩, _⟩ := r.2.1.1 o ho h0
    have g1 := cu_gt h0 ho
    have g2 := cu_le ob N
    obtain ⟨h, h01, dX, dY⟩ := lk_d (g := tk t) (nc := nI NC) (nt := nI NT) (ns := ns) (mn := mn) (n := nI N) (na := nI A) (f := nI (kl_F K)) (ws := nI (kl_W K)) (vs := nI (kl_X KN K)) (en := -1) (rs := rs) (pc := nI Pc) (tc := nI T) (dc := nI D) (op := op) (tk := tk) (tp := tp) (fp := fp) (sk := sk) (oc := oc) (of := of) (bt := bt) (ba := ba) (rd := rd) (sl := sl) (ac := ac) (af := af) (fa := fa) (fw := fw) (fv := fv) (wt := wt) (wd := wd) (wv := wv) (pr := pr) (mc := mc) (yc := nI NC) (yt := nI NT) (ys := ns) (ym := mn) (no := nI (cu_O ob N)) (nb := nI (N - cu_O ob N)) (ya := nI A) (yw := nI (kl_Q KN K)) (yv := nI (kl_Y KN K + 1)) (yu := nI (kl_F K)) (yo := nI D) (yk := nI T) (yp := nI Pc) (ye := -4) (ycf := cf) (ymt := mt) (kd := kd) (ytk := tk) (ytp := tp) (ysk := sk) (yoc := yoc) (yof := yof) (ybt := ybt) (ybp := ybp) (sv := sv) (vr := vr) (ow := ow) (ed := ed) (wa := wa) (yh := yh) (vl := vl) (ypr := pe_P pr py Pc) (mo := mo) (mb := mb) r.1.2.2.1 r.1.1 (c + 1) c 0 (by omega) hc (by omega)
    exact nx_U r ⟨⟨e1, e2⟩, e3, e4, e5⟩ (by rw [hk]; decide) (by omega) (fun P hP => ax_fin_9 P (by omega) Z.2.2 e3 v3 (lk_is P (by omega) h01 (Or.inr ⟨o, c, hx, by omega, o1, fun Q hQ => Exists.intro (c + 2) (dX Q (c + 2) (by omega) hQ)⟩) hP)) (fun P hP => ay_step_1 (s := 1) _ (by omega) (by omega) Z.2.2 (by omega) (by omega) e5 v2 (by decide) (ay_f1_12 P Z.2.2 v2 (by omega) h01 (fun Q hQ => by rw [hy]; exact lk_isY1 Q (m := c + 2) (by omega) o2 (dY Q (c + 2) (by omega) hQ)) hP)) hm (cf_put r (Or.inr (Or.inl ⟨h, rfl, rfl⟩)) (Nat.le_refl _))
  · have h4' : ¬ vb_T (vl (kl_Y KN K)) = 4 := by rw [← vB_T hv]; exact h4
    exact nx_U r ⟨⟨e1, e2⟩, e3, e4, e5⟩ (by rw [hk]; decide) (by omega) (fun P hP => ax_fin_9 P (by omega) Z.2.2 e3 v3 (lk_is P (by omega) (Or.inl rfl) (Or.inl ⟨h4, rfl⟩) hP)) (fun P hP => ay_step_1 (s := 1) _ (by omega) (by omega) Z.2.2 (by omega) (by omega) e5 v2 (by decide) (ay_f1_12 P Z.2.2 v2 (by omega) (Or.inl rfl) (fun Q hQ => lk_isY0 Q h4' hQ) hP)) hm (cf_put r (Or.inr (Or.inl ⟨0, rfl, rfl⟩)) (Nat.le_refl _))
theorem rl_prn (r : (rl_R NC NT N A T Pc D ob K cp cf mt op tk tp fp kd KN PN SZ oc of bt ba sl ac af fa fw fv wt wd wv mc yoc yof ybt ybp sv vr ow ed wa yh vl)) (h : Pc < 20) : (rl_R NC NT N A T (Pc + 1) D ob K cp cf mt op tk tp fp kd KN PN SZ oc of bt ba sl ac af fa fw fv wt wd wv mc yoc yof ybt ybp sv vr ow ed wa yh vl) := by
  obtain ⟨P, H, S, B⟩ := r
  exact ⟨P, H, S, B.1, ⟨by omega, B.2.1.2⟩, B.2.2⟩
theorem op_16 (r : (rl_R NC NT N A T Pc D ob K cp cf mt op tk tp fp kd KN PN SZ oc of bt ba sl ac af fa fw fv wt wd wv mc yoc yof ybt ybp sv vr ow ed wa yh vl)) (E : en_F NT K KN SZ t 1 wt wd wa) (hk : KN t = 16) (hv : vb_R ob N (wv (kl_X KN K)) (vl (kl_Y KN K))) (hm : 802 * (200 - T) + kl_C KN PN SZ K + 1 < μ) : nx_S NC NT ns mn cp cf mt op tk tp fp sk kd py KN PN SZ μ (nI NC, nI NT, ns, mn, nI N, nI A, nI (kl_F K), nI (kl_W K + 1), nI (kl_X KN K + 1), -1, rs, nI Pc, nI T, nI D, cp, cf, mt, op, tk, tp, fp, sk, oc, of, bt, ba, rd, sl, ac, af, fa, fw, fv, wt, wd, wv, pr, mc) (nI NC, nI NT, ns, mn, nI (cu_O ob N), nI (N - cu_O ob N), nI A, nI (kl_Q KN K + 1), nI (kl_Y KN K + 1), nI (kl_F K), nI D, nI T, nI Pc, -4, cp, cf, mt, kd, tk, tp, sk, yoc, yof, ybt, ybp, sv, vr, ow, ed, wa, yh, vl, pe_P pr py Pc, mo, mb) := by
  obtain ⟨⟨n1, n2, n3, n4, n5⟩, ⟨n6, n7, n8, n9, n10, n11⟩, ⟨n12, n13, n14, n15, n16⟩, b, nb1, nb2⟩ := rl_n r
  obtain ⟨⟨e1, e2⟩, e3, e4, e5⟩ := E
  have Z := rl_sz r e1
  obtain ⟨v1, v2, v3, v4, v5, v6, v7⟩ := rl_tm r e1
  rw [hk] at v2 v3 v4 v5 v6 Z
  by_cases h2 : vb_T (wv (kl_X KN K)) = 2
  · have h2' : vb_T (vl (kl_Y KN K)) = 2 := by rw [← vB_T hv]; exact h2
    have e0 := (vB_2 hv h2).1
    by_cases hp : Pc = 20
    · subst hp
      exact nx_UF r ⟨⟨e1, e2⟩, e3, e4, e5⟩ (by rw [hk]; decide) (by omega) (fun P hP => ax_fin_13 P (by omega) Z.2.2 e3 v3 (ax_print_n P (by omega) h2 hP)) (fun P hP => ay_step_1 (s := 1) _ (by omega) (by omega) Z.2.2 (by omega) (by omega) e5 v2 (by decide) (ay_f1_16 P Z.2.2 v2 (by omega) (ay_print_n P (by omega) h2' hP))) (by omega) (fr_n r (Or.inr (Or.inr (Or.inr rfl))))
    · exact nx_U r ⟨⟨e1, e2⟩, e3, e4, e5⟩ (by rw [hk]; decide) (by omega) (fun P hP => ax_fin_13 P (by omega) Z.2.2 e3 v3 (ax_print_f P (by omega) (by omega) h2 hP)) (fun P hP => ay_step_1 (s := 1) _ (by omega) (by omega) Z.2.2 (by omega) (by omega) e5 v2 (by decide) (ay_f1_16 P Z.2.2 v2 (by omega) (ay_print_f P (by omega) (by omega) h2' (by rw [e0, pe_u]; exact hP)))) hm (cf_Vi (pr := upd pr Pc (wv (kl_X KN K)).toInt32) (rl_prn r (by omega)) hv (Nat.le_refl _))
  · have h2' : ¬ vb_T (vl (kl_Y KN K)) = 2 := by rw [← vB_T hv]; exact h2
    exact nx_UF r ⟨⟨e1, e2⟩, e3, e4, e5⟩ (by rw [hk]; decide) (by omega) (fun P hP => ax_fin_13 P (by omega) Z.2.2 e3 v3 (ax_print_s P (by omega) h2 hP)) (fun P hP => ay_step_1 (s := 1) _ (by omega) (by omega) Z.2.2 (by omega) (by omega) e5 v2 (by decide) (ay_f1_16 P Z.2.2 v2 (by omega) (ay_print_s P (by omega) h2' hP))) (by omega) (fr_n r (Or.inl rfl))
/-! two parts -/
theorem op_24 (r : (rl_R NC NT N A T Pc D ob K cp cf mt op tk tp fp kd KN PN SZ oc of bt ba sl ac af fa fw fv wt wd wv mc yoc yof ybt ybp sv vr ow ed wa yh vl)) (E : en_F NT K KN SZ t 2 wt wd wa) (hk : KN t = 24) (hv : vb_R ob N (wv (kl_X KN K)) (vl (kl_Y KN K))) (hw : vb_R ob N (wv (kl_X KN K + 1)) (vl (kl_Y KN K + 1))) (hm : 802 * (200 - T) + kl_C KN PN SZ K + 1 < μ) : nx_S NC NT ns mn cp cf mt op tk tp fp sk kd py KN PN SZ μ (nI NC, nI NT, ns, mn, nI N, nI A, nI (kl_F K), nI (kl_W K + 1), nI (kl_X KN K + 2), -1, rs, nI Pc, nI T, nI D, cp, cf, mt, op, tk, tp, fp, sk, oc, of, bt, ba, rd, sl, ac, af, fa, fw, fv, wt, wd, wv, pr, mc) (nI NC, nI NT, ns, mn, nI (cu_O ob N), nI (N - cu_O ob N), nI A, nI (kl_Q KN K + 1), nI (kl_Y KN K + 2), nI (kl_F K), nI D, nI T, nI Pc, -4, cp, cf, mt, kd, tk, tp, sk, yoc, yof, ybt, ybp, sv, vr, ow, ed, wa, yh, vl, pe_P pr py Pc, mo, mb) := by
  obtain ⟨⟨n1, n2, n3, n4, n5⟩, ⟨n6, n7, n8, n9, n10, n11⟩, ⟨n12, n13, n14, n15, n16⟩, b, nb1, nb2⟩ := rl_n r
  obtain ⟨⟨e1, e2⟩, e3, e4, e5⟩ := E
  have Z := rl_sz r e1
  obtain ⟨v1, v2, v3, v4, v5, v6, v7⟩ := rl_tm r e1
  rw [hk] at v2 v3 v4 v5 v6 Z
  have q := vB_eq (by omega) hv hw
  have hi : ∃ i : Int32, ((wv (kl_X KN K) = wv (kl_X KN K + 1) ∧ i = 1) ∨ (¬ wv (kl_X KN K) = wv (kl_X KN K + 1) ∧ i = 0)) ∧ ((vl (kl_Y KN K) = vl (kl_Y KN K + 1) ∧ i = 1) ∨ (¬ vl (kl_Y KN K) = vl (kl_Y KN K + 1) ∧ i = 0)) := by
    by_cases z : wv (kl_X KN K) = wv (kl_X KN K + 1)
    · exact ⟨1, Or.inl ⟨z, rfl⟩, Or.inl ⟨q.mp z, rfl⟩⟩
    · exact ⟨0, Or.inr ⟨z, rfl⟩, Or.inr ⟨fun y => z (q.mpr y), rfl⟩⟩
  obtain ⟨i, hx, hy⟩ := hi
  exact nx_U r ⟨⟨e1, e2⟩, e3, e4, e5⟩ (by rw [hk]; decide) (by omega) (fun P hP => ax_fin_19 P (by omega) Z.2.2 e3 v3 (ax_same P (by omega) hx hP)) (fun P hP => ay_step_2 (s := 2) _ (by omega) (by omega) Z.2.2 (by omega) (by omega) e5 v2 (by decide) (by decide) (ay_t_op (k := 24) P Z.2.2 v2 (by omega) (by omega) (ay_op_e P (by omega) hy hP))) hm (cf_put r (Or.inr (Or.inl ⟨i, rfl, rfl⟩)) (Nat.le_refl _))
theorem op_ar (r : (rl_R NC NT N A T Pc D ob K cp cf mt op tk tp fp kd KN PN SZ oc of bt ba sl ac af fa fw fv wt wd wv mc yoc yof ybt ybp sv vr ow ed wa yh vl)) (E : en_F NT K KN SZ t 2 wt wd wa) {k : Nat} (hk : KN t = k) (hk2 : 20 ≤ k) (hk3 : k ≤ 23) (h3 : ∀ P : SX → Prop, wpX_finishArithmetic P (nI NC, nI NT, ns, mn, nI N, nI A, nI (kl_F K), nI (kl_W K), nI (kl_X KN K + 2), -1, rs, nI Pc, nI T, nI D, cp, cf, mt, op, tk, tp, fp, sk, oc, of, bt, ba, rd, sl, ac, af, fa, fw, fv, wt, wd, wv, pr, mc) (nI (k - 5)) → wpX_finish P (nI NC, nI NT, ns, mn, nI N, nI A, nI (kl_F K), nI (kl_W K + 1), nI (kl_X KN K + 2), -1, rs, nI Pc, nI T, nI D, cp, cf, mt, op, tk, tp, fp, sk, oc, of, bt, ba, rd, sl, ac, af, fa, fw, fv, wt, wd, wv, pr, mc)) (hf : pg_fp k ≤ 2) (hv : vb_R ob N (wv (kl_X KN K)) (vl (kl_Y KN K))) (hw : vb_R ob N (wv (kl_X KN K + 1)) (vl (kl_Y KN K + 1))) (hm : 802 * (200 - T) + kl_C KN PN SZ K + 1 < μ) : nx_S NC NT ns mn cp cf mt op tk tp fp sk kd py KN PN SZ μ (nI NC, nI NT, ns, mn, nI N, nI A, nI (kl_F K), nI (kl_W K + 1), nI (kl_X KN K + 2), -1, rs, nI Pc, nI T, nI D, cp, cf, mt, op, tk, tp, fp, sk, oc, of, bt, ba, rd, sl, ac, af, fa, fw, fv, wt, wd, wv, pr, mc) (nI NC, nI NT, ns, mn, nI (cu_O ob N), nI (N - cu_O ob N), nI A, nI (kl_Q KN K + 1), nI (kl_Y KN K + 2), nI (kl_F K), nI D, nI T, nI Pc, -4, cp, cf, mt, kd, tk, tp, sk, yoc, yof, ybt, ybp, sv, vr, ow, ed, wa, yh, vl, pe_P pr py Pc, mo, mb) := by
  obtain ⟨⟨n1, n2, n3, n4, n5⟩, ⟨n6, n7, n8, n9, n10, n11⟩, ⟨n12, n13, n14, n15, n16⟩, b, nb1, nb2⟩ := rl_n r
  obtain ⟨⟨e1, e2⟩, e3, e4, e5⟩ := E
  have Z := rl_sz r e1
  obtain ⟨v1, v2, v3, v4, v5, v6, v7⟩ := rl_tm r e1
  rw [hk] at v2 v3 v4 v5 v6 Z
  by_cases z : vb_T (wv (kl_X KN K)) = 2 ∧ vb_T (wv (kl_X KN K + 1)) = 2
  · have z1 : vb_T (vl (kl_Y KN K)) = 2 := by rw [← vB_T hv]; exact z.1
    have z2 : vb_T (vl (kl_Y KN K + 1)) = 2 := by rw [← vB_T hw]; exact z.2
    have y1 := (vB_2 hv z.1).1
    have y2 := (vB_2 hw z.2).1
    exact nx_U r ⟨⟨e1, e2⟩, e3, e4, e5⟩ (by rw [hk]; exact hf) (by omega) (fun P hP => h3 P (ax_ar_f P (by omega) (by omega) z.1 z.2 hP)) (fun P hP => ay_step_2 (s := 2) _ (by omega) (by omega) Z.2.2 (by omega) (by omega) e5 v2 hk2 (by omega) (ay_t_op P Z.2.2 v2 hk2 (by omega) (ay_op_f P (by omega) ⟨hk2, hk3⟩ z1 z2 (by rw [y1, y2]; exact hP)))) hm (cf_put r (Or.inr (Or.inl ⟨_, rfl, rfl⟩)) (Nat.le_refl _))
  · have z' : ¬ (vb_T (vl (kl_Y KN K)) = 2 ∧ vb_T (vl (kl_Y KN K + 1)) = 2) := by rw [← vB_T hv, ← vB_T hw]; exact z
    exact nx_UF r ⟨⟨e1, e2⟩, e3, e4, e5⟩ (by rw [hk]; exact hf) (by omega) (fun P hP => h3 P (ax_ar_s P (by omega) z hP)) (fun P hP => ay_step_2 (s := 2) _ (by omega) (by omega) Z.2.2 (by omega) (by omega) e5 v2 hk2 (by omega) (ay_t_op P Z.2.2 v2 hk2 (by omega) (ay_op_s P (by omega) (ay_nIne (b := 24) (by omega) (by omega) (by omega)) z' hP))) (by omega) (fr_n r (Or.inl rfl))
theorem op_20 (r : (rl_R NC NT N A T Pc D ob K cp cf mt op tk tp fp kd KN PN SZ oc of bt ba sl ac af fa fw fv wt wd wv mc yoc yof ybt ybp sv vr ow ed wa yh vl)) (E : en_F NT K KN SZ t 2 wt wd wa) (hk : KN t = 20) (hv : vb_R ob N (wv (kl_X KN K)) (vl (kl_Y KN K))) (hw : vb_R ob N (wv (kl_X KN K + 1)) (vl (kl_Y KN K + 1))) (hm : 802 * (200 - T) + kl_C KN PN SZ K + 1 < μ) : nx_S NC NT ns mn cp cf mt op tk tp fp sk kd py KN PN SZ μ (nI NC, nI NT, ns, mn, nI N, nI A, nI (kl_F K), nI (kl_W K + 1), nI (kl_X KN K + 2), -1, rs, nI Pc, nI T, nI D, cp, cf, mt, op, tk, tp, fp, sk, oc, of, bt, ba, rd, sl, ac, af, fa, fw, fv, wt, wd, wv, pr, mc) (nI NC, nI NT, ns, mn, nI (cu_O ob N), nI (N - cu_O ob N), nI A, nI (kl_Q KN K + 1), nI (kl_Y KN K + 2), nI (kl_F K), nI D, nI T, nI Pc, -4, cp, cf, mt, kd, tk, tp, sk, yoc, yof, ybt, ybp, sv, vr, ow, ed, wa, yh, vl, pe_P pr py Pc, mo, mb) := by
  have E' := E
  obtain ⟨⟨n1, n2, n3, n4, n5⟩, ⟨n6, n7, n8, n9, n10, n11⟩, ⟨n12, n13, n14, n15, n16⟩, b, nb1, nb2⟩ := rl_n r
  obtain ⟨⟨e1, e2⟩, e3, e4, e5⟩ := E
  have Z := rl_sz r e1
  obtain ⟨v1, v2, v3, v4, v5, v6, v7⟩ := rl_tm r e1
  rw [hk] at v2 v3 v4 v5 v6 Z
  exact op_ar r E' hk (by omega) (by omega) (fun P hP => ax_fin_15 P (by omega) Z.2.2 e3 v3 hP) (by decide) hv hw hm
theorem op_21 (r : (rl_R NC NT N A T Pc D ob K cp cf mt op tk tp fp kd KN PN SZ oc of bt ba sl ac af fa fw fv wt wd wv mc yoc yof ybt ybp sv vr ow ed wa yh vl)) (E : en_F NT K KN SZ t 2 wt wd wa) (hk : KN t = 21) (hv : vb_R ob N (wv (kl_X KN K)) (vl (kl_Y KN K))) (hw : vb_R ob N (wv (kl_X KN K + 1)) (vl (kl_Y KN K + 1))) (hm : 802 * (200 - T) + kl_C KN PN SZ K + 1 < μ) : nx_S NC NT ns mn cp cf mt op tk tp fp sk kd py KN PN SZ μ (nI NC, nI NT, ns, mn, nI N, nI A, nI (kl_F K), nI (kl_W K + 1), nI (kl_X KN K + 2), -1, rs, nI Pc, nI T, nI D, cp, cf, mt, op, tk, tp, fp, sk, oc, of, bt, ba, rd, sl, ac, af, fa, fw, fv, wt, wd, wv, pr, mc) (nI NC, nI NT, ns, mn, nI (cu_O ob N), nI (N - cu_O ob N), nI A, nI (kl_Q KN K + 1), nI (kl_Y KN K + 2), nI (kl_F K), nI D, nI T, nI Pc, -4, cp, cf, mt, kd, tk, tp, sk, yoc, yof, ybt, ybp, sv, vr, ow, ed, wa, yh, vl, pe_P pr py Pc, mo, mb) := by
  have E' := E
  obtain ⟨⟨n1, n2, n3, n4, n5⟩, ⟨n6, n7, n8, n9, n10, n11⟩, ⟨n12, n13, n14, n15, n16⟩, b, nb1, nb2⟩ := rl_n r
  obtain ⟨⟨e1, e2⟩, e3, e4, e5⟩ := E
  have Z := rl_sz r e1
  obtain ⟨v1, v2, v3, v4, v5, v6, v7⟩ := rl_tm r e1
  rw [hk] at v2 v3 v4 v5 v6 Z
  exact op_ar r E' hk (by omega) (by omega) (fun P hP => ax_fin_16 P (by omega) Z.2.2 e3 v3 hP) (by decide) hv hw hm
theorem op_22 (r : (rl_R NC NT N A T Pc D ob K cp cf mt op tk tp fp kd KN PN SZ oc of bt ba sl ac af fa fw fv wt wd wv mc yoc yof ybt ybp sv vr ow ed wa yh vl)) (E : en_F NT K KN SZ t 2 wt wd wa) (hk : KN t = 22) (hv : vb_R ob N (wv (kl_X KN K)) (vl (kl_Y KN K))) (hw : vb_R ob N (wv (kl_X KN K + 1)) (vl (kl_Y KN K + 1))) (hm : 802 * (200 - T) + kl_C KN PN SZ K + 1 < μ) : nx_S NC NT ns mn cp cf mt op tk tp fp sk kd py KN PN SZ μ (nI NC, nI NT, ns, mn, nI N, nI A, nI (kl_F K), nI (kl_W K + 1), nI (kl_X KN K + 2), -1, rs, nI Pc, nI T, nI D, cp, cf, mt, op, tk, tp, fp, sk, oc, of, bt, ba, rd, sl, ac, af, fa, fw, fv, wt, wd, wv, pr, mc) (nI NC, nI NT, ns, mn, nI (cu_O ob N), nI (N - cu_O ob N), nI A, nI (kl_Q KN K + 1), nI (kl_Y KN K + 2), nI (kl_F K), nI D, nI T, nI Pc, -4, cp, cf, mt, kd, tk, tp, sk, yoc, yof, ybt, ybp, sv, vr, ow, ed, wa, yh, vl, pe_P pr py Pc, mo, mb) := by
  have E' := E
  obtain ⟨⟨n1, n2, n3, n4, n5⟩, ⟨n6, n7, n8, n9, n10, n11⟩, ⟨n12, n13, n14, n15, n16⟩, b, nb1, nb2⟩ := rl_n r
  obtain ⟨⟨e1, e2⟩, e3, e4, e5⟩ := E
  have Z := rl_sz r e1
  obtain ⟨v1, v2, v3, v4, v5, v6, v7⟩ := rl_tm r e1
  rw [hk] at v2 v3 v4 v5 v6 Z
  exact op_ar r E' hk (by omega) (by omega) (fun P hP => ax_fin_17 P (by omega) Z.2.2 e3 v3 hP) (by decide) hv hw hm
theorem op_23 (r : (rl_R NC NT N A T Pc D ob K cp cf mt op tk tp fp kd KN PN SZ oc of bt ba sl ac af fa fw fv wt wd wv mc yoc yof ybt ybp sv vr ow ed wa yh vl)) (E : en_F NT K KN SZ t 2 wt wd wa) (hk : KN t = 23) (hv : vb_R ob N (wv (kl_X KN K)) (vl (kl_Y KN K))) (hw : vb_R ob N (wv (kl_X KN K + 1)) (vl (kl_Y KN K + 1))) (hm : 802 * (200 - T) + kl_C KN PN SZ K + 1 < μ) : nx_S NC NT ns mn cp cf mt op tk tp fp sk kd py KN PN SZ μ (nI NC, nI NT, ns, mn, nI N, nI A, nI (kl_F K), nI (kl_W K + 1), nI (kl_X KN K + 2), -1, rs, nI Pc, nI T, nI D, cp, cf, mt, op, tk, tp, fp, sk, oc, of, bt, ba, rd, sl, ac, af, fa, fw, fv, wt, wd, wv, pr, mc) (nI NC, nI NT, ns, mn, nI (cu_O ob N), nI (N - cu_O ob N), nI A, nI (kl_Q KN K + 1), nI (kl_Y KN K + 2), nI (kl_F K), nI D, nI T, nI Pc, -4, cp, cf, mt, kd, tk, tp, sk, yoc, yof, ybt, ybp, sv, vr, ow, ed, wa, yh, vl, pe_P pr py Pc, mo, mb) := by
  have E' := E
  obtain ⟨⟨n1, n2, n3, n4, n5⟩, ⟨n6, n7, n8, n9, n10, n11⟩, ⟨n12, n13, n14, n15, n16⟩, b, nb1, nb2⟩ := rl_n r
  obtain ⟨⟨e1, e2⟩, e3, e4, e5⟩ := E
  have Z := rl_sz r e1
  obtain ⟨v1, v2, v3, v4, v5, v6, v7⟩ := rl_tm r e1
  rw [hk] at v2 v3 v4 v5 v6 Z
  exact op_ar r E' hk (by omega) (by omega) (fun P hP => ax_fin_18 P (by omega) Z.2.2 e3 v3 hP) (by decide) hv hw hm
theorem op_25 (r : (rl_R NC NT N A T Pc D ob K cp cf mt op tk tp fp kd KN PN SZ oc of bt ba sl ac af fa fw fv wt wd wv mc yoc yof ybt ybp sv vr ow ed wa yh vl)) (h0 : t < NT ∧ kl_W K + kl_X KN K + SZ t ≤ 100 * (kl_F K + 1)) (e3 : wt (kl_W K) = nI t) (e4 : wd (kl_W K) = nI 2) (hk : KN t = 25) (hw : vb_R ob N (wv (kl_X KN K + 1)) (vl (kl_Y KN K))) (hm : 802 * (200 - T) + kl_C KN PN SZ K + 1 < μ) : nx_S NC NT ns mn cp cf mt op tk tp fp sk kd py KN PN SZ μ (nI NC, nI NT, ns, mn, nI N, nI A, nI (kl_F K), nI (kl_W K + 1), nI (kl_X KN K + 2), -1, rs, nI Pc, nI T, nI D, cp, cf, mt, op, tk, tp, fp, sk, oc, of, bt, ba, rd, sl, ac, af, fa, fw, fv, wt, wd, wv, pr, mc) (nI NC, nI NT, ns, mn, nI (cu_O ob N), nI (N - cu_O ob N), nI A, nI (kl_Q KN K), nI (kl_Y KN K + 1), nI (kl_F K), nI D, nI T, nI Pc, -4, cp, cf, mt, kd, tk, tp, sk, yoc, yof, ybt, ybp, sv, vr, ow, ed, wa, yh, vl, pe_P pr py Pc, mo, mb) := by
  obtain ⟨⟨n1, n2, n3, n4, n5⟩, ⟨n6, n7, n8, n9, n10, n11⟩, ⟨n12, n13, n14, n15, n16⟩, b, nb1, nb2⟩ := rl_n r
  have Z := rl_sz r h0.1
  obtain ⟨v1, v2, v3, v4, v5, v6, v7⟩ := rl_tm r h0.1
  rw [hk] at v2 v3 v4 v5 v6 Z
  exact nx_0 (fun P hP => xs_fin P (by omega) (by omega) Z.2.2 nb1 nb2 e3 e4 v4 (by decide) (by omega) (ax_fin_20 P (by omega) Z.2.2 e3 v3 (ax_then P (by omega) hP))) hm (cf_Vi (rl_cg r (fun _ _ => ⟨rfl, rfl⟩) (fun _ _ => ⟨rfl, rfl, rfl⟩) (fun i hi => pk_uLn (by omega)) (fun _ _ => ⟨rfl, rfl⟩) (fun _ _ => rfl)) (by rw [pk_uLs]; exact hw) (Nat.le_refl _))
end
