section
variable {NC NT : Nat} {ns mn : Int32} {cp cf mt op tk tp fp sk kd py : Nat → Int32} {KN PN SZ : Nat → Nat}
variable {N A T Pc D : Nat} {ob : Nat → Bool} {K : List (Bool × Nat × Nat)} {rs : Int64} {oc bt ba rd ac af fa fw fv wt wd pr mc : Nat → Int32} {of sl wv : Nat → Int64} {yoc ybt ybp ow ed wa yh mo mb : Nat → Int32} {yof sv vr vl : Nat → Int64}
variable {μ t : Nat}
theorem op_15 (r : (rl_R NC NT N A T Pc D ob K cp cf mt op tk tp fp kd KN PN SZ oc of bt ba sl ac af fa fw fv wt wd wv mc yoc yof ybt ybp sv vr ow ed wa yh vl)) (E : en_F NT K KN SZ t 1 wt wd wa) (hk : KN t = 15) (hv : vb_R ob N (wv (kl_X KN K)) (vl (kl_Y KN K))) (hm : 802 * (200 - T) + kl_C KN PN SZ K + 1 < μ) : nx_S NC NT ns mn cp cf mt op tk tp fp sk kd py KN PN SZ μ (nI NC, nI NT, ns, mn, nI N, nI A, nI (kl_F K), nI (kl_W K + 1), nI (kl_X KN K + 1), -1, rs, nI Pc, nI T, nI D, cp, cf, mt, op, tk, tp, fp, sk, oc, of, bt, ba, rd, sl, ac, af, fa, fw, fv, wt, wd, wv, pr, mc) (nI NC, nI NT, ns, mn, nI (cu_O ob N), nI (N - cu_O ob N), nI A, nI (kl_Q KN K + 1), nI (kl_Y KN K + 1), nI (kl_F K), nI D, nI T, nI Pc, -4, cp, cf, mt, kd, tk, tp, sk, yoc, yof, ybt, ybp, sv, vr, ow, ed, wa, yh, vl, pe_P pr py Pc, mo, mb) := by
  obtain ⟨⟨n1, n2, n3, n4, n5⟩, ⟨n6, n7, n8, n9, n10, n11⟩, ⟨n12, n13, n14, n15, n16⟩, b, nb1, nb2⟩ := rl_n r
  obtain ⟨⟨e1, e2⟩, e3, e4, e5⟩ := E
  have Z := rl_sz r e1
  obtain ⟨v1, v2, v3, v4, v5, v6, v7⟩ := rl_tm r e1
  rw [hk] at v2 v3 v4 v5 v6 Z
  obtain ⟨P0, H, ⟨S, F0, AF⟩, B⟩ := r
  have r : (rl_R NC NT N A T Pc D ob K cp cf mt op tk tp fp kd KN PN SZ oc of bt ba sl ac af fa fw fv wt wd wv mc yoc yof ybt ybp sv vr ow ed wa yh vl) := ⟨P0, H, ⟨S, F0, AF⟩, B⟩
  obtain ⟨f1, f2⟩ := AF _ n7
  by_cases ha : kl_A K = 0
  · obtain ⟨af', hx⟩ := rt_x0 (q := 0) (nc := nI NC) (nt := nI NT) (ns := ns) (mn := mn) (n := nI N) (na := nI A) (ws := nI 0) (pc := nI Pc) (tc := nI T) (dc := nI D) (op := op) (tk := tk) (tp := tp) (fp := fp) (sk := sk) (oc := oc) (of := of) (bt := bt) (ba := ba) (rd := rd) (sl := sl) (ac := ac) (fa := fa) (fw := fw) (fv := fv) (wt := wt) (wd := wd) (wv := vp_updL wv 0 (wv (kl_X KN K))) (pr := pr) (mc := mc) (cp := cp) (cf := cf) (mt := mt) (wv0 := wv) (rs := rs) (en := -1) n8 (by omega) K S af
    have ya : ∀ P : SY → Prop, P (nI NC, nI NT, ns, mn, nI (cu_O ob N), nI (N - cu_O ob N), nI A, nI (kl_Q KN K), nI (kl_Y KN K), nI (kl_F K), nI D, nI T, nI Pc, 0, cp, cf, mt, kd, tk, tp, sk, yoc, yof, ybt, ybp, sv, vr, ow, ed, wa, yh, vp_updL vl 0 (vl (kl_Y KN K)), pe_P pr py Pc, mo, mb) → wpY_leave P (nI NC, nI NT, ns, mn, nI (cu_O ob N), nI (N - cu_O ob N), nI A, nI (kl_Q KN K), nI (kl_Y KN K + 1), nI (kl_F K), nI D, nI T, nI Pc, -4, cp, cf, mt, kd, tk, tp, sk, yoc, yof, ybt, ybp, sv, vr, ow, ed, wa, yh, vl, pe_P pr py Pc, mo, mb) (nI (kl_A K)) := fun P hP => by rw [ha]; exact ry_0 P (by omega) hP
    refine nx_UF r ⟨⟨e1, e2⟩, e3, e4, e5⟩ (by rw [hk]; decide) (by omega) (fun P hP => ax_fin_12 P (by omega) Z.2.2 e3 v3 (rt_xf P (k := 0) (w := 0) (v := 0) (by omega) (by omega) (by omega) (by omega) (by omega) n6 (by rw [f1]; exact (kl_az ha).1) F0.2.1 F0.2.2 (hx P (kl_F K + 2) (by omega) hP))) (fun P hP => ay_step_1 (s := 1) _ (by omega) (by omega) Z.2.2 (by omega) (by omega) e5 v2 (by decide) (ay_f1_15 P Z.2.2 v2 (by omega) (ya P hP))) (by omega) ?_
    exact ⟨N, A, T, Pc, D, ob, nI A, nI 0, nI 0, nI 0, 0, nI A, _, _, _, vp_updL wv 0 (wv (kl_X KN K)) 0, oc, bt, ba, rd, ac, af', fa, fw, fv, wt, wd, pr, mc, of, sl, vp_updL wv 0 (wv (kl_X KN K)), yoc, ybt, ybp, ow, ed, wa, yh, mo, mb, yof, sv, vr, vp_updL vl 0 (vl (kl_Y KN K)), rfl, rfl, Or.inl rfl, ⟨n9, n14⟩, B.2.2, fun _ => ⟨rfl, n8, H, by rw [pk_uLs, pk_uLs]; exact hv⟩⟩
  · by_cases hl : kl_L (kl_A K) K = 0
    · have q := kl_a0 (by omega) hl
      exact nx_UF r ⟨⟨e1, e2⟩, e3, e4, e5⟩ (by rw [hk]; decide) (by omega) (fun P hP => ax_fin_12 P (by omega) Z.2.2 e3 v3 (rt_xs P (by omega) (by omega) (by omega) n6 (f1.trans q.1) hP)) (fun P hP => ay_step_1 (s := 1) _ (by omega) (by omega) Z.2.2 (by omega) (by omega) e5 v2 (by decide) (ay_f1_15 P Z.2.2 v2 (by omega) (ry_s P (by omega) (by omega) (by omega) (f2.trans q.2) hP))) (by omega) (fr_n r (Or.inl rfl))
    · have hl1 : 1 ≤ kl_L (kl_A K) K := by omega
      have lb := kl_Lb (kl_A K) K
      obtain ⟨g, eg⟩ : ∃ g, kl_L (kl_A K) K = g + 1 := ⟨kl_L (kl_A K) K - 1, by omega⟩
      have q := kl_a1 (by omega) eg
      rw [← eg] at q
      obtain ⟨u1, u2, u3, u4, u5, u6, u7, u8⟩ := kl_SU (PN := PN) S hl1
      obtain ⟨af', AX, hx⟩ := rt_x (nc := nI NC) (nt := nI NT) (ns := ns) (mn := mn) (n := nI N) (na := nI A) (ws := nI (kl_W (kl_U (kl_A K) K))) (vs := nI (kl_X KN (kl_U (kl_A K) K) + 1)) (en := -1) (rs := rs) (pc := nI Pc) (tc := nI T) (dc := nI D) (op := op) (tk := tk) (tp := tp) (fp := fp) (sk := sk) (oc := oc) (of := of) (bt := bt) (ba := ba) (rd := rd) (sl := sl) (ac := ac) (fa := fa) (fw := fw) (fv := fv) (wt := wt) (wd := wd) (wv := vp_updL wv (kl_X KN (kl_U (kl_A K) K)) (wv (kl_X KN K))) (pr := pr) (mc := mc) (cp := cp) (cf := cf) (mt := mt) (wv0 := wv) n8 K S af (fun a h => (AF a h).1) hl1
      obtain ⟨ed', AY, hy⟩ := rt_y (yc := nI NC) (yt := nI NT) (ys := ns) (ym := mn) (no := nI (cu_O ob N)) (nb := nI (N - cu_O ob N)) (ya := nI A) (yv := nI (kl_Y KN K)) (yo := nI D) (yk := nI T) (yp := nI Pc) (ye := -4) (ycf := cf) (ymt := mt) (kd := kd) (ytk := tk) (ytp := tp) (ysk := sk) (yoc := yoc) (yof := yof) (ybt := ybt) (ybp := ybp) (sv := sv) (vr := vr) (ow := ow) (wa := wa) (yh := yh) (vl := vl) (ypr := pe_P pr py Pc) (mo := mo) (mb := mb) (ycp := cp) (x := vl (kl_Y KN K)) P0 n8 B.1.1 n7 K S ed (fun a h => (AF a h).2) hl1 (by omega) (by omega)
      refine nx_U r ⟨⟨e1, e2⟩, e3, e4, e5⟩ (by rw [hk]; decide) (by omega) (fun P hP => ax_fin_12 P (by omega) Z.2.2 e3 v3 (rt_xf P (by omega) (by omega) (by omega) (by omega) (by omega) n6 (f1.trans q.1) u3 u4 (hx P (kl_F K + 2) (by omega) hP))) (fun P hP => ay_step_1 (s := 1) _ (by omega) (by omega) Z.2.2 (by omega) (by omega) e5 v2 (by decide) (ay_f1_15 P Z.2.2 v2 (by omega) (ry_f P (by omega) (by omega) (by omega) (f2.trans q.2) (hy P (kl_Q KN K + 2) (by omega) hP)))) (μ' := 802 * (200 - T) + kl_C KN PN SZ (kl_U (kl_A K) K) + 1) (by omega) (cf_Vi (K := kl_U (kl_A K) K) (wv := vp_updL wv (kl_X KN (kl_U (kl_A K) K)) (wv (kl_X KN K))) (vl := vp_updL vl (kl_Y KN (kl_U (kl_A K) K)) (vl (kl_Y KN K))) (af := af') (ed := ed') ⟨P0, H, ⟨kl_cg (fun _ _ h => h) (Nat.le_refl _) (fun _ _ => ⟨rfl, rfl⟩) (fun _ _ _ => ⟨rfl, rfl, rfl⟩) (fun i hi => pk_uLn (by omega)) (fun _ _ => ⟨rfl, rfl⟩) (fun i hi => pk_uLn (by omega)) u1, F0, fun a h => ⟨AX a h, AY a h⟩⟩, B.1, ⟨B.2.1.1, by omega, B.2.1.2.2⟩, B.2.2⟩ (by rw [pk_uLs, pk_uLs]; exact hv) (Nat.le_refl _))
/-! every step -/
theorem op_E (r : (rl_R NC NT N A T Pc D ob K cp cf mt op tk tp fp kd KN PN SZ oc of bt ba sl ac af fa fw fv wt wd wv mc yoc yof ybt ybp sv vr ow ed wa yh vl)) (E : en_F NT K KN SZ t 0 wt wd wa) (hm : 802 * (200 - T) + kl_C KN PN SZ K + 4 * SZ t ≤ μ) : nx_S NC NT ns mn cp cf mt op tk tp fp sk kd py KN PN SZ μ (nI NC, nI NT, ns, mn, nI N, nI A, nI (kl_F K), nI (kl_W K + 1), nI (kl_X KN K), -1, rs, nI Pc, nI T, nI D, cp, cf, mt, op, tk, tp, fp, sk, oc, of, bt, ba, rd, sl, ac, af, fa, fw, fv, wt, wd, wv, pr, mc) (nI NC, nI NT, ns, mn, nI (cu_O ob N), nI (N - cu_O ob N), nI A, nI (kl_Q KN K + 1), nI (kl_Y KN K), nI (kl_F K), nI D, nI T, nI Pc, -4, cp, cf, mt, kd, tk, tp, sk, yoc, yof, ybt, ybp, sv, vr, ow, ed, wa, yh, vl, pe_P pr py Pc, mo, mb) := by
  have E' := E
  obtain ⟨⟨e1, e2⟩, e3, e4, e5⟩ := E
  have Z := rl_sz r e1
  have n := rl_n r
  obtain ⟨v1, v2, v3, v4, v5, v6, v7⟩ := rl_tm r e1
  have hm' : 802 * (200 - T) + kl_C KN PN SZ K + 1 < μ := by omega
  by_cases k10 : 10 ≤ KN t
  · by_cases k13 : KN t = 13
    · exact op_13 r E' k13 hm'
    · exact op_p0 r E' rfl k10 k13 hm
  · have kc : KN t = 0 ∨ KN t = 1 ∨ KN t = 2 ∨ KN t = 3 ∨ KN t = 4 ∨ KN t = 5 ∨ KN t = 6 := by unfold pg_v at v1; omega
    rcases kc with hk | hk | hk | hk | hk | hk | hk
    · exact op_0 r E' hk hm'
    · exact op_1 r E' hk hm'
    · exact op_2 r E' hk hm'
    · exact op_3 r E' hk hm'
    · exact op_4 r E' hk hm'
    · exact op_5 r E' hk hm'
    · rw [hk] at v2 v3 v5
      obtain ⟨s, hs, h3, es⟩ := v5.2.2.2.2.1 (Or.inl rfl)
      have hf : pg_fp (KN t) ≤ 0 := by rw [hk]; decide
      have sc : s = 0 ∨ s = 3 := by omega
      rcases sc with rfl | rfl
      · exact op_super (s := 0) r E' (by omega) hf hs es v3 (by omega) (fun P hP => ay_step_E _ (by omega) (by omega) Z.2.2 e5 (ay_bg_6 P Z.2.2 v2 (by rw [es]; exact hP))) (fun j hj => absurd hj (by omega)) hm'
      · exact op_super (s := 3) r E' (by omega) hf hs es v3 (by omega) (fun P hP => ay_step_E _ (by omega) (by omega) Z.2.2 e5 (ay_bg_6 P Z.2.2 v2 (by rw [es]; exact hP))) (fun j hj => absurd hj (by omega)) hm'
theorem op_V1 (r : (rl_R NC NT N A T Pc D ob K cp cf mt op tk tp fp kd KN PN SZ oc of bt ba sl ac af fa fw fv wt wd wv mc yoc yof ybt ybp sv vr ow ed wa yh vl)) (E : en_F NT K KN SZ t 1 wt wd wa) (hk : 10 ≤ KN t ∧ KN t ≤ 18) (h13 : KN t ≠ 13) (hv : vb_R ob N (wv (kl_X KN K)) (vl (kl_Y KN K))) (hm : 802 * (200 - T) + kl_C KN PN SZ K + 1 < μ) : nx_S NC NT ns mn cp cf mt op tk tp fp sk kd py KN PN SZ μ (nI NC, nI NT, ns, mn, nI N, nI A, nI (kl_F K), nI (kl_W K + 1), nI (kl_X KN K + 1), -1, rs, nI Pc, nI T, nI D, cp, cf, mt, op, tk, tp, fp, sk, oc, of, bt, ba, rd, sl, ac, af, fa, fw, fv, wt, wd, wv, pr, mc) (nI NC, nI NT, ns, mn, nI (cu_O ob N), nI (N - cu_O ob N), nI A, nI (kl_Q KN K + 1), nI (kl_Y KN K + 1), nI (kl_F K), nI D, nI T, nI Pc, -4, cp, cf, mt, kd, tk, tp, sk, yoc, yof, ybt, ybp, sv, vr, ow, ed, wa, yh, vl, pe_P pr py Pc, mo, mb) := by
  have E' := E
  obtain ⟨⟨e1, e2⟩, e3, e4, e5⟩ := E
  have Z := rl_sz r e1
  have n := rl_n r
  obtain ⟨v1, v2, v3, v4, v5, v6, v7⟩ := rl_tm r e1
  have hv1 : ∀ j, j < 1 → vb_R ob N (wv (kl_X KN K + j)) (vl (kl_Y KN K + j)) := fun j hj => by
    have : j = 0 := by omega
    subst this
    exact hv
  have kc : KN t = 10 ∨ KN t = 11 ∨ KN t = 12 ∨ KN t = 14 ∨ KN t = 15 ∨ KN t = 16 ∨ KN t = 17 ∨ KN t = 18 := by omega
  rcases kc with hk | hk | hk | hk | hk | hk | hk | hk
  · exact op_10 r E' hk hv hm
  · exact op_11 r E' hk hv hm
  · exact op_12 r E' hk hv hm
  · exact op_14 r E' hk hv hm
  · exact op_15 r E' hk hv hm
  · exact op_16 r E' hk hv hm
  · rw [hk] at v2 v3 v5 Z
    obtain ⟨s, hs, h3, es⟩ := v5.2.2.2.2.1 (Or.inr rfl)
    have hf : pg_fp (KN t) ≤ 1 := by rw [hk]; decide
    have sc : s = 0 ∨ s = 3 := by omega
    rcases sc with rfl | rfl
    · exact op_send (s := 0) r E' (by omega) hf hs es v3 (by omega) (fun P hP => ay_step_1 (s := 1) _ (by omega) (by omega) Z.2.2 (by omega) (by omega) e5 v2 (by decide) (ay_f1_17 P Z.2.2 v2 (by omega) (by rw [es]; exact hP))) (fun j hj => hv1 j (by omega)) hm
    · exact op_send (s := 3) r E' (by omega) hf hs es v3 (by omega) (fun P hP => ay_step_1 (s := 1) _ (by omega) (by omega) Z.2.2 (by omega) (by omega) e5 v2 (by decide) (ay_f1_17 P Z.2.2 v2 (by omega) (by rw [es]; exact hP))) (fun j hj => hv1 j (by omega)) hm
  · rw [hk] at v2 v3 v5 Z
    obtain ⟨s, hs, h3, es⟩ := v5.2.2.2.2.2.1 (Or.inl rfl)
    have hf : pg_fp (KN t) ≤ 1 := by rw [hk]; decide
    have sc : s = 1 ∨ s = 4 := by omega
    rcases sc with rfl | rfl
    · exact op_super (s := 1) r E' (by omega) hf hs es v3 (by omega) (fun P hP => ay_step_1 (s := 1) _ (by omega) (by omega) Z.2.2 (by omega) (by omega) e5 v2 (by decide) (ay_f1_18 P Z.2.2 v2 (by omega) (by rw [es]; exact hP))) (fun j hj => hv1 j (by omega)) hm
    · exact op_super (s := 4) r E' (by omega) hf hs es v3 (by omega) (fun P hP => ay_step_1 (s := 1) _ (by omega) (by omega) Z.2.2 (by omega) (by omega) e5 v2 (by decide) (ay_f1_18 P Z.2.2 v2 (by omega) (by rw [es]; exact hP))) (fun j hj => hv1 j (by omega)) hm
theorem op_V2 (r : (rl_R NC NT N A T Pc D ob K cp cf mt op tk tp fp kd KN PN SZ oc of bt ba sl ac af fa fw fv wt wd wv mc yoc yof ybt ybp sv vr ow ed wa yh vl)) (E : en_F NT K KN SZ t 2 wt wd wa) (hk : 20 ≤ KN t ∧ KN t ≤ 29) (h5 : KN t ≠ 25) (h6 : KN t ≠ 26) (hv : vb_R ob N (wv (kl_X KN K)) (vl (kl_Y KN K))) (hw : vb_R ob N (wv (kl_X KN K + 1)) (vl (kl_Y KN K + 1))) (hm : 802 * (200 - T) + kl_C KN PN SZ K + 1 < μ) : nx_S NC NT ns mn cp cf mt op tk tp fp sk kd py KN PN SZ μ (nI NC, nI NT, ns, mn, nI N, nI A, nI (kl_F K), nI (kl_W K + 1), nI (kl_X KN K + 2), -1, rs, nI Pc, nI T, nI D, cp, cf, mt, op, tk, tp, fp, sk, oc, of, bt, ba, rd, sl, ac, af, fa, fw, fv, wt, wd, wv, pr, mc) (nI NC, nI NT, ns, mn, nI (cu_O ob N), nI (N - cu_O ob N), nI A, nI (kl_Q KN K + 1), nI (kl_Y KN K + 2), nI (kl_F K), nI D, nI T, nI Pc, -4, cp, cf, mt, kd, tk, tp, sk, yoc, yof, ybt, ybp, sv, vr, ow, ed, wa, yh, vl, pe_P pr py Pc, mo, mb) := by
  have E' := E
  obtain ⟨⟨e1, e2⟩, e3, e4, e5⟩ := E
  have Z := rl_sz r e1
  have n := rl_n r
  obtain ⟨v1, v2, v3, v4, v5, v6, v7⟩ := rl_tm r e1
  have hv2 : ∀ j, j < 2 → vb_R ob N (wv (kl_X KN K + j)) (vl (kl_Y KN K + j)) := fun j hj => by
    have : j = 0 ∨ j = 1 := by omega
    rcases this with rfl | rfl
    · exact hv
    · exact hw
  have kc : KN t = 20 ∨ KN t = 21 ∨ KN t = 22 ∨ KN t = 23 ∨ KN t = 24 ∨ KN t = 27 ∨ KN t = 28 ∨ KN t = 29 := by omega
  rcases kc with hk | hk | hk | hk | hk | hk | hk | hk
  · exact op_20 r E' hk hv hw hm
  · exact op_21 r E' hk hv hw hm
  · exact op_22 r E' hk hv hw hm
  · exact op_23 r E' hk hv hw hm
  · exact op_24 r E' hk hv hw hm
  · exact op_27 r E' hk hv hw hm
  · rw [hk] at v2 v3 v5 Z
    obtain ⟨s, hs, h3, es⟩ := v5.2.2.2.2.2.1 (Or.inr rfl)
    have hf : pg_fp (KN t) ≤ 2 := by rw [hk]; decide
    have sc : s = 1 ∨ s = 4 := by omega
    rcases sc with rfl | rfl
    · exact op_send (s := 1) r E' (by omega) hf hs es v3 (by omega) (fun P hP => ay_step_2 (s := 2) _ (by omega) (by omega) Z.2.2 (by omega) (by omega) e5 v2 (by decide) (by decide) (ay_t_28 P Z.2.2 v2 (by rw [es]; exact hP))) (fun j hj => hv2 j (by omega)) hm
    · exact op_send (s := 4) r E' (by omega) hf hs es v3 (by omega) (fun P hP => ay_step_2 (s := 2) _ (by omega) (by omega) Z.2.2 (by omega) (by omega) e5 v2 (by decide) (by decide) (ay_t_28 P Z.2.2 v2 (by rw [es]; exact hP))) (fun j hj => hv2 j (by omega)) hm
  · rw [hk] at v2 v3 v5 Z
    obtain ⟨s, hs, h3, es⟩ := v5.2.2.2.2.2.2 (Or.inl rfl)
    have hf : pg_fp (KN t) ≤ 2 := by rw [hk]; decide
    have sc : s = 2 ∨ s = 5 := by omega
    rcases sc with rfl | rfl
    · exact op_super (s := 2) r E' (by omega) hf hs es v3 (by omega) (fun P hP => ay_step_2 (s := 2) _ (by omega) (by omega) Z.2.2 (by omega) (by omega) e5 v2 (by decide) (by decide) (ay_t_29 P Z.2.2 v2 (by rw [es]; exact hP))) (fun j hj => hv2 j (by omega)) hm
    · exact op_super (s := 5) r E' (by omega) hf hs es v3 (by omega) (fun P hP => ay_step_2 (s := 2) _ (by omega) (by omega) Z.2.2 (by omega) (by omega) e5 v2 (by decide) (by decide) (ay_t_29 P Z.2.2 v2 (by rw [es]; exact hP))) (fun j hj => hv2 j (by omega)) hm
theorem op_V3 (r : (rl_R NC NT N A T Pc D ob K cp cf mt op tk tp fp kd KN PN SZ oc of bt ba sl ac af fa fw fv wt wd wv mc yoc yof ybt ybp sv vr ow ed wa yh vl)) (E : en_F NT K KN SZ t 3 wt wd wa) (hk : KN t = 31) (hv : vb_R ob N (wv (kl_X KN K)) (vl (kl_Y KN K))) (hw : vb_R ob N (wv (kl_X KN K + 1)) (vl (kl_Y KN K + 1))) (hx : vb_R ob N (wv (kl_X KN K + 2)) (vl (kl_Y KN K + 2))) (hm : 802 * (200 - T) + kl_C KN PN SZ K + 1 < μ) : nx_S NC NT ns mn cp cf mt op tk tp fp sk kd py KN PN SZ μ (nI NC, nI NT, ns, mn, nI N, nI A, nI (kl_F K), nI (kl_W K + 1), nI (kl_X KN K + 3), -1, rs, nI Pc, nI T, nI D, cp, cf, mt, op, tk, tp, fp, sk, oc, of, bt, ba, rd, sl, ac, af, fa, fw, fv, wt, wd, wv, pr, mc) (nI NC, nI NT, ns, mn, nI (cu_O ob N), nI (N - cu_O ob N), nI A, nI (kl_Q KN K + 1), nI (kl_Y KN K + 3), nI (kl_F K), nI D, nI T, nI Pc, -4, cp, cf, mt, kd, tk, tp, sk, yoc, yof, ybt, ybp, sv, vr, ow, ed, wa, yh, vl, pe_P pr py Pc, mo, mb) := by
  have E' := E
  obtain ⟨⟨e1, e2⟩, e3, e4, e5⟩ := E
  have Z := rl_sz r e1
  have n := rl_n r
  obtain ⟨v1, v2, v3, v4, v5, v6, v7⟩ := rl_tm r e1
  have hv2 : ∀ j, j < 3 → vb_R ob N (wv (kl_X KN K + j)) (vl (kl_Y KN K + j)) := fun j hj => by
    have : j = 0 ∨ j = 1 ∨ j = 2 := by omega
    rcases this with rfl | rfl | rfl
    · exact hv
    · exact hw
    · exact hx
  rw [hk] at v2 v3 v5 Z
  obtain ⟨s, hs, h3, es⟩ := v5.2.2.2.2.2.2 (Or.inr rfl)
  have hf : pg_fp (KN t) ≤ 3 := by rw [hk]; decide
  have sc : s = 2 ∨ s = 5 := by omega
  rcases sc with rfl | rfl
  · exact op_send (s := 2) r E' (by omega) hf hs es v3 (by omega) (fun P hP => ay_step_3 (s := 3) _ (by omega) (by omega) Z.2.2 (by omega) (by omega) e5 v2 (by decide) (by decide) (ay_h_31 P Z.2.2 v2 (by rw [es]; exact hP))) (fun j hj => hv2 j (by omega)) hm
  · exact op_send (s := 5) r E' (by omega) hf hs es v3 (by omega) (fun P hP => ay_step_3 (s := 3) _ (by omega) (by omega) Z.2.2 (by omega) (by omega) e5 v2 (by decide) (by decide) (ay_h_31 P Z.2.2 v2 (by rw [es]; exact hP))) (fun j hj => hv2 j (by omega)) hm
theorem op_V {d : Nat} (r0 : (rl_R NC NT N A T Pc D ob ((true, t, d) :: K) cp cf mt op tk tp fp kd KN PN SZ oc of bt ba sl ac af fa fw fv wt wd wv mc yoc yof ybt ybp sv vr ow ed wa yh vl)) (hv : vb_R ob N (wv (kl_X KN ((true, t, d) :: K))) (vl (kl_Y KN ((true, t, d) :: K)))) (hm : 802 * (200 - T) + kl_C KN PN SZ ((true, t, d) :: K) + 1 ≤ μ) : nx_S NC NT ns mn cp cf mt op tk tp fp sk kd py KN PN SZ μ (nI NC, nI NT, ns, mn, nI N, nI A, nI (kl_F ((true, t, d) :: K)), nI (kl_W ((true, t, d) :: K)), nI (kl_X KN ((true, t, d) :: K) + 1), -1, rs, nI Pc, nI T, nI D, cp, cf, mt, op, tk, tp, fp, sk, oc, of, bt, ba, rd, sl, ac, af, fa, fw, fv, wt, wd, wv, pr, mc) (nI NC, nI NT, ns, mn, nI (cu_O ob N), nI (N - cu_O ob N), nI A, nI (kl_Q KN ((true, t, d) :: K)), nI (kl_Y KN ((true, t, d) :: K) + 1), nI (kl_F ((true, t, d) :: K)), nI D, nI T, nI Pc, -4, cp, cf, mt, kd, tk, tp, sk, yoc, yof, ybt, ybp, sv, vr, ow, ed, wa, yh, vl, pe_P pr py Pc, mo, mb) := by
  obtain ⟨r, h0, ⟨hd1, hd2⟩, h1, h2, h3, h4⟩ := rl_tl r0
  clear r0
  have T0 := rl_tm r h0.1
  have v1 := T0.1
  have dl := kl_dl v1
  have hm' : 802 * (200 - T) + (kl_C KN PN SZ K + pg_co KN PN SZ t d) + 1 ≤ μ := hm
  have X1 : kl_X KN ((true, t, d) :: K) = kl_X KN K + kl_nx (KN t) d := rfl
  have Y1 : kl_Y KN ((true, t, d) :: K) = kl_Y KN K + kl_ny (KN t) d := rfl
  have Q1 : kl_Q KN ((true, t, d) :: K) = kl_Q KN K + kl_q (KN t) d := rfl
  have dk : d ≤ KN t / 10 := by
    have l := pg_fpl v1
    unfold kl_d at hd2
    split at hd2 <;> omega
  have c1 := pg_c1 r h0.1 dk
  have hmm : 802 * (200 - T) + kl_C KN PN SZ K + 1 < μ := by omega
  have k13 : KN t ≠ 13 := fun z => by
    rw [z] at hd2
    exact absurd hd2 (by have : kl_d 13 = 0 := rfl
                         omega)
  have k30 : KN t = 30 → d = 1 := fun z => by
    rw [z] at hd2
    have : kl_d 30 = 1 := rfl
    omega
  have kv : (10 ≤ KN t ∧ KN t ≤ 18) ∨ (20 ≤ KN t ∧ KN t ≤ 31) := by
    unfold pg_v at v1
    omega
  have dc : d = 1 ∨ d = 2 ∨ d = 3 := by omega
  rcases dc with rfl | rfl | rfl
  · have x0 : kl_nx (KN t) 1 = 0 := by unfold kl_nx; split <;> omega
    have y0 : kl_ny (KN t) 1 = 0 := by unfold kl_ny; split <;> omega
    have q0 : kl_q (KN t) 1 = 1 := if_neg (by omega)
    rw [x0, Nat.add_zero] at X1
    rw [y0, Nat.add_zero] at Y1
    rw [q0] at Q1
    rw [X1, Y1] at hv
    rw [X1, Y1, Q1]
    have E : en_F NT K KN SZ t 1 wt wd wa := ⟨h0, h1, h2, h3 (by omega)⟩
    rcases kv with kv | kv
    · exact op_V1 r E kv k13 hv hmm
    · by_cases k6 : KN t = 26
      · exact op_26a r E k6 hv hm'
      · by_cases k5 : KN t = 25
        · exact op_p25 r E k5 hm'
        · by_cases k0 : KN t = 30
          · exact op_30 r E k0 hv hm'
          · by_cases k1 : KN t = 31
            · exact op_p31a r E k1 hv hm'
            · exact op_p1 r E rfl kv.1 (by omega) k5 k6 hv hm'
  · have kv' : 20 ≤ KN t ∧ KN t ≤ 31 := by omega
    by_cases k6 : KN t = 26
    · rw [show kl_nx (KN t) 2 = 0 from if_pos k6, Nat.add_zero] at X1
      rw [show kl_ny (KN t) 2 = 0 from if_pos (Or.inl k6), Nat.add_zero] at Y1
      rw [show kl_q (KN t) 2 = 1 from if_neg (by omega)] at Q1
      rw [X1, Y1, Q1]
      exact op_26b r ⟨h0, h1, h2, h3 (by omega)⟩ k6 hm'
    · by_cases k5 : KN t = 25
      · rw [show kl_nx (KN t) 2 = 1 from if_neg k6] at X1
        rw [show kl_ny (KN t) 2 = 0 from if_pos (Or.inr k5), Nat.add_zero] at Y1
        rw [show kl_q (KN t) 2 = 0 from if_pos ⟨k5, rfl⟩, Nat.add_zero] at Q1
        rw [X1, Y1] at hv
        rw [X1, Y1, Q1]
        exact op_25 r h0 h1 h2 k5 hv hmm
      · rw [show kl_nx (KN t) 2 = 1 from if_neg k6] at X1
        have ny : kl_ny (KN t) 2 = 1 := if_neg (by omega)
        rw [ny] at Y1
        rw [show kl_q (KN t) 2 = 1 from if_neg (by omega)] at Q1
        rw [X1, Y1] at hv
        rw [X1, Y1, Q1]
        have hv0 := h4 0 (by omega)
        have E : en_F NT K KN SZ t 2 wt wd wa := ⟨h0, h1, h2, h3 (by omega)⟩
        by_cases k1 : KN t = 31
        · exact op_p31b r E k1 hv0 hv hm'
        · have k0 : KN t ≠ 30 := fun z => by have := k30 z; omega
          exact op_V2 r E ⟨kv'.1, by omega⟩ k5 k6 hv0 hv hmm
  · have k0 : KN t ≠ 30 := fun z => by have := k30 z; omega
    have k1 : KN t = 31 := by omega
    rw [show kl_nx (KN t) 3 = 2 from if_neg (by omega)] at X1
    have ny : kl_ny (KN t) 3 = 2 := if_neg (by omega)
    rw [ny] at Y1
    rw [show kl_q (KN t) 3 = 1 from if_neg (by omega)] at Q1
    rw [X1, Y1] at hv
    rw [X1, Y1, Q1]
    exact op_V3 r ⟨h0, h1, h2, h3 (by omega)⟩ k1 (h4 0 (by omega)) (h4 1 (by omega)) hv hmm
end
section
variable {NC NT : Nat} {ns mn : Int32} {cp cf mt op tk tp fp sk kd py : Nat → Int32} {KN PN SZ : Nat → Nat}
theorem op_all (μ : Nat) (u : SX) (v : SY) (h : cf_V NC NT ns mn cp cf mt op tk tp fp sk kd py KN PN SZ μ u v ∨ cf_E NC NT ns mn cp cf mt op tk tp fp sk kd py KN PN SZ μ u v) : nx_S NC NT ns mn cp cf mt op tk tp fp sk kd py KN PN SZ μ u v := by
  rcases h with ⟨N, A, T, Pc, D, ob, K, rs, oc, bt, ba, rd, ac, af, fa, fw, fv, wt, wd, pr, mc, of, sl, wv, yoc, ybt, ybp, ow, ed, wa, yh, mo, mb, yof, sv, vr, vl, rfl, rfl, r, hv, hm⟩ | ⟨N, A, T, Pc, D, ob, K, rs, oc, bt, ba, rd, ac, af, fa, fw, fv, wt, wd, pr, mc, of, sl, wv, yoc, ybt, ybp, ow, ed, wa, yh, mo, mb, yof, sv, vr, vl, t, rfl, rfl, r, h0, h1, h2, h3, hm⟩
  · match K, r, hv, hm with
    | [], r, hv, hm => exact op_end r hv (by omega)
    | (true, t, d) :: K, r, hv, hm => exact op_V r hv hm
    | (false, a, m) :: K, r, hv, hm =>
      refine op_fr r hv ?_
      have hm' : 802 * (200 - T) + (kl_C KN PN SZ K + 1) + 1 ≤ μ := hm
      omega
  · exact op_E r ⟨h0, h1, h2, h3⟩ hm
end
