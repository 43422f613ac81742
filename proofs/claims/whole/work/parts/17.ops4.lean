section
variable {NC NT : Nat} {ns mn : Int32} {cp cf mt op tk tp fp sk kd py : Nat → Int32} {KN PN SZ : Nat → Nat}
variable {N A T Pc D : Nat} {ob : Nat → Bool} {K : List (Bool × Nat × Nat)} {rs : Int64} {oc bt ba rd ac af fa fw fv wt wd pr mc : Nat → Int32} {of sl wv : Nat → Int64} {yoc ybt ybp ow ed wa yh mo mb : Nat → Int32} {yof sv vr vl : Nat → Int64}
variable {μ t : Nat}
theorem pg_cz {d : Nat} (r : (rl_R NC NT N A T Pc D ob K cp cf mt op tk tp fp kd KN PN SZ oc of bt ba sl ac af fa fw fv wt wd wv mc yoc yof ybt ybp sv vr ow ed wa yh vl)) (ht : t < NT) (hd : d < KN t / 10) : SZ (PN (3 * t + d)) + (d + 1) ≤ SZ t := by
  have s := pg_sd r.1 ht (d + 1) (by omega)
  have s0 := pg_sd r.1 ht d (by omega)
  have z := (rl_tm r ht).2.2.2.2.2.2.1
  have q : pg_sm SZ PN t (d + 1) = pg_sm SZ PN t d + SZ (PN (3 * t + d)) := rfl
  omega
theorem op_p31a (r : (rl_R NC NT N A T Pc D ob K cp cf mt op tk tp fp kd KN PN SZ oc of bt ba sl ac af fa fw fv wt wd wv mc yoc yof ybt ybp sv vr ow ed wa yh vl)) (E : en_F NT K KN SZ t 1 wt wd wa) (hk : KN t = 31) (hv : vb_R ob N (wv (kl_X KN K)) (vl (kl_Y KN K))) (hm : 802 * (200 - T) + (kl_C KN PN SZ K + pg_co KN PN SZ t 1) + 1 ≤ μ) : nx_S NC NT ns mn cp cf mt op tk tp fp sk kd py KN PN SZ μ (nI NC, nI NT, ns, mn, nI N, nI A, nI (kl_F K), nI (kl_W K + 1), nI (kl_X KN K + 1), -1, rs, nI Pc, nI T, nI D, cp, cf, mt, op, tk, tp, fp, sk, oc, of, bt, ba, rd, sl, ac, af, fa, fw, fv, wt, wd, wv, pr, mc) (nI NC, nI NT, ns, mn, nI (cu_O ob N), nI (N - cu_O ob N), nI A, nI (kl_Q KN K + 1), nI (kl_Y KN K + 1), nI (kl_F K), nI D, nI T, nI Pc, -4, cp, cf, mt, kd, tk, tp, sk, yoc, yof, ybt, ybp, sv, vr, ow, ed, wa, yh, vl, pe_P pr py Pc, mo, mb) := by
  obtain ⟨⟨n1, n2, n3, n4, n5⟩, ⟨n6, n7, n8, n9, n10, n11⟩, ⟨n12, n13, n14, n15, n16⟩, b, nb1, nb2⟩ := rl_n r
  obtain ⟨⟨e1, e2⟩, e3, e4, e5⟩ := E
  have Z := rl_sz r e1
  obtain ⟨v1, v2, v3, v4, v5, v6, v7⟩ := rl_tm r e1
  rw [hk] at v2 v3 v4 v5 v6 Z
  obtain ⟨p1, p2⟩ := v6 1 (by omega)
  have c : pg_co KN PN SZ t 2 + 4 * SZ (PN (3 * t + 1)) + 1 ≤ pg_co KN PN SZ t 1 ∧ SZ (PN (3 * t + 1)) + 2 ≤ SZ t := pg_cs r e1 (d := 1) (by rw [hk]; omega) (by omega)
  have C := cf_ps (μ := 802 * (200 - T) + (kl_C KN PN SZ K + pg_co KN PN SZ t 2) + 4 * SZ (PN (3 * t + 1))) (py := py) (ns := ns) (mn := mn) (sk := sk) (rs := rs) (rd := rd) (pr := pr) (mo := mo) (mb := mb) (d := 2) (p := PN (3 * t + 1)) (wt' := upd wt (kl_W K + 1) (nI (PN (3 * t + 1)))) (wd' := upd (upd wd (kl_W K) (nI 2)) (kl_W K + 1) 0) (wa' := upd (upd wa (kl_Q KN K) (nI (1024 * kl_A K + 8 * t + 2))) (kl_Q KN K + 1) (nI (1024 * kl_A K + 8 * PN (3 * t + 1) + 0))) (yh' := upd (upd yh (kl_Q KN K) (nI (kl_Y KN K + 1))) (kl_Q KN K + 1) (nI (kl_Y KN K + 1))) r ⟨e1, e2⟩ ⟨by omega, kl_dn v1 (by omega) (by omega) (by omega) (Or.inl (by omega))⟩ (by omega) (by omega) (fun i hi => ⟨pk_un (by omega), by rw [pk_un (by omega), pk_un (by omega)]⟩) (fun i hi => ⟨by rw [pk_un (by omega), pk_un (by omega)], by rw [pk_un (by omega), pk_un (by omega)]⟩) (by rw [pk_un (by omega)]; exact e3) (by rw [pk_un (by omega), pk_us]) pk_us pk_us (fun _ => by rw [pk_un (by omega), pk_us]) (by rw [show kl_q (KN t) 2 = 1 from if_neg (by omega), pk_us]) (fun j hj => by
      have : j = 0 := by
        unfold kl_ny at hj
        rw [if_neg (by omega)] at hj
        omega
      subst this
      exact hv) (Nat.le_refl _)
  rw [show kl_X KN ((true, t, 2) :: K) = kl_X KN K + 1 from (show kl_X KN K + kl_nx (KN t) 2 = kl_X KN K + 1 by rw [show kl_nx (KN t) 2 = 1 from if_neg (by omega)]), show kl_Y KN ((true, t, 2) :: K) = kl_Y KN K + 1 from (show kl_Y KN K + kl_ny (KN t) 2 = kl_Y KN K + 1 by rw [show kl_ny (KN t) 2 = 1 from if_neg (by omega)]), show kl_Q KN ((true, t, 2) :: K) = kl_Q KN K + 1 from (show kl_Q KN K + kl_q (KN t) 2 = kl_Q KN K + 1 by rw [show kl_q (KN t) 2 = 1 from if_neg (by omega)])] at C
  exact nx_1 (fun P hP => xs_nxt (m := 3) P (by omega) (by omega) Z.2.2 nb1 nb2 e3 e4 v4 (by omega) (by omega) p1 hP) (by omega) (fun P hP => ay_step_3 (s := 1) _ (by omega) (by omega) Z.2.2 (by omega) (by omega) e5 v2 (by decide) (by decide) (ay_h_n (s := 1) P Z.2.2 v2 (by omega) (by omega) p1 hP)) (by omega) C
theorem op_p31b (r : (rl_R NC NT N A T Pc D ob K cp cf mt op tk tp fp kd KN PN SZ oc of bt ba sl ac af fa fw fv wt wd wv mc yoc yof ybt ybp sv vr ow ed wa yh vl)) (E : en_F NT K KN SZ t 2 wt wd wa) (hk : KN t = 31) (hv : vb_R ob N (wv (kl_X KN K)) (vl (kl_Y KN K))) (hw : vb_R ob N (wv (kl_X KN K + 1)) (vl (kl_Y KN K + 1))) (hm : 802 * (200 - T) + (kl_C KN PN SZ K + pg_co KN PN SZ t 2) + 1 ≤ μ) : nx_S NC NT ns mn cp cf mt op tk tp fp sk kd py KN PN SZ μ (nI NC, nI NT, ns, mn, nI N, nI A, nI (kl_F K), nI (kl_W K + 1), nI (kl_X KN K + 2), -1, rs, nI Pc, nI T, nI D, cp, cf, mt, op, tk, tp, fp, sk, oc, of, bt, ba, rd, sl, ac, af, fa, fw, fv, wt, wd, wv, pr, mc) (nI NC, nI NT, ns, mn, nI (cu_O ob N), nI (N - cu_O ob N), nI A, nI (kl_Q KN K + 1), nI (kl_Y KN K + 2), nI (kl_F K), nI D, nI T, nI Pc, -4, cp, cf, mt, kd, tk, tp, sk, yoc, yof, ybt, ybp, sv, vr, ow, ed, wa, yh, vl, pe_P pr py Pc, mo, mb) := by
  obtain ⟨⟨n1, n2, n3, n4, n5⟩, ⟨n6, n7, n8, n9, n10, n11⟩, ⟨n12, n13, n14, n15, n16⟩, b, nb1, nb2⟩ := rl_n r
  obtain ⟨⟨e1, e2⟩, e3, e4, e5⟩ := E
  have Z := rl_sz r e1
  obtain ⟨v1, v2, v3, v4, v5, v6, v7⟩ := rl_tm r e1
  rw [hk] at v2 v3 v4 v5 v6 Z
  obtain ⟨p1, p2⟩ := v6 2 (by omega)
  have c : pg_co KN PN SZ t 3 + 4 * SZ (PN (3 * t + 2)) + 1 ≤ pg_co KN PN SZ t 2 ∧ SZ (PN (3 * t + 2)) + 3 ≤ SZ t := pg_cs r e1 (d := 2) (by rw [hk]; omega) (by omega)
  have C := cf_ps (μ := 802 * (200 - T) + (kl_C KN PN SZ K + pg_co KN PN SZ t 3) + 4 * SZ (PN (3 * t + 2))) (py := py) (ns := ns) (mn := mn) (sk := sk) (rs := rs) (rd := rd) (pr := pr) (mo := mo) (mb := mb) (d := 3) (p := PN (3 * t + 2)) (wt' := upd wt (kl_W K + 1) (nI (PN (3 * t + 2)))) (wd' := upd (upd wd (kl_W K) (nI 3)) (kl_W K + 1) 0) (wa' := upd (upd wa (kl_Q KN K) (nI (1024 * kl_A K + 8 * t + 3))) (kl_Q KN K + 1) (nI (1024 * kl_A K + 8 * PN (3 * t + 2) + 0))) (yh' := upd (upd yh (kl_Q KN K) (nI (kl_Y KN K + 2))) (kl_Q KN K + 1) (nI (kl_Y KN K + 2))) r ⟨e1, e2⟩ ⟨by omega, kl_dn v1 (by omega) (by omega) (by omega) (Or.inl (by omega))⟩ (by omega) (by omega) (fun i hi => ⟨pk_un (by omega), by rw [pk_un (by omega), pk_un (by omega)]⟩) (fun i hi => ⟨by rw [pk_un (by omega), pk_un (by omega)], by rw [pk_un (by omega), pk_un (by omega)]⟩) (by rw [pk_un (by omega)]; exact e3) (by rw [pk_un (by omega), pk_us]) pk_us pk_us (fun _ => by rw [pk_un (by omega), pk_us]) (by rw [show kl_q (KN t) 3 = 1 from if_neg (by omega), pk_us]) (fun j hj => by
      have : j = 0 ∨ j = 1 := by
        unfold kl_ny at hj
        rw [if_neg (by omega)] at hj
        omega
      rcases this with rfl | rfl
      · exact hv
      · exact hw) (Nat.le_refl _)
  rw [show kl_X KN ((true, t, 3) :: K) = kl_X KN K + 2 from (show kl_X KN K + kl_nx (KN t) 3 = kl_X KN K + 2 by rw [show kl_nx (KN t) 3 = 2 from if_neg (by omega)]), show kl_Y KN ((true, t, 3) :: K) = kl_Y KN K + 2 from (show kl_Y KN K + kl_ny (KN t) 3 = kl_Y KN K + 2 by rw [show kl_ny (KN t) 3 = 2 from if_neg (by omega)]), show kl_Q KN ((true, t, 3) :: K) = kl_Q KN K + 1 from (show kl_Q KN K + kl_q (KN t) 3 = kl_Q KN K + 1 by rw [show kl_q (KN t) 3 = 1 from if_neg (by omega)])] at C
  exact nx_1 (fun P hP => xs_nxt (m := 3) P (by omega) (by omega) Z.2.2 nb1 nb2 e3 e4 v4 (by omega) (by omega) p1 hP) (by omega) (fun P hP => ay_step_3 (s := 2) _ (by omega) (by omega) Z.2.2 (by omega) (by omega) e5 v2 (by decide) (by decide) (ay_h_n (s := 2) P Z.2.2 v2 (by omega) (by omega) p1 hP)) (by omega) C
/-! loop -/
theorem op_26a (r : (rl_R NC NT N A T Pc D ob K cp cf mt op tk tp fp kd KN PN SZ oc of bt ba sl ac af fa fw fv wt wd wv mc yoc yof ybt ybp sv vr ow ed wa yh vl)) (E : en_F NT K KN SZ t 1 wt wd wa) (hk : KN t = 26) (hv : vb_R ob N (wv (kl_X KN K)) (vl (kl_Y KN K))) (hm : 802 * (200 - T) + (kl_C KN PN SZ K + pg_co KN PN SZ t 1) + 1 ≤ μ) : nx_S NC NT ns mn cp cf mt op tk tp fp sk kd py KN PN SZ μ (nI NC, nI NT, ns, mn, nI N, nI A, nI (kl_F K), nI (kl_W K + 1), nI (kl_X KN K + 1), -1, rs, nI Pc, nI T, nI D, cp, cf, mt, op, tk, tp, fp, sk, oc, of, bt, ba, rd, sl, ac, af, fa, fw, fv, wt, wd, wv, pr, mc) (nI NC, nI NT, ns, mn, nI (cu_O ob N), nI (N - cu_O ob N), nI A, nI (kl_Q KN K + 1), nI (kl_Y KN K + 1), nI (kl_F K), nI D, nI T, nI Pc, -4, cp, cf, mt, kd, tk, tp, sk, yoc, yof, ybt, ybp, sv, vr, ow, ed, wa, yh, vl, pe_P pr py Pc, mo, mb) := by
  obtain ⟨⟨n1, n2, n3, n4, n5⟩, ⟨n6, n7, n8, n9, n10, n11⟩, ⟨n12, n13, n14, n15, n16⟩, b, nb1, nb2⟩ := rl_n r
  obtain ⟨⟨e1, e2⟩, e3, e4, e5⟩ := E
  have Z := rl_sz r e1
  obtain ⟨v1, v2, v3, v4, v5, v6, v7⟩ := rl_tm r e1
  rw [hk] at v2 v3 v4 v5 v6 Z
  have c1 : 1 ≤ pg_co KN PN SZ t 1 := pg_c1 r e1 (by rw [hk]; omega)
  have w2 : ¬ wd (kl_W K) = 2 := by rw [e4]; decide
  by_cases h2 : vb_T (wv (kl_X KN K)) = 2
  · have h2' : vb_T (vl (kl_Y KN K)) = 2 := by rw [← vB_T hv]; exact h2
    have e0 := (vB_2 hv h2).1
    by_cases h0 : (wv (kl_X KN K)).toInt32 = 0
    · exact nx_U r ⟨⟨e1, e2⟩, e3, e4, e5⟩ (by rw [hk]; decide) (by omega) (fun P hP => ax_fin_21 P (by omega) Z.2.2 e3 v3 (ax_loop_0 P (by omega) (by omega) w2 h2 h0 hP)) (fun P hP => ay_step_2 (s := 1) _ (by omega) (by omega) Z.2.2 (by omega) (by omega) e5 v2 (by decide) (by decide) (ay_t_26 P Z.2.2 v2 (ay_lp_0 P (by omega) h2' (by rw [e0]; exact h0) hP))) (by omega) (cf_put r (Or.inl ⟨rfl, rfl⟩) (Nat.le_refl _))
    · by_cases hT : T = 200
      · subst hT
        exact nx_UF r ⟨⟨e1, e2⟩, e3, e4, e5⟩ (by rw [hk]; decide) (by omega) (fun P hP => ax_fin_21 P (by omega) Z.2.2 e3 v3 (ax_loop_t P (by omega) (by omega) w2 h2 h0 hP)) (fun P hP => ay_step_2 (s := 1) _ (by omega) (by omega) Z.2.2 (by omega) (by omega) e5 v2 (by decide) (by decide) (ay_t_26 P Z.2.2 v2 (ay_lp_t P (by omega) h2' (by rw [e0]; exact h0) hP))) (by omega) (fr_n r (Or.inr (Or.inl rfl)))
      · obtain ⟨p1, p2⟩ := v6 1 (by omega)
        have cz : SZ (PN (3 * t + 1)) + 2 ≤ SZ t := pg_cz r e1 (d := 1) (by rw [hk]; omega)
        have co2 : pg_co KN PN SZ t 2 = 4 * SZ t + 1 := if_pos ⟨hk, rfl⟩
        have C := cf_ps (μ := 802 * (200 - (T + 1)) + (kl_C KN PN SZ K + pg_co KN PN SZ t 2) + 4 * SZ (PN (3 * t + 1))) (py := py) (ns := ns) (mn := mn) (sk := sk) (rs := rs) (rd := rd) (pr := pr) (mo := mo) (mb := mb) (d := 2) (p := PN (3 * t + 1)) (wt' := upd (upd wt (kl_W K) (nI t)) (kl_W K + 1) (nI (PN (3 * t + 1)))) (wd' := upd (upd (upd wd (kl_W K) 0) (kl_W K) 2) (kl_W K + 1) 0) (wa' := upd (upd wa (kl_Q KN K) (nI (1024 * kl_A K + 8 * t + 2))) (kl_Q KN K + 1) (nI (1024 * kl_A K + 8 * PN (3 * t + 1) + 0))) (yh' := upd (upd yh (kl_Q KN K) (nI (kl_Y KN K))) (kl_Q KN K + 1) (nI (kl_Y KN K))) (rl_turn r (by omega)) ⟨e1, e2⟩ ⟨by omega, kl_dn v1 (by omega) (by omega) (by omega) (Or.inl (by omega))⟩ (by omega) (by omega) (fun i hi => ⟨by rw [pk_un (by omega), pk_un (by omega)], by rw [pk_un (by omega), pk_un (by omega), pk_un (by omega)]⟩) (fun i hi => ⟨by rw [pk_un (by omega), pk_un (by omega)], by rw [pk_un (by omega), pk_un (by omega)]⟩) (by rw [pk_un (by omega), pk_us]) (by rw [pk_un (by omega), pk_us]; rfl) pk_us pk_us (fun _ => by rw [pk_un (by omega), pk_us]) (by rw [show kl_q (KN t) 2 = 1 from if_neg (by omega), pk_us]) (fun j hj => by
          unfold kl_ny at hj
          rw [if_pos (Or.inl hk)] at hj
          omega) (Nat.le_refl _)
        rw [show kl_X KN ((true, t, 2) :: K) = kl_X KN K from (show kl_X KN K + kl_nx (KN t) 2 = kl_X KN K by rw [show kl_nx (KN t) 2 = 0 from if_pos hk, Nat.add_zero]), show kl_Y KN ((true, t, 2) :: K) = kl_Y KN K from (show kl_Y KN K + kl_ny (KN t) 2 = kl_Y KN K by rw [show kl_ny (KN t) 2 = 0 from if_pos (Or.inl hk), Nat.add_zero]), show kl_Q KN ((true, t, 2) :: K) = kl_Q KN K + 1 from (show kl_Q KN K + kl_q (KN t) 2 = kl_Q KN K + 1 by rw [show kl_q (KN t) 2 = 1 from if_neg (by omega)])] at C
        exact nx_U r ⟨⟨e1, e2⟩, e3, e4, e5⟩ (by rw [hk]; decide) (by omega) (fun P hP => ax_fin_21 P (by omega) Z.2.2 e3 v3 (ax_loop_f P (by omega) (by omega) (by omega) Z.2.2 w2 h2 h0 p1 hP)) (fun P hP => ay_step_2 (s := 1) _ (by omega) (by omega) Z.2.2 (by omega) (by omega) e5 v2 (by decide) (by decide) (ay_t_26 P Z.2.2 v2 (ay_lp_f P Z.2.2 (by omega) (by omega) (by omega) p1 h2' (by rw [e0]; exact h0) hP))) (by omega) C
  · have h2' : ¬ vb_T (vl (kl_Y KN K)) = 2 := by rw [← vB_T hv]; exact h2
    exact nx_UF r ⟨⟨e1, e2⟩, e3, e4, e5⟩ (by rw [hk]; decide) (by omega) (fun P hP => ax_fin_21 P (by omega) Z.2.2 e3 v3 (ax_loop_s P (by omega) (by omega) w2 h2 hP)) (fun P hP => ay_step_2 (s := 1) _ (by omega) (by omega) Z.2.2 (by omega) (by omega) e5 v2 (by decide) (by decide) (ay_t_26 P Z.2.2 v2 (ay_lp_s P (by omega) h2' hP))) (by omega) (fr_n r (Or.inl rfl))
theorem op_26b (r : (rl_R NC NT N A T Pc D ob K cp cf mt op tk tp fp kd KN PN SZ oc of bt ba sl ac af fa fw fv wt wd wv mc yoc yof ybt ybp sv vr ow ed wa yh vl)) (E : en_F NT K KN SZ t 2 wt wd wa) (hk : KN t = 26) (hm : 802 * (200 - T) + (kl_C KN PN SZ K + pg_co KN PN SZ t 2) + 1 ≤ μ) : nx_S NC NT ns mn cp cf mt op tk tp fp sk kd py KN PN SZ μ (nI NC, nI NT, ns, mn, nI N, nI A, nI (kl_F K), nI (kl_W K + 1), nI (kl_X KN K + 1), -1, rs, nI Pc, nI T, nI D, cp, cf, mt, op, tk, tp, fp, sk, oc, of, bt, ba, rd, sl, ac, af, fa, fw, fv, wt, wd, wv, pr, mc) (nI NC, nI NT, ns, mn, nI (cu_O ob N), nI (N - cu_O ob N), nI A, nI (kl_Q KN K + 1), nI (kl_Y KN K + 1), nI (kl_F K), nI D, nI T, nI Pc, -4, cp, cf, mt, kd, tk, tp, sk, yoc, yof, ybt, ybp, sv, vr, ow, ed, wa, yh, vl, pe_P pr py Pc, mo, mb) := by
  obtain ⟨⟨n1, n2, n3, n4, n5⟩, ⟨n6, n7, n8, n9, n10, n11⟩, ⟨n12, n13, n14, n15, n16⟩, b, nb1, nb2⟩ := rl_n r
  obtain ⟨⟨e1, e2⟩, e3, e4, e5⟩ := E
  have Z := rl_sz r e1
  obtain ⟨v1, v2, v3, v4, v5, v6, v7⟩ := rl_tm r e1
  rw [hk] at v2 v3 v4 v5 v6 Z
  obtain ⟨p1, p2⟩ := v6 0 (by omega)
  have c : pg_co KN PN SZ t 1 + 4 * SZ (PN (3 * t + 0)) + 1 ≤ pg_co KN PN SZ t 0 ∧ SZ (PN (3 * t + 0)) + 1 ≤ SZ t := pg_cs r e1 (d := 0) (by rw [hk]; omega) (by omega)
  rw [pg_c0] at c
  have co2 : pg_co KN PN SZ t 2 = 4 * SZ t + 1 := if_pos ⟨hk, rfl⟩
  have C := cf_ps (μ := 802 * (200 - T) + (kl_C KN PN SZ K + pg_co KN PN SZ t 1) + 4 * SZ (PN (3 * t + 0))) (py := py) (ns := ns) (mn := mn) (sk := sk) (rs := rs) (rd := rd) (pr := pr) (mo := mo) (mb := mb) (d := 1) (p := PN (3 * t + 0)) (wt' := upd (upd wt (kl_W K) (nI t)) (kl_W K + 1) (nI (PN (3 * t + 0)))) (wd' := upd (upd (upd wd (kl_W K) 0) (kl_W K) (nI 1)) (kl_W K + 1) 0) (wa' := upd (upd wa (kl_Q KN K) (nI (1024 * kl_A K + 8 * t + 1))) (kl_Q KN K + 1) (nI (1024 * kl_A K + 8 * PN (3 * t + 0) + 0))) (yh' := upd (upd yh (kl_Q KN K) (nI (kl_Y KN K))) (kl_Q KN K + 1) (nI (kl_Y KN K))) r ⟨e1, e2⟩ ⟨by omega, kl_dn v1 (by omega) (by omega) (by omega) (Or.inl (by omega))⟩ (by omega) (by omega) (fun i hi => ⟨by rw [pk_un (by omega), pk_un (by omega)], by rw [pk_un (by omega), pk_un (by omega), pk_un (by omega)]⟩) (fun i hi => ⟨by rw [pk_un (by omega), pk_un (by omega)], by rw [pk_un (by omega), pk_un (by omega)]⟩) (by rw [pk_un (by omega), pk_us]) (by rw [pk_un (by omega), pk_us]) pk_us pk_us (fun _ => by rw [pk_un (by omega), pk_us]) (by rw [show kl_q (KN t) 1 = 1 from if_neg (by omega), pk_us]) (fun j hj => by
      unfold kl_ny at hj
      rw [if_pos (Or.inl hk)] at hj
      omega) (Nat.le_refl _)
  rw [show kl_X KN ((true, t, 1) :: K) = kl_X KN K from (show kl_X KN K + kl_nx (KN t) 1 = kl_X KN K by rw [show kl_nx (KN t) 1 = 0 from if_pos hk, Nat.add_zero]), show kl_Y KN ((true, t, 1) :: K) = kl_Y KN K from (show kl_Y KN K + kl_ny (KN t) 1 = kl_Y KN K by rw [show kl_ny (KN t) 1 = 0 from if_pos (Or.inl hk), Nat.add_zero]), show kl_Q KN ((true, t, 1) :: K) = kl_Q KN K + 1 from (show kl_Q KN K + kl_q (KN t) 1 = kl_Q KN K + 1 by rw [show kl_q (KN t) 1 = 1 from if_neg (by omega)])] at C
  exact nx_2 (u0 := (nI NC, nI NT, ns, mn, nI N, nI A, nI (kl_F K), nI (kl_W K + 1), nI (kl_X KN K), -1, rs, nI Pc, nI T, nI D, cp, cf, mt, op, tk, tp, fp, sk, oc, of, bt, ba, rd, sl, ac, af, fa, fw, fv, upd wt (kl_W K) (nI t), upd wd (kl_W K) 0, wv, pr, mc)) (fun P hP => xs_fin P (by omega) (by omega) Z.2.2 nb1 nb2 e3 e4 v4 (by decide) (by omega) (ax_fin_21 P (by omega) Z.2.2 e3 v3 (ax_loop_b P (by omega) (by omega) e4 hP))) (fun P hP => xs_nxt (m := 1) (d := 0) P (by omega) (by omega) Z.2.2 nb1 nb2 pk_us pk_us v4 (by omega) (by omega) p1 hP) (by omega) (fun P hP => ay_step_2 (s := 2) _ (by omega) (by omega) Z.2.2 (by omega) (by omega) e5 v2 (by decide) (by decide) (ay_t_26 P Z.2.2 v2 (ay_lp_b P Z.2.2 (by omega) p1 hP))) (by omega) C
/-! choose -/
theorem op_30 (r : (rl_R NC NT N A T Pc D ob K cp cf mt op tk tp fp kd KN PN SZ oc of bt ba sl ac af fa fw fv wt wd wv mc yoc yof ybt ybp sv vr ow ed wa yh vl)) (E : en_F NT K KN SZ t 1 wt wd wa) (hk : KN t = 30) (hv : vb_R ob N (wv (kl_X KN K)) (vl (kl_Y KN K))) (hm : 802 * (200 - T) + (kl_C KN PN SZ K + pg_co KN PN SZ t 1) + 1 ≤ μ) : nx_S NC NT ns mn cp cf mt op tk tp fp sk kd py KN PN SZ μ (nI NC, nI NT, ns, mn, nI N, nI A, nI (kl_F K), nI (kl_W K + 1), nI (kl_X KN K + 1), -1, rs, nI Pc, nI T, nI D, cp, cf, mt, op, tk, tp, fp, sk, oc, of, bt, ba, rd, sl, ac, af, fa, fw, fv, wt, wd, wv, pr, mc) (nI NC, nI NT, ns, mn, nI (cu_O ob N), nI (N - cu_O ob N), nI A, nI (kl_Q KN K + 1), nI (kl_Y KN K + 1), nI (kl_F K), nI D, nI T, nI Pc, -4, cp, cf, mt, kd, tk, tp, sk, yoc, yof, ybt, ybp, sv, vr, ow, ed, wa, yh, vl, pe_P pr py Pc, mo, mb) := by
  obtain ⟨⟨n1, n2, n3, n4, n5⟩, ⟨n6, n7, n8, n9, n10, n11⟩, ⟨n12, n13, n14, n15, n16⟩, b, nb1, nb2⟩ := rl_n r
  obtain ⟨⟨e1, e2⟩, e3, e4, e5⟩ := E
  have Z := rl_sz r e1
  obtain ⟨v1, v2, v3, v4, v5, v6, v7⟩ := rl_tm r e1
  rw [hk] at v2 v3 v4 v5 v6 Z
  have c1 : 1 ≤ pg_co KN PN SZ t 1 := pg_c1 r e1 (by rw [hk]; omega)
  have cd : ∀ x : Int64, ∃ d, (x.toInt32 = 0 ∧ d = 2) ∨ (¬ x.toInt32 = 0 ∧ d = 1) := fun x => by
    by_cases z : x.toInt32 = 0
    · exact ⟨2, Or.inl ⟨z, rfl⟩⟩
    · exact ⟨1, Or.inr ⟨z, rfl⟩⟩
  obtain ⟨d, hd⟩ := cd (vl (kl_Y KN K))
  have hd3 : d = 1 ∨ d = 2 := by omega
  obtain ⟨p1, p2⟩ := v6 d (by omega)
  by_cases h2 : vb_T (wv (kl_X KN K)) = 2
  · have h2' : vb_T (vl (kl_Y KN K)) = 2 := by rw [← vB_T hv]; exact h2
    have e0 := (vB_2 hv h2).1
    have hd' : ((wv (kl_X KN K)).toInt32 = 0 ∧ d = 2) ∨ (¬ (wv (kl_X KN K)).toInt32 = 0 ∧ d = 1) := by rw [← e0]; exact hd
    have szs : SZ (PN (3 * t + d)) + SZ (PN (3 * t + 0)) + 2 ≤ SZ t := by
      have q : pg_sm SZ PN t 3 = 0 + SZ (PN (3 * t + 0)) + SZ (PN (3 * t + 1)) + SZ (PN (3 * t + 2)) := rfl
      have z := v7.1
      rw [hk] at z
      have z' : pg_sm SZ PN t 3 + 1 ≤ SZ t := z
      have a1 := (pg_sz r.1 (t := PN (3 * t + 1)) (by have := (v6 1 (by omega)).2; omega)).1
      have a2 := (pg_sz r.1 (t := PN (3 * t + 2)) (by have := (v6 2 (by omega)).2; omega)).1
      rcases hd3 with rfl | rfl <;> omega
    have co1 : pg_co KN PN SZ t 1 = 4 * SZ t - 4 * SZ (PN (3 * t + 0)) - 1 := by
      rw [pg_cn PN SZ (by omega)]
      show 4 * SZ t - 4 * (0 + SZ (PN (3 * t + 0))) - 1 = _
      rw [Nat.zero_add]
    exact nx_U r ⟨⟨e1, e2⟩, e3, e4, e5⟩ (by rw [hk]; decide) (by omega) (fun P hP => ax_fin_23 P (by omega) Z.2.2 e3 v3 (ax_choose_f P (by omega) (by omega) Z.2.2 hd' h2 p1 hP)) (fun P hP => ay_step_3 (s := 1) _ (by omega) (by omega) Z.2.2 (by omega) (by omega) e5 v2 (by decide) (by decide) (ay_h_f P Z.2.2 v2 (by omega) (by omega) hd h2' p1 hP)) (by omega) (cf_Ei (μ := 802 * (200 - T) + kl_C KN PN SZ K + 4 * SZ (PN (3 * t + d))) (rl_cg r (fun i hi => ⟨pk_un (by omega), pk_un (by omega)⟩) (fun _ _ => ⟨rfl, rfl, rfl⟩) (fun _ _ => rfl) (fun i hi => ⟨pk_un (by omega), pk_un (by omega)⟩) (fun _ _ => rfl)) ⟨by omega, by omega⟩ pk_us pk_us pk_us (Nat.le_refl _))
  · have h2' : ¬ vb_T (vl (kl_Y KN K)) = 2 := by rw [← vB_T hv]; exact h2
    exact nx_UF r ⟨⟨e1, e2⟩, e3, e4, e5⟩ (by rw [hk]; decide) (by omega) (fun P hP => ax_fin_23 P (by omega) Z.2.2 e3 v3 (ax_choose_s P (by omega) h2 hP)) (fun P hP => ay_step_3 (s := 1) _ (by omega) (by omega) Z.2.2 (by omega) (by omega) e5 v2 (by decide) (by decide) (ay_h_s P Z.2.2 v2 (by omega) (by omega) hd h2' p1 hP)) (by omega) (fr_n r (Or.inl rfl))
end
