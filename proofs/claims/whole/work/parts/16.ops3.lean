theorem pg_c0 (KN PN SZ : Nat → Nat) (t : Nat) : pg_co KN PN SZ t 0 = 4 * SZ t := by
  unfold pg_co
  rw [if_neg (by omega)]
  show 4 * SZ t - 4 * 0 - 0 = 4 * SZ t
  omega
theorem pg_cn {KN : Nat → Nat} (PN SZ : Nat → Nat) {t d : Nat} (h : ¬ (KN t = 26 ∧ d = 2)) : pg_co KN PN SZ t d = 4 * SZ t - 4 * pg_sm SZ PN t d - d := if_neg h
section
variable {NC NT : Nat} {ns mn : Int32} {cp cf mt op tk tp fp sk kd py : Nat → Int32} {KN PN SZ : Nat → Nat}
variable {N A T Pc D : Nat} {ob : Nat → Bool} {K : List (Bool × Nat × Nat)} {rs : Int64} {oc bt ba rd ac af fa fw fv wt wd pr mc : Nat → Int32} {of sl wv : Nat → Int64} {yoc ybt ybp ow ed wa yh mo mb : Nat → Int32} {yof sv vr vl : Nat → Int64}
variable {μ t : Nat}
theorem pg_cs {d : Nat} (r : (rl_R NC NT N A T Pc D ob K cp cf mt op tk tp fp kd KN PN SZ oc of bt ba sl ac af fa fw fv wt wd wv mc yoc yof ybt ybp sv vr ow ed wa yh vl)) (ht : t < NT) (hd : d < KN t / 10) (h : ¬ (KN t = 26 ∧ d = 1)) : pg_co KN PN SZ t (d + 1) + 4 * SZ (PN (3 * t + d)) + 1 ≤ pg_co KN PN SZ t d ∧ SZ (PN (3 * t + d)) + (d + 1) ≤ SZ t := by
  have l := pg_fpl (rl_tm r ht).1
  have s := pg_sd r.1 ht (d + 1) (by omega)
  have s0 := pg_sd r.1 ht d (by omega)
  have z := (rl_tm r ht).2.2.2.2.2.2.1
  have q : pg_sm SZ PN t (d + 1) = pg_sm SZ PN t d + SZ (PN (3 * t + d)) := rfl
  by_cases h2 : KN t = 26
  · have : d = 0 := by omega
    subst this
    rw [pg_cn PN SZ (by omega), pg_cn PN SZ (by omega)]
    omega
  · rw [pg_cn PN SZ (by omega), pg_cn PN SZ (by omega)]
    omega
theorem pg_c1 {d : Nat} (r : (rl_R NC NT N A T Pc D ob K cp cf mt op tk tp fp kd KN PN SZ oc of bt ba sl ac af fa fw fv wt wd wv mc yoc yof ybt ybp sv vr ow ed wa yh vl)) (ht : t < NT) (hd : d ≤ KN t / 10) : 1 ≤ pg_co KN PN SZ t d := by
  have l := pg_fpl (rl_tm r ht).1
  have s := pg_sd r.1 ht d hd
  have z := (rl_tm r ht).2.2.2.2.2.2.1
  unfold pg_co
  split <;> omega
theorem cf_ps {d p : Nat} {wt' wd' wa' yh' : Nat → Int32} (r : (rl_R NC NT N A T Pc D ob K cp cf mt op tk tp fp kd KN PN SZ oc of bt ba sl ac af fa fw fv wt wd wv mc yoc yof ybt ybp sv vr ow ed wa yh vl)) (h0 : t < NT ∧ kl_W K + kl_X KN K + SZ t ≤ 100 * (kl_F K + 1)) (hd : 1 ≤ d ∧ d ≤ kl_d (KN t)) (hp : p < NT) (hs : SZ p + d ≤ SZ t) (a1 : ∀ i, i < kl_W K → wt' i = wt i ∧ wd' i = wd i) (a2 : ∀ i, i < kl_Q KN K → wa' i = wa i ∧ yh' i = yh i) (h1 : wt' (kl_W K) = nI t) (h2 : wd' (kl_W K) = nI d) (h3 : wt' (kl_W K + 1) = nI p) (h4 : wd' (kl_W K + 1) = 0) (h5 : ¬ (KN t = 25 ∧ d = 2) → wa' (kl_Q KN K) = nI (1024 * kl_A K + 8 * t + d)) (h6 : wa' (kl_Q KN K + kl_q (KN t) d) = nI (1024 * kl_A K + 8 * p + 0)) (h7 : ∀ j, j < kl_ny (KN t) d → vb_R ob N (wv (kl_X KN K + j)) (vl (kl_Y KN K + j))) (hμ : 802 * (200 - T) + (kl_C KN PN SZ K + pg_co KN PN SZ t d) + 4 * SZ p ≤ μ) : cf_V NC NT ns mn cp cf mt op tk tp fp sk kd py KN PN SZ μ (nI NC, nI NT, ns, mn, nI N, nI A, nI (kl_F ((true, t, d) :: K)), nI (kl_W ((true, t, d) :: K) + 1), nI (kl_X KN ((true, t, d) :: K)), -1, rs, nI Pc, nI T, nI D, cp, cf, mt, op, tk, tp, fp, sk, oc, of, bt, ba, rd, sl, ac, af, fa, fw, fv, wt', wd', wv, pr, mc) (nI NC, nI NT, ns, mn, nI (cu_O ob N), nI (N - cu_O ob N), nI A, nI (kl_Q KN ((true, t, d) :: K) + 1), nI (kl_Y KN ((true, t, d) :: K)), nI (kl_F ((true, t, d) :: K)), nI D, nI T, nI Pc, -4, cp, cf, mt, kd, tk, tp, sk, yoc, yof, ybt, ybp, sv, vr, ow, ed, wa', yh', vl, pe_P pr py Pc, mo, mb) ∨ cf_E NC NT ns mn cp cf mt op tk tp fp sk kd py KN PN SZ μ (nI NC, nI NT, ns, mn, nI N, nI A, nI (kl_F ((true, t, d) :: K)), nI (kl_W ((true, t, d) :: K) + 1), nI (kl_X KN ((true, t, d) :: K)), -1, rs, nI Pc, nI T, nI D, cp, cf, mt, op, tk, tp, fp, sk, oc, of, bt, ba, rd, sl, ac, af, fa, fw, fv, wt', wd', wv, pr, mc) (nI NC, nI NT, ns, mn, nI (cu_O ob N), nI (N - cu_O ob N), nI A, nI (kl_Q KN ((true, t, d) :: K) + 1), nI (kl_Y KN ((true, t, d) :: K)), nI (kl_F ((true, t, d) :: K)), nI D, nI T, nI Pc, -4, cp, cf, mt, kd, tk, tp, sk, yoc, yof, ybt, ybp, sv, vr, ow, ed, wa', yh', vl, pe_P pr py Pc, mo, mb) := by
  refine cf_Ei (K := (true, t, d) :: K) (t := p) (rl_ent (rl_cg r a1 (fun _ _ => ⟨rfl, rfl, rfl⟩) (fun _ _ => rfl) a2 (fun _ _ => rfl)) h0 hd h1 h2 h5 h7) ⟨hp, ?_⟩ h3 h4 h6 hμ
  show kl_W K + 1 + (kl_X KN K + kl_nx (KN t) d) + SZ p ≤ 100 * (kl_F K + 1)
  have : kl_nx (KN t) d ≤ d - 1 := by
    unfold kl_nx
    split <;> omega
  omega
theorem kl_dn {k d : Nat} (h : pg_v k) (h2 : d ≤ k / 10) (h3 : 10 ≤ k) (h4 : k ≠ 13) (h5 : k ≠ 30 ∨ d ≤ 1) : d ≤ kl_d k := by
  unfold kl_d pg_fp
  unfold pg_v at h
  rw [if_neg h4]
  split
  · omega
  · split <;> omega
theorem op_p0 (r : (rl_R NC NT N A T Pc D ob K cp cf mt op tk tp fp kd KN PN SZ oc of bt ba sl ac af fa fw fv wt wd wv mc yoc yof ybt ybp sv vr ow ed wa yh vl)) (E : en_F NT K KN SZ t 0 wt wd wa) {k : Nat} (hk : KN t = k) (hk1 : 10 ≤ k) (hk2 : k ≠ 13) (hm : 802 * (200 - T) + kl_C KN PN SZ K + 4 * SZ t ≤ μ) : nx_S NC NT ns mn cp cf mt op tk tp fp sk kd py KN PN SZ μ (nI NC, nI NT, ns, mn, nI N, nI A, nI (kl_F K), nI (kl_W K + 1), nI (kl_X KN K), -1, rs, nI Pc, nI T, nI D, cp, cf, mt, op, tk, tp, fp, sk, oc, of, bt, ba, rd, sl, ac, af, fa, fw, fv, wt, wd, wv, pr, mc) (nI NC, nI NT, ns, mn, nI (cu_O ob N), nI (N - cu_O ob N), nI A, nI (kl_Q KN K + 1), nI (kl_Y KN K), nI (kl_F K), nI D, nI T, nI Pc, -4, cp, cf, mt, kd, tk, tp, sk, yoc, yof, ybt, ybp, sv, vr, ow, ed, wa, yh, vl, pe_P pr py Pc, mo, mb) := by
  obtain ⟨⟨n1, n2, n3, n4, n5⟩, ⟨n6, n7, n8, n9, n10, n11⟩, ⟨n12, n13, n14, n15, n16⟩, b, nb1, nb2⟩ := rl_n r
  obtain ⟨⟨e1, e2⟩, e3, e4, e5⟩ := E
  have Z := rl_sz r e1
  obtain ⟨v1, v2, v3, v4, v5, v6, v7⟩ := rl_tm r e1
  rw [hk] at v2 v3 v4 v5 v6 Z
  have lv := v1
  rw [hk] at lv
  obtain ⟨p1, p2⟩ := v6 0 (by unfold pg_v at lv; omega)
  have c : pg_co KN PN SZ t 1 + 4 * SZ (PN (3 * t + 0)) + 1 ≤ pg_co KN PN SZ t 0 ∧ SZ (PN (3 * t + 0)) + 1 ≤ SZ t := pg_cs r e1 (d := 0) (by rw [hk]; unfold pg_v at lv; omega) (by omega)
  rw [pg_c0] at c
  have C := cf_ps (μ := 802 * (200 - T) + (kl_C KN PN SZ K + pg_co KN PN SZ t 1) + 4 * SZ (PN (3 * t + 0))) (py := py) (ns := ns) (mn := mn) (sk := sk) (rs := rs) (rd := rd) (pr := pr) (mo := mo) (mb := mb) (d := 1) (p := PN (3 * t + 0)) (wt' := upd wt (kl_W K + 1) (nI (PN (3 * t + 0)))) (wd' := upd (upd wd (kl_W K) (nI 1)) (kl_W K + 1) 0) (wa' := upd (upd wa (kl_Q KN K) (nI (1024 * kl_A K + 8 * t + 1))) (kl_Q KN K + 1) (nI (1024 * kl_A K + 8 * PN (3 * t + 0) + 0))) (yh' := upd (upd yh (kl_Q KN K) (nI (kl_Y KN K))) (kl_Q KN K + 1) (nI (kl_Y KN K))) r ⟨e1, e2⟩ ⟨by omega, kl_dn v1 (by unfold pg_v at lv; omega) (by omega) (by omega) (Or.inr (by omega))⟩ (by omega) (by omega) (fun i hi => ⟨pk_un (by omega), by rw [pk_un (by omega), pk_un (by omega)]⟩) (fun i hi => ⟨by rw [pk_un (by omega), pk_un (by omega)], by rw [pk_un (by omega), pk_un (by omega)]⟩) (by rw [pk_un (by omega)]; exact e3) (by rw [pk_un (by omega), pk_us]) pk_us pk_us (fun _ => by rw [pk_un (by omega), pk_us]) (by rw [show kl_q (KN t) 1 = 1 from if_neg (by omega), pk_us]) (fun j hj => absurd hj (by unfold kl_ny; split <;> omega)) (Nat.le_refl _)
  rw [show kl_X KN ((true, t, 1) :: K) = kl_X KN K from (show kl_X KN K + kl_nx (KN t) 1 = kl_X KN K by unfold kl_nx; split <;> omega), show kl_Y KN ((true, t, 1) :: K) = kl_Y KN K from (show kl_Y KN K + kl_ny (KN t) 1 = kl_Y KN K by unfold kl_ny; split <;> omega), show kl_Q KN ((true, t, 1) :: K) = kl_Q KN K + 1 from (show kl_Q KN K + kl_q (KN t) 1 = kl_Q KN K + 1 by rw [show kl_q (KN t) 1 = 1 from if_neg (by omega)])] at C
  have hf : 0 < pg_fp k ∧ pg_fp k ≤ 3 := by
    unfold pg_fp
    unfold pg_v at lv
    rw [if_neg hk2]
    split <;> omega
  exact nx_1 (fun P hP => xs_nxt P (by omega) (by omega) Z.2.2 nb1 nb2 e3 e4 v4 hf.1 hf.2 p1 hP) (by omega) (fun P hP => ay_step_E _ (by omega) (by omega) Z.2.2 e5 (ay_bg_p P Z.2.2 v2 hk1 (by unfold pg_v at lv; omega) hk2 (by omega) p1 hP)) (by omega) C
theorem op_p1 (r : (rl_R NC NT N A T Pc D ob K cp cf mt op tk tp fp kd KN PN SZ oc of bt ba sl ac af fa fw fv wt wd wv mc yoc yof ybt ybp sv vr ow ed wa yh vl)) (E : en_F NT K KN SZ t 1 wt wd wa) {k : Nat} (hk : KN t = k) (hk1 : 20 ≤ k) (hk2 : k < 30) (hk5 : k ≠ 25) (hk6 : k ≠ 26) (hv : vb_R ob N (wv (kl_X KN K)) (vl (kl_Y KN K))) (hm : 802 * (200 - T) + (kl_C KN PN SZ K + pg_co KN PN SZ t 1) + 1 ≤ μ) : nx_S NC NT ns mn cp cf mt op tk tp fp sk kd py KN PN SZ μ (nI NC, nI NT, ns, mn, nI N, nI A, nI (kl_F K), nI (kl_W K + 1), nI (kl_X KN K + 1), -1, rs, nI Pc, nI T, nI D, cp, cf, mt, op, tk, tp, fp, sk, oc, of, bt, ba, rd, sl, ac, af, fa, fw, fv, wt, wd, wv, pr, mc) (nI NC, nI NT, ns, mn, nI (cu_O ob N), nI (N - cu_O ob N), nI A, nI (kl_Q KN K + 1), nI (kl_Y KN K + 1), nI (kl_F K), nI D, nI T, nI Pc, -4, cp, cf, mt, kd, tk, tp, sk, yoc, yof, ybt, ybp, sv, vr, ow, ed, wa, yh, vl, pe_P pr py Pc, mo, mb) := by
  obtain ⟨⟨n1, n2, n3, n4, n5⟩, ⟨n6, n7, n8, n9, n10, n11⟩, ⟨n12, n13, n14, n15, n16⟩, b, nb1, nb2⟩ := rl_n r
  obtain ⟨⟨e1, e2⟩, e3, e4, e5⟩ := E
  have Z := rl_sz r e1
  obtain ⟨v1, v2, v3, v4, v5, v6, v7⟩ := rl_tm r e1
  rw [hk] at v2 v3 v4 v5 v6 Z
  obtain ⟨p1, p2⟩ := v6 1 (by omega)
  have c : pg_co KN PN SZ t 2 + 4 * SZ (PN (3 * t + 1)) + 1 ≤ pg_co KN PN SZ t 1 ∧ SZ (PN (3 * t + 1)) + 2 ≤ SZ t := pg_cs r e1 (d := 1) (by rw [hk]; omega) (by omega)
  have C := cf_ps (μ := 802 * (200 - T) + (kl_C KN PN SZ K + pg_co KN PN SZ t 2) + 4 * SZ (PN (3 * t + 1))) (py := py) (ns := ns) (mn := mn) (sk := sk) (rs := rs) (rd := rd) (pr := pr) (mo := mo) (mb := mb) (d := 2) (p := PN (3 * t + 1)) (wt' := upd wt (kl_W K + 1) (nI (PN (3 * t + 1)))) (wd' := upd (upd wd (kl_W K) (nI 2)) (kl_W K + 1) 0) (wa' := upd (upd wa (kl_Q KN K) (nI (1024 * kl_A K + 8 * t + 2))) (kl_Q KN K + 1) (nI (1024 * kl_A K + 8 * PN (3 * t + 1) + 0))) (yh' := upd (upd yh (kl_Q KN K) (nI (kl_Y KN K + 1))) (kl_Q KN K + 1) (nI (kl_Y KN K + 1))) r ⟨e1, e2⟩ ⟨by omega, kl_dn v1 (by omega) (by omega) (by omega) (Or.inl (by omega))⟩ (by omega) (by omega) (fun i hi => ⟨pk_un (by omega), by rw [pk_un (by omega), pk_un (by omega)]⟩) (fun i hi => ⟨by rw [pk_un (by omega), pk_un (by omega)], by rw [pk_un (by omega), pk_un (by omega)]⟩) (by rw [pk_un (by omega)]; exact e3) (by rw [pk_un (by omega), pk_us]) pk_us pk_us (fun _ => by rw [pk_un (by omega), pk_us]) (by rw [show kl_q (KN t) 2 = 1 from if_neg (by omega), pk_us]) (fun j hj => by
      have : j = 0 := by
        unfold kl_ny at hj
        rw [if_neg (by omega)] at hj
        omega
      subst this
      exact hv) (Nat.le_refl _)
  rw [show kl_X KN ((true, t, 2) :: K) = kl_X KN K + 1 from (show kl_X KN K + kl_nx (KN t) 2 = kl_X KN K + 1 by rw [show kl_nx (KN t) 2 = 1 from if_neg (by omega)]), show kl_Y KN ((true, t, 2) :: K) = kl_Y KN K + 1 from (show kl_Y KN K + kl_ny (KN t) 2 = kl_Y KN K + 1 by rw [show kl_ny (KN t) 2 = 1 from if_neg (by omega)]), show kl_Q KN ((true, t, 2) :: K) = kl_Q KN K + 1 from (show kl_Q KN K + kl_q (KN t) 2 = kl_Q KN K + 1 by rw [show kl_q (KN t) 2 = 1 from if_neg (by omega)])] at C
  have hf : 1 < pg_fp k ∧ pg_fp k ≤ 3 := by
    unfold pg_fp
    rw [if_neg (by omega), if_neg (by omega)]
    omega
  exact nx_1 (fun P hP => xs_nxt P (by omega) (by omega) Z.2.2 nb1 nb2 e3 e4 v4 hf.1 hf.2 p1 hP) (by omega) (fun P hP => ay_step_2 (s := 1) _ (by omega) (by omega) Z.2.2 (by omega) (by omega) e5 v2 hk1 hk2 (ay_t_1 P Z.2.2 v2 hk1 hk2 hk5 hk6 (by omega) p1 hP)) (by omega) C
theorem op_p25 (r : (rl_R NC NT N A T Pc D ob K cp cf mt op tk tp fp kd KN PN SZ oc of bt ba sl ac af fa fw fv wt wd wv mc yoc yof ybt ybp sv vr ow ed wa yh vl)) (E : en_F NT K KN SZ t 1 wt wd wa) (hk : KN t = 25) (hm : 802 * (200 - T) + (kl_C KN PN SZ K + pg_co KN PN SZ t 1) + 1 ≤ μ) : nx_S NC NT ns mn cp cf mt op tk tp fp sk kd py KN PN SZ μ (nI NC, nI NT, ns, mn, nI N, nI A, nI (kl_F K), nI (kl_W K + 1), nI (kl_X KN K + 1), -1, rs, nI Pc, nI T, nI D, cp, cf, mt, op, tk, tp, fp, sk, oc, of, bt, ba, rd, sl, ac, af, fa, fw, fv, wt, wd, wv, pr, mc) (nI NC, nI NT, ns, mn, nI (cu_O ob N), nI (N - cu_O ob N), nI A, nI (kl_Q KN K + 1), nI (kl_Y KN K + 1), nI (kl_F K), nI D, nI T, nI Pc, -4, cp, cf, mt, kd, tk, tp, sk, yoc, yof, ybt, ybp, sv, vr, ow, ed, wa, yh, vl, pe_P pr py Pc, mo, mb) := by
  obtain ⟨⟨n1, n2, n3, n4, n5⟩, ⟨n6, n7, n8, n9, n10, n11⟩, ⟨n12, n13, n14, n15, n16⟩, b, nb1, nb2⟩ := rl_n r
  obtain ⟨⟨e1, e2⟩, e3, e4, e5⟩ := E
  have Z := rl_sz r e1
  obtain ⟨v1, v2, v3, v4, v5, v6, v7⟩ := rl_tm r e1
  rw [hk] at v2 v3 v4 v5 v6 Z
  obtain ⟨p1, p2⟩ := v6 1 (by omega)
  have c : pg_co KN PN SZ t 2 + 4 * SZ (PN (3 * t + 1)) + 1 ≤ pg_co KN PN SZ t 1 ∧ SZ (PN (3 * t + 1)) + 2 ≤ SZ t := pg_cs r e1 (d := 1) (by rw [hk]; omega) (by omega)
  have C := cf_ps (μ := 802 * (200 - T) + (kl_C KN PN SZ K + pg_co KN PN SZ t 2) + 4 * SZ (PN (3 * t + 1))) (py := py) (ns := ns) (mn := mn) (sk := sk) (rs := rs) (rd := rd) (pr := pr) (mo := mo) (mb := mb) (d := 2) (p := PN (3 * t + 1)) (wt' := upd wt (kl_W K + 1) (nI (PN (3 * t + 1)))) (wd' := upd (upd wd (kl_W K) (nI 2)) (kl_W K + 1) 0) (wa' := upd wa (kl_Q KN K) (nI (1024 * kl_A K + 8 * PN (3 * t + 1) + 0))) (yh' := upd yh (kl_Q KN K) (nI (kl_Y KN K))) r ⟨e1, e2⟩ ⟨by omega, kl_dn v1 (by omega) (by omega) (by omega) (Or.inl (by omega))⟩ (by omega) (by omega) (fun i hi => ⟨pk_un (by omega), by rw [pk_un (by omega), pk_un (by omega)]⟩) (fun i hi => ⟨pk_un (by omega), pk_un (by omega)⟩) (by rw [pk_un (by omega)]; exact e3) (by rw [pk_un (by omega), pk_us]) pk_us pk_us (fun z => absurd ⟨hk, rfl⟩ z) (by rw [show kl_q (KN t) 2 = 0 from if_pos ⟨hk, rfl⟩]; exact pk_us) (fun j hj => by
      unfold kl_ny at hj
      rw [if_pos (Or.inr hk)] at hj
      omega) (Nat.le_refl _)
  rw [show kl_X KN ((true, t, 2) :: K) = kl_X KN K + 1 from (show kl_X KN K + kl_nx (KN t) 2 = kl_X KN K + 1 by rw [show kl_nx (KN t) 2 = 1 from if_neg (by omega)]), show kl_Y KN ((true, t, 2) :: K) = kl_Y KN K from (show kl_Y KN K + kl_ny (KN t) 2 = kl_Y KN K by rw [show kl_ny (KN t) 2 = 0 from if_pos (Or.inr hk), Nat.add_zero]), show kl_Q KN ((true, t, 2) :: K) = kl_Q KN K from (show kl_Q KN K + kl_q (KN t) 2 = kl_Q KN K by rw [show kl_q (KN t) 2 = 0 from if_pos ⟨hk, rfl⟩, Nat.add_zero])] at C
  exact nx_1 (fun P hP => xs_nxt (m := 2) P (by omega) (by omega) Z.2.2 nb1 nb2 e3 e4 v4 (by omega) (by omega) p1 hP) (by omega) (fun P hP => ay_step_2 (s := 1) _ (by omega) (by omega) Z.2.2 (by omega) (by omega) e5 v2 (by omega) (by omega) (ay_t_25 P Z.2.2 v2 (by omega) p1 hP)) (by omega) C
end
