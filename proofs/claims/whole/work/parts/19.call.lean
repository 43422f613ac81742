section
variable {NC NT : Nat} {ns mn : Int32} {cp cf mt op tk tp fp sk kd : Nat → Int32} {KN PN SZ : Nat → Nat}
variable {N A T Pc D : Nat} {ob : Nat → Bool} {K : List (Bool × Nat × Nat)} {rs : Int64} {oc bt ba rd ac af fa fw fv wt wd pr mc : Nat → Int32} {of sl wv : Nat → Int64} {yoc ybt ybp ow ed wa yh mo mb : Nat → Int32} {yof sv vr vl : Nat → Int64}
variable {μ t : Nat}
theorem op_super {d s : Nat} (r : (rl_R NC NT N A T Pc D ob K cp cf mt op tk tp fp kd KN PN SZ oc of bt ba sl ac af fa fw fv wt wd wv mc yoc yof ybt ybp sv vr ow ed wa yh vl)) (E : en_F NT K KN SZ t d wt wd wa) (hd : d ≤ 3) (hf : pg_fp (KN t) ≤ d) (hs : s < 6) (hk : tk t = nI s) (ho : op t = 6) (hroom : s % 3 + 1 ≤ SZ t) (hY : ∀ P : SY → Prop, wpY_sendAbove P (nI NC, nI NT, ns, mn, nI (cu_O ob N), nI (N - cu_O ob N), nI A, nI (kl_Q KN K), nI (kl_Y KN K + s % 3), nI (kl_F K), nI D, nI T, nI Pc, -4, cp, cf, mt, kd, tk, tp, sk, yoc, yof, ybt, ybp, sv, vr, ow, ed, wa, yh, vl, pr, mo, mb) (nI s) (nI (s % 3)) (nI (kl_A K)) → wpY_step P (nI NC, nI NT, ns, mn, nI (cu_O ob N), nI (N - cu_O ob N), nI A, nI (kl_Q KN K + 1), nI (kl_Y KN K + s % 3), nI (kl_F K), nI D, nI T, nI Pc, -4, cp, cf, mt, kd, tk, tp, sk, yoc, yof, ybt, ybp, sv, vr, ow, ed, wa, yh, vl, pr, mo, mb)) (hvs : ∀ j, j < s % 3 → vb_R ob N (wv (kl_X KN K + j)) (vl (kl_Y KN K + j))) (hm : 802 * (200 - T) + kl_C KN PN SZ K + 1 < μ) : nx_S NC NT ns mn cp cf mt op tk tp fp sk kd KN PN SZ μ (nI NC, nI NT, ns, mn, nI N, nI A, nI (kl_F K), nI (kl_W K + 1), nI (kl_X KN K + s % 3), -1, rs, nI Pc, nI T, nI D, cp, cf, mt, op, tk, tp, fp, sk, oc, of, bt, ba, rd, sl, ac, af, fa, fw, fv, wt, wd, wv, pr, mc) (nI NC, nI NT, ns, mn, nI (cu_O ob N), nI (N - cu_O ob N), nI A, nI (kl_Q KN K + 1), nI (kl_Y KN K + s % 3), nI (kl_F K), nI D, nI T, nI Pc, -4, cp, cf, mt, kd, tk, tp, sk, yoc, yof, ybt, ybp, sv, vr, ow, ed, wa, yh, vl, pr, mo, mb) := by
  obtain ⟨⟨n1, n2, n3, n4, n5⟩, ⟨n6, n7, n8, n9, n10, n11⟩, ⟨n12, n13, n14, n15, n16⟩, b, nb1, nb2⟩ := rl_n r
  have E' := E
  obtain ⟨⟨e1, e2⟩, e3, e4, e5⟩ := E
  have ht : t < 100 := by omega
  obtain ⟨hself, _, how, hac⟩ := r.2.1.2.2 _ n7
  rcases hac with hac | ⟨c, hc, hac⟩
  · exact nx_UF r E' hf hd (fun P hP => ax_fin_6 P (by omega) ht e3 ho (by rw [hk]; exact lk_sup_n P (by omega) (by omega) n6 hac hP)) (fun P hP => hY P (lk_supY_n P (by omega) (how.trans hac) hP)) (by omega) (fr_n r (Or.inl rfl))
  · rcases (r.1.2.2.1 c hc).1 with hp | ⟨p, hp, ep⟩
    · exact nx_UF r E' hf hd (fun P hP => ax_fin_6 P (by omega) ht e3 ho (by rw [hk]; exact lk_sup_h P (h := -1) (by omega) (by omega) (by omega) n6 hac hp (fun Q hQ => Exists.intro 1 (lk_x1 Q hQ)) (lk_s35_s P hP))) (fun P hP => hY P (lk_supY_m P (by omega) (by omega) (how.trans hac) hp hP)) (by omega) (fr_n r (Or.inl rfl))
    · obtain ⟨h, hh, hX, hYY⟩ := lk_h (s := s) (args := nI (s % 3)) (rf := 0) (self := sv (kl_A K)) (nc := nI NC) (nt := nI NT) (ns := ns) (mn := mn) (n := nI N) (na := nI A) (f := nI (kl_F K)) (ws := nI (kl_W K)) (vs := nI (kl_X KN K + s % 3)) (en := -1) (rs := rs) (pc := nI Pc) (tc := nI T) (dc := nI D) (op := op) (tk := tk) (tp := tp) (fp := fp) (sk := sk) (oc := oc) (of := of) (bt := bt) (ba := ba) (rd := rd) (sl := sl) (ac := ac) (af := af) (fa := fa) (fw := fw) (fv := fv) (wt := wt) (wd := wd) (wv := wv) (pr := pr) (mc := mc) (yc := nI NC) (yt := nI NT) (ys := ns) (ym := mn) (no := nI (cu_O ob N)) (nb := nI (N - cu_O ob N)) (ya := nI A) (yw := nI (kl_Q KN K)) (yv := nI (kl_Y KN K + s % 3)) (yu := nI (kl_F K)) (yo := nI D) (yk := nI T) (yp := nI Pc) (ye := -4) (ycf := cf) (kd := kd) (ytk := tk) (ytp := tp) (ysk := sk) (yoc := yoc) (yof := yof) (ybt := ybt) (ybp := ybp) (sv := sv) (vr := vr) (ow := ow) (ed := ed) (wa := wa) (yh := yh) (vl := vl) (ypr := pr) (mo := mo) (mb := mb) r.1.2.2.1 r.1.1 r.1.2.1 hs (p + 1) p 0 (by omega) (by omega) (by omega)
      have fX : ∀ P : SX → Prop, wX_finishSuper_35 P (nI s) h (nI NC) (nI NT) ns mn (nI N) (nI A) (nI (kl_F K)) (nI (kl_W K)) (nI (kl_X KN K + s % 3)) (-1) rs (nI Pc) (nI T) (nI D) cp cf mt op tk tp fp sk oc of bt ba rd sl ac af fa fw fv wt wd wv pr mc → wpX_finish P (nI NC, nI NT, ns, mn, nI N, nI A, nI (kl_F K), nI (kl_W K + 1), nI (kl_X KN K + s % 3), -1, rs, nI Pc, nI T, nI D, cp, cf, mt, op, tk, tp, fp, sk, oc, of, bt, ba, rd, sl, ac, af, fa, fw, fv, wt, wd, wv, pr, mc) := fun P hP => ax_fin_6 P (by omega) ht e3 ho (by rw [hk]; exact lk_sup_h P (h := h) (by omega) (by omega) (by omega) n6 hac ep (fun Q hQ => Exists.intro (p + 2) (hX Q (p + 2) (by omega) hQ)) hP)
      have fY : ∀ P : SY → Prop, wY_activate_35 P (nI s) (sv (kl_A K)) (nI (s % 3)) 0 h (nI NC) (nI NT) ns mn (nI (cu_O ob N)) (nI (N - cu_O ob N)) (nI A) (nI (kl_Q KN K)) (nI (kl_Y KN K + s % 3)) (nI (kl_F K)) (nI D) (nI T) (nI Pc) (-4) cp cf mt kd tk tp sk yoc yof ybt ybp sv vr ow ed wa yh vl pr mo mb → wpY_step P (nI NC, nI NT, ns, mn, nI (cu_O ob N), nI (N - cu_O ob N), nI A, nI (kl_Q KN K + 1), nI (kl_Y KN K + s % 3), nI (kl_F K), nI D, nI T, nI Pc, -4, cp, cf, mt, kd, tk, tp, sk, yoc, yof, ybt, ybp, sv, vr, ow, ed, wa, yh, vl, pr, mo, mb) := fun P hP => hY P (lk_supY_h P (by omega) (by omega) (by omega) (how.trans hac) ep (hYY P (p + 2) (by omega) hP))
      rcases hh with rfl | ⟨oc', tm, ho2, htm, rfl, hmt⟩
      · exact nx_UF r E' hf hd (fun P hP => fX P (lk_s35_s P hP)) (fun P hP => fY P (ay_a35_s P hP)) (by omega) (fr_n r (Or.inl rfl))
      · by_cases hT : T = 200
        · subst hT
          exact nx_UF r E' hf hd (fun P hP => fX P (lk_s35_t P (by omega) hP)) (fun P hP => fY P (ay_a35_t P (by omega) hP)) (by omega) (fr_n r (Or.inr (Or.inl rfl)))
        · by_cases hF : kl_F K = 20
          · exact nx_UF r E' hf hd (fun P hP => fX P (lk_s35_g P hF (by omega) (by omega) hP)) (fun P hP => fY P (ay_a35_g P hF (by omega) (by omega) (by omega) hs (by omega) (Or.inl ⟨rfl, rfl⟩) hmt hP)) (by omega) (fr_n r (Or.inr (Or.inr (Or.inl rfl))))
          · have z := rl_sz r htm
            exact nx_U r E' hf hd (fun P hP => fX P (lk_s35_f P (by omega) (by omega) (by omega) (by omega) hs n6 (ax_act P (fA := kl_X KN K) (v := kl_X KN K) (by omega) (by omega) (by omega) (by omega) (by omega) hs (by omega) (by omega) hmt hP))) (fun P hP => fY P (ay_a35_f P (h' := kl_Y KN K) (by omega) (by omega) (by omega) (by omega) (by omega) (by omega) hs (by omega) (Or.inl ⟨rfl, rfl⟩) hmt hP)) (μ' := 802 * (200 - (T + 1)) + (kl_C KN PN SZ K + 1) + 4 * SZ tm) (by omega) (cf_act r (by omega) (by omega) ho2 htm (by omega) hself (op_ga hvs) (Nat.le_refl _))
/-! a block is entered -/
theorem cf_blk {p a : Nat} (r : (rl_R NC NT N A T Pc D ob K cp cf mt op tk tp fp kd KN PN SZ oc of bt ba sl ac af fa fw fv wt wd wv mc yoc yof ybt ybp sv vr ow ed wa yh vl)) (hT : T < 200) (hF : kl_F K < 20) (ha : a < A) (ht : p < NT) (hr : kl_W K + kl_X KN K ≤ 100 * (kl_F K + 1)) (hm : 802 * (200 - (T + 1)) + (kl_C KN PN SZ K + 1) + 4 * SZ p ≤ μ) : cf_V NC NT ns mn cp cf mt op tk tp fp sk kd KN PN SZ μ (nI NC, nI NT, ns, mn, nI N, nI A, nI (kl_F ((false, a, 0) :: K)), nI (kl_W ((false, a, 0) :: K) + 1), nI (kl_X KN ((false, a, 0) :: K)), -1, rs, nI Pc, nI (T + 1), nI (ay_mx (kl_F K) D), cp, cf, mt, op, tk, tp, fp, sk, oc, of, bt, ba, rd, sl, ac, af, upd fa (kl_F K + 1) (nI a), upd fw (kl_F K + 1) (nI (kl_W K)), upd fv (kl_F K + 1) (nI (kl_X KN K)), upd wt (kl_W K) (nI p), upd wd (kl_W K) 0, wv, pr, mc) (nI NC, nI NT, ns, mn, nI (cu_O ob N), nI (N - cu_O ob N), nI A, nI (kl_Q KN ((false, a, 0) :: K) + 1), nI (kl_Y KN ((false, a, 0) :: K)), nI (kl_F ((false, a, 0) :: K)), nI (ay_mx (kl_F K) D), nI (T + 1), nI Pc, -4, cp, cf, mt, kd, tk, tp, sk, yoc, yof, ybt, ybp, sv, vr, ow, ed, upd (upd wa (kl_Q KN K) (nI (1024 * a + 8 * 126 + 0))) (kl_Q KN K + 1) (nI (1024 * a + 8 * p + 0)), upd (upd yh (kl_Q KN K) (nI (kl_Y KN K))) (kl_Q KN K + 1) (nI (kl_Y KN K)), vl, pr, mo, mb) ∨ cf_E NC NT ns mn cp cf mt op tk tp fp sk kd KN PN SZ μ (nI NC, nI NT, ns, mn, nI N, nI A, nI (kl_F ((false, a, 0) :: K)), nI (kl_W ((false, a, 0) :: K) + 1), nI (kl_X KN ((false, a, 0) :: K)), -1, rs, nI Pc, nI (T + 1), nI (ay_mx (kl_F K) D), cp, cf, mt, op, tk, tp, fp, sk, oc, of, bt, ba, rd, sl, ac, af, upd fa (kl_F K + 1) (nI a), upd fw (kl_F K + 1) (nI (kl_W K)), upd fv (kl_F K + 1) (nI (kl_X KN K)), upd wt (kl_W K) (nI p), upd wd (kl_W K) 0, wv, pr, mc) (nI NC, nI NT, ns, mn, nI (cu_O ob N), nI (N - cu_O ob N), nI A, nI (kl_Q KN ((false, a, 0) :: K) + 1), nI (kl_Y KN ((false, a, 0) :: K)), nI (kl_F ((false, a, 0) :: K)), nI (ay_mx (kl_F K) D), nI (T + 1), nI Pc, -4, cp, cf, mt, kd, tk, tp, sk, yoc, yof, ybt, ybp, sv, vr, ow, ed, upd (upd wa (kl_Q KN K) (nI (1024 * a + 8 * 126 + 0))) (kl_Q KN K + 1) (nI (1024 * a + 8 * p + 0)), upd (upd yh (kl_Q KN K) (nI (kl_Y KN K))) (kl_Q KN K + 1) (nI (kl_Y KN K)), vl, pr, mo, mb) := by
  have z := rl_sz r ht
  obtain ⟨⟨n1, n2, n3, n4, n5⟩, ⟨n6, n7, n8, n9, n10, n11⟩, ⟨n12, n13, n14, n15, n16⟩, b, nb1, nb2⟩ := rl_n r
  obtain ⟨P, H, ⟨S, F0, AF⟩, B⟩ := r
  have mx : kl_F K + 1 ≤ ay_mx (kl_F K) D ∧ ay_mx (kl_F K) D ≤ 20 := by
    unfold ay_mx
    split <;> omega
  refine cf_Ei (K := (false, a, 0) :: K) (t := p) (T := T + 1) (D := ay_mx (kl_F K) D) ⟨P, H, ⟨⟨⟨ha, by omega, fun h => absurd h (by decide), hr, hF⟩, pk_us, pk_us, pk_us, ?_, ?_, ?_⟩, ?_, ?_⟩, ⟨B.1.1, by omega, by omega⟩, ⟨n14, mx.1, mx.2⟩, B.2.2⟩ ⟨ht, ?_⟩ pk_us pk_us pk_us hm
  · rw [pk_un (by omega), pk_us]
  · rw [pk_un (by omega), pk_us]
  · exact kl_cg (fun _ _ h => h) (by omega) (fun i hi => ⟨pk_un (by omega), pk_un (by omega)⟩) (fun i _ hi => ⟨pk_un (by omega), pk_un (by omega), pk_un (by omega)⟩) (fun _ _ => rfl) (fun i hi => ⟨by rw [pk_un (by omega), pk_un (by omega)], by rw [pk_un (by omega), pk_un (by omega)]⟩) (fun _ _ => rfl) S
  · exact ⟨by rw [pk_un (by omega)]; exact F0.1, by rw [pk_un (by omega)]; exact F0.2.1, by rw [pk_un (by omega)]; exact F0.2.2⟩
  · intro a' ha'
    have z := AF a' ha'
    have q := kl_ae (kl_Ln (a := a) (b := a') (m := 0) (Or.inr (by omega)) K)
    exact ⟨z.1.trans q.1.symm, z.2.trans q.2.symm⟩
  · show kl_W K + kl_X KN K + SZ p ≤ 100 * (kl_F K + 1 + 1)
    omega
theorem op_14 (r : (rl_R NC NT N A T Pc D ob K cp cf mt op tk tp fp kd KN PN SZ oc of bt ba sl ac af fa fw fv wt wd wv mc yoc yof ybt ybp sv vr ow ed wa yh vl)) (E : en_F NT K KN SZ t 1 wt wd wa) (hk : KN t = 14) (hv : vb_R ob N (wv (kl_X KN K)) (vl (kl_Y KN K))) (hm : 802 * (200 - T) + kl_C KN PN SZ K + 1 < μ) : nx_S NC NT ns mn cp cf mt op tk tp fp sk kd KN PN SZ μ (nI NC, nI NT, ns, mn, nI N, nI A, nI (kl_F K), nI (kl_W K + 1), nI (kl_X KN K + 1), -1, rs, nI Pc, nI T, nI D, cp, cf, mt, op, tk, tp, fp, sk, oc, of, bt, ba, rd, sl, ac, af, fa, fw, fv, wt, wd, wv, pr, mc) (nI NC, nI NT, ns, mn, nI (cu_O ob N), nI (N - cu_O ob N), nI A, nI (kl_Q KN K + 1), nI (kl_Y KN K + 1), nI (kl_F K), nI D, nI T, nI Pc, -4, cp, cf, mt, kd, tk, tp, sk, yoc, yof, ybt, ybp, sv, vr, ow, ed, wa, yh, vl, pr, mo, mb) := by
  obtain ⟨⟨n1, n2, n3, n4, n5⟩, ⟨n6, n7, n8, n9, n10, n11⟩, ⟨n12, n13, n14, n15, n16⟩, b, nb1, nb2⟩ := rl_n r
  obtain ⟨⟨e1, e2⟩, e3, e4, e5⟩ := E
  have Z := rl_sz r e1
  obtain ⟨v1, v2, v3, v4, v5, v6, v7⟩ := rl_tm r e1
  rw [hk] at v2 v3 v4 v5 v6 Z
  by_cases h3 : vb_T (wv (kl_X KN K)) = 3
  · obtain ⟨bl, hb, h0, hx, hy⟩ := vB_3 hv h3
    obtain ⟨tb, a, htb, hkb, ha, b1, b2, b3, b4⟩ := r.2.1.2.1 bl hb h0
    have g1 := cu_gf h0 hb
    have g2 := cu_le ob N
    obtain ⟨w1, w2, w3, w4, w5, w6, w7⟩ := rl_tm r htb
    rw [hkb] at w5 w6
    obtain ⟨p1, p2⟩ := w6 0 (by omega)
    have tb1 : tb < 100 := by omega
    rcases w5.2.2.2.1 rfl with hkv | ⟨j, hj, hkv⟩
    · have fX : ∀ P : SX → Prop, wX_finishCall_73 P 0 4294967296 (nI bl) (nI tb) (-1) 0 0 (nI NC) (nI NT) ns mn (nI N) (nI A) (nI (kl_F K)) (nI (kl_W K)) (nI (kl_X KN K)) (-1) rs (nI Pc) (nI T) (nI D) cp cf mt op tk tp fp sk oc of bt ba rd sl ac af fa fw fv wt wd wv pr mc → wpX_finish P (nI NC, nI NT, ns, mn, nI N, nI A, nI (kl_F K), nI (kl_W K + 1), nI (kl_X KN K + 1), -1, rs, nI Pc, nI T, nI D, cp, cf, mt, op, tk, tp, fp, sk, oc, of, bt, ba, rd, sl, ac, af, fa, fw, fv, wt, wd, wv, pr, mc) := fun P hP => ax_fin_11 P (by omega) Z.2.2 e3 v3 (br_t rfl (ax_call_h P (by omega) hx (by omega) b1 tb1 hkv (Or.inl ⟨rfl, rfl⟩) hP))
      have fY : ∀ P : SY → Prop, wY_callBlock_48 P (vb_pk 3 (nI (cu_g ob bl))) 0 0 (-1) 0 (nI NC) (nI NT) ns mn (nI (cu_O ob N)) (nI (N - cu_O ob N)) (nI A) (nI (kl_Q KN K)) (nI (kl_Y KN K)) (nI (kl_F K)) (nI D) (nI T) (nI Pc) (-4) cp cf mt kd tk tp sk yoc yof ybt ybp sv vr ow ed wa yh vl pr mo mb → wpY_step P (nI NC, nI NT, ns, mn, nI (cu_O ob N), nI (N - cu_O ob N), nI A, nI (kl_Q KN K + 1), nI (kl_Y KN K + 1), nI (kl_F K), nI D, nI T, nI Pc, -4, cp, cf, mt, kd, tk, tp, sk, yoc, yof, ybt, ybp, sv, vr, ow, ed, wa, yh, vl, pr, mo, mb) := fun P hP => ay_step_1 (s := 1) _ (by omega) (by omega) Z.2.2 (by omega) (by omega) e5 v2 (by decide) (ay_f1_14 P Z.2.2 v2 (by omega) (by rw [hy]; exact ay_call_h P (by omega) b2 tb1 hkv (Or.inl ⟨rfl, rfl⟩) hP))
      by_cases hT : T = 200
      · subst hT
        exact nx_UF r ⟨⟨e1, e2⟩, e3, e4, e5⟩ (by rw [hk]; decide) (by omega) (fun P hP => fX P (ax_call_t P hP)) (fun P hP => fY P (ay_call_t P hP)) (by omega) (fr_n r (Or.inr (Or.inl rfl)))
      · by_cases hF : kl_F K = 20
        · exact nx_UF r ⟨⟨e1, e2⟩, e3, e4, e5⟩ (by rw [hk]; decide) (by omega) (fun P hP => fX P (ax_call_g P hF (by omega) hP)) (fun P hP => fY P (ay_call_0 P (by omega) (by omega) b2 tb1 p1 b4 (ay_enter_g P hF hP))) (by omega) (fr_n r (Or.inr (Or.inr (Or.inl rfl))))
        · have z := rl_sz r (t := PN (3 * tb + 0)) (by omega)
          exact nx_U r ⟨⟨e1, e2⟩, e3, e4, e5⟩ (by rw [hk]; decide) (by omega) (fun P hP => fX P (ax_call_f0 P (by omega) (by omega) (by omega) (by omega) (by omega) tb1 b3 p1 hP)) (fun P hP => fY P (ay_call_0 P (by omega) (by omega) b2 tb1 p1 b4 (ay_enter_f (m := 126) P (by omega) (by omega) (by omega) hP))) (μ' := 802 * (200 - (T + 1)) + (kl_C KN PN SZ K + 1) + 4 * SZ (PN (3 * tb + 0))) (by omega) (cf_blk r (by omega) (by omega) ha (by omega) (by omega) (Nat.le_refl _))
    · exact nx_UF r ⟨⟨e1, e2⟩, e3, e4, e5⟩ (by rw [hk]; decide) (by omega) (fun P hP => ax_fin_11 P (by omega) Z.2.2 e3 v3 (br_t rfl (ax_call_h P (by omega) hx (by omega) b1 tb1 hkv (Or.inr ⟨ax_nIm1 (by omega), rfl⟩) (ax_call_m P (by decide) hP)))) (fun P hP => ay_step_1 (s := 1) _ (by omega) (by omega) Z.2.2 (by omega) (by omega) e5 v2 (by decide) (ay_f1_14 P Z.2.2 v2 (by omega) (by rw [hy]; exact ay_call_h P (by omega) b2 tb1 hkv (Or.inr ⟨nI_pos (by omega), rfl⟩) (ay_call_m P (by decide) hP)))) (by omega) (fr_n r (Or.inl rfl))
  · have h3' : ¬ vb_T (vl (kl_Y KN K)) = 3 := by rw [← vB_T hv]; exact h3
    exact nx_UF r ⟨⟨e1, e2⟩, e3, e4, e5⟩ (by rw [hk]; decide) (by omega) (fun P hP => ax_fin_11 P (by omega) Z.2.2 e3 v3 (br_t rfl (ax_call_s P (by omega) h3 hP))) (fun P hP => ay_step_1 (s := 1) _ (by omega) (by omega) Z.2.2 (by omega) (by omega) e5 v2 (by decide) (ay_f1_14 P Z.2.2 v2 (by omega) (ay_call_s P h3' hP))) (by omega) (fr_n r (Or.inl rfl))
theorem op_27 (r : (rl_R NC NT N A T Pc D ob K cp cf mt op tk tp fp kd KN PN SZ oc of bt ba sl ac af fa fw fv wt wd wv mc yoc yof ybt ybp sv vr ow ed wa yh vl)) (E : en_F NT K KN SZ t 2 wt wd wa) (hk : KN t = 27) (hv : vb_R ob N (wv (kl_X KN K)) (vl (kl_Y KN K))) (hw : vb_R ob N (wv (kl_X KN K + 1)) (vl (kl_Y KN K + 1))) (hm : 802 * (200 - T) + kl_C KN PN SZ K + 1 < μ) : nx_S NC NT ns mn cp cf mt op tk tp fp sk kd KN PN SZ μ (nI NC, nI NT, ns, mn, nI N, nI A, nI (kl_F K), nI (kl_W K + 1), nI (kl_X KN K + 2), -1, rs, nI Pc, nI T, nI D, cp, cf, mt, op, tk, tp, fp, sk, oc, of, bt, ba, rd, sl, ac, af, fa, fw, fv, wt, wd, wv, pr, mc) (nI NC, nI NT, ns, mn, nI (cu_O ob N), nI (N - cu_O ob N), nI A, nI (kl_Q KN K + 1), nI (kl_Y KN K + 2), nI (kl_F K), nI D, nI T, nI Pc, -4, cp, cf, mt, kd, tk, tp, sk, yoc, yof, ybt, ybp, sv, vr, ow, ed, wa, yh, vl, pr, mo, mb) := by
  obtain ⟨⟨n1, n2, n3, n4, n5⟩, ⟨n6, n7, n8, n9, n10, n11⟩, ⟨n12, n13, n14, n15, n16⟩, b, nb1, nb2⟩ := rl_n r
  obtain ⟨⟨e1, e2⟩, e3, e4, e5⟩ := E
  have Z := rl_sz r e1
  obtain ⟨v1, v2, v3, v4, v5, v6, v7⟩ := rl_tm r e1
  rw [hk] at v2 v3 v4 v5 v6 Z
  have pX : ∀ P : SX → Prop, wX_finishCall_14 P 1 (wv (kl_X KN K + 1)) (nI NC) (nI NT) ns mn (nI N) (nI A) (nI (kl_F K)) (nI (kl_W K)) (nI (kl_X KN K + 1)) (-1) rs (nI Pc) (nI T) (nI D) cp cf mt op tk tp fp sk oc of bt ba rd sl ac af fa fw fv wt wd wv pr mc → wpX_finish P (nI NC, nI NT, ns, mn, nI N, nI A, nI (kl_F K), nI (kl_W K + 1), nI (kl_X KN K + 2), -1, rs, nI Pc, nI T, nI D, cp, cf, mt, op, tk, tp, fp, sk, oc, of, bt, ba, rd, sl, ac, af, fa, fw, fv, wt, wd, wv, pr, mc) := fun P hP => ax_fin_22 P (by omega) Z.2.2 e3 v3 (br_f (by decide) (ax_pop (q := kl_X KN K + 1) _ (by omega) hP))
  by_cases h3 : vb_T (wv (kl_X KN K)) = 3
  · obtain ⟨bl, hb, h0, hx, hy⟩ := vB_3 hv h3
    obtain ⟨tb, a, htb, hkb, ha, b1, b2, b3, b4⟩ := r.2.1.2.1 bl hb h0
    have g1 := cu_gf h0 hb
    have g2 := cu_le ob N
    obtain ⟨w1, w2, w3, w4, w5, w6, w7⟩ := rl_tm r htb
    rw [hkb] at w5 w6
    obtain ⟨p1, p2⟩ := w6 0 (by omega)
    have tb1 : tb < 100 := by omega
    rcases w5.2.2.2.1 rfl with hkv | ⟨j, hj, hkv⟩
    · exact nx_UF r ⟨⟨e1, e2⟩, e3, e4, e5⟩ (by rw [hk]; decide) (by omega) (fun P hP => pX P (ax_call_h P (by omega) hx (by omega) b1 tb1 hkv (Or.inl ⟨rfl, rfl⟩) (ax_call_m P (by decide) hP))) (fun P hP => ay_step_2 (s := 2) _ (by omega) (by omega) Z.2.2 (by omega) (by omega) e5 v2 (by decide) (by decide) (ay_t_27 P Z.2.2 v2 (by omega) (by rw [hy]; exact ay_call_h P (by omega) b2 tb1 hkv (Or.inl ⟨rfl, rfl⟩) (ay_call_m P (by decide) hP)))) (by omega) (fr_n r (Or.inl rfl))
    · have fX : ∀ P : SX → Prop, wX_finishCall_73 P 1 (wv (kl_X KN K + 1)) (nI bl) (nI tb) (nI j) 1 1 (nI NC) (nI NT) ns mn (nI N) (nI A) (nI (kl_F K)) (nI (kl_W K)) (nI (kl_X KN K)) (-1) rs (nI Pc) (nI T) (nI D) cp cf mt op tk tp fp sk oc of bt ba rd sl ac af fa fw fv wt wd wv pr mc → wpX_finish P (nI NC, nI NT, ns, mn, nI N, nI A, nI (kl_F K), nI (kl_W K + 1), nI (kl_X KN K + 2), -1, rs, nI Pc, nI T, nI D, cp, cf, mt, op, tk, tp, fp, sk, oc, of, bt, ba, rd, sl, ac, af, fa, fw, fv, wt, wd, wv, pr, mc) := fun P hP => pX P (ax_call_h P (by omega) hx (by omega) b1 tb1 hkv (Or.inr ⟨ax_nIm1 (by omega), rfl⟩) hP)
      have fY : ∀ P : SY → Prop, wY_callBlock_48 P (vb_pk 3 (nI (cu_g ob bl))) 1 (vl (kl_Y KN K + 1)) (nI j) 1 (nI NC) (nI NT) ns mn (nI (cu_O ob N)) (nI (N - cu_O ob N)) (nI A) (nI (kl_Q KN K)) (nI (kl_Y KN K)) (nI (kl_F K)) (nI D) (nI T) (nI Pc) (-4) cp cf mt kd tk tp sk yoc yof ybt ybp sv vr ow ed wa yh vl pr mo mb → wpY_step P (nI NC, nI NT, ns, mn, nI (cu_O ob N), nI (N - cu_O ob N), nI A, nI (kl_Q KN K + 1), nI (kl_Y KN K + 2), nI (kl_F K), nI D, nI T, nI Pc, -4, cp, cf, mt, kd, tk, tp, sk, yoc, yof, ybt, ybp, sv, vr, ow, ed, wa, yh, vl, pr, mo, mb) := fun P hP => ay_step_2 (s := 2) _ (by omega) (by omega) Z.2.2 (by omega) (by omega) e5 v2 (by decide) (by decide) (ay_t_27 P Z.2.2 v2 (by omega) (by rw [hy]; exact ay_call_h P (by omega) b2 tb1 hkv (Or.inr ⟨nI_pos (by omega), rfl⟩) hP))
      by_cases hT : T = 200
      · subst hT
        exact nx_UF r ⟨⟨e1, e2⟩, e3, e4, e5⟩ (by rw [hk]; decide) (by omega) (fun P hP => fX P (ax_call_t P hP)) (fun P hP => fY P (ay_call_t P hP)) (by omega) (fr_n r (Or.inr (Or.inl rfl)))
      · by_cases hF : kl_F K = 20
        · exact nx_UF r ⟨⟨e1, e2⟩, e3, e4, e5⟩ (by rw [hk]; decide) (by omega) (fun P hP => fX P (ax_call_g P hF (by omega) hP)) (fun P hP => fY P (ay_call_1 P (by omega) (by omega) b2 tb1 p1 b4 (by omega) hj (ay_enter_g P hF hP))) (by omega) (fr_n r (Or.inr (Or.inr (Or.inl rfl))))
        · have z := rl_sz r (t := PN (3 * tb + 0)) (by omega)
          exact nx_U r ⟨⟨e1, e2⟩, e3, e4, e5⟩ (by rw [hk]; decide) (by omega) (fun P hP => fX P (ax_call_f1 P (by omega) (by omega) (by omega) (by omega) (by omega) tb1 (by omega) hj b3 p1 hP)) (fun P hP => fY P (ay_call_1 P (by omega) (by omega) b2 tb1 p1 b4 (by omega) hj (ay_enter_f (m := 126) P (by omega) (by omega) (by omega) hP))) (μ' := 802 * (200 - (T + 1)) + (kl_C KN PN SZ K + 1) + 4 * SZ (PN (3 * tb + 0))) (by omega) (cf_blk (rl_set r ha hj hw) (by omega) (by omega) ha (by omega) (by omega) (Nat.le_refl _))
  · have h3' : ¬ vb_T (vl (kl_Y KN K)) = 3 := by rw [← vB_T hv]; exact h3
    exact nx_UF r ⟨⟨e1, e2⟩, e3, e4, e5⟩ (by rw [hk]; decide) (by omega) (fun P hP => pX P (ax_call_s P (by omega) h3 hP)) (fun P hP => ay_step_2 (s := 2) _ (by omega) (by omega) Z.2.2 (by omega) (by omega) e5 v2 (by decide) (by decide) (ay_t_27 P Z.2.2 v2 (by omega) (ay_call_s P h3' hP))) (by omega) (fr_n r (Or.inl rfl))
end
