section
variable {nt na : Nat} {R : Int64 → Int64 → Prop} {KN SZ : Nat → Nat} {fa fw fv wt wd : Nat → Int32} {wv : Nat → Int64} {wa hs : Nat → Int32} {vl : Nat → Int64}
theorem kl_L0 {b : Nat} (hb : na ≤ b) : ∀ {K : List (Bool × Nat × Nat)}, kl_S nt na R KN SZ fa fw fv wt wd wv wa hs vl K → kl_L b K = 0
  | [], _ => rfl
  | (true, _, _) :: K, S => kl_L0 hb (K := K) S.2.2.2.2.2
  | (false, a, m) :: K, S => by
    have h := S.1.1
    show (if a = b ∧ m = 1 then kl_F K + 1 else kl_L b K) = 0
    rw [if_neg (by omega)]
    exact kl_L0 hb S.2.2.2.2.2.2
end
theorem kl_Lf (a : Nat) (K : List (Bool × Nat × Nat)) : kl_L a ((false, a, 1) :: K) = kl_F K + 1 := if_pos ⟨rfl, rfl⟩
theorem kl_Ln {a b m : Nat} (h : a ≠ b ∨ m ≠ 1) (K : List (Bool × Nat × Nat)) : kl_L b ((false, a, m) :: K) = kl_L b K := if_neg (by omega)
theorem kl_ae {K K' : List (Bool × Nat × Nat)} {a : Nat} (h : kl_L a K = kl_L a K') : kl_ax K a = kl_ax K' a ∧ kl_ay K a = kl_ay K' a := by
  unfold kl_ax kl_ay
  rw [h]
  exact ⟨rfl, rfl⟩
theorem kl_a0 {K : List (Bool × Nat × Nat)} {a : Nat} (h0 : 1 ≤ a) (h : kl_L a K = 0) : kl_ax K a = -1 ∧ kl_ay K a = 1 := by
  unfold kl_ax kl_ay
  rw [h]
  exact ⟨by rw [if_neg (by omega)]; exact if_pos rfl, by rw [if_neg (by omega)]; exact if_pos rfl⟩
theorem kl_a1 {K : List (Bool × Nat × Nat)} {a g : Nat} (h0 : 1 ≤ a) (h : kl_L a K = g + 1) : kl_ax K a = nI (g + 1) ∧ kl_ay K a = 0 := by
  unfold kl_ax kl_ay
  rw [h]
  exact ⟨by rw [if_neg (by omega)]; exact if_neg (by omega), by rw [if_neg (by omega)]; exact if_neg (by omega)⟩
theorem kl_az {K : List (Bool × Nat × Nat)} {a : Nat} (h0 : a = 0) : kl_ax K a = 0 ∧ kl_ay K a = 0 := ⟨if_pos h0, if_pos h0⟩
section
variable {nc nt ns mn n na f ws vs en pc tc dc : Int32} {rs : Int64} {cp cf mt op tk tp fp sk oc bt ba rd ac af fa fw fv wt wd pr mc : Nat → Int32} {of sl wv : Nat → Int64}
theorem lk_s50_g (post : SX → Prop) {s k : Int32} {x : Int64} {o r g : Nat} (hg : g = 20) (ho : o < 6) (hr : r < 200) (hp : post (nc, nt, ns, mn, n, na, nI g, ws, vs, 3, rs, pc, nI (r + 1), dc, cp, cf, mt, op, tk, tp, fp, sk, oc, of, bt, ba, rd, sl, ac, af, fa, fw, fv, wt, wd, wv, pr, mc)) : wX_finishSend_50 post s k x (nI o) nc nt ns mn n na (nI g) ws vs en rs pc (nI r) dc cp cf mt op tk tp fp sk oc of bt ba rd sl ac af fa fw fv wt wd wv pr mc := by
  subst hg
  exact lk_s50_d post ho hr hp
theorem lk_s35_g (post : SX → Prop) {s : Int32} {o r g : Nat} (hg : g = 20) (ho : o < 6) (hr : r < 200) (hp : post (nc, nt, ns, mn, n, na, nI g, ws, vs, 3, rs, pc, nI (r + 1), dc, cp, cf, mt, op, tk, tp, fp, sk, oc, of, bt, ba, rd, sl, ac, af, fa, fw, fv, wt, wd, wv, pr, mc)) : wX_finishSuper_35 post s (nI o) nc nt ns mn n na (nI g) ws vs en rs pc (nI r) dc cp cf mt op tk tp fp sk oc of bt ba rd sl ac af fa fw fv wt wd wv pr mc := by
  subst hg
  exact lk_s35_d post ho hr hp
theorem ax_call_g (post : SX → Prop) {r g : Nat} {x k b t : Int32} {z : Int64} (hg : g = 20) (hr : r < 200) (hp : post (nc, nt, ns, mn, n, na, nI g, ws, vs, 3, rs, pc, nI (r + 1), dc, cp, cf, mt, op, tk, tp, fp, sk, oc, of, bt, ba, rd, sl, ac, af, fa, fw, fv, wt, wd, wv, pr, mc)) : wX_finishCall_73 post x z b t k x x nc nt ns mn n na (nI g) ws vs en rs pc (nI r) dc cp cf mt op tk tp fp sk oc of bt ba rd sl ac af fa fw fv wt wd wv pr mc := by
  subst hg
  exact ax_call_d post hr hp
end
section
variable {yc yt ys ym no nb ya yw yv yu yo yk yp ye : Int32} {ycp ycf ymt kd ytk ytp ysk yoc ybt ybp ow ed wa yh ypr mo mb : Nat → Int32} {yof sv vr vl : Nat → Int64}
theorem ay_enter_g (post : SY → Prop) {g : Nat} {m t a : Int32} (hg : g = 20) (hp : post (yc, yt, ys, ym, no, nb, ya, yw, yv, nI g, yo, yk, yp, 3, ycp, ycf, ymt, kd, ytk, ytp, ysk, yoc, yof, ybt, ybp, sv, vr, ow, ed, wa, yh, vl, ypr, mo, mb)) : wpY_enter post (yc, yt, ys, ym, no, nb, ya, yw, yv, nI g, yo, yk, yp, ye, ycp, ycf, ymt, kd, ytk, ytp, ysk, yoc, yof, ybt, ybp, sv, vr, ow, ed, wa, yh, vl, ypr, mo, mb) m t a := by
  subst hg
  exact ay_enter_n post hp
theorem ay_a35_g (post : SY → Prop) {a r o s tm args hA h' g : Nat} {rf : Int32} {self : Int64} (hg : g = 20) (hk : r < 200) (ha : a < 202) (ho : o < 6) (hs : s < 6) (hA' : hA + args ≤ 2200) (hr : (rf = 0 ∧ h' = hA) ∨ (¬ rf = 0 ∧ h' + 1 = hA)) (hm : ymt (6 * o + s) = nI tm) (hp : post (yc, yt, ys, ym, no, nb, nI (a + 1), yw, nI h', nI g, yo, nI (r + 1), yp, 3, ycp, ycf, ymt, kd, ytk, ytp, ysk, yoc, yof, ybt, ybp, vp_updL sv a self, up_n vr (6 * a) (ax_ga args vl hA) 6, upd ow a (nI o), upd ed a 0, wa, yh, vl, ypr, mo, mb)) : wY_activate_35 post (nI s) self (nI args) rf (nI o) yc yt ys ym no nb (nI a) yw (nI (hA + args)) (nI g) yo (nI r) yp ye ycp ycf ymt kd ytk ytp ysk yoc yof ybt ybp sv vr ow ed wa yh vl ypr mo mb := by
  subst hg
  exact ay_a35_d post hk ha ho hs hA' hr hm hp
end
section
variable {NC NT : Nat} {ns mn : Int32} {cp cf mt op tk tp fp sk kd py : Nat → Int32} {KN PN SZ : Nat → Nat}
variable {N A T Pc D : Nat} {ob : Nat → Bool} {K : List (Bool × Nat × Nat)} {rs : Int64} {oc bt ba rd ac af fa fw fv wt wd pr mc : Nat → Int32} {of sl wv : Nat → Int64} {yoc ybt ybp ow ed wa yh mo mb : Nat → Int32} {yof sv vr vl : Nat → Int64}
variable {μ t : Nat}
/-! a frame ends -/
theorem op_fr {a m : Nat} (r : (rl_R NC NT N A T Pc D ob ((false, a, m) :: K) cp cf mt op tk tp fp kd KN PN SZ oc of bt ba sl ac af fa fw fv wt wd wv mc yoc yof ybt ybp sv vr ow ed wa yh vl)) (hv : vb_R ob N (wv (kl_X KN K)) (vl (kl_Y KN K))) (hm : 802 * (200 - T) + kl_C KN PN SZ K + 1 < μ) : nx_S NC NT ns mn cp cf mt op tk tp fp sk kd py KN PN SZ μ (nI NC, nI NT, ns, mn, nI N, nI A, nI (kl_F ((false, a, m) :: K)), nI (kl_W ((false, a, m) :: K)), nI (kl_X KN ((false, a, m) :: K) + 1), -1, rs, nI Pc, nI T, nI D, cp, cf, mt, op, tk, tp, fp, sk, oc, of, bt, ba, rd, sl, ac, af, fa, fw, fv, wt, wd, wv, pr, mc) (nI NC, nI NT, ns, mn, nI (cu_O ob N), nI (N - cu_O ob N), nI A, nI (kl_Q KN ((false, a, m) :: K)), nI (kl_Y KN ((false, a, m) :: K) + 1), nI (kl_F ((false, a, m) :: K)), nI D, nI T, nI Pc, -4, cp, cf, mt, kd, tk, tp, sk, yoc, yof, ybt, ybp, sv, vr, ow, ed, wa, yh, vl, pe_P pr py Pc, mo, mb) := by
  obtain ⟨⟨n1, n2, n3, n4, n5⟩, ⟨n6, n7, n8, n9, n10, n11⟩, ⟨n12, n13, n14, n15, n16⟩, b, nb1, nb2⟩ := rl_n r
  obtain ⟨P, H, ⟨⟨⟨s1, s2, s3, s4, s5⟩, s6, s7, s8, s9, s10, S⟩, F0, AF⟩, B⟩ := r
  have b1 := kl_Qb KN K
  have b2 : kl_W K + kl_X KN K + 1 ≤ 2100 := n2
  have b3 : kl_F K + 1 ≤ D := n16
  obtain ⟨f1, f2⟩ := AF a s1
  have e01 : ed a = 0 ∨ ed a = 1 := by
    rw [f2]
    unfold kl_ay
    split
    · exact Or.inl rfl
    · split
      · exact Or.inr rfl
      · exact Or.inl rfl
  by_cases hm1 : m = 1
  · subst hm1
    obtain ⟨a1, l0⟩ := s3 rfl
    have g1 : af a = nI (kl_F K + 1) := by
      rw [f1]
      exact (kl_a1 a1 (kl_Lf a K)).1
    refine nx_1 (u1 := (nI NC, nI NT, ns, mn, nI N, nI A, nI (kl_F K), nI (kl_W K), nI (kl_X KN K + 1), -1, rs, nI Pc, nI T, nI D, cp, cf, mt, op, tk, tp, fp, sk, oc, of, bt, ba, rd, sl, ac, upd af a (-1), fa, fw, fv, wt, wd, wv, pr, mc)) (v1 := (nI NC, nI NT, ns, mn, nI (cu_O ob N), nI (N - cu_O ob N), nI A, nI (kl_Q KN K), nI (kl_Y KN K + 1), nI (kl_F K), nI D, nI T, nI Pc, -4, cp, cf, mt, kd, tk, tp, sk, yoc, yof, ybt, ybp, sv, vr, ow, upd ed a 1, wa, yh, vl, pe_P pr py Pc, mo, mb)) (fun P hP => xs_lv P (by omega) s7 (ax_leave_m P s5 (by omega) s6 g1 hP)) (by omega) (fun P hP => ay_step_M P (by omega) (by omega) s2 s9 (Or.inl ⟨rfl, rfl⟩) e01 hP) hm (cf_Vi ⟨P, H, ⟨S, F0, ?_⟩, B.1, ⟨B.2.1.1, by omega, B.2.1.2.2⟩, B.2.2⟩ hv (Nat.le_refl _))
    intro a' ha'
    by_cases e : a' = a
    · subst e
      rw [pk_us, pk_us]
      have z := kl_a0 a1 l0
      exact ⟨z.1.symm, z.2.symm⟩
    · rw [pk_un e, pk_un e]
      have z := AF a' ha'
      have q := kl_ae (kl_Ln (a := a) (b := a') (m := 1) (Or.inl (fun z => e z.symm)) K)
      exact ⟨z.1.trans q.1, z.2.trans q.2⟩
  · have hm0 : m = 0 := by omega
    subst hm0
    have Lb : ∀ a', kl_L a' ((false, a, 0) :: K) = kl_L a' K := fun a' => kl_Ln (Or.inr (by omega)) K
    have g1 : ¬ af a = nI (kl_F K + 1) := by
      rw [f1]
      unfold kl_ax
      rw [Lb]
      have lb := kl_Lb a K
      split
      · exact fun z => by rw [show (0 : Int32) = nI 0 from rfl, nI_eq (by omega) (by omega)] at z; omega
      · split
        · exact fun z => ax_nIm1 (n := kl_F K + 1) (by omega) z.symm
        · exact fun z => by rw [nI_eq (by omega) (by omega)] at z; omega
    refine nx_1 (u1 := (nI NC, nI NT, ns, mn, nI N, nI A, nI (kl_F K), nI (kl_W K), nI (kl_X KN K + 1), -1, rs, nI Pc, nI T, nI D, cp, cf, mt, op, tk, tp, fp, sk, oc, of, bt, ba, rd, sl, ac, af, fa, fw, fv, wt, wd, wv, pr, mc)) (v1 := (nI NC, nI NT, ns, mn, nI (cu_O ob N), nI (N - cu_O ob N), nI A, nI (kl_Q KN K), nI (kl_Y KN K + 1), nI (kl_F K), nI D, nI T, nI Pc, -4, cp, cf, mt, kd, tk, tp, sk, yoc, yof, ybt, ybp, sv, vr, ow, upd ed a (ed a), wa, yh, vl, pe_P pr py Pc, mo, mb)) (fun P hP => xs_lv P (by omega) s7 (ax_leave_b P s5 (by omega) s6 g1 hP)) (by omega) (fun P hP => ay_step_M P (by omega) (by omega) s2 s9 (Or.inr ⟨rfl, rfl⟩) e01 hP) hm (cf_Vi ⟨P, H, ⟨S, F0, ?_⟩, B.1, ⟨B.2.1.1, by omega, B.2.1.2.2⟩, B.2.2⟩ hv (Nat.le_refl _))
    intro a' ha'
    have z := AF a' ha'
    have q := kl_ae (Lb a')
    by_cases e : a' = a
    · subst e
      rw [pk_us]
      exact ⟨z.1.trans q.1, z.2.trans q.2⟩
    · rw [pk_un e]
      exact ⟨z.1.trans q.1, z.2.trans q.2⟩
theorem op_end (r : (rl_R NC NT N A T Pc D ob ([]) cp cf mt op tk tp fp kd KN PN SZ oc of bt ba sl ac af fa fw fv wt wd wv mc yoc yof ybt ybp sv vr ow ed wa yh vl)) (hv : vb_R ob N (wv 0) (vl 0)) (hm : 1 ≤ μ) : nx_S NC NT ns mn cp cf mt op tk tp fp sk kd py KN PN SZ μ (nI NC, nI NT, ns, mn, nI N, nI A, nI (kl_F ([])), nI (kl_W ([])), nI (kl_X KN ([]) + 1), -1, rs, nI Pc, nI T, nI D, cp, cf, mt, op, tk, tp, fp, sk, oc, of, bt, ba, rd, sl, ac, af, fa, fw, fv, wt, wd, wv, pr, mc) (nI NC, nI NT, ns, mn, nI (cu_O ob N), nI (N - cu_O ob N), nI A, nI (kl_Q KN ([])), nI (kl_Y KN ([]) + 1), nI (kl_F ([])), nI D, nI T, nI Pc, -4, cp, cf, mt, kd, tk, tp, sk, yoc, yof, ybt, ybp, sv, vr, ow, ed, wa, yh, vl, pe_P pr py Pc, mo, mb) := by
  obtain ⟨⟨n1, n2, n3, n4, n5⟩, ⟨n6, n7, n8, n9, n10, n11⟩, ⟨n12, n13, n14, n15, n16⟩, b, nb1, nb2⟩ := rl_n r
  obtain ⟨P, H, ⟨S, F0, AF⟩, B⟩ := r
  refine Or.inr ⟨hm, (nI NC, nI NT, ns, mn, nI N, nI A, nI 0, nI 0, nI 0, 0, wv 0, nI Pc, nI T, nI D, cp, cf, mt, op, tk, tp, fp, sk, oc, of, bt, ba, rd, sl, ac, af, fa, fw, fv, wt, wd, wv, pr, mc), (nI NC, nI NT, ns, mn, nI (cu_O ob N), nI (N - cu_O ob N), nI A, nI 0, nI (kl_Y KN ([]) + 1), nI (kl_F ([])), nI D, nI T, nI Pc, 0, cp, cf, mt, kd, tk, tp, sk, yoc, yof, ybt, ybp, sv, vr, ow, ed, wa, yh, vl, pe_P pr py Pc, mo, mb), fun P hP => xs_lv (g := 0) (w := 0) P (by omega) F0.2.1 (ax_leave_0 (q := 0) P (by omega) hP), fun Q hQ => ⟨1, yl_e2 hQ⟩, ?_⟩
  exact ⟨N, A, T, Pc, D, ob, nI A, nI 0, nI 0, nI 0, 0, nI A, nI 0, _, _, wv 0, oc, bt, ba, rd, ac, af, fa, fw, fv, wt, wd, pr, mc, of, sl, wv, yoc, ybt, ybp, ow, ed, wa, yh, mo, mb, yof, sv, vr, vl, rfl, rfl, Or.inl rfl, ⟨n9, n14⟩, B.2.2, fun _ => ⟨rfl, n8, H, hv⟩⟩
/-! a method is entered -/
theorem cf_act {tm o : Nat} {x y : Int64} {gx gy : Nat → Int64} (r : (rl_R NC NT N A T Pc D ob K cp cf mt op tk tp fp kd KN PN SZ oc of bt ba sl ac af fa fw fv wt wd wv mc yoc yof ybt ybp sv vr ow ed wa yh vl)) (hT : T < 200) (hF : kl_F K < 20) (ho : o < NC) (ht : tm < NT) (hr : kl_W K + kl_X KN K ≤ 100 * (kl_F K + 1)) (hs : vb_R ob N x y) (hg : ∀ j, j < 6 → vb_R ob N (gx j) (gy j)) (hm : 802 * (200 - (T + 1)) + (kl_C KN PN SZ K + 1) + 4 * SZ tm ≤ μ) : cf_V NC NT ns mn cp cf mt op tk tp fp sk kd py KN PN SZ μ (nI NC, nI NT, ns, mn, nI N, nI (A + 1), nI (kl_F ((false, A, 1) :: K)), nI (kl_W ((false, A, 1) :: K) + 1), nI (kl_X KN ((false, A, 1) :: K)), -1, rs, nI Pc, nI (T + 1), nI (ay_mx (kl_F K) D), cp, cf, mt, op, tk, tp, fp, sk, oc, of, bt, ba, rd, vp_updL (up_n sl (A * 7) gx 6) (A * 7 + 6) x, upd ac A (nI o), upd af A (nI (kl_F K + 1)), upd fa (kl_F K + 1) (nI A), upd fw (kl_F K + 1) (nI (kl_W K)), upd fv (kl_F K + 1) (nI (kl_X KN K)), upd wt (kl_W K) (nI tm), upd wd (kl_W K) 0, wv, pr, mc) (nI NC, nI NT, ns, mn, nI (cu_O ob N), nI (N - cu_O ob N), nI (A + 1), nI (kl_Q KN ((false, A, 1) :: K) + 1), nI (kl_Y KN ((false, A, 1) :: K)), nI (kl_F ((false, A, 1) :: K)), nI (ay_mx (kl_F K) D), nI (T + 1), nI Pc, -4, cp, cf, mt, kd, tk, tp, sk, yoc, yof, ybt, ybp, vp_updL sv A y, up_n vr (6 * A) gy 6, upd ow A (nI o), upd ed A 0, upd (upd wa (kl_Q KN K) (nI (1024 * A + 8 * 127 + 0))) (kl_Q KN K + 1) (nI (1024 * A + 8 * tm + 0)), upd (upd yh (kl_Q KN K) (nI (kl_Y KN K))) (kl_Q KN K + 1) (nI (kl_Y KN K)), vl, pe_P pr py Pc, mo, mb) ∨ cf_E NC NT ns mn cp cf mt op tk tp fp sk kd py KN PN SZ μ (nI NC, nI NT, ns, mn, nI N, nI (A + 1), nI (kl_F ((false, A, 1) :: K)), nI (kl_W ((false, A, 1) :: K) + 1), nI (kl_X KN ((false, A, 1) :: K)), -1, rs, nI Pc, nI (T + 1), nI (ay_mx (kl_F K) D), cp, cf, mt, op, tk, tp, fp, sk, oc, of, bt, ba, rd, vp_updL (up_n sl (A * 7) gx 6) (A * 7 + 6) x, upd ac A (nI o), upd af A (nI (kl_F K + 1)), upd fa (kl_F K + 1) (nI A), upd fw (kl_F K + 1) (nI (kl_W K)), upd fv (kl_F K + 1) (nI (kl_X KN K)), upd wt (kl_W K) (nI tm), upd wd (kl_W K) 0, wv, pr, mc) (nI NC, nI NT, ns, mn, nI (cu_O ob N), nI (N - cu_O ob N), nI (A + 1), nI (kl_Q KN ((false, A, 1) :: K) + 1), nI (kl_Y KN ((false, A, 1) :: K)), nI (kl_F ((false, A, 1) :: K)), nI (ay_mx (kl_F K) D), nI (T + 1), nI Pc, -4, cp, cf, mt, kd, tk, tp, sk, yoc, yof, ybt, ybp, vp_updL sv A y, up_n vr (6 * A) gy 6, upd ow A (nI o), upd ed A 0, upd (upd wa (kl_Q KN K) (nI (1024 * A + 8 * 127 + 0))) (kl_Q KN K + 1) (nI (1024 * A + 8 * tm + 0)), upd (upd yh (kl_Q KN K) (nI (kl_Y KN K))) (kl_Q KN K + 1) (nI (kl_Y KN K)), vl, pe_P pr py Pc, mo, mb) := by
  have z := rl_sz r ht
  obtain ⟨⟨n1, n2, n3, n4, n5⟩, ⟨n6, n7, n8, n9, n10, n11⟩, ⟨n12, n13, n14, n15, n16⟩, b, nb1, nb2⟩ := rl_n r
  obtain ⟨P, H, ⟨S, F0, AF⟩, B⟩ := r
  have mx : kl_F K + 1 ≤ ay_mx (kl_F K) D ∧ ay_mx (kl_F K) D ≤ 20 := by
    unfold ay_mx
    split <;> omega
  refine cf_Ei (K := (false, A, 1) :: K) (t := tm) (A := A + 1) (T := T + 1) (D := ay_mx (kl_F K) D) ⟨P, ⟨H.1, ?_, ?_⟩, ⟨⟨⟨by omega, by omega, fun _ => ⟨B.1.1, kl_L0 (Nat.le_refl _) S⟩, hr, hF⟩, pk_us, pk_us, pk_us, ?_, ?_, ?_⟩, ?_, ?_⟩, ⟨by omega, by omega, by omega⟩, ⟨n14, mx.1, mx.2⟩, B.2.2⟩ ⟨ht, ?_⟩ pk_us pk_us pk_us hm
  · intro t' h1 h2
    obtain ⟨tm', a', q1, q2, q3, q4⟩ := H.2.1 t' h1 h2
    exact ⟨tm', a', q1, q2, by omega, q4⟩
  · intro a' ha'
    by_cases e : a' = A
    · subst e
      refine ⟨?_, ?_, ?_, ?_⟩
      · rw [pk_uLs, pk_uLs]; exact hs
      · intro v hv
        rw [pk_uLn (by omega), up_in hv, up_in hv]; exact hg v hv
      · rw [pk_us, pk_us]
      · rw [pk_us]; exact Or.inr ⟨o, ho, rfl⟩
    · obtain ⟨h1, h2, h3, h4⟩ := H.2.2 a' (by omega)
      refine ⟨?_, ?_, ?_, ?_⟩
      · rw [pk_uLn (by omega), up_out (by omega), pk_uLn e]; exact h1
      · intro v hv
        rw [pk_uLn (by omega), up_out (by omega), up_out (by omega)]; exact h2 v hv
      · rw [pk_un e, pk_un e]; exact h3
      · rw [pk_un e]; exact h4
  · rw [pk_un (by omega), pk_us]
  · rw [pk_un (by omega), pk_us]
  · exact kl_cg (fun _ _ h => h) (by omega) (fun i hi => ⟨pk_un (by omega), pk_un (by omega)⟩) (fun i _ hi => ⟨pk_un (by omega), pk_un (by omega), pk_un (by omega)⟩) (fun _ _ => rfl) (fun i hi => ⟨by rw [pk_un (by omega), pk_un (by omega)], by rw [pk_un (by omega), pk_un (by omega)]⟩) (fun _ _ => rfl) S
  · exact ⟨by rw [pk_un (by omega)]; exact F0.1, by rw [pk_un (by omega)]; exact F0.2.1, by rw [pk_un (by omega)]; exact F0.2.2⟩
  · intro a' ha'
    by_cases e : a' = A
    · subst e
      rw [pk_us, pk_us]
      have q := kl_a1 B.1.1 (kl_Lf a' K)
      exact ⟨q.1.symm, q.2.symm⟩
    · rw [pk_un e, pk_un e]
      have z := AF a' (by omega)
      have q := kl_ae (kl_Ln (a := A) (b := a') (m := 1) (Or.inl (fun z => e z.symm)) K)
      exact ⟨z.1.trans q.1.symm, z.2.trans q.2.symm⟩
  · show kl_W K + kl_X KN K + SZ tm ≤ 100 * (kl_F K + 1 + 1)
    omega
theorem op_ga {s : Nat} {bx by_ : Nat} (h : ∀ j, j < s → vb_R ob N (wv (bx + j)) (vl (by_ + j))) : ∀ j, j < 6 → vb_R ob N (ax_ga s wv bx j) (ax_ga s vl by_ j) := by
  intro j hj
  unfold ax_ga
  by_cases z : j < s
  · rw [if_pos z, if_pos z]; exact h j z
  · rw [if_neg z, if_neg z]; exact Or.inl ⟨rfl, rfl⟩
theorem op_send {d s : Nat} (r : (rl_R NC NT N A T Pc D ob K cp cf mt op tk tp fp kd KN PN SZ oc of bt ba sl ac af fa fw fv wt wd wv mc yoc yof ybt ybp sv vr ow ed wa yh vl)) (E : en_F NT K KN SZ t d wt wd wa) (hd : d ≤ 3) (hf : pg_fp (KN t) ≤ d) (hs : s < 6) (hk : tk t = nI s) (ho : op t = 14) (hroom : s % 3 + 2 ≤ SZ t) (hY : ∀ P : SY → Prop, wpY_send P (nI NC, nI NT, ns, mn, nI (cu_O ob N), nI (N - cu_O ob N), nI A, nI (kl_Q KN K), nI (kl_Y KN K + 1 + s % 3), nI (kl_F K), nI D, nI T, nI Pc, -4, cp, cf, mt, kd, tk, tp, sk, yoc, yof, ybt, ybp, sv, vr, ow, ed, wa, yh, vl, pe_P pr py Pc, mo, mb) (nI s) (nI (s % 3)) → wpY_step P (nI NC, nI NT, ns, mn, nI (cu_O ob N), nI (N - cu_O ob N), nI A, nI (kl_Q KN K + 1), nI (kl_Y KN K + 1 + s % 3), nI (kl_F K), nI D, nI T, nI Pc, -4, cp, cf, mt, kd, tk, tp, sk, yoc, yof, ybt, ybp, sv, vr, ow, ed, wa, yh, vl, pe_P pr py Pc, mo, mb)) (hvs : ∀ j, j ≤ s % 3 → vb_R ob N (wv (kl_X KN K + j)) (vl (kl_Y KN K + j))) (hm : 802 * (200 - T) + kl_C KN PN SZ K + 1 < μ) : nx_S NC NT ns mn cp cf mt op tk tp fp sk kd py KN PN SZ μ (nI NC, nI NT, ns, mn, nI N, nI A, nI (kl_F K), nI (kl_W K + 1), nI (kl_X KN K + 1 + s % 3), -1, rs, nI Pc, nI T, nI D, cp, cf, mt, op, tk, tp, fp, sk, oc, of, bt, ba, rd, sl, ac, af, fa, fw, fv, wt, wd, wv, pr, mc) (nI NC, nI NT, ns, mn, nI (cu_O ob N), nI (N - cu_O ob N), nI A, nI (kl_Q KN K + 1), nI (kl_Y KN K + 1 + s % 3), nI (kl_F K), nI D, nI T, nI Pc, -4, cp, cf, mt, kd, tk, tp, sk, yoc, yof, ybt, ybp, sv, vr, ow, ed, wa, yh, vl, pe_P pr py Pc, mo, mb) := by
  obtain ⟨⟨n1, n2, n3, n4, n5⟩, ⟨n6, n7, n8, n9, n10, n11⟩, ⟨n12, n13, n14, n15, n16⟩, b, nb1, nb2⟩ := rl_n r
  have E' := E
  obtain ⟨⟨e1, e2⟩, e3, e4, e5⟩ := E
  have ht : t < 100 := by omega
  have hv := hvs 0 (by omega)
  rw [Nat.add_zero, Nat.add_zero] at hv
  by_cases h4 : vb_T (wv (kl_X KN K)) = 4
  · obtain ⟨o, ho1, h0, hx, hy⟩ := vB_4 hv h4
    obtain ⟨⟨c, hc, o1, o2⟩, _⟩ := r.2.1.1 o ho1 h0
    have g1 := cu_gt h0 ho1
    have g2 := cu_le ob N
    obtain ⟨h, hh, hX, hYY⟩ := lk_h (s := s) (args := nI (s % 3)) (rf := 1) (self := vb_pk 4 (nI (cu_g ob o))) (nc := nI NC) (nt := nI NT) (ns := ns) (mn := mn) (n := nI N) (na := nI A) (f := nI (kl_F K)) (ws := nI (kl_W K)) (vs := nI (kl_X KN K + 1 + s % 3)) (en := -1) (rs := rs) (pc := nI Pc) (tc := nI T) (dc := nI D) (op := op) (tk := tk) (tp := tp) (fp := fp) (sk := sk) (oc := oc) (of := of) (bt := bt) (ba := ba) (rd := rd) (sl := sl) (ac := ac) (af := af) (fa := fa) (fw := fw) (fv := fv) (wt := wt) (wd := wd) (wv := wv) (pr := pr) (mc := mc) (yc := nI NC) (yt := nI NT) (ys := ns) (ym := mn) (no := nI (cu_O ob N)) (nb := nI (N - cu_O ob N)) (ya := nI A) (yw := nI (kl_Q KN K)) (yv := nI (kl_Y KN K + 1 + s % 3)) (yu := nI (kl_F K)) (yo := nI D) (yk := nI T) (yp := nI Pc) (ye := -4) (ycf := cf) (kd := kd) (ytk := tk) (ytp := tp) (ysk := sk) (yoc := yoc) (yof := yof) (ybt := ybt) (ybp := ybp) (sv := sv) (vr := vr) (ow := ow) (ed := ed) (wa := wa) (yh := yh) (vl := vl) (ypr := pe_P pr py Pc) (mo := mo) (mb := mb) r.1.2.2.1 r.1.1 r.1.2.1 hs (c + 1) c 0 (by omega) hc (by omega)
    have fX : ∀ P : SX → Prop, wX_finishSend_50 P (nI s) (nI (s % 3 + 1)) (vb_pk 4 (nI o)) h (nI NC) (nI NT) ns mn (nI N) (nI A) (nI (kl_F K)) (nI (kl_W K)) (nI (kl_X KN K + 1 + s % 3)) (-1) rs (nI Pc) (nI T) (nI D) cp cf mt op tk tp fp sk oc of bt ba rd sl ac af fa fw fv wt wd wv pr mc → wpX_finish P (nI NC, nI NT, ns, mn, nI N, nI A, nI (kl_F K), nI (kl_W K + 1), nI (kl_X KN K + 1 + s % 3), -1, rs, nI Pc, nI T, nI D, cp, cf, mt, op, tk, tp, fp, sk, oc, of, bt, ba, rd, sl, ac, af, fa, fw, fv, wt, wd, wv, pr, mc) := fun P hP => ax_fin_14 P (by omega) ht e3 ho (by rw [hk]; exact lk_send_h P hs (by omega) hx (by omega) o1 (fun Q hQ => Exists.intro (c + 2) (hX Q (c + 2) (by omega) hQ)) hP)
    have fY : ∀ P : SY → Prop, wY_activate_35 P (nI s) (vb_pk 4 (nI (cu_g ob o))) (nI (s % 3)) 1 h (nI NC) (nI NT) ns mn (nI (cu_O ob N)) (nI (N - cu_O ob N)) (nI A) (nI (kl_Q KN K)) (nI (kl_Y KN K + 1 + s % 3)) (nI (kl_F K)) (nI D) (nI T) (nI Pc) (-4) cp cf mt kd tk tp sk yoc yof ybt ybp sv vr ow ed wa yh vl (pe_P pr py Pc) mo mb → wpY_step P (nI NC, nI NT, ns, mn, nI (cu_O ob N), nI (N - cu_O ob N), nI A, nI (kl_Q KN K + 1), nI (kl_Y KN K + 1 + s % 3), nI (kl_F K), nI D, nI T, nI Pc, -4, cp, cf, mt, kd, tk, tp, sk, yoc, yof, ybt, ybp, sv, vr, ow, ed, wa, yh, vl, pe_P pr py Pc, mo, mb) := fun P hP => hY P (lk_sendY_h P (by omega) hy (by omega) o2 (hYY P (c + 2) (by omega) hP))
    rcases hh with rfl | ⟨oc', tm, ho2, htm, rfl, hmt⟩
    · exact nx_UF r E' hf hd (fun P hP => fX P (lk_s50_s P hP)) (fun P hP => fY P (ay_a35_s P hP)) (by omega) (fr_n r (Or.inl rfl))
    · by_cases hT : T = 200
      · subst hT
        exact nx_UF r E' hf hd (fun P hP => fX P (lk_s50_t P (by omega) hP)) (fun P hP => fY P (ay_a35_t P (by omega) hP)) (by omega) (fr_n r (Or.inr (Or.inl rfl)))
      · by_cases hF : kl_F K = 20
        · exact nx_UF r E' hf hd (fun P hP => fX P (lk_s50_g P hF (by omega) (by omega) hP)) (fun P hP => fY P (ay_a35_g P hF (by omega) (by omega) (by omega) hs (by omega) (Or.inr ⟨by decide, rfl⟩) hmt hP)) (by omega) (fr_n r (Or.inr (Or.inr (Or.inl rfl))))
        · have z := rl_sz r htm
          exact nx_U r E' hf hd (fun P hP => fX P (lk_s50_f P (by omega) (by omega) (by omega) (ax_act P (fA := kl_X KN K + 1) (v := kl_X KN K) (by omega) (by omega) (by omega) (by omega) (by omega) hs (by omega) (by omega) hmt hP))) (fun P hP => fY P (ay_a35_f P (h' := kl_Y KN K) (by omega) (by omega) (by omega) (by omega) (by omega) (by omega) hs (by omega) (Or.inr ⟨by decide, rfl⟩) hmt hP)) (μ' := 802 * (200 - (T + 1)) + (kl_C KN PN SZ K + 1) + 4 * SZ tm) (by omega) (cf_act r (by omega) (by omega) ho2 htm (by omega) (Or.inr (Or.inr (Or.inr ⟨o, ho1, h0, rfl, rfl⟩))) (op_ga (fun j hj => by rw [Nat.add_assoc, Nat.add_assoc]; exact hvs (1 + j) (by omega))) (Nat.le_refl _))
  · have h4' : ¬ vb_T (vl (kl_Y KN K)) = 4 := by rw [← vB_T hv]; exact h4
    exact nx_UF r E' hf hd (fun P hP => ax_fin_14 P (by omega) ht e3 ho (by rw [hk]; exact lk_send_s P hs (by omega) h4 hP)) (fun P hP => hY P (lk_sendY_s P (by omega) h4' hP)) (by omega) (fr_n r (Or.inl rfl))
end
