theorem sg_pop {NC NT b : Nat} {mn : Int32} {cp cf mt op tk tp fp sk kd : Nat → Int32} {KN PN SZ G : Nat → Nat} (S : sg_S NC NT (b + 1) mn cp cf mt op tk tp fp sk kd KN PN SZ G) : sg_S NC NT b mn cp cf mt op tk tp fp sk kd KN PN SZ G := by
  obtain ⟨P, S2, S3, S4, S5⟩ := S
  refine ⟨P, by omega, fun i hi => S3 i (by omega), ?_, S5⟩
  have q : sg_sm SZ G (b + 1) = sg_sm SZ G b + SZ (G b) := rfl
  omega
theorem sg_top {NC NT b : Nat} {mn : Int32} {cp cf mt op tk tp fp sk kd : Nat → Int32} {KN PN SZ G : Nat → Nat} (S : sg_S NC NT (b + 1) mn cp cf mt op tk tp fp sk kd KN PN SZ G) : G b < NT ∧ sk b = nI (G b) := S.2.2.1 b (by omega)
theorem im_drop {u : SX} {v : SY} (I : rk_R u v) : wpX_drop (fun r u' => wpY_drop (fun r' v' => r' = r ∧ rk_R u' v') v) u := by
  obtain ⟨NC, NT, SP, KN, PN, SZ, G, mn, n, na, f, ws, vs, en, pc, tc, dc, no, nb, ya, yw, yv, yu, yo, yk, yp, ye, rs, cp, cf, mt, op, tk, tp, fp, sk, oc, bt, ba, rd, ac, af, fa, fw, fv, wt, wd, pr, mc, kd, yoc, ybt, ybp, ow, ed, wa, yh, ypr, mo, mb, of, sl, wv, yof, sv, vr, vl, rfl, rfl, S⟩ := I
  cases SP with
  | zero => exact br_f (by decide) (br_t rfl ⟨rfl, rk_i S⟩)
  | succ b =>
    have h8 : b + 1 ≤ 8 := S.2.1
    exact br_t (nI_le (a := 1) (by omega) (by omega)) (nm_r (nI_pred b) (br_f (nI_ne0 (by omega) (by omega)) (nm_r (nI_pred b) ⟨rfl, rk_i (sg_pop S)⟩)))
theorem im_main {u : SX} {v : SY} (I : rk_R u v) : wpX_main (fun r u' => wpY_main (fun r' v' => r' = r ∧ rk_R u' v') v) u := by
  obtain ⟨NC, NT, SP, KN, PN, SZ, G, mn, n, na, f, ws, vs, en, pc, tc, dc, no, nb, ya, yw, yv, yu, yo, yk, yp, ye, rs, cp, cf, mt, op, tk, tp, fp, sk, oc, bt, ba, rd, ac, af, fa, fw, fv, wt, wd, pr, mc, kd, yoc, ybt, ybp, ow, ed, wa, yh, ypr, mo, mb, of, sl, wv, yof, sv, vr, vl, rfl, rfl, S⟩ := I
  cases SP with
  | zero => exact br_f (by decide) (br_t rfl ⟨rfl, rk_i S⟩)
  | succ b =>
    have h8 : b + 1 ≤ 8 := S.2.1
    have T := sg_top S
    have S' : sg_S NC NT b (sk b) cp cf mt op tk tp fp sk kd KN PN SZ G := by
      obtain ⟨P, S2, S3, S4, S5⟩ := sg_pop S
      exact ⟨P, S2, S3, S4, Or.inr ⟨G b, T.1, T.2⟩⟩
    exact br_t (nI_le (a := 1) (by omega) (by omega)) (nm_r (nI_pred b) (And.intro (vp_in_nI (by omega) (by decide)) (nm_r (e' := sk b) (by rw [nI_clamp (by omega)]) (br_f (nI_ne0 (by omega) (by omega)) (nm_r (nI_pred b) (And.intro (vp_in_nI (by omega) (by decide)) (nm_r (e' := sk b) (by rw [nI_clamp (by omega)]) ⟨rfl, rk_i S'⟩)))))))
theorem im_depth {u : SX} {v : SY} (I : rk_R u v) : wpX_depth (fun r => wpY_depth (fun r' => r' = r ∧ rk_R u v) v) u := by
  have I' := I
  obtain ⟨NC, NT, SP, KN, PN, SZ, G, mn, n, na, f, ws, vs, en, pc, tc, dc, no, nb, ya, yw, yv, yu, yo, yk, yp, ye, rs, cp, cf, mt, op, tk, tp, fp, sk, oc, bt, ba, rd, ac, af, fa, fw, fv, wt, wd, pr, mc, kd, yoc, ybt, ybp, ow, ed, wa, yh, ypr, mo, mb, of, sl, wv, yof, sv, vr, vl, rfl, rfl, S⟩ := I
  exact ⟨rfl, I'⟩
theorem im_tidy {u : SX} {v : SY} (I : rk_R u v) (v1 : Int32) : wpX_tidy (fun r => wpY_tidy (fun r' => r' = r ∧ rk_R u v) v v1) u v1 := by
  have I' := I
  obtain ⟨NC, NT, SP, KN, PN, SZ, G, mn, n, na, f, ws, vs, en, pc, tc, dc, no, nb, ya, yw, yv, yu, yo, yk, yp, ye, rs, cp, cf, mt, op, tk, tp, fp, sk, oc, bt, ba, rd, ac, af, fa, fw, fv, wt, wd, pr, mc, kd, yoc, ybt, ybp, ow, ed, wa, yh, ypr, mo, mb, of, sl, wv, yof, sv, vr, vl, rfl, rfl, S⟩ := I
  by_cases h : v1 < 1
  · exact br_t h (br_t h ⟨rfl, I'⟩)
  · by_cases z : 50 < v1
    · exact br_f h (br_t z (br_f h (br_f (fun y => absurd z (Int32.not_lt.mpr y)) ⟨rfl, I'⟩)))
    · exact br_f h (br_f z (br_f h (br_t (Int32.not_lt.mp z) ⟨rfl, I'⟩)))
theorem sg_0 {cp cf mt op tk tp fp sk kd : Nat → Int32} : sg_S 0 0 0 (-1) cp cf mt op tk tp fp sk kd (fun _ => 0) (fun _ => 0) (fun _ => 0) (fun _ => 0) :=
  ⟨⟨by omega, by omega, fun c hc => absurd hc (Nat.not_lt_zero _), fun t ht => absurd ht (Nat.not_lt_zero _)⟩, by omega, fun i hi => absurd hi (Nat.not_lt_zero _), Nat.le_refl _, Or.inl rfl⟩
theorem im_forget {u : SX} {v : SY} (I : rk_R u v) : wpX_forget (fun u' => wpY_forget (fun v' => rk_R u' v') v) u := by
  obtain ⟨NC, NT, SP, KN, PN, SZ, G, mn, n, na, f, ws, vs, en, pc, tc, dc, no, nb, ya, yw, yv, yu, yo, yk, yp, ye, rs, cp, cf, mt, op, tk, tp, fp, sk, oc, bt, ba, rd, ac, af, fa, fw, fv, wt, wd, pr, mc, kd, yoc, ybt, ybp, ow, ed, wa, yh, ypr, mo, mb, of, sl, wv, yof, sv, vr, vl, rfl, rfl, S⟩ := I
  exact rk_i (NC := 0) (NT := 0) (SP := 0) sg_0
theorem im_init : wpX_init (fun u => wpY_init (fun v => rk_R u v)) :=
  rk_i (NC := 0) (NT := 0) (SP := 0) sg_0
theorem mt_i6 {c s : Nat} : nI c * 6 + nI s = nI (6 * c + s) := by
  rw [show (6 : Int32) = nI 6 from rfl, pk_mul, nI_add, Nat.mul_comm]
theorem mt_j6 {c s : Nat} : 6 * nI c + nI s = nI (6 * c + s) := by
  rw [show (6 : Int32) = nI 6 from rfl, pk_mul, nI_add]
section
variable {yc yt ys ym no nb ya yw yv yu yo yk yp ye : Int32} {ycp ycf ymt kd ytk ytp ysk yoc ybt ybp ow ed wa yh ypr mo mb : Nat → Int32} {yof sv vr vl : Nat → Int64}
variable {NC : Nat}
theorem mm_0 (post : Int32 → SY → Prop) {v1 v2 : Int32} (hN : NC ≤ 6) (hr : fi_R NC v1 0) (hp : post (-1) (nI NC, yt, ys, ym, no, nb, ya, yw, yv, yu, yo, yk, yp, ye, ycp, ycf, ymt, kd, ytk, ytp, ysk, yoc, yof, ybt, ybp, sv, vr, ow, ed, wa, yh, vl, ypr, mo, mb)) : wpY_method post (nI NC, yt, ys, ym, no, nb, ya, yw, yv, yu, yo, yk, yp, ye, ycp, ycf, ymt, kd, ytk, ytp, ysk, yoc, yof, ybt, ybp, sv, vr, ow, ed, wa, yh, vl, ypr, mo, mb) v1 v2 := by
  unfold wpY_method
  exact fy_cls _ hN hr (br_t rfl hp)
theorem mm_1 (post : Int32 → SY → Prop) {v1 v2 : Int32} (hN : NC ≤ 6) (hr : fi_R NC v1 1) (hs : fi_R 6 v2 0) (hp : post (-1) (nI NC, yt, ys, ym, no, nb, ya, yw, yv, yu, yo, yk, yp, ye, ycp, ycf, ymt, kd, ytk, ytp, ysk, yoc, yof, ybt, ybp, sv, vr, ow, ed, wa, yh, vl, ypr, mo, mb)) : wpY_method post (nI NC, yt, ys, ym, no, nb, ya, yw, yv, yu, yo, yk, yp, ye, ycp, ycf, ymt, kd, ytk, ytp, ysk, yoc, yof, ybt, ybp, sv, vr, ow, ed, wa, yh, vl, ypr, mo, mb) v1 v2 := by
  unfold wpY_method
  exact fy_cls _ hN hr (br_f (by decide) (fy_in (m := 5) _ (by decide) hs (br_t rfl hp)))
theorem mm_2 (post : Int32 → SY → Prop) {v1 v2 : Int32} (hN : NC ≤ 6) (hr : fi_R NC v1 1) (hs : fi_R 6 v2 1) (hp : post (-3) (nI NC, yt, nI 0, ym, no, nb, ya, yw, yv, yu, yo, yk, yp, ye, ycp, ycf, ymt, kd, ytk, ytp, ysk, yoc, yof, ybt, ybp, sv, vr, ow, ed, wa, yh, vl, ypr, mo, mb)) : wpY_method post (nI NC, yt, nI 0, ym, no, nb, ya, yw, yv, yu, yo, yk, yp, ye, ycp, ycf, ymt, kd, ytk, ytp, ysk, yoc, yof, ybt, ybp, sv, vr, ow, ed, wa, yh, vl, ypr, mo, mb) v1 v2 := by
  unfold wpY_method
  exact fy_cls _ hN hr (br_f (by decide) (fy_in (m := 5) _ (by decide) hs (br_f (by decide) (br_t rfl hp))))
theorem mm_3 (post : Int32 → SY → Prop) {b c j : Nat} (hN : NC ≤ 6) (hb : b < 8) (hc : c < NC) (hj : j < 6) (hr : fi_R NC (nI c) 1) (hs : fi_R 6 (nI j) 1) (hp : post (nI b) (nI NC, yt, nI b, ym, no, nb, ya, yw, yv, yu, yo, yk, yp, ye, ycp, ycf, upd ymt (6 * c + j) (ysk b), kd, ytk, ytp, ysk, yoc, yof, ybt, ybp, sv, vr, ow, ed, wa, yh, vl, ypr, mo, mb)) : wpY_method post (nI NC, yt, nI (b + 1), ym, no, nb, ya, yw, yv, yu, yo, yk, yp, ye, ycp, ycf, ymt, kd, ytk, ytp, ysk, yoc, yof, ybt, ybp, sv, vr, ow, ed, wa, yh, vl, ypr, mo, mb) (nI c) (nI j) := by
  unfold wpY_method
  exact fy_cls _ hN hr (br_f (by decide) (fy_in (m := 5) _ (by decide) hs (br_f (by decide) (br_f (nI_ne0 (by omega) (by omega)) (nm_r (nI_pred b) (And.intro (vp_in_nI (by omega) (by decide)) (And.intro (by rw [mt_j6]; exact vp_in_nI (by omega) (by decide)) (nm_r (e' := upd ymt (6 * c + j) (ysk b)) (by rw [mt_j6, nI_clamp (by omega), nI_clamp (by omega)]) hp))))))))
end
theorem im_method {u : SX} {v : SY} (I : rk_R u v) (v1 v2 : Int32) : wpX_method (fun r u' => wpY_method (fun r' v' => r' = r ∧ rk_R u' v') v v1 v2) u v1 v2 := by
  obtain ⟨NC, NT, SP, KN, PN, SZ, G, mn, n, na, f, ws, vs, en, pc, tc, dc, no, nb, ya, yw, yv, yu, yo, yk, yp, ye, rs, cp, cf, mt, op, tk, tp, fp, sk, oc, bt, ba, rd, ac, af, fa, fw, fv, wt, wd, pr, mc, kd, yoc, ybt, ybp, ow, ed, wa, yh, ypr, mo, mb, of, sl, wv, yof, sv, vr, vl, rfl, rfl, S⟩ := I
  have hN : NC ≤ 6 := S.1.1
  have hT : NT ≤ 100 := S.1.2.1
  have h8 : SP ≤ 8 := S.2.1
  obtain ⟨r, hr⟩ := fi_ex NC v1
  obtain ⟨s, hs⟩ := fi_ex 6 v2
  unfold wpX_method
  refine fx_cls _ hN hr ?_
  rcases fi_01 hr with rfl | ⟨rfl, c, hc, rfl⟩
  · exact br_t rfl (mm_0 _ hN hr ⟨rfl, rk_i S⟩)
  · refine br_f (by decide) ?_
    have hs' := hs
    rcases hs with ⟨rfl, h⟩ | ⟨j, hj, rfl, ⟨rfl, h⟩ | ⟨rfl, h⟩⟩
    · exact br_t h (mm_1 _ hN hr hs' ⟨rfl, rk_i S⟩)
    · exact br_f (nI_pos hj) (br_f (nI_nlt (b := 6) h hj) (mm_1 _ hN hr hs' ⟨rfl, rk_i S⟩))
    · refine br_f (nI_pos hj) (br_t (nI_lt (b := 6) h (by decide)) ?_)
      cases SP with
      | zero => exact br_f (by decide) (mm_2 _ hN hr hs' ⟨rfl, rk_i S⟩)
      | succ b =>
        have T := sg_top S
        have S' : sg_S NC NT b mn cp cf (upd mt (6 * c + j) (sk b)) op tk tp fp sk kd KN PN SZ G := by
          obtain ⟨⟨P1, P2, P3, P4⟩, S2, S3, S4, S5⟩ := sg_pop S
          refine ⟨⟨P1, P2, fun d hd => ?_, P4⟩, S2, S3, S4, S5⟩
          obtain ⟨a1, a2, a3⟩ := P3 d hd
          refine ⟨a1, a2, fun i hi => ?_⟩
          by_cases e : 6 * d + i = 6 * c + j
          · rw [e, pk_us]
            exact Or.inr ⟨G b, T.1, T.2⟩
          · rw [pk_un e]
            exact a3 i hi
        exact br_t (nI_le (a := 1) (by omega) (by omega)) (nm_r (nI_pred b) (And.intro (vp_in_nI (by omega) (by decide)) (And.intro (by rw [mt_i6]; exact vp_in_nI (by omega) (by decide)) (nm_r (e' := upd mt (6 * c + j) (sk b)) (by rw [mt_i6, nI_clamp (by omega), nI_clamp (by omega)]) (mm_3 _ hN (by omega) hc h hr hs' ⟨rfl, rk_i S'⟩)))))
/-! newClass -/
def mu_n (mt : Nat → Int32) (c : Nat) : Nat → Nat → Int32
  | 0 => mt
  | i + 1 => upd (mu_n mt c i) (c + i) (-1)
theorem mu_in {mt : Nat → Int32} {c : Nat} : ∀ {p j : Nat}, j < p → mu_n mt c p (c + j) = -1
  | 0, _, h => absurd h (Nat.not_lt_zero _)
  | p + 1, j, h => by
    show upd (mu_n mt c p) (c + p) (-1) (c + j) = -1
    by_cases e : j = p
    · subst e; exact pk_us
    · rw [pk_un (by omega)]; exact mu_in (by omega)
theorem mu_out {mt : Nat → Int32} {c i : Nat} (h : i < c) : ∀ {p : Nat}, mu_n mt c p i = mt i
  | 0 => rfl
  | p + 1 => by
    show upd (mu_n mt c p) (c + p) (-1) i = mt i
    rw [pk_un (by omega)]; exact mu_out h
theorem nc_S {NC NT SP F : Nat} {mn x : Int32} {cp cf mt op tk tp fp sk kd : Nat → Int32} {KN PN SZ G : Nat → Nat} (S : sg_S NC NT SP mn cp cf mt op tk tp fp sk kd KN PN SZ G) (hN : NC < 6) (hF : F ≤ 4) (hx : x = -1 ∨ ∃ p, p < NC ∧ x = nI p) : sg_S (NC + 1) NT SP mn (upd cp NC x) (upd cf NC (nI F)) (mu_n mt (6 * NC) 6) op tk tp fp sk kd KN PN SZ G := by
  obtain ⟨⟨P1, P2, P3, P4⟩, S2, S3, S4, S5⟩ := S
  refine ⟨⟨by omega, P2, fun c hc => ?_, fun t ht => ?_⟩, S2, S3, S4, S5⟩
  · unfold pg_C
    by_cases e : c = NC
    · subst e
      rw [pk_us, pk_us]
      exact ⟨hx, ⟨F, hF, rfl⟩, fun s hs => Or.inl (mu_in hs)⟩
    · have C := P3 c (by omega)
      unfold pg_C at C
      rw [pk_un e, pk_un e]
      refine ⟨C.1, C.2.1, fun s hs => ?_⟩
      rw [mu_out (by omega)]
      exact C.2.2 s hs
  · obtain ⟨t1, t2, t3, t4, t5, t6⟩ := P4 t ht
    exact ⟨t1, t2, t3, t4, bu_k (by omega) t5, t6⟩
section
variable {nc nt ns mn n na f ws vs en pc tc dc : Int32} {rs : Int64} {cp cf mt op tk tp fp sk oc bt ba rd ac af fa fw fv wt wd pr mc : Nat → Int32} {of sl wv : Nat → Int64}
variable {NC : Nat}
theorem nc_xl (post : Int32 → SX → Prop) (hN : NC < 6) (hp : post (nI NC) (nI (NC + 1), nt, ns, mn, n, na, f, ws, vs, en, rs, pc, tc, dc, cp, cf, mu_n mt (6 * NC) 6, op, tk, tp, fp, sk, oc, of, bt, ba, rd, sl, ac, af, fa, fw, fv, wt, wd, wv, pr, mc)) : ∀ e k : Nat, k + e = 6 → wX_newClass_88 post (nI NC) (nI NC) nt ns mn n na f ws vs en rs pc tc dc (e + 1) (nI k) cp cf (mu_n mt (6 * NC) k) op tk tp fp sk oc of bt ba rd sl ac af fa fw fv wt wd wv pr mc := by
  intro e
  induction e with
  | zero =>
    intro k h
    have : k = 6 := by omega
    subst this
    exact br_t (by decide) (nm_r (nI_1 NC) hp)
  | succ e ih =>
    intro k h
    exact br_f (nI_ge (b := 6) (by omega) (by decide)) (And.intro (by rw [mt_i6]; exact vp_in_nI (by omega) (by decide)) (nm_r (e' := mu_n mt (6 * NC) (k + 1)) (by rw [mt_i6, nI_clamp (by omega)]; rfl) (nm_r (nI_1 k) (ih (k + 1) (by omega)))))
theorem nc_x1 (post : Int32 → SX → Prop) {F : Nat} {x : Int32} (hF : 4 < F) (hF' : F < 100) (hp : post (-1) (nc, nt, ns, mn, n, na, f, ws, vs, en, rs, pc, tc, dc, cp, cf, mt, op, tk, tp, fp, sk, oc, of, bt, ba, rd, sl, ac, af, fa, fw, fv, wt, wd, wv, pr, mc)) : wX_newClass_43 post x (nI F) nc nt ns mn n na f ws vs en rs pc tc dc cp cf mt op tk tp fp sk oc of bt ba rd sl ac af fa fw fv wt wd wv pr mc :=
  br_f (nI_ge (a := 4) hF (by omega)) hp
theorem nc_x2 (post : Int32 → SX → Prop) {F : Nat} {x : Int32} (hF : F ≤ 4) (hp : post (-2) (nI 6, nt, ns, mn, n, na, f, ws, vs, en, rs, pc, tc, dc, cp, cf, mt, op, tk, tp, fp, sk, oc, of, bt, ba, rd, sl, ac, af, fa, fw, fv, wt, wd, wv, pr, mc)) : wX_newClass_43 post x (nI F) (nI 6) nt ns mn n na f ws vs en rs pc tc dc cp cf mt op tk tp fp sk oc of bt ba rd sl ac af fa fw fv wt wd wv pr mc :=
  br_t (nI_le (b := 4) hF (by decide)) (br_f (by decide) hp)
theorem nc_x3 (post : Int32 → SX → Prop) {F : Nat} {x : Int32} (hF : F ≤ 4) (hN : NC < 6) (hp : post (nI NC) (nI (NC + 1), nt, ns, mn, n, na, f, ws, vs, en, rs, pc, tc, dc, upd cp NC x, upd cf NC (nI F), mu_n mt (6 * NC) 6, op, tk, tp, fp, sk, oc, of, bt, ba, rd, sl, ac, af, fa, fw, fv, wt, wd, wv, pr, mc)) : wX_newClass_43 post x (nI F) (nI NC) nt ns mn n na f ws vs en rs pc tc dc cp cf mt op tk tp fp sk oc of bt ba rd sl ac af fa fw fv wt wd wv pr mc :=
  br_t (nI_le (b := 4) hF (by decide)) (br_t (nI_lt (b := 6) hN (by decide)) (And.intro (vp_in_nI hN (by decide)) (nm_r (e' := upd cp NC x) (by rw [nI_clamp (by omega)]) (And.intro (vp_in_nI hN (by decide)) (nm_r (e' := upd cf NC (nI F)) (by rw [nI_clamp (by omega)]) (Exists.intro 7 (nc_xl post hN hp 6 0 rfl)))))))
end
section
variable {yc yt ys ym no nb ya yw yv yu yo yk yp ye : Int32} {ycp ycf ymt kd ytk ytp ysk yoc ybt ybp ow ed wa yh ypr mo mb : Nat → Int32} {yof sv vr vl : Nat → Int64}
variable {NC : Nat}
theorem nc_yl (post : Int32 → SY → Prop) (hN : NC < 6) (hp : post (nI NC) (nI (NC + 1), yt, ys, ym, no, nb, ya, yw, yv, yu, yo, yk, yp, ye, ycp, ycf, mu_n ymt (6 * NC) 6, kd, ytk, ytp, ysk, yoc, yof, ybt, ybp, sv, vr, ow, ed, wa, yh, vl, ypr, mo, mb)) : ∀ e k : Nat, k + e = 6 → wY_newClass_83 post (nI NC) yt ys ym no nb ya yw yv yu yo yk yp ye (e + 1) (nI k) ycp ycf (mu_n ymt (6 * NC) k) kd ytk ytp ysk yoc yof ybt ybp sv vr ow ed wa yh vl ypr mo mb := by
  intro e
  induction e with
  | zero =>
    intro k h
    have : k = 6 := by omega
    subst this
    exact br_t (by decide) (nm_r (nI_1 NC) (by rw [nI_pred]; exact hp))
  | succ e ih =>
    intro k h
    exact br_f (nI_ge (b := 6) (by omega) (by decide)) (And.intro (by rw [mt_j6]; exact vp_in_nI (by omega) (by decide)) (nm_r (e' := mu_n ymt (6 * NC) (k + 1)) (by rw [mt_j6, nI_clamp (by omega)]; rfl) (nm_r (nI_1 k) (ih (k + 1) (by omega)))))
theorem nc_y1 (post : Int32 → SY → Prop) {F : Nat} {x z0 z1 : Int32} (hz : z1 + z0 = nI F) (hF : 4 < F) (hF' : F < 100) (hp : post (-1) (yc, yt, ys, ym, no, nb, ya, yw, yv, yu, yo, yk, yp, ye, ycp, ycf, ymt, kd, ytk, ytp, ysk, yoc, yof, ybt, ybp, sv, vr, ow, ed, wa, yh, vl, ypr, mo, mb)) : wY_newClass_39 post x z0 z1 yc yt ys ym no nb ya yw yv yu yo yk yp ye ycp ycf ymt kd ytk ytp ysk yoc yof ybt ybp sv vr ow ed wa yh vl ypr mo mb :=
  nm_r hz (br_f (nI_ge (a := 4) hF (by omega)) hp)
theorem nc_y2 (post : Int32 → SY → Prop) {F : Nat} {x z0 z1 : Int32} (hz : z1 + z0 = nI F) (hF : F ≤ 4) (hp : post (-2) (nI 6, yt, ys, ym, no, nb, ya, yw, yv, yu, yo, yk, yp, ye, ycp, ycf, ymt, kd, ytk, ytp, ysk, yoc, yof, ybt, ybp, sv, vr, ow, ed, wa, yh, vl, ypr, mo, mb)) : wY_newClass_39 post x z0 z1 (nI 6) yt ys ym no nb ya yw yv yu yo yk yp ye ycp ycf ymt kd ytk ytp ysk yoc yof ybt ybp sv vr ow ed wa yh vl ypr mo mb :=
  nm_r hz (br_t (nI_le (b := 4) hF (by decide)) (br_t (by decide) hp))
theorem nc_y3 (post : Int32 → SY → Prop) {F : Nat} {x z0 z1 : Int32} (hz : z1 + z0 = nI F) (hF : F ≤ 4) (hN : NC < 6) (hp : post (nI NC) (nI (NC + 1), yt, ys, ym, no, nb, ya, yw, yv, yu, yo, yk, yp, ye, upd ycp NC x, upd ycf NC (nI F), mu_n ymt (6 * NC) 6, kd, ytk, ytp, ysk, yoc, yof, ybt, ybp, sv, vr, ow, ed, wa, yh, vl, ypr, mo, mb)) : wY_newClass_39 post x z0 z1 (nI NC) yt ys ym no nb ya yw yv yu yo yk yp ye ycp ycf ymt kd ytk ytp ysk yoc yof ybt ybp sv vr ow ed wa yh vl ypr mo mb :=
  nm_r hz (br_t (nI_le (b := 4) hF (by decide)) (br_f (ay_nIne (b := 6) (by omega) (by omega) (by decide)) (And.intro (vp_in_nI hN (by decide)) (nm_r (e' := upd ycp NC x) (by rw [nI_clamp (by omega)]) (And.intro (vp_in_nI hN (by decide)) (nm_r (e' := upd ycf NC (nI F)) (by rw [nI_clamp (by omega)]) (Exists.intro 7 (nc_yl post hN hp 6 0 rfl))))))))
end
theorem nc_m1 {n : Nat} (h : n ≤ 6) : ¬ nI n ≤ -1 := fun z => by
  rw [Int32.le_iff_toInt_le, nI_toInt (by omega), show (-1 : Int32).toInt = -1 from by decide] at z
  omega
theorem nc_go {NC NT SP F : Nat} {KN PN SZ G : Nat → Nat} {mn n na f ws vs en pc tc dc no nb ya yw yv yu yo yk yp ye : Int32} {rs : Int64} {cp cf mt op tk tp fp sk oc bt ba rd ac af fa fw fv wt wd pr mc kd yoc ybt ybp ow ed wa yh ypr mo mb : Nat → Int32} {of sl wv yof sv vr vl : Nat → Int64} {x z0 z1 v1 v2 : Int32} (S : sg_S NC NT SP mn cp cf mt op tk tp fp sk kd KN PN SZ G) (hF : F < 100) (hx : x = -1 ∨ ∃ p, p < NC ∧ x = nI p) (hz : z1 + z0 = nI F) (hY : ∀ post : Int32 → SY → Prop, wY_newClass_39 post x z0 z1 (nI NC) (nI NT) (nI SP) mn no nb ya yw yv yu yo yk yp ye cp cf mt kd tk tp sk yoc yof ybt ybp sv vr ow ed wa yh vl ypr mo mb → wpY_newClass post (nI NC, nI NT, nI SP, mn, no, nb, ya, yw, yv, yu, yo, yk, yp, ye, cp, cf, mt, kd, tk, tp, sk, yoc, yof, ybt, ybp, sv, vr, ow, ed, wa, yh, vl, ypr, mo, mb) v1 v2) : wX_newClass_43 (fun r u' => wpY_newClass (fun r' v' => r' = r ∧ rk_R u' v') (nI NC, nI NT, nI SP, mn, no, nb, ya, yw, yv, yu, yo, yk, yp, ye, cp, cf, mt, kd, tk, tp, sk, yoc, yof, ybt, ybp, sv, vr, ow, ed, wa, yh, vl, ypr, mo, mb) v1 v2) x (nI F) (nI NC) (nI NT) (nI SP) mn n na f ws vs en rs pc tc dc cp cf mt op tk tp fp sk oc of bt ba rd sl ac af fa fw fv wt wd wv pr mc := by
  have hN : NC ≤ 6 := S.1.1
  by_cases h4 : 4 < F
  · exact nc_x1 _ h4 hF (hY _ (nc_y1 _ hz h4 hF ⟨rfl, rk_i S⟩))
  · by_cases e : NC = 6
    · subst e
      exact nc_x2 _ (by omega) (hY _ (nc_y2 _ hz (by omega) ⟨rfl, rk_i S⟩))
    · exact nc_x3 _ (by omega) (by omega) (hY _ (nc_y3 _ hz (by omega) (by omega) ⟨rfl, rk_i (nc_S S (by omega) (by omega) hx)⟩))
theorem im_newClass {u : SX} {v : SY} (I : rk_R u v) (v1 v2 : Int32) : wpX_newClass (fun r u' => wpY_newClass (fun r' v' => r' = r ∧ rk_R u' v') v v1 v2) u v1 v2 := by
  obtain ⟨NC, NT, SP, KN, PN, SZ, G, mn, n, na, f, ws, vs, en, pc, tc, dc, no, nb, ya, yw, yv, yu, yo, yk, yp, ye, rs, cp, cf, mt, op, tk, tp, fp, sk, oc, bt, ba, rd, ac, af, fa, fw, fv, wt, wd, pr, mc, kd, yoc, ybt, ybp, ow, ed, wa, yh, ypr, mo, mb, of, sl, wv, yof, sv, vr, vl, rfl, rfl, S⟩ := I
  have hN : NC ≤ 6 := S.1.1
  have hT : NT ≤ 100 := S.1.2.1
  have h8 : SP ≤ 8 := S.2.1
  by_cases hm : v1 = -1
  · subst hm
    refine br_t rfl ?_
    by_cases h : v2 < 0
    · exact br_t h (br_f (by decide) (br_f (nc_m1 hN) (br_t h ⟨rfl, rk_i S⟩)))
    · obtain ⟨o, ho, rfl⟩ := nI_of h
      by_cases h4 : 4 < o
      · exact br_f h (br_f (nI_ge (a := 4) h4 ho) (br_f (by decide) (br_f (nc_m1 hN) (br_f h (br_f (nI_ge (a := 4) h4 ho) ⟨rfl, rk_i S⟩)))))
      · exact br_f h (br_t (nI_le (b := 4) (by omega) (by decide)) (br_t rfl (nc_go (F := o) (z0 := 0) (z1 := nI o) S (by omega) (Or.inl rfl) (nI_add o 0) (fun post hp => br_f (by decide) (br_f (nc_m1 hN) (br_f h (br_t (nI_le (b := 4) (by omega) (by decide)) (br_f (by decide) hp))))))))
  · refine br_f hm ?_
    obtain ⟨r, hr⟩ := fi_ex NC v1
    refine fx_cls _ hN hr ?_
    rcases hr with ⟨rfl, h⟩ | ⟨j, hj, rfl, ⟨rfl, h⟩ | ⟨rfl, h⟩⟩
    · exact br_t rfl (br_t (fb_m h hm) ⟨rfl, rk_i S⟩)
    · exact br_t rfl (br_f (fi_nm1 (nI_pos hj)) (br_t (nI_le h hj) ⟨rfl, rk_i S⟩))
    · refine br_f (by decide) ?_
      obtain ⟨fj, hfj, ef⟩ := (S.1.2.2.1 j h).2.1
      by_cases h0 : v2 < 0
      · exact br_t h0 (br_f (fi_nm1 (nI_pos hj)) (br_f (nI_ge h (by omega)) (br_t h0 ⟨rfl, rk_i S⟩)))
      · obtain ⟨o, ho, rfl⟩ := nI_of h0
        by_cases h4 : 4 < o
        · exact br_f h0 (br_f (nI_ge (a := 4) h4 ho) (br_f (fi_nm1 (nI_pos hj)) (br_f (nI_ge h (by omega)) (br_f h0 (br_f (nI_ge (a := 4) h4 ho) ⟨rfl, rk_i S⟩)))))
        · have ea : nI o + cf (nI j).toNatClampNeg = nI (o + fj) := by rw [nI_clamp hj, ef, nI_add]
          refine br_f h0 (br_t (nI_le (b := 4) (by omega) (by decide)) (br_f hm (And.intro (vp_in_nI (by omega) (by decide)) ?_)))
          rw [ea]
          exact nc_go (F := o + fj) (z0 := cf (nI j).toNatClampNeg) (z1 := nI o) S (by omega) (Or.inr ⟨j, h, rfl⟩) ea (fun post hp => br_f (fi_nm1 (nI_pos hj)) (br_f (nI_ge h (by omega)) (br_f h0 (br_t (nI_le (b := 4) (by omega) (by decide)) (br_t (nI_pos' hj) (And.intro (vp_in_nI (by omega) (by decide)) hp))))))
