section
variable {nc nt ns mn n na f ws vs en pc tc dc : Int32} {rs : Int64} {cp cf mt op tk tp fp sk oc bt ba rd ac af fa fw fv wt wd pr mc : Nat → Int32} {of sl wv : Nat → Int64}
variable {NC NT : Nat}
theorem mk_x (post : Int32 → SX → Prop) {b p kn : Nat} {o x : Int32} (hv : pg_v kn) (hkp : kn / 10 = p) (ho : o = nI (pg_op kn)) (ht : NT < 100) (hb : b + p ≤ 8) (hb8 : b < 8) (hp : post (nI (b + 1)) (nI NC, nI (NT + 1), nI (b + 1), mn, n, na, f, ws, vs, en, rs, pc, tc, dc, cp, cf, mt, upd op NT (nI (pg_op kn)), upd tk NT x, bu_n tp sk (3 * NT) b p, upd fp NT (nI (pg_fp kn)), upd sk b (nI NT), oc, of, bt, ba, rd, sl, ac, af, fa, fw, fv, wt, wd, wv, pr, mc)) : wpX_build post (nI NC, nI NT, nI (b + p), mn, n, na, f, ws, vs, en, rs, pc, tc, dc, cp, cf, mt, op, tk, tp, fp, sk, oc, of, bt, ba, rd, sl, ac, af, fa, fw, fv, wt, wd, wv, pr, mc) o x (nI p) := by
  have l := (pg_fpl hv).2
  subst ho
  exact bu_x post (by omega) ht hb hb8 (fun Q hQ => by rw [← hkp]; exact bu_fp hv Q hQ) hp
end
section
variable {yc yt ys ym no nb ya yw yv yu yo yk yp ye : Int32} {ycp ycf ymt kd ytk ytp ysk yoc ybt ybp ow ed wa yh ypr mo mb : Nat → Int32} {yof sv vr vl : Nat → Int64}
variable {NT : Nat}
theorem mk_y (post : Int32 → SY → Prop) {b p kn : Nat} {kk x : Int32} (hv : pg_v kn) (hkp : kn / 10 = p) (hk : kk = nI kn) (ht : NT < 100) (hb : b + p ≤ 8) (hb8 : b < 8) (hp : post (nI (b + 1)) (yc, nI (NT + 1), nI (b + 1), ym, no, nb, ya, yw, yv, yu, yo, yk, yp, ye, ycp, ycf, ymt, upd kd NT (nI kn), upd ytk NT x, bu_n ytp ysk (3 * NT) b p, upd ysk b (nI NT), yoc, yof, ybt, ybp, sv, vr, ow, ed, wa, yh, vl, ypr, mo, mb)) : wpY_make post (yc, nI NT, nI (b + p), ym, no, nb, ya, yw, yv, yu, yo, yk, yp, ye, ycp, ycf, ymt, kd, ytk, ytp, ysk, yoc, yof, ybt, ybp, sv, vr, ow, ed, wa, yh, vl, ypr, mo, mb) kk x (nI p) 1 := by
  have l := (pg_fpl hv).2
  subst hk
  exact my_g post ht (by omega) hb hb8 hp
end
theorem bo_0 {j : Nat} (h : j < 7) : (0 : Int32) + nI j = nI (pg_op (0 + j)) := by
  have q : ∀ j, j < 7 → 0 + j = pg_op (0 + j) := by decide
  rw [← q j h]
  exact nI_add 0 j
theorem bo_1 {j : Nat} (h : j < 8) : (7 : Int32) + nI j = nI (pg_op (10 + j)) := by
  have q : ∀ j, j < 8 → 7 + j = pg_op (10 + j) := by decide
  rw [← q j h]
  exact nI_add 7 j
theorem bo_2 {j : Nat} (h : j < 8) : (15 : Int32) + nI j = nI (pg_op (20 + j)) := by
  have q : ∀ j, j < 8 → 15 + j = pg_op (20 + j) := by decide
  rw [← q j h]
  exact nI_add 15 j
theorem im_leaf {u : SX} {v : SY} (I : rk_R u v) (v1 v2 : Int32) : wpX_leaf (fun r u' => wpY_leaf (fun r' v' => r' = r ∧ rk_R u' v') v v1 v2) u v1 v2 := by
  obtain ⟨NC, NT, SP, KN, PN, SZ, G, mn, n, na, f, ws, vs, en, pc, tc, dc, no, nb, ya, yw, yv, yu, yo, yk, yp, ye, rs, cp, cf, mt, op, tk, tp, fp, sk, oc, bt, ba, rd, ac, af, fa, fw, fv, wt, wd, pr, mc, kd, yoc, ybt, ybp, ow, ed, wa, yh, ypr, mo, mb, of, sl, wv, yof, sv, vr, vl, rfl, rfl, S⟩ := I
  have hN : NC ≤ 6 := S.1.1
  have hT : NT ≤ 100 := S.1.2.1
  have h8 : SP ≤ 8 := S.2.1
  obtain ⟨r, hr⟩ := fleaf_ex NC v1 v2
  unfold wpX_leaf
  refine fx_leaf _ hN hr ?_
  rcases fleaf_01 hr with rfl | ⟨rfl, j, hj, rfl, hv, hk⟩
  · exact br_t rfl (fy_leaf _ hN hr (my_0 _ ⟨rfl, rk_i S⟩))
  · refine br_f (by decide) ?_
    by_cases e : NT = 100
    · subst e
      exact br_t (by decide) (fy_leaf _ hN hr (my_n _ ⟨rfl, rk_i S⟩))
    · refine br_f (nI_ge (b := 100) (by omega) (by decide)) ?_
      by_cases e8 : SP = 8
      · subst e8
        exact br_f (by decide) (fy_leaf _ hN hr (my_s _ (by omega) ⟨rfl, rk_i S⟩))
      · refine br_t (nI_lt (b := 8) (by omega) (by decide)) ?_
        exact mk_x (p := 0) (b := SP) _ hv (by omega) (bo_0 hj) (by omega) (by omega) (by omega) (fy_leaf _ hN hr (mk_y (p := 0) (b := SP) _ hv (by omega) (congrArg nI (Nat.zero_add j).symm) (by omega) (by omega) (by omega) ⟨rfl, rk_i (bu_go (p := 0) (b := SP) S hv hk (by omega) (by omega) (by omega))⟩))
theorem im_one {u : SX} {v : SY} (I : rk_R u v) (v1 v2 : Int32) : wpX_one (fun r u' => wpY_one (fun r' v' => r' = r ∧ rk_R u' v') v v1 v2) u v1 v2 := by
  obtain ⟨NC, NT, SP, KN, PN, SZ, G, mn, n, na, f, ws, vs, en, pc, tc, dc, no, nb, ya, yw, yv, yu, yo, yk, yp, ye, rs, cp, cf, mt, op, tk, tp, fp, sk, oc, bt, ba, rd, ac, af, fa, fw, fv, wt, wd, pr, mc, kd, yoc, ybt, ybp, ow, ed, wa, yh, ypr, mo, mb, of, sl, wv, yof, sv, vr, vl, rfl, rfl, S⟩ := I
  have hN : NC ≤ 6 := S.1.1
  have hT : NT ≤ 100 := S.1.2.1
  have h8 : SP ≤ 8 := S.2.1
  obtain ⟨r, hr⟩ := fone_ex NC v1 v2
  unfold wpX_one
  refine fx_one _ hN hr ?_
  rcases fone_01 hr with rfl | ⟨rfl, j, hj, rfl, hv, hk⟩
  · exact br_t rfl (fy_one _ hN hr (my_0 _ ⟨rfl, rk_i S⟩))
  · refine br_f (by decide) ?_
    by_cases e : NT = 100
    · subst e
      exact br_f (by decide) (fy_one _ hN hr (my_n _ ⟨rfl, rk_i S⟩))
    · refine br_t (nI_lt (b := 100) (by omega) (by decide)) ?_
      by_cases es : SP < 1
      · exact br_f (nI_ge (b := 1) es (by decide)) (fy_one _ hN hr (my_f (p := 1) _ (by omega) (by decide) (by decide) es ⟨rfl, rk_i S⟩))
      · obtain ⟨b, rfl⟩ : ∃ b, SP = b + 1 := ⟨SP - 1, by omega⟩
        refine br_t (nI_le (a := 1) (by omega) (by omega)) ?_
        have hkp : (10 + j) / 10 = 1 := by omega
        have fY : wpY_one (fun r' v' => r' = nI (b + 1) ∧ rk_R (nI NC, nI (NT + 1), nI (b + 1), mn, n, na, f, ws, vs, en, rs, pc, tc, dc, cp, cf, mt, upd op NT (nI (pg_op (10 + j))), upd tk NT v2, bu_n tp sk (3 * NT) b 1, upd fp NT (nI (pg_fp (10 + j))), upd sk b (nI NT), oc, of, bt, ba, rd, sl, ac, af, fa, fw, fv, wt, wd, wv, pr, mc) v') (nI NC, nI NT, nI (b + 1), mn, no, nb, ya, yw, yv, yu, yo, yk, yp, ye, cp, cf, mt, kd, tk, tp, sk, yoc, yof, ybt, ybp, sv, vr, ow, ed, wa, yh, vl, ypr, mo, mb) (nI j) v2 := fy_one _ hN hr (mk_y (p := 1) (b := b) _ hv hkp (nI_add 10 j) (by omega) (by omega) (by omega) ⟨rfl, rk_i (bu_go (p := 1) (b := b) S hv hk hkp (by omega) (by omega))⟩)
        by_cases z : j = 8
        · subst z
          exact br_t rfl (mk_x (p := 1) (b := b) _ hv hkp rfl (by omega) (by omega) (by omega) fY)
        · exact br_f (ay_nIne z (by omega) (by decide)) (mk_x (p := 1) (b := b) _ hv hkp (bo_1 (by omega)) (by omega) (by omega) (by omega) fY)
theorem im_two {u : SX} {v : SY} (I : rk_R u v) (v1 v2 : Int32) : wpX_two (fun r u' => wpY_two (fun r' v' => r' = r ∧ rk_R u' v') v v1 v2) u v1 v2 := by
  obtain ⟨NC, NT, SP, KN, PN, SZ, G, mn, n, na, f, ws, vs, en, pc, tc, dc, no, nb, ya, yw, yv, yu, yo, yk, yp, ye, rs, cp, cf, mt, op, tk, tp, fp, sk, oc, bt, ba, rd, ac, af, fa, fw, fv, wt, wd, pr, mc, kd, yoc, ybt, ybp, ow, ed, wa, yh, ypr, mo, mb, of, sl, wv, yof, sv, vr, vl, rfl, rfl, S⟩ := I
  have hN : NC ≤ 6 := S.1.1
  have hT : NT ≤ 100 := S.1.2.1
  have h8 : SP ≤ 8 := S.2.1
  obtain ⟨r, hr⟩ := ftwo_ex NC v1 v2
  unfold wpX_two
  refine fx_two _ hN hr ?_
  rcases ftwo_01 hr with rfl | ⟨rfl, j, hj, rfl, hv, hk⟩
  · exact br_t rfl (fy_two _ hN hr (my_0 _ ⟨rfl, rk_i S⟩))
  · refine br_f (by decide) ?_
    by_cases e : NT = 100
    · subst e
      exact br_f (by decide) (fy_two _ hN hr (my_n _ ⟨rfl, rk_i S⟩))
    · refine br_t (nI_lt (b := 100) (by omega) (by decide)) ?_
      by_cases es : SP < 2
      · exact br_f (nI_ge (b := 2) es (by decide)) (fy_two _ hN hr (my_f (p := 2) _ (by omega) (by decide) (by decide) es ⟨rfl, rk_i S⟩))
      · obtain ⟨b, rfl⟩ : ∃ b, SP = b + 2 := ⟨SP - 2, by omega⟩
        refine br_t (nI_le (a := 2) (by omega) (by omega)) ?_
        have hkp : (20 + j) / 10 = 2 := by omega
        have fY : wpY_two (fun r' v' => r' = nI (b + 1) ∧ rk_R (nI NC, nI (NT + 1), nI (b + 1), mn, n, na, f, ws, vs, en, rs, pc, tc, dc, cp, cf, mt, upd op NT (nI (pg_op (20 + j))), upd tk NT v2, bu_n tp sk (3 * NT) b 2, upd fp NT (nI (pg_fp (20 + j))), upd sk b (nI NT), oc, of, bt, ba, rd, sl, ac, af, fa, fw, fv, wt, wd, wv, pr, mc) v') (nI NC, nI NT, nI (b + 2), mn, no, nb, ya, yw, yv, yu, yo, yk, yp, ye, cp, cf, mt, kd, tk, tp, sk, yoc, yof, ybt, ybp, sv, vr, ow, ed, wa, yh, vl, ypr, mo, mb) (nI j) v2 := fy_two _ hN hr (mk_y (p := 2) (b := b) _ hv hkp (nI_add 20 j) (by omega) (by omega) (by omega) ⟨rfl, rk_i (bu_go (p := 2) (b := b) S hv hk hkp (by omega) (by omega))⟩)
        refine nm_e ?_
        by_cases z : j = 8
        · subst z
          exact br_t rfl (mk_x (p := 2) (b := b) _ hv hkp rfl (by omega) (by omega) (by omega) fY)
        · refine br_f (ay_nIne z (by omega) (by decide)) ?_
          by_cases y : j = 9
          · subst y
            exact br_t rfl (mk_x (p := 2) (b := b) _ hv hkp rfl (by omega) (by omega) (by omega) fY)
          · exact br_f (ay_nIne y (by omega) (by decide)) (mk_x (p := 2) (b := b) _ hv hkp (bo_2 (by omega)) (by omega) (by omega) (by omega) fY)
theorem im_three {u : SX} {v : SY} (I : rk_R u v) (v1 v2 : Int32) : wpX_three (fun r u' => wpY_three (fun r' v' => r' = r ∧ rk_R u' v') v v1 v2) u v1 v2 := by
  obtain ⟨NC, NT, SP, KN, PN, SZ, G, mn, n, na, f, ws, vs, en, pc, tc, dc, no, nb, ya, yw, yv, yu, yo, yk, yp, ye, rs, cp, cf, mt, op, tk, tp, fp, sk, oc, bt, ba, rd, ac, af, fa, fw, fv, wt, wd, pr, mc, kd, yoc, ybt, ybp, ow, ed, wa, yh, ypr, mo, mb, of, sl, wv, yof, sv, vr, vl, rfl, rfl, S⟩ := I
  have hN : NC ≤ 6 := S.1.1
  have hT : NT ≤ 100 := S.1.2.1
  have h8 : SP ≤ 8 := S.2.1
  obtain ⟨r, hr⟩ := fthree_ex NC v1 v2
  unfold wpX_three
  refine fx_three _ hN hr ?_
  rcases fthree_01 hr with rfl | ⟨rfl, j, hj, rfl, hv, hk⟩
  · exact br_t rfl (fy_three _ hN hr (my_0 _ ⟨rfl, rk_i S⟩))
  · refine br_f (by decide) ?_
    by_cases e : NT = 100
    · subst e
      exact br_f (by decide) (fy_three _ hN hr (my_n _ ⟨rfl, rk_i S⟩))
    · refine br_t (nI_lt (b := 100) (by omega) (by decide)) ?_
      by_cases es : SP < 3
      · exact br_f (nI_ge (b := 3) es (by decide)) (fy_three _ hN hr (my_f (p := 3) _ (by omega) (by decide) (by decide) es ⟨rfl, rk_i S⟩))
      · obtain ⟨b, rfl⟩ : ∃ b, SP = b + 3 := ⟨SP - 3, by omega⟩
        refine br_t (nI_le (a := 3) (by omega) (by omega)) ?_
        have hkp : (30 + j) / 10 = 3 := by omega
        have fY : wpY_three (fun r' v' => r' = nI (b + 1) ∧ rk_R (nI NC, nI (NT + 1), nI (b + 1), mn, n, na, f, ws, vs, en, rs, pc, tc, dc, cp, cf, mt, upd op NT (nI (pg_op (30 + j))), upd tk NT v2, bu_n tp sk (3 * NT) b 3, upd fp NT (nI (pg_fp (30 + j))), upd sk b (nI NT), oc, of, bt, ba, rd, sl, ac, af, fa, fw, fv, wt, wd, wv, pr, mc) v') (nI NC, nI NT, nI (b + 3), mn, no, nb, ya, yw, yv, yu, yo, yk, yp, ye, cp, cf, mt, kd, tk, tp, sk, yoc, yof, ybt, ybp, sv, vr, ow, ed, wa, yh, vl, ypr, mo, mb) (nI j) v2 := fy_three _ hN hr (mk_y (p := 3) (b := b) _ hv hkp (nI_add 30 j) (by omega) (by omega) (by omega) ⟨rfl, rk_i (bu_go (p := 3) (b := b) S hv hk hkp (by omega) (by omega))⟩)
        by_cases z : j = 1
        · subst z
          exact br_t rfl (mk_x (p := 3) (b := b) _ hv hkp rfl (by omega) (by omega) (by omega) fY)
        · have y : j = 0 := by omega
          subst y
          exact br_f (by decide) (mk_x (p := 3) (b := b) _ hv hkp rfl (by omega) (by omega) (by omega) fY)
