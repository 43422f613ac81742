/-! the checks of both sides, walked -/
theorem fi_b {n : Nat} {x r : Int32} (h : fi_R n x r) : r = 0 ∨ r = 1 := by
  rcases fi_01 h with h | h
  · exact Or.inl h
  · exact Or.inr h.1
theorem fm_b {n : Nat} {x r : Int32} (h : fm_R n x r) : r = 0 ∨ r = 1 := by
  rcases fm_01 h with h | h
  · exact Or.inl h
  · exact Or.inr h.1
theorem fb_b {x r : Int32} (h : fb_R x r) : r = 0 ∨ r = 1 := by
  rcases fb_01 h with h | h
  · exact Or.inl h
  · exact Or.inr h.1
theorem na_neg {c : Int32} (h : c < 0) : c < 4 := by
  rw [Int32.lt_iff_toInt_lt] at h ⊢
  rw [show (0 : Int32).toInt = 0 from by decide] at h
  rw [show (4 : Int32).toInt = 4 from by decide]
  omega
theorem fy_ne {c : Int32} {j : Nat} (h : c < 0) (hj : j < 100) : ¬ c = nI j := fun e => by
  subst e
  exact nI_pos (by omega) h
theorem fx_tf (Q : Int32 → Prop) {r : Int32} (h : r = 0 ∨ r = 1) (hQ : Q r) : (r = 0 → Q 0) ∧ (¬ r = 0 → Q 1) := by
  rcases h with rfl | rfl
  · exact br_t rfl hQ
  · exact br_f (by decide) hQ
theorem fx_blk (Q : Int32 → Prop) {x r : Int32} (h : fb_R x r) (hQ : Q r) : (x = -1 → Q 1) ∧ (¬ x = -1 → wpX_isVariable (fun r => (r = 0 → Q 0) ∧ (¬ r = 0 → Q 1)) x) := by
  rcases h with ⟨rfl, h, _, h'⟩ | ⟨rfl, rfl⟩ | ⟨j, hj, rfl, ⟨rfl, h⟩ | ⟨rfl, h⟩⟩
  · exact br_f h' (fx_var _ (Or.inl ⟨rfl, h⟩) (br_t rfl hQ))
  · exact br_t rfl hQ
  · exact br_f (ax_nIm1 hj) (fx_var _ (Or.inr ⟨j, hj, rfl, Or.inl ⟨rfl, h⟩⟩) (br_t rfl hQ))
  · exact br_f (ax_nIm1 hj) (fx_var _ (Or.inr ⟨j, hj, rfl, Or.inr ⟨rfl, h⟩⟩) (br_f (by decide) hQ))
theorem fx_num (Q : Int32 → Prop) {x r : Int32} (h : fn_R x r) (hQ : Q r) : (x < -99 → Q 0) ∧ (¬ x < -99 → (99 < x → Q 0) ∧ (¬ 99 < x → Q 1)) := by
  rcases h with ⟨rfl, h⟩ | ⟨rfl, h, h'⟩ | ⟨rfl, h, h'⟩
  · exact br_t h hQ
  · exact br_f h (br_t h' hQ)
  · exact br_f h (br_f h' hQ)
section
variable {nc nt ns mn n na f ws vs en pc tc dc : Int32} {rs : Int64} {cp cf mt op tk tp fp sk oc bt ba rd ac af fa fw fv wt wd pr mc : Nat → Int32} {of sl wv : Nat → Int64}
variable {NC : Nat}
theorem fx_leaf (Q : Int32 → Prop) {c k r : Int32} (hN : NC ≤ 6) (h : fleaf_R NC c k r) (hQ : Q r) : wpX_leafFits Q (nI NC, nt, ns, mn, n, na, f, ws, vs, en, rs, pc, tc, dc, cp, cf, mt, op, tk, tp, fp, sk, oc, of, bt, ba, rd, sl, ac, af, fa, fw, fv, wt, wd, wv, pr, mc) c k := by
  rcases h with ⟨rfl, h⟩ | ⟨j, hj, rfl, ⟨rfl, h⟩ | ⟨rfl, hr⟩ | ⟨rfl, rfl⟩ | ⟨rfl, rfl⟩ | ⟨rfl, hr⟩ | ⟨rfl, hr⟩ | ⟨rfl, hr⟩ | ⟨rfl, hr⟩⟩
  · exact br_t h hQ
  · exact br_f (nI_pos hj) (br_t (nI_lt (a := 6) (by omega) hj) hQ)
  · exact br_f (by decide) (br_f (by decide) (br_t rfl (fx_num Q hr hQ)))
  · exact br_f (by decide) (br_f (by decide) (br_f (by decide) (br_t rfl (hQ))))
  · exact br_f (by decide) (br_f (by decide) (br_f (by decide) (br_f (by decide) (br_t rfl (hQ)))))
  · exact br_f (by decide) (br_f (by decide) (br_f (by decide) (br_f (by decide) (br_f (by decide) (br_t rfl (fx_var _ hr (And.intro (fi_nar (fi_b hr)) hQ)))))))
  · exact br_f (by decide) (br_f (by decide) (br_f (by decide) (br_f (by decide) (br_f (by decide) (br_f (by decide) (br_t rfl (fx_fld _ hr (And.intro (fi_nar (fi_b hr)) hQ))))))))
  · exact br_f (by decide) (br_f (by decide) (br_f (by decide) (br_f (by decide) (br_f (by decide) (br_f (by decide) (br_f (by decide) (br_t rfl (fx_cls _ hN hr (And.intro (fi_nar (fi_b hr)) hQ)))))))))
  · exact br_f (by decide) (br_f (by decide) (br_f (by decide) (br_f (by decide) (br_f (by decide) (br_f (by decide) (br_f (by decide) (br_f (by decide) (br_t rfl (fx_msg (a := 0) _ (by decide) hr (And.intro (fi_nar (fm_b hr)) hQ))))))))))
theorem fx_one (Q : Int32 → Prop) {c k r : Int32} (hN : NC ≤ 6) (h : fone_R NC c k r) (hQ : Q r) : wpX_oneFits Q (nI NC, nt, ns, mn, n, na, f, ws, vs, en, rs, pc, tc, dc, cp, cf, mt, op, tk, tp, fp, sk, oc, of, bt, ba, rd, sl, ac, af, fa, fw, fv, wt, wd, wv, pr, mc) c k := by
  rcases h with ⟨rfl, h⟩ | ⟨j, hj, rfl, ⟨rfl, h⟩ | ⟨rfl, hr⟩ | ⟨rfl, hr⟩ | ⟨rfl, hr⟩ | ⟨rfl, hr⟩ | ⟨rfl, rfl⟩ | ⟨rfl, rfl⟩ | ⟨rfl, rfl⟩ | ⟨rfl, hr⟩ | ⟨rfl, hr⟩⟩
  · exact br_t h hQ
  · exact br_f (nI_pos hj) (br_t (nI_lt (a := 8) (by omega) hj) hQ)
  · exact br_f (by decide) (br_f (by decide) (br_t rfl (fx_var _ hr (And.intro (fi_nar (fi_b hr)) hQ))))
  · exact br_f (by decide) (br_f (by decide) (br_f (by decide) (br_t rfl (fx_fld _ hr (And.intro (fi_nar (fi_b hr)) hQ)))))
  · exact br_f (by decide) (br_f (by decide) (br_f (by decide) (br_f (by decide) (br_t rfl (fx_cls _ hN hr (And.intro (fi_nar (fi_b hr)) hQ))))))
  · exact br_f (by decide) (br_f (by decide) (br_f (by decide) (br_f (by decide) (br_f (by decide) (br_t rfl (fx_blk Q hr hQ))))))
  · exact br_f (by decide) (br_f (by decide) (br_f (by decide) (br_f (by decide) (br_f (by decide) (br_f (by decide) (br_t rfl (hQ)))))))
  · exact br_f (by decide) (br_f (by decide) (br_f (by decide) (br_f (by decide) (br_f (by decide) (br_f (by decide) (br_f (by decide) (br_t rfl (hQ))))))))
  · exact br_f (by decide) (br_f (by decide) (br_f (by decide) (br_f (by decide) (br_f (by decide) (br_f (by decide) (br_f (by decide) (br_f (by decide) (br_t rfl (hQ)))))))))
  · exact br_f (by decide) (br_f (by decide) (br_f (by decide) (br_f (by decide) (br_f (by decide) (br_f (by decide) (br_f (by decide) (br_f (by decide) (br_f (by decide) (br_t rfl (fx_msg (a := 0) _ (by decide) hr (And.intro (fi_nar (fm_b hr)) hQ)))))))))))
  · exact br_f (by decide) (br_f (by decide) (br_f (by decide) (br_f (by decide) (br_f (by decide) (br_f (by decide) (br_f (by decide) (br_f (by decide) (br_f (by decide) (br_f (by decide) (br_t rfl (fx_msg (a := 1) _ (by decide) hr (And.intro (fi_nar (fm_b hr)) hQ))))))))))))
theorem fx_two (Q : Int32 → Prop) {c k r : Int32} (hN : NC ≤ 6) (h : ftwo_R NC c k r) (hQ : Q r) : wpX_twoFits Q c k := by
  rcases h with ⟨rfl, h⟩ | ⟨j, hj, rfl, ⟨rfl, h⟩ | ⟨rfl, rfl⟩ | ⟨rfl, rfl⟩ | ⟨rfl, rfl⟩ | ⟨rfl, rfl⟩ | ⟨rfl, rfl⟩ | ⟨rfl, rfl⟩ | ⟨rfl, rfl⟩ | ⟨rfl, rfl⟩ | ⟨rfl, hr⟩ | ⟨rfl, hr⟩⟩
  · exact br_f (fy_ne (j := 8) h (by decide)) (br_f (fy_ne (j := 9) h (by decide)) (br_t h hQ))
  · exact br_f (ay_nIne (b := 8) (by omega) hj (by decide)) (br_f (ay_nIne (b := 9) (by omega) hj (by decide)) (br_f (nI_pos hj) (br_t (nI_lt (a := 7) (by omega) hj) hQ)))
  · exact br_f (by decide) (br_f (by decide) (br_f (by decide) (br_f (by decide) hQ)))
  · exact br_f (by decide) (br_f (by decide) (br_f (by decide) (br_f (by decide) hQ)))
  · exact br_f (by decide) (br_f (by decide) (br_f (by decide) (br_f (by decide) hQ)))
  · exact br_f (by decide) (br_f (by decide) (br_f (by decide) (br_f (by decide) hQ)))
  · exact br_f (by decide) (br_f (by decide) (br_f (by decide) (br_f (by decide) hQ)))
  · exact br_f (by decide) (br_f (by decide) (br_f (by decide) (br_f (by decide) hQ)))
  · exact br_f (by decide) (br_f (by decide) (br_f (by decide) (br_f (by decide) hQ)))
  · exact br_f (by decide) (br_f (by decide) (br_f (by decide) (br_f (by decide) hQ)))
  · exact br_t rfl (fx_msg (a := 1) _ (by decide) hr (And.intro (fi_nar (fm_b hr)) hQ))
  · exact br_f (by decide) (br_t rfl (fx_msg (a := 2) _ (by decide) hr (And.intro (fi_nar (fm_b hr)) hQ)))
theorem fx_three (Q : Int32 → Prop) {c k r : Int32} (hN : NC ≤ 6) (h : fthree_R NC c k r) (hQ : Q r) : wpX_threeFits Q c k := by
  rcases h with ⟨rfl, h⟩ | ⟨j, hj, rfl, ⟨rfl, h⟩ | ⟨rfl, rfl⟩ | ⟨rfl, hr⟩⟩
  · exact br_f (fy_ne (j := 0) h (by decide)) (br_f (fy_ne (j := 1) h (by decide)) hQ)
  · exact br_f (ay_nIne (b := 0) (by omega) hj (by decide)) (br_f (ay_nIne (b := 1) (by omega) hj (by decide)) hQ)
  · exact br_t rfl hQ
  · exact br_f (by decide) (br_t rfl (fx_msg (a := 2) _ (by decide) hr (fx_tf Q (fm_b hr) hQ)))
end
section
variable {yc yt ys ym no nb ya yw yv yu yo yk yp ye : Int32} {ycp ycf ymt kd ytk ytp ysk yoc ybt ybp ow ed wa yh ypr mo mb : Nat → Int32} {yof sv vr vl : Nat → Int64}
variable {NC : Nat}
theorem fy_leaf (post : Int32 → SY → Prop) {c k r : Int32} (hN : NC ≤ 6) (h : fleaf_R NC c k r) (hM : wY_leaf_96 post c k r (nI NC) yt ys ym no nb ya yw yv yu yo yk yp ye ycp ycf ymt kd ytk ytp ysk yoc yof ybt ybp sv vr ow ed wa yh vl ypr mo mb) : wpY_leaf post (nI NC, yt, ys, ym, no, nb, ya, yw, yv, yu, yo, yk, yp, ye, ycp, ycf, ymt, kd, ytk, ytp, ysk, yoc, yof, ybt, ybp, sv, vr, ow, ed, wa, yh, vl, ypr, mo, mb) c k := by
  rcases h with ⟨rfl, h⟩ | ⟨j, hj, rfl, ⟨rfl, h⟩ | ⟨rfl, hr⟩ | ⟨rfl, rfl⟩ | ⟨rfl, rfl⟩ | ⟨rfl, hr⟩ | ⟨rfl, hr⟩ | ⟨rfl, hr⟩ | ⟨rfl, hr⟩⟩
  · exact (br_f (fy_ne (j := 1) h (by decide)) (br_f (fy_ne (j := 2) h (by decide)) (br_f (fy_ne (j := 0) h (by decide)) (br_f (fy_ne (j := 3) h (by decide)) (br_f (fy_ne (j := 4) h (by decide)) (br_f (fy_ne (j := 5) h (by decide)) (br_f (fy_ne (j := 6) h (by decide)) hM)))))))
  · exact (br_f (ay_nIne (b := 1) (by omega) hj (by decide)) (br_f (ay_nIne (b := 2) (by omega) hj (by decide)) (br_f (ay_nIne (b := 0) (by omega) hj (by decide)) (br_f (ay_nIne (b := 3) (by omega) hj (by decide)) (br_f (ay_nIne (b := 4) (by omega) hj (by decide)) (br_f (ay_nIne (b := 5) (by omega) hj (by decide)) (br_f (ay_nIne (b := 6) (by omega) hj (by decide)) hM)))))))
  · rcases fn_01 hr with rfl | rfl
    · exact (br_f (by decide) (br_f (by decide) (br_t rfl (fy_num _ hr (br_t rfl (br_f (by decide) (br_f (by decide) (br_f (by decide) (br_f (by decide) hM)))))))))
    · exact (br_f (by decide) (br_f (by decide) (br_t rfl (fy_num _ hr (br_f (by decide) hM)))))
  · exact (br_t rfl hM)
  · exact (br_f (by decide) (br_t rfl hM))
  · rcases fi_b hr with rfl | rfl
    · exact (br_f (by decide) (br_f (by decide) (br_f (by decide) (br_t rfl (fy_in (m := 5) _ (by decide) hr (br_t rfl (br_f (by decide) (br_f (by decide) (br_f (by decide) hM)))))))))
    · exact (br_f (by decide) (br_f (by decide) (br_f (by decide) (br_t rfl (fy_in (m := 5) _ (by decide) hr (br_f (by decide) hM))))))
  · rcases fi_b hr with rfl | rfl
    · exact (br_f (by decide) (br_f (by decide) (br_f (by decide) (br_f (by decide) (br_t rfl (fy_in (m := 3) _ (by decide) hr (br_t rfl (br_f (by decide) (br_f (by decide) hM)))))))))
    · exact (br_f (by decide) (br_f (by decide) (br_f (by decide) (br_f (by decide) (br_t rfl (fy_in (m := 3) _ (by decide) hr (br_f (by decide) hM)))))))
  · rcases fi_b hr with rfl | rfl
    · exact (br_f (by decide) (br_f (by decide) (br_f (by decide) (br_f (by decide) (br_f (by decide) (br_t rfl (fy_cls _ hN hr (br_t rfl (br_f (by decide) hM)))))))))
    · exact (br_f (by decide) (br_f (by decide) (br_f (by decide) (br_f (by decide) (br_f (by decide) (br_t rfl (fy_cls _ hN hr (br_f (by decide) hM))))))))
  · rcases fm_b hr with rfl | rfl
    · exact (br_f (by decide) (br_f (by decide) (br_f (by decide) (br_f (by decide) (br_f (by decide) (br_f (by decide) (br_t rfl (fy_msg (a := 0) _ (by decide) hr (br_t rfl hM)))))))))
    · exact (br_f (by decide) (br_f (by decide) (br_f (by decide) (br_f (by decide) (br_f (by decide) (br_f (by decide) (br_t rfl (fy_msg (a := 0) _ (by decide) hr (br_f (by decide) hM)))))))))
theorem fy_one (post : Int32 → SY → Prop) {c k r : Int32} (hN : NC ≤ 6) (h : fone_R NC c k r) (hM : wY_one_110 post c k r (nI NC) yt ys ym no nb ya yw yv yu yo yk yp ye ycp ycf ymt kd ytk ytp ysk yoc yof ybt ybp sv vr ow ed wa yh vl ypr mo mb) : wpY_one post (nI NC, yt, ys, ym, no, nb, ya, yw, yv, yu, yo, yk, yp, ye, ycp, ycf, ymt, kd, ytk, ytp, ysk, yoc, yof, ybt, ybp, sv, vr, ow, ed, wa, yh, vl, ypr, mo, mb) c k := by
  rcases h with ⟨rfl, h⟩ | ⟨j, hj, rfl, ⟨rfl, h⟩ | ⟨rfl, hr⟩ | ⟨rfl, hr⟩ | ⟨rfl, hr⟩ | ⟨rfl, hr⟩ | ⟨rfl, rfl⟩ | ⟨rfl, rfl⟩ | ⟨rfl, rfl⟩ | ⟨rfl, hr⟩ | ⟨rfl, hr⟩⟩
  · exact br_t (na_neg h) (br_t rfl (br_f (fy_ne (j := 0) h (by decide)) (br_f (fy_ne (j := 1) h (by decide)) (br_f (fy_ne (j := 2) h (by decide)) (br_f (fy_ne (j := 3) h (by decide)) (br_f (fy_ne (j := 7) h (by decide)) (br_f (fy_ne (j := 8) h (by decide)) hM)))))))
  · exact br_f (nI_nlt (b := 4) (by omega) hj) (br_t (nI_lt (a := 6) (by omega) hj) (br_t rfl (br_f (ay_nIne (b := 0) (by omega) hj (by decide)) (br_f (ay_nIne (b := 1) (by omega) hj (by decide)) (br_f (ay_nIne (b := 2) (by omega) hj (by decide)) (br_f (ay_nIne (b := 3) (by omega) hj (by decide)) (br_f (ay_nIne (b := 7) (by omega) hj (by decide)) (br_f (ay_nIne (b := 8) (by omega) hj (by decide)) hM))))))))
  · rcases fi_b hr with rfl | rfl
    · exact br_t (by decide) (br_t rfl (br_t rfl (fy_in (m := 5) _ (by decide) hr (br_t rfl (br_f (by decide) (br_f (by decide) (br_f (by decide) (br_f (by decide) (br_f (by decide) hM)))))))))
    · exact br_t (by decide) (br_t rfl (br_t rfl (fy_in (m := 5) _ (by decide) hr (br_f (by decide) hM))))
  · rcases fi_b hr with rfl | rfl
    · exact br_t (by decide) (br_t rfl (br_f (by decide) (br_t rfl (fy_in (m := 3) _ (by decide) hr (br_t rfl (br_f (by decide) (br_f (by decide) (br_f (by decide) (br_f (by decide) hM)))))))))
    · exact br_t (by decide) (br_t rfl (br_f (by decide) (br_t rfl (fy_in (m := 3) _ (by decide) hr (br_f (by decide) hM)))))
  · rcases fi_b hr with rfl | rfl
    · exact br_t (by decide) (br_t rfl (br_f (by decide) (br_f (by decide) (br_t rfl (fy_cls _ hN hr (br_t rfl (br_f (by decide) (br_f (by decide) (br_f (by decide) hM)))))))))
    · exact br_t (by decide) (br_t rfl (br_f (by decide) (br_f (by decide) (br_t rfl (fy_cls _ hN hr (br_f (by decide) hM))))))
  · rcases fb_b hr with rfl | rfl
    · exact br_t (by decide) (br_t rfl (br_f (by decide) (br_f (by decide) (br_f (by decide) (br_t rfl (fy_blk _ hr (br_t rfl (br_f (by decide) (br_f (by decide) hM)))))))))
    · exact br_t (by decide) (br_t rfl (br_f (by decide) (br_f (by decide) (br_f (by decide) (br_t rfl (fy_blk _ hr (br_f (by decide) hM)))))))
  · exact br_f (by decide) (br_f (by decide) (br_f (by decide) hM))
  · exact br_f (by decide) (br_f (by decide) (br_f (by decide) hM))
  · exact br_f (by decide) (br_f (by decide) (br_f (by decide) hM))
  · rcases fm_b hr with rfl | rfl
    · exact br_f (by decide) (br_t (by decide) (br_t rfl (br_f (by decide) (br_f (by decide) (br_f (by decide) (br_f (by decide) (br_t rfl (fy_msg (a := 0) _ (by decide) hr (br_t rfl (br_f (by decide) hM))))))))))
    · exact br_f (by decide) (br_t (by decide) (br_t rfl (br_f (by decide) (br_f (by decide) (br_f (by decide) (br_f (by decide) (br_t rfl (fy_msg (a := 0) _ (by decide) hr (br_f (by decide) hM)))))))))
  · rcases fm_b hr with rfl | rfl
    · exact br_f (by decide) (br_t (by decide) (br_t rfl (br_f (by decide) (br_f (by decide) (br_f (by decide) (br_f (by decide) (br_f (by decide) (br_t rfl (fy_msg (a := 1) _ (by decide) hr (br_t rfl hM))))))))))
    · exact br_f (by decide) (br_t (by decide) (br_t rfl (br_f (by decide) (br_f (by decide) (br_f (by decide) (br_f (by decide) (br_f (by decide) (br_t rfl (fy_msg (a := 1) _ (by decide) hr (br_f (by decide) hM))))))))))
theorem fy_two (post : Int32 → SY → Prop) {c k r : Int32} (hN : NC ≤ 6) (h : ftwo_R NC c k r) (hM : wY_two_46 post c k r (nI NC) yt ys ym no nb ya yw yv yu yo yk yp ye ycp ycf ymt kd ytk ytp ysk yoc yof ybt ybp sv vr ow ed wa yh vl ypr mo mb) : wpY_two post (nI NC, yt, ys, ym, no, nb, ya, yw, yv, yu, yo, yk, yp, ye, ycp, ycf, ymt, kd, ytk, ytp, ysk, yoc, yof, ybt, ybp, sv, vr, ow, ed, wa, yh, vl, ypr, mo, mb) c k := by
  rcases h with ⟨rfl, h⟩ | ⟨j, hj, rfl, ⟨rfl, h⟩ | ⟨rfl, rfl⟩ | ⟨rfl, rfl⟩ | ⟨rfl, rfl⟩ | ⟨rfl, rfl⟩ | ⟨rfl, rfl⟩ | ⟨rfl, rfl⟩ | ⟨rfl, rfl⟩ | ⟨rfl, rfl⟩ | ⟨rfl, hr⟩ | ⟨rfl, hr⟩⟩
  · exact br_t h (br_t rfl (br_f (fy_ne (j := 8) h (by decide)) (br_f (fy_ne (j := 9) h (by decide)) hM)))
  · exact br_f (nI_pos hj) (br_t (nI_lt (a := 7) (by omega) hj) (br_t rfl (br_f (ay_nIne (b := 8) (by omega) hj (by decide)) (br_f (ay_nIne (b := 9) (by omega) hj (by decide)) hM))))
  · exact br_f (by decide) (br_f (by decide) (br_f (by decide) hM))
  · exact br_f (by decide) (br_f (by decide) (br_f (by decide) hM))
  · exact br_f (by decide) (br_f (by decide) (br_f (by decide) hM))
  · exact br_f (by decide) (br_f (by decide) (br_f (by decide) hM))
  · exact br_f (by decide) (br_f (by decide) (br_f (by decide) hM))
  · exact br_f (by decide) (br_f (by decide) (br_f (by decide) hM))
  · exact br_f (by decide) (br_f (by decide) (br_f (by decide) hM))
  · exact br_f (by decide) (br_f (by decide) (br_f (by decide) hM))
  · rcases fm_b hr with rfl | rfl
    · exact br_f (by decide) (br_t (by decide) (br_t rfl (br_t rfl (fy_msg (a := 1) _ (by decide) hr (br_t rfl (br_f (by decide) hM))))))
    · exact br_f (by decide) (br_t (by decide) (br_t rfl (br_t rfl (fy_msg (a := 1) _ (by decide) hr (br_f (by decide) hM)))))
  · rcases fm_b hr with rfl | rfl
    · exact br_f (by decide) (br_t (by decide) (br_t rfl (br_f (by decide) (br_t rfl (fy_msg (a := 2) _ (by decide) hr (br_t rfl hM))))))
    · exact br_f (by decide) (br_t (by decide) (br_t rfl (br_f (by decide) (br_t rfl (fy_msg (a := 2) _ (by decide) hr (br_f (by decide) hM))))))
theorem fy_three (post : Int32 → SY → Prop) {c k r : Int32} (hN : NC ≤ 6) (h : fthree_R NC c k r) (hM : wY_three_23 post c k r (nI NC) yt ys ym no nb ya yw yv yu yo yk yp ye ycp ycf ymt kd ytk ytp ysk yoc yof ybt ybp sv vr ow ed wa yh vl ypr mo mb) : wpY_three post (nI NC, yt, ys, ym, no, nb, ya, yw, yv, yu, yo, yk, yp, ye, ycp, ycf, ymt, kd, ytk, ytp, ysk, yoc, yof, ybt, ybp, sv, vr, ow, ed, wa, yh, vl, ypr, mo, mb) c k := by
  rcases h with ⟨rfl, h⟩ | ⟨j, hj, rfl, ⟨rfl, h⟩ | ⟨rfl, rfl⟩ | ⟨rfl, hr⟩⟩
  · exact (br_f (fy_ne (j := 0) h (by decide)) (br_f (fy_ne (j := 1) h (by decide)) hM))
  · exact (br_f (ay_nIne (b := 0) (by omega) hj (by decide)) (br_f (ay_nIne (b := 1) (by omega) hj (by decide)) hM))
  · exact (br_t rfl hM)
  · rcases fm_b hr with rfl | rfl
    · exact (br_f (by decide) (br_t rfl (fy_msg (a := 2) _ (by decide) hr (br_t rfl hM))))
    · exact (br_f (by decide) (br_t rfl (fy_msg (a := 2) _ (by decide) hr (br_f (by decide) hM))))
end
