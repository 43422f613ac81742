section
variable {yc yt ys ym no nb ya yw yv yu yo yk yp ye : Int32} {ycp ycf ymt kd ytk ytp ysk yoc ybt ybp ow ed wa yh ypr mo mb : Nat → Int32} {yof sv vr vl : Nat → Int64}
theorem ay_act_l (post : SY → Prop) {a g d o s tm args hA h' q : Nat} {rf : Int32} (ha : a < 202) (hq : q + 1 < 2200) (hg : g < 20) (hd : d < 1000) (ho : o < 6) (hs : s < 6) (hA' : hA + args ≤ 2200) (hr : (rf = 0 ∧ h' = hA) ∨ (¬ rf = 0 ∧ h' + 1 = hA)) (hm : ymt (6 * o + s) = nI tm) (hp : post (yc, yt, ys, ym, no, nb, nI (a + 1), nI (q + 2), nI h', nI (g + 1), nI (ay_mx g d), yk, yp, ye, ycp, ycf, ymt, kd, ytk, ytp, ysk, yoc, yof, ybt, ybp, sv, up_n vr (6 * a) (ax_ga args vl hA) 6, ow, ed, upd (upd wa q (nI (1024 * a + 8 * 127 + 0))) (q + 1) (nI (1024 * a + 8 * tm + 0)), upd (upd yh q (nI h')) (q + 1) (nI h'), vl, ypr, mo, mb)) : ∀ e k : Nat, k + e = 6 → wY_activate_99 post (nI s) (nI args) rf (nI o) yc yt ys ym no nb (nI a) (nI q) (nI hA) (nI g) (nI d) yk yp ye (e + 1) (nI k) ycp ycf ymt kd ytk ytp ysk yoc yof ybt ybp sv (up_n vr (6 * a) (ax_ga args vl hA) k) ow ed wa yh vl ypr mo mb := by
  intro e
  induction e with
  | zero =>
    intro k h
    have : k = 6 := by omega
    subst this
    have L : ∀ z : Int32, z = nI h' → wY_activate_174 post (nI s) (nI o) z yc yt ys ym no nb (nI a) (nI q) (nI hA) (nI g) (nI d) yk yp ye ycp ycf ymt kd ytk ytp ysk yoc yof ybt ybp sv (up_n vr (6 * a) (ax_ga args vl hA) 6) ow ed wa yh vl ypr mo mb := by
      intro z hz
      subst hz
      refine nm_r (nI_1 a) (And.intro (by rw [ay_ix6]; exact vp_in_nI (by omega) (by decide)) ?_)
      rw [ay_ix6, nI_clamp (by omega), hm, nI_pred]
      exact ay_enter_f (m := 127) _ hq hg hd hp
    refine br_t (by decide) ?_
    rcases hr with ⟨h1, h2⟩ | ⟨h1, h2⟩
    · exact br_t h1 (L _ (by rw [h2]))
    · exact br_f h1 (L _ (by rw [← h2, nI_pred]))
  | succ e ih =>
    intro k h
    refine br_f (nI_ge (b := 6) (by omega) (by decide)) ?_
    have h1 : vp_in (6 * nI a + nI k) 1212 := by rw [ay_ix6]; exact vp_in_nI (by omega) (by decide)
    have h2 : (6 * nI a + nI k).toNatClampNeg = 6 * a + k := by rw [ay_ix6]; exact nI_clamp (by omega)
    by_cases z : k < args
    · have h3 : nI hA + nI k = nI (hA + k) := nI_add _ _
      exact br_f (nI_ge z (by omega)) (And.intro (by rw [h3]; exact vp_in_nI (by omega) (by decide)) (And.intro h1 (nm_r (e' := up_n vr (6 * a) (ax_ga args vl hA) (k + 1)) (by rw [h2, h3, nI_clamp (by omega)]; show _ = vp_updL _ _ (ax_ga args vl hA k); rw [show ax_ga args vl hA k = vl (hA + k) from if_pos z]) (nm_r (nI_1 k) (ih (k + 1) (by omega))))))
    · exact br_t (nI_le (by omega) (by omega)) (And.intro h1 (nm_r (e' := up_n vr (6 * a) (ax_ga args vl hA) (k + 1)) (by rw [h2]; show _ = vp_updL _ _ (ax_ga args vl hA k); rw [show ax_ga args vl hA k = vb_pk 1 0 from if_neg z]; rfl) (nm_r (nI_1 k) (ih (k + 1) (by omega)))))
theorem ay_act_dl (post : SY → Prop) {a o s tm args hA h' : Nat} {rf : Int32} (ha : a < 202) (ho : o < 6) (hs : s < 6) (hA' : hA + args ≤ 2200) (hr : (rf = 0 ∧ h' = hA) ∨ (¬ rf = 0 ∧ h' + 1 = hA)) (hm : ymt (6 * o + s) = nI tm) (hp : post (yc, yt, ys, ym, no, nb, nI (a + 1), yw, nI h', nI 20, yo, yk, yp, 3, ycp, ycf, ymt, kd, ytk, ytp, ysk, yoc, yof, ybt, ybp, sv, up_n vr (6 * a) (ax_ga args vl hA) 6, ow, ed, wa, yh, vl, ypr, mo, mb)) : ∀ e k : Nat, k + e = 6 → wY_activate_99 post (nI s) (nI args) rf (nI o) yc yt ys ym no nb (nI a) yw (nI hA) (nI 20) yo yk yp ye (e + 1) (nI k) ycp ycf ymt kd ytk ytp ysk yoc yof ybt ybp sv (up_n vr (6 * a) (ax_ga args vl hA) k) ow ed wa yh vl ypr mo mb := by
  intro e
  induction e with
  | zero =>
    intro k h
    have : k = 6 := by omega
    subst this
    have L : ∀ z : Int32, z = nI h' → wY_activate_174 post (nI s) (nI o) z yc yt ys ym no nb (nI a) yw (nI hA) (nI 20) yo yk yp ye ycp ycf ymt kd ytk ytp ysk yoc yof ybt ybp sv (up_n vr (6 * a) (ax_ga args vl hA) 6) ow ed wa yh vl ypr mo mb := by
      intro z hz
      subst hz
      refine nm_r (nI_1 a) (And.intro (by rw [ay_ix6]; exact vp_in_nI (by omega) (by decide)) ?_)
      exact ay_enter_n _ hp
    refine br_t (by decide) ?_
    rcases hr with ⟨h1, h2⟩ | ⟨h1, h2⟩
    · exact br_t h1 (L _ (by rw [h2]))
    · exact br_f h1 (L _ (by rw [← h2, nI_pred]))
  | succ e ih =>
    intro k h
    refine br_f (nI_ge (b := 6) (by omega) (by decide)) ?_
    have h1 : vp_in (6 * nI a + nI k) 1212 := by rw [ay_ix6]; exact vp_in_nI (by omega) (by decide)
    have h2 : (6 * nI a + nI k).toNatClampNeg = 6 * a + k := by rw [ay_ix6]; exact nI_clamp (by omega)
    by_cases z : k < args
    · have h3 : nI hA + nI k = nI (hA + k) := nI_add _ _
      exact br_f (nI_ge z (by omega)) (And.intro (by rw [h3]; exact vp_in_nI (by omega) (by decide)) (And.intro h1 (nm_r (e' := up_n vr (6 * a) (ax_ga args vl hA) (k + 1)) (by rw [h2, h3, nI_clamp (by omega)]; show _ = vp_updL _ _ (ax_ga args vl hA k); rw [show ax_ga args vl hA k = vl (hA + k) from if_pos z]) (nm_r (nI_1 k) (ih (k + 1) (by omega))))))
    · exact br_t (nI_le (by omega) (by omega)) (And.intro h1 (nm_r (e' := up_n vr (6 * a) (ax_ga args vl hA) (k + 1)) (by rw [h2]; show _ = vp_updL _ _ (ax_ga args vl hA k); rw [show ax_ga args vl hA k = vb_pk 1 0 from if_neg z]; rfl) (nm_r (nI_1 k) (ih (k + 1) (by omega)))))
theorem ay_a35_s (post : SY → Prop) {s args rf : Int32} {self : Int64} (hp : post (yc, yt, ys, ym, no, nb, ya, yw, yv, yu, yo, yk, yp, 1, ycp, ycf, ymt, kd, ytk, ytp, ysk, yoc, yof, ybt, ybp, sv, vr, ow, ed, wa, yh, vl, ypr, mo, mb)) : wY_activate_35 post s self args rf (-1) yc yt ys ym no nb ya yw yv yu yo yk yp ye ycp ycf ymt kd ytk ytp ysk yoc yof ybt ybp sv vr ow ed wa yh vl ypr mo mb :=
  br_f (by decide) hp
theorem ay_a35_t (post : SY → Prop) {o : Nat} {s args rf : Int32} {self : Int64} (ho : o < 6) (hp : post (yc, yt, ys, ym, no, nb, ya, yw, yv, yu, yo, nI 200, yp, 2, ycp, ycf, ymt, kd, ytk, ytp, ysk, yoc, yof, ybt, ybp, sv, vr, ow, ed, wa, yh, vl, ypr, mo, mb)) : wY_activate_35 post s self args rf (nI o) yc yt ys ym no nb ya yw yv yu yo (nI 200) yp ye ycp ycf ymt kd ytk ytp ysk yoc yof ybt ybp sv vr ow ed wa yh vl ypr mo mb :=
  br_t (nI_pos' (by omega)) (ay_turn_n _ (br_t rfl hp))
theorem ay_a35_d (post : SY → Prop) {a r o s tm args hA h' : Nat} {rf : Int32} {self : Int64} (hk : r < 200) (ha : a < 202) (ho : o < 6) (hs : s < 6) (hA' : hA + args ≤ 2200) (hr : (rf = 0 ∧ h' = hA) ∨ (¬ rf = 0 ∧ h' + 1 = hA)) (hm : ymt (6 * o + s) = nI tm) (hp : post (yc, yt, ys, ym, no, nb, nI (a + 1), yw, nI h', nI 20, yo, nI (r + 1), yp, 3, ycp, ycf, ymt, kd, ytk, ytp, ysk, yoc, yof, ybt, ybp, vp_updL sv a self, up_n vr (6 * a) (ax_ga args vl hA) 6, upd ow a (nI o), upd ed a 0, wa, yh, vl, ypr, mo, mb)) : wY_activate_35 post (nI s) self (nI args) rf (nI o) yc yt ys ym no nb (nI a) yw (nI (hA + args)) (nI 20) yo (nI r) yp ye ycp ycf ymt kd ytk ytp ysk yoc yof ybt ybp sv vr ow ed wa yh vl ypr mo mb :=
  br_t (nI_pos' (by omega)) (ay_turn_f _ hk (br_f (by decide) (And.intro (vp_in_nI ha (by decide)) (nm_r (e' := vp_updL sv a self) (by rw [nI_clamp (by omega)]) (And.intro (vp_in_nI ha (by decide)) (nm_r (e' := upd ow a (nI o)) (by rw [nI_clamp (by omega)]) (And.intro (vp_in_nI ha (by decide)) (nm_r (e' := upd ed a 0) (by rw [nI_clamp (by omega), ay_n0]) (nm_r (e' := nI hA) (by rw [pk_sub (by omega)]; exact congrArg nI (by omega)) (Exists.intro 7 (ay_act_dl post ha ho hs hA' hr hm hp 6 0 rfl)))))))))))
theorem ay_a35_f (post : SY → Prop) {a r o s tm args hA h' q g d : Nat} {rf : Int32} {self : Int64} (hk : r < 200) (ha : a < 202) (hq : q + 1 < 2200) (hg : g < 20) (hd : d < 1000) (ho : o < 6) (hs : s < 6) (hA' : hA + args ≤ 2200) (hr : (rf = 0 ∧ h' = hA) ∨ (¬ rf = 0 ∧ h' + 1 = hA)) (hm : ymt (6 * o + s) = nI tm) (hp : post (yc, yt, ys, ym, no, nb, nI (a + 1), nI (q + 2), nI h', nI (g + 1), nI (ay_mx g d), nI (r + 1), yp, ye, ycp, ycf, ymt, kd, ytk, ytp, ysk, yoc, yof, ybt, ybp, vp_updL sv a self, up_n vr (6 * a) (ax_ga args vl hA) 6, upd ow a (nI o), upd ed a 0, upd (upd wa q (nI (1024 * a + 8 * 127 + 0))) (q + 1) (nI (1024 * a + 8 * tm + 0)), upd (upd yh q (nI h')) (q + 1) (nI h'), vl, ypr, mo, mb)) : wY_activate_35 post (nI s) self (nI args) rf (nI o) yc yt ys ym no nb (nI a) (nI q) (nI (hA + args)) (nI g) (nI d) (nI r) yp ye ycp ycf ymt kd ytk ytp ysk yoc yof ybt ybp sv vr ow ed wa yh vl ypr mo mb :=
  br_t (nI_pos' (by omega)) (ay_turn_f _ hk (br_f (by decide) (And.intro (vp_in_nI ha (by decide)) (nm_r (e' := vp_updL sv a self) (by rw [nI_clamp (by omega)]) (And.intro (vp_in_nI ha (by decide)) (nm_r (e' := upd ow a (nI o)) (by rw [nI_clamp (by omega)]) (And.intro (vp_in_nI ha (by decide)) (nm_r (e' := upd ed a 0) (by rw [nI_clamp (by omega), ay_n0]) (nm_r (e' := nI hA) (by rw [pk_sub (by omega)]; exact congrArg nI (by omega)) (Exists.intro 7 (ay_act_l post ha hq hg hd ho hs hA' hr hm hp 6 0 rfl)))))))))))
/-! call -/
theorem ay_call_s (post : SY → Prop) {x : Int64} {gv : Int32} {ar : Int64} (h1 : ¬ vb_T x = 3) (hp : post (yc, yt, ys, ym, no, nb, ya, yw, yv, yu, yo, yk, yp, 1, ycp, ycf, ymt, kd, ytk, ytp, ysk, yoc, yof, ybt, ybp, sv, vr, ow, ed, wa, yh, vl, ypr, mo, mb)) : wpY_callBlock post (yc, yt, ys, ym, no, nb, ya, yw, yv, yu, yo, yk, yp, ye, ycp, ycf, ymt, kd, ytk, ytp, ysk, yoc, yof, ybt, ybp, sv, vr, ow, ed, wa, yh, vl, ypr, mo, mb) x gv ar :=
  br_f h1 (br_t rfl hp)
theorem ay_call_h (post : SY → Prop) {b t : Nat} {y k gv : Int32} {ar : Int64} (hb : b < 201) (h2 : ybt b = nI t) (ht : t < 100) (h3 : ytk t = k) (hy : (k = -1 ∧ y = 0) ∨ (¬ k < 0 ∧ y = 1)) (hp : wY_callBlock_48 post (vb_pk 3 (nI b)) gv ar k y yc yt ys ym no nb ya yw yv yu yo yk yp ye ycp ycf ymt kd ytk ytp ysk yoc yof ybt ybp sv vr ow ed wa yh vl ypr mo mb) : wpY_callBlock post (yc, yt, ys, ym, no, nb, ya, yw, yv, yu, yo, yk, yp, ye, ycp, ycf, ymt, kd, ytk, ytp, ysk, yoc, yof, ybt, ybp, sv, vr, ow, ed, wa, yh, vl, ypr, mo, mb) (vb_pk 3 (nI b)) gv ar := by
  unfold wpY_callBlock
  refine ay_type _ (vC_3 _) (br_t rfl (ay_num _ (And.intro (vp_in_nI hb (by decide)) (And.intro (by rw [nI_clamp (by omega), h2]; exact vp_in_nI ht (by decide)) ?_))))
  rw [nI_clamp (n := b) (by omega), h2, nI_clamp (by omega), h3]
  rcases hy with ⟨rfl, rfl⟩ | ⟨hk, rfl⟩
  · exact br_f (by decide) (br_t (by decide) hp)
  · exact br_f (fun e => hk (by rw [e]; decide)) (br_f hk hp)
theorem ay_call_m (post : SY → Prop) {x : Int64} {y k gv : Int32} {ar : Int64} (h : ¬ y = gv) (hp : post (yc, yt, ys, ym, no, nb, ya, yw, yv, yu, yo, yk, yp, 1, ycp, ycf, ymt, kd, ytk, ytp, ysk, yoc, yof, ybt, ybp, sv, vr, ow, ed, wa, yh, vl, ypr, mo, mb)) : wY_callBlock_48 post x gv ar k y yc yt ys ym no nb ya yw yv yu yo yk yp ye ycp ycf ymt kd ytk ytp ysk yoc yof ybt ybp sv vr ow ed wa yh vl ypr mo mb :=
  br_f h hp
theorem ay_call_t (post : SY → Prop) {x : Int64} {k gv : Int32} {ar : Int64} (hp : post (yc, yt, ys, ym, no, nb, ya, yw, yv, yu, yo, nI 200, yp, 2, ycp, ycf, ymt, kd, ytk, ytp, ysk, yoc, yof, ybt, ybp, sv, vr, ow, ed, wa, yh, vl, ypr, mo, mb)) : wY_callBlock_48 post x gv ar k gv yc yt ys ym no nb ya yw yv yu yo (nI 200) yp ye ycp ycf ymt kd ytk ytp ysk yoc yof ybt ybp sv vr ow ed wa yh vl ypr mo mb :=
  br_t rfl (ay_turn_n _ (br_t rfl hp))
theorem ay_call_98 (post : SY → Prop) {b t p : Nat} {a : Int32} (hb : b < 201) (h2 : ybt b = nI t) (ht : t < 100) (h3 : ytp (3 * t) = nI p) (hp : wpY_enter post (yc, yt, ys, ym, no, nb, ya, yw, yv, yu, yo, yk, yp, ye, ycp, ycf, ymt, kd, ytk, ytp, ysk, yoc, yof, ybt, ybp, sv, vr, ow, ed, wa, yh, vl, ypr, mo, mb) 126 (nI p) a) : wY_callBlock_98 post (vb_pk 3 (nI b)) a yc yt ys ym no nb ya yw yv yu yo yk yp ye ycp ycf ymt kd ytk ytp ysk yoc yof ybt ybp sv vr ow ed wa yh vl ypr mo mb := by
  refine ay_num _ (And.intro (vp_in_nI hb (by decide)) (And.intro (by rw [nI_clamp (n := b) (by omega), h2, show (3 : Int32) = nI 3 from rfl, pk_mul]; exact vp_in_nI (by omega) (by decide)) ?_))
  rw [nI_clamp (n := b) (by omega), h2, show (3 : Int32) = nI 3 from rfl, pk_mul, nI_clamp (by omega), h3]
  exact hp
theorem ay_call_0 (post : SY → Prop) {b t p a r : Nat} {k : Int32} {ar : Int64} (hr : r < 200) (hb : b < 201) (h2 : ybt b = nI t) (ht : t < 100) (h3 : ytp (3 * t) = nI p) (h4 : ybp b = nI a) (hp : wpY_enter post (yc, yt, ys, ym, no, nb, ya, yw, yv, yu, yo, nI (r + 1), yp, ye, ycp, ycf, ymt, kd, ytk, ytp, ysk, yoc, yof, ybt, ybp, sv, vr, ow, ed, wa, yh, vl, ypr, mo, mb) 126 (nI p) (nI a)) : wY_callBlock_48 post (vb_pk 3 (nI b)) 0 ar k 0 yc yt ys ym no nb ya yw yv yu yo (nI r) yp ye ycp ycf ymt kd ytk ytp ysk yoc yof ybt ybp sv vr ow ed wa yh vl ypr mo mb :=
  br_t rfl (ay_turn_f _ hr (br_f (by decide) (ay_num _ (And.intro (vp_in_nI hb (by decide)) (nm_r (e' := nI a) (by rw [nI_clamp (by omega)]; exact h4) (br_t rfl (ay_call_98 _ hb h2 ht h3 hp)))))))
theorem ay_call_1 (post : SY → Prop) {b t p a r k : Nat} {ar : Int64} (hr : r < 200) (hb : b < 201) (h2 : ybt b = nI t) (ht : t < 100) (h3 : ytp (3 * t) = nI p) (h4 : ybp b = nI a) (ha : a < 202) (hk : k < 6) (hp : wpY_enter post (yc, yt, ys, ym, no, nb, ya, yw, yv, yu, yo, nI (r + 1), yp, ye, ycp, ycf, ymt, kd, ytk, ytp, ysk, yoc, yof, ybt, ybp, sv, vp_updL vr (6 * a + k) ar, ow, ed, wa, yh, vl, ypr, mo, mb) 126 (nI p) (nI a)) : wY_callBlock_48 post (vb_pk 3 (nI b)) 1 ar (nI k) 1 yc yt ys ym no nb ya yw yv yu yo (nI r) yp ye ycp ycf ymt kd ytk ytp ysk yoc yof ybt ybp sv vr ow ed wa yh vl ypr mo mb :=
  br_t rfl (ay_turn_f _ hr (br_f (by decide) (ay_num _ (And.intro (vp_in_nI hb (by decide)) (nm_r (e' := nI a) (by rw [nI_clamp (by omega)]; exact h4) (br_f (by decide) (And.intro (by rw [ay_ix6]; exact vp_in_nI (by omega) (by decide)) (nm_r (e' := vp_updL vr (6 * a + k) ar) (by rw [ay_ix6, nI_clamp (by omega)]) (ay_call_98 _ hb h2 ht h3 hp)))))))))
/-! operate -/
theorem ay_op_e (post : SY → Prop) {q : Nat} {i : Int32} (hq : q + 1 < 2200) (h1 : (vl q = vl (q + 1) ∧ i = 1) ∨ (¬ vl q = vl (q + 1) ∧ i = 0)) (hp : post (yc, yt, ys, ym, no, nb, ya, yw, nI (q + 1), yu, yo, yk, yp, ye, ycp, ycf, ymt, kd, ytk, ytp, ysk, yoc, yof, ybt, ybp, sv, vr, ow, ed, wa, yh, vp_updL vl q (vb_pk 2 i), ypr, mo, mb)) : wpY_operate post (yc, yt, ys, ym, no, nb, ya, yw, nI (q + 2), yu, yo, yk, yp, ye, ycp, ycf, ymt, kd, ytk, ytp, ysk, yoc, yof, ybt, ybp, sv, vr, ow, ed, wa, yh, vl, ypr, mo, mb) 24 := by
  refine nm_r (e' := nI q) (pk_sub (b := 2) (by omega)) (And.intro (vp_in_nI (by omega) (by decide)) (nm_r (e' := vl q) (by rw [nI_clamp (by omega)]) (And.intro (by rw [nI_1]; exact vp_in_nI hq (by decide)) (nm_r (e' := vl (q + 1)) (by rw [nI_1, nI_clamp (by omega)]) (br_t rfl ?_)))))
  rcases h1 with ⟨h1, rfl⟩ | ⟨h1, rfl⟩
  · exact br_t h1 (ay_hold _ (by omega) hp)
  · exact br_f h1 (ay_hold _ (by omega) hp)
theorem ay_op_s (post : SY → Prop) {q : Nat} {o : Int32} (hq : q + 1 < 2200) (ho : ¬ o = 24) (h : ¬ (vb_T (vl q) = 2 ∧ vb_T (vl (q + 1)) = 2)) (hp : post (yc, yt, ys, ym, no, nb, ya, yw, nI q, yu, yo, yk, yp, 1, ycp, ycf, ymt, kd, ytk, ytp, ysk, yoc, yof, ybt, ybp, sv, vr, ow, ed, wa, yh, vl, ypr, mo, mb)) : wpY_operate post (yc, yt, ys, ym, no, nb, ya, yw, nI (q + 2), yu, yo, yk, yp, ye, ycp, ycf, ymt, kd, ytk, ytp, ysk, yoc, yof, ybt, ybp, sv, vr, ow, ed, wa, yh, vl, ypr, mo, mb) o := by
  refine nm_r (e' := nI q) (pk_sub (b := 2) (by omega)) (And.intro (vp_in_nI (by omega) (by decide)) (nm_r (e' := vl q) (by rw [nI_clamp (by omega)]) (And.intro (by rw [nI_1]; exact vp_in_nI hq (by decide)) (nm_r (e' := vl (q + 1)) (by rw [nI_1, nI_clamp (by omega)]) (br_f ho ?_)))))
  by_cases z : vb_T (vl q) = 2
  · exact br_t z (br_f (fun e => h ⟨z, e⟩) hp)
  · exact br_f z hp
theorem ay_op_f (post : SY → Prop) {q k : Nat} (hq : q + 1 < 2200) (hk : 20 ≤ k ∧ k ≤ 23) (h1 : vb_T (vl q) = 2) (h2 : vb_T (vl (q + 1)) = 2) (hp : post (yc, yt, ys, ym, no, nb, ya, yw, nI (q + 1), yu, yo, yk, yp, ye, ycp, ycf, ymt, kd, ytk, ytp, ysk, yoc, yof, ybt, ybp, sv, vr, ow, ed, wa, yh, vp_updL vl q (vb_pk 2 (ax_r (k - 5) (vl q).toInt32 (vl (q + 1)).toInt32)), ypr, mo, mb)) : wpY_operate post (yc, yt, ys, ym, no, nb, ya, yw, nI (q + 2), yu, yo, yk, yp, ye, ycp, ycf, ymt, kd, ytk, ytp, ysk, yoc, yof, ybt, ybp, sv, vr, ow, ed, wa, yh, vl, ypr, mo, mb) (nI k) := by
  refine nm_r (e' := nI q) (pk_sub (b := 2) (by omega)) (And.intro (vp_in_nI (by omega) (by decide)) (nm_r (e' := vl q) (by rw [nI_clamp (by omega)]) (And.intro (by rw [nI_1]; exact vp_in_nI hq (by decide)) (nm_r (e' := vl (q + 1)) (by rw [nI_1, nI_clamp (by omega)]) (br_f (ay_nIne (b := 24) (by omega) (by omega) (by omega)) (br_t h1 (br_t h2 ?_)))))))
  have hc : k = 20 ∨ k = 21 ∨ k = 22 ∨ k = 23 := by omega
  rcases hc with rfl | rfl | rfl | rfl
  · exact br_t (by decide) (ay_hold _ (by omega) hp)
  · exact br_f (by decide) (br_t (by decide) (ay_hold _ (by omega) hp))
  · exact br_f (by decide) (br_f (by decide) (br_t (by decide) (ay_hold _ (by omega) hp)))
  · refine br_f (by decide) (br_f (by decide) (br_f (by decide) ?_))
    by_cases z : (vl (q + 1)).toInt32 ≤ (vl q).toInt32
    · rw [show ax_r (23 - 5) (vl q).toInt32 (vl (q + 1)).toInt32 = 0 from if_pos z] at hp
      exact br_t z (ay_hold _ (by omega) hp)
    · rw [show ax_r (23 - 5) (vl q).toInt32 (vl (q + 1)).toInt32 = 1 from if_neg z] at hp
      exact br_f z (ay_hold _ (by omega) hp)
end
