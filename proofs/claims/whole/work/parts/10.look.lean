section
variable {nc nt ns mn n na f ws vs en pc tc dc : Int32} {rs : Int64} {cp cf mt op tk tp fp sk oc bt ba rd ac af fa fw fv wt wd pr mc : Nat → Int32} {of sl wv : Nat → Int64}
variable {yc yt ys ym no nb ya yw yv yu yo yk yp ye : Int32} {ycp ycf ymt kd ytk ytp ysk yoc ybt ybp ow ed wa yh ypr mo mb : Nat → Int32} {yof sv vr vl : Nat → Int64}
variable {NC NT : Nat}
theorem lk_x1 (post : Int32 → Prop) {s i : Int32} {k : Nat} (hp : post (-1)) : wX_holderOf_5 post s nc nt ns mn n na f ws vs en rs pc tc dc cp cf mt op tk tp fp sk oc of bt ba rd sl ac af fa fw fv wt wd wv pr mc (k + 1) (-1) i := by
  by_cases h : 6 ≤ i
  · exact br_t h hp
  · exact br_f h (br_t rfl hp)
theorem lk_h (C : ∀ c, c < NC → pg_C NT c cp cf mt) (hN : NC ≤ 6) (hT : NT ≤ 100) {s : Nat} (hs : s < 6) {args rf : Int32} {self : Int64} : ∀ b c i : Nat, c < b → c < NC → i + c < 6 → ∃ h : Int32, (h = -1 ∨ ∃ o tm, o < NC ∧ tm < NT ∧ h = nI o ∧ mt (6 * o + s) = nI tm) ∧ (∀ (post : Int32 → Prop) (m : Nat), c + 1 < m → post h → wX_holderOf_5 post (nI s) nc nt ns mn n na f ws vs en rs pc tc dc cp cf mt op tk tp fp sk oc of bt ba rd sl ac af fa fw fv wt wd wv pr mc m (nI c) (nI i)) ∧ (∀ (post : SY → Prop) (m : Nat), c + 1 < m → wY_activate_35 post (nI s) self args rf h yc yt ys ym no nb ya yw yv yu yo yk yp ye cp ycf mt kd ytk ytp ysk yoc yof ybt ybp sv vr ow ed wa yh vl ypr mo mb → wY_activate_3 post (nI s) self args rf yc yt ys ym no nb ya yw yv yu yo yk yp ye cp ycf mt kd ytk ytp ysk yoc yof ybt ybp sv vr ow ed wa yh vl ypr mo mb m (nI c)) := by
  intro b
  induction b with
  | zero => intro c i h; omega
  | succ b ih =>
    intro c i hb hc hi
    have Cc := C c hc
    have x1 : ¬ (6 : Int32) ≤ nI i := nI_ge (b := 6) (by omega) (by decide)
    have x2 : ¬ nI c = -1 := ax_nIm1 (by omega)
    have x3 : vp_in (nI c * 6 + nI s) 36 := by rw [ax_ix6]; exact vp_in_nI (by omega) (by decide)
    have x4 : (nI c * 6 + nI s).toNatClampNeg = 6 * c + s := by rw [ax_ix6]; exact nI_clamp (by omega)
    have y1 : ¬ nI c < 0 := nI_pos (by omega)
    have y3 : vp_in (6 * nI c + nI s) 36 := by rw [ay_ix6]; exact vp_in_nI (by omega) (by decide)
    have y4 : (6 * nI c + nI s).toNatClampNeg = 6 * c + s := by rw [ay_ix6]; exact nI_clamp (by omega)
    have ci : vp_in (nI c) 6 := vp_in_nI (by omega) (by decide)
    have cl : (nI c).toNatClampNeg = c := nI_clamp (by omega)
    rcases Cc.2.2 s hs with e | ⟨tm, ht, e⟩
    · rcases Cc.1 with p | ⟨p, hp, e2⟩
      · refine ⟨-1, Or.inl rfl, fun post m hm hp => ?_, fun post m hm hp => ?_⟩
        · obtain ⟨m, rfl⟩ : ∃ m', m = m' + 2 := ⟨m - 2, by omega⟩
          exact br_f x1 (br_f x2 (And.intro x3 (br_t (by rw [x4]; exact e) (And.intro ci (nm_r (e' := -1) (by rw [cl]; exact p) (nm_r (nI_1 i) (lk_x1 post hp)))))))
        · obtain ⟨m, rfl⟩ : ∃ m', m = m' + 2 := ⟨m - 2, by omega⟩
          exact br_f y1 (And.intro y3 (br_f (by rw [y4, e]; decide) (And.intro ci (nm_r (e' := -1) (by rw [cl]; exact p) (br_t (by decide) hp)))))
      · obtain ⟨h, h1, h2, h3⟩ := ih p (i + 1) (by omega) (by omega) (by omega)
        refine ⟨h, h1, fun post m hm hp => ?_, fun post m hm hp => ?_⟩
        · obtain ⟨m, rfl⟩ : ∃ m', m = m' + 1 := ⟨m - 1, by omega⟩
          exact br_f x1 (br_f x2 (And.intro x3 (br_t (by rw [x4]; exact e) (And.intro ci (nm_r (e' := nI p) (by rw [cl]; exact e2) (nm_r (nI_1 i) (h2 post m (by omega) hp)))))))
        · obtain ⟨m, rfl⟩ : ∃ m', m = m' + 1 := ⟨m - 1, by omega⟩
          exact br_f y1 (And.intro y3 (br_f (by rw [y4, e]; decide) (And.intro ci (nm_r (e' := nI p) (by rw [cl]; exact e2) (h3 post m (by omega) hp)))))
    · refine ⟨nI c, Or.inr ⟨c, tm, hc, ht, rfl, e⟩, fun post m hm hp => ?_, fun post m hm hp => ?_⟩
      · obtain ⟨m, rfl⟩ : ∃ m', m = m' + 1 := ⟨m - 1, by omega⟩
        exact br_f x1 (br_f x2 (And.intro x3 (br_f (by rw [x4, e]; exact ax_nIm1 (by omega)) hp)))
      · obtain ⟨m, rfl⟩ : ∃ m', m = m' + 1 := ⟨m - 1, by omega⟩
        exact br_f y1 (And.intro y3 (br_t (by rw [y4, e]; exact nI_pos' (by omega)) hp))
/-! finishIs and isKind -/
theorem lk_d1 (post : Int32 → Prop) {s i : Int32} {k : Nat} (hp : post 0) : wX_descends_5 post s nc nt ns mn n na f ws vs en rs pc tc dc cp cf mt op tk tp fp sk oc of bt ba rd sl ac af fa fw fv wt wd wv pr mc (k + 1) (-1) i := by
  by_cases h : 6 ≤ i
  · exact br_t h hp
  · exact br_f h (br_t rfl hp)
theorem lk_d (C : ∀ c, c < NC → pg_C NT c cp cf mt) (hN : NC ≤ 6) {g : Int32} : ∀ b c i : Nat, c < b → c < NC → i + c < 6 → ∃ h : Int32, (h = 0 ∨ h = 1) ∧ (∀ (post : Int32 → Prop) (m : Nat), c + 1 < m → post h → wX_descends_5 post g nc nt ns mn n na f ws vs en rs pc tc dc cp cf mt op tk tp fp sk oc of bt ba rd sl ac af fa fw fv wt wd wv pr mc m (nI c) (nI i)) ∧ (∀ (post : Int32 → Prop) (m : Nat), c + 1 < m → post h → wY_isKind_25 post g yc yt ys ym no nb ya yw yv yu yo yk yp ye cp ycf ymt kd ytk ytp ysk yoc yof ybt ybp sv vr ow ed wa yh vl ypr mo mb m (nI c)) := by
  intro b
  induction b with
  | zero => intro c i h; omega
  | succ b ih =>
    intro c i hb hc hi
    have Cc := C c hc
    have x1 : ¬ (6 : Int32) ≤ nI i := nI_ge (b := 6) (by omega) (by decide)
    have x2 : ¬ nI c = -1 := ax_nIm1 (by omega)
    have y1 : ¬ nI c < 0 := nI_pos (by omega)
    have ci : vp_in (nI c) 6 := vp_in_nI (by omega) (by decide)
    have cl : (nI c).toNatClampNeg = c := nI_clamp (by omega)
    by_cases e : nI c = g
    · refine ⟨1, Or.inr rfl, fun post m hm hp => ?_, fun post m hm hp => ?_⟩
      · obtain ⟨m, rfl⟩ : ∃ m', m = m' + 1 := ⟨m - 1, by omega⟩
        exact br_f x1 (br_f x2 (br_t e hp))
      · obtain ⟨m, rfl⟩ : ∃ m', m = m' + 1 := ⟨m - 1, by omega⟩
        exact br_f y1 (br_t e (br_f y1 hp))
    · rcases Cc.1 with p | ⟨p, hp, e2⟩
      · refine ⟨0, Or.inl rfl, fun post m hm hp => ?_, fun post m hm hp => ?_⟩
        · obtain ⟨m, rfl⟩ : ∃ m', m = m' + 2 := ⟨m - 2, by omega⟩
          exact br_f x1 (br_f x2 (br_f e (And.intro ci (nm_r (e' := -1) (by rw [cl]; exact p) (nm_r (nI_1 i) (lk_d1 post hp))))))
        · obtain ⟨m, rfl⟩ : ∃ m', m = m' + 2 := ⟨m - 2, by omega⟩
          exact br_f y1 (br_f e (And.intro ci (nm_r (e' := -1) (by rw [cl]; exact p) (br_t (by decide) (br_t (by decide) hp)))))
      · obtain ⟨h, h1, h2, h3⟩ := ih p (i + 1) (by omega) (by omega) (by omega)
        refine ⟨h, h1, fun post m hm hp => ?_, fun post m hm hp => ?_⟩
        · obtain ⟨m, rfl⟩ : ∃ m', m = m' + 1 := ⟨m - 1, by omega⟩
          exact br_f x1 (br_f x2 (br_f e (And.intro ci (nm_r (e' := nI p) (by rw [cl]; exact e2) (nm_r (nI_1 i) (h2 post m (by omega) hp))))))
        · obtain ⟨m, rfl⟩ : ∃ m', m = m' + 1 := ⟨m - 1, by omega⟩
          exact br_f y1 (br_f e (And.intro ci (nm_r (e' := nI p) (by rw [cl]; exact e2) (h3 post m (by omega) hp))))
theorem lk_is (post : SX → Prop) {q : Nat} {k r : Int32} (hq : q < 2100) (hr : r = 0 ∨ r = 1) (h : (¬ vb_T (wv q) = 4 ∧ r = 0) ∨ (∃ t c : Nat, wv q = vb_pk 4 (nI t) ∧ t < 200 ∧ oc t = nI c ∧ ∀ Q : Int32 → Prop, Q r → wpX_descends Q (nc, nt, ns, mn, n, na, f, ws, nI q, en, rs, pc, tc, dc, cp, cf, mt, op, tk, tp, fp, sk, oc, of, bt, ba, rd, sl, ac, af, fa, fw, fv, wt, wd, wv, pr, mc) (nI c) k)) (hp : post (nc, nt, ns, mn, n, na, f, ws, nI (q + 1), en, rs, pc, tc, dc, cp, cf, mt, op, tk, tp, fp, sk, oc, of, bt, ba, rd, sl, ac, af, fa, fw, fv, wt, wd, vp_updL wv q (vb_pk 2 r), pr, mc)) : wpX_finishIs post (nc, nt, ns, mn, n, na, f, ws, nI (q + 1), en, rs, pc, tc, dc, cp, cf, mt, op, tk, tp, fp, sk, oc, of, bt, ba, rd, sl, ac, af, fa, fw, fv, wt, wd, wv, pr, mc) k := by
  unfold wpX_finishIs
  have L : wX_finishIs_36 post r nc nt ns mn n na f ws (nI q) en rs pc tc dc cp cf mt op tk tp fp sk oc of bt ba rd sl ac af fa fw fv wt wd wv pr mc := by
    rcases hr with rfl | rfl
    · exact br_t rfl (ax_pushInt _ hq hp)
    · exact br_f (by decide) (ax_pushInt _ hq hp)
  refine ax_pop _ hq ?_
  rcases h with ⟨h1, rfl⟩ | ⟨t, c, h1, ht, h2, h3⟩
  · exact br_f h1 L
  · rw [h1]
    refine ax_sort _ (vC_4 _) (br_t rfl (ax_num _ (And.intro (vp_in_nI ht (by decide)) ?_)))
    rw [nI_clamp (by omega), h2]
    exact h3 _ L
theorem lk_isY0 (post : Int32 → Prop) {x : Int64} {g : Int32} (h : ¬ vb_T x = 4) (hp : post 0) : wpY_isKind post (yc, yt, ys, ym, no, nb, ya, yw, yv, yu, yo, yk, yp, ye, ycp, ycf, ymt, kd, ytk, ytp, ysk, yoc, yof, ybt, ybp, sv, vr, ow, ed, wa, yh, vl, ypr, mo, mb) x g := by
  unfold wpY_isKind
  exact br_f h (Exists.intro 1 (br_t (by decide) (br_t (by decide) hp)))
theorem lk_isY1 (post : Int32 → Prop) {t c m : Nat} {g : Int32} (ht : t < 201) (h1 : yoc t = nI c) (hp : wY_isKind_25 post g yc yt ys ym no nb ya yw yv yu yo yk yp ye ycp ycf ymt kd ytk ytp ysk yoc yof ybt ybp sv vr ow ed wa yh vl ypr mo mb m (nI c)) : wpY_isKind post (yc, yt, ys, ym, no, nb, ya, yw, yv, yu, yo, yk, yp, ye, ycp, ycf, ymt, kd, ytk, ytp, ysk, yoc, yof, ybt, ybp, sv, vr, ow, ed, wa, yh, vl, ypr, mo, mb) (vb_pk 4 (nI t)) g := by
  unfold wpY_isKind
  exact ay_type _ (vC_4 _) (br_t rfl (ay_num _ (And.intro (vp_in_nI ht (by decide)) (nm_r (e' := nI c) (by rw [nI_clamp (by omega)]; exact h1) (Exists.intro m hp)))))
/-! send and super -/
theorem lk_e {q s : Nat} : nI (q + 1 + s % 3) - nI (s % 3 + 1) = nI q := by
  rw [pk_sub (by omega)]
  exact congrArg nI (by omega)
theorem lk_send_s (post : SX → Prop) {s q : Nat} (hs : s < 6) (hq : q + 1 + s % 3 ≤ 2100) (h : ¬ vb_T (wv q) = 4) (hp : post (nc, nt, ns, mn, n, na, f, ws, nI (q + 1 + s % 3), 1, rs, pc, tc, dc, cp, cf, mt, op, tk, tp, fp, sk, oc, of, bt, ba, rd, sl, ac, af, fa, fw, fv, wt, wd, wv, pr, mc)) : wpX_finishSend post (nc, nt, ns, mn, n, na, f, ws, nI (q + 1 + s % 3), en, rs, pc, tc, dc, cp, cf, mt, op, tk, tp, fp, sk, oc, of, bt, ba, rd, sl, ac, af, fa, fw, fv, wt, wd, wv, pr, mc) (nI s) := by
  unfold wpX_finishSend
  exact ax_args _ hs (nm_r (nI_1 _) (And.intro (by rw [lk_e]; exact vp_in_nI (by omega) (by decide)) (nm_r (e' := wv q) (by rw [lk_e, nI_clamp (by omega)]) (br_f h (br_t rfl hp)))))
theorem lk_send_h (post : SX → Prop) {s q t c : Nat} {h : Int32} (hs : s < 6) (hq : q + 1 + s % 3 ≤ 2100) (h0 : wv q = vb_pk 4 (nI t)) (ht : t < 200) (h1 : oc t = nI c) (h2 : ∀ Q : Int32 → Prop, Q h → wpX_holderOf Q (nc, nt, ns, mn, n, na, f, ws, nI (q + 1 + s % 3), en, rs, pc, tc, dc, cp, cf, mt, op, tk, tp, fp, sk, oc, of, bt, ba, rd, sl, ac, af, fa, fw, fv, wt, wd, wv, pr, mc) (nI c) (nI s)) (hp : wX_finishSend_50 post (nI s) (nI (s % 3 + 1)) (vb_pk 4 (nI t)) h nc nt ns mn n na f ws (nI (q + 1 + s % 3)) en rs pc tc dc cp cf mt op tk tp fp sk oc of bt ba rd sl ac af fa fw fv wt wd wv pr mc) : wpX_finishSend post (nc, nt, ns, mn, n, na, f, ws, nI (q + 1 + s % 3), en, rs, pc, tc, dc, cp, cf, mt, op, tk, tp, fp, sk, oc, of, bt, ba, rd, sl, ac, af, fa, fw, fv, wt, wd, wv, pr, mc) (nI s) := by
  unfold wpX_finishSend
  exact ax_args _ hs (nm_r (nI_1 _) (And.intro (by rw [lk_e]; exact vp_in_nI (by omega) (by decide)) (nm_r (e' := vb_pk 4 (nI t)) (by rw [lk_e, nI_clamp (by omega)]; exact h0) (ax_sort _ (vC_4 _) (br_t rfl (ax_num _ (And.intro (vp_in_nI ht (by decide)) (by rw [nI_clamp (by omega), h1]; exact h2 _ hp))))))))
theorem lk_s50_s (post : SX → Prop) {s k : Int32} {x : Int64} (hp : post (nc, nt, ns, mn, n, na, f, ws, vs, 1, rs, pc, tc, dc, cp, cf, mt, op, tk, tp, fp, sk, oc, of, bt, ba, rd, sl, ac, af, fa, fw, fv, wt, wd, wv, pr, mc)) : wX_finishSend_50 post s k x (-1) nc nt ns mn n na f ws vs en rs pc tc dc cp cf mt op tk tp fp sk oc of bt ba rd sl ac af fa fw fv wt wd wv pr mc :=
  br_t rfl hp
theorem lk_s50_t (post : SX → Prop) {s k : Int32} {x : Int64} {o : Nat} (ho : o < 6) (hp : post (nc, nt, ns, mn, n, na, f, ws, vs, 2, rs, pc, nI 200, dc, cp, cf, mt, op, tk, tp, fp, sk, oc, of, bt, ba, rd, sl, ac, af, fa, fw, fv, wt, wd, wv, pr, mc)) : wX_finishSend_50 post s k x (nI o) nc nt ns mn n na f ws vs en rs pc (nI 200) dc cp cf mt op tk tp fp sk oc of bt ba rd sl ac af fa fw fv wt wd wv pr mc :=
  br_f (ax_nIm1 (by omega)) (ax_may_t _ (br_t rfl hp))
theorem lk_s50_d (post : SX → Prop) {s k : Int32} {x : Int64} {o r : Nat} (ho : o < 6) (hr : r < 200) (hp : post (nc, nt, ns, mn, n, na, nI 20, ws, vs, 3, rs, pc, nI (r + 1), dc, cp, cf, mt, op, tk, tp, fp, sk, oc, of, bt, ba, rd, sl, ac, af, fa, fw, fv, wt, wd, wv, pr, mc)) : wX_finishSend_50 post s k x (nI o) nc nt ns mn n na (nI 20) ws vs en rs pc (nI r) dc cp cf mt op tk tp fp sk oc of bt ba rd sl ac af fa fw fv wt wd wv pr mc :=
  br_f (ax_nIm1 (by omega)) (ax_may_d _ hr (br_t rfl hp))
theorem lk_s50_f (post : SX → Prop) {s k : Int32} {x : Int64} {o r g : Nat} (ho : o < 6) (hr : r < 200) (hg : g < 20) (hp : wpX_activate post (nc, nt, ns, mn, n, na, nI g, ws, vs, en, rs, pc, nI (r + 1), dc, cp, cf, mt, op, tk, tp, fp, sk, oc, of, bt, ba, rd, sl, ac, af, fa, fw, fv, wt, wd, wv, pr, mc) (nI o) s x k) : wX_finishSend_50 post s k x (nI o) nc nt ns mn n na (nI g) ws vs en rs pc (nI r) dc cp cf mt op tk tp fp sk oc of bt ba rd sl ac af fa fw fv wt wd wv pr mc :=
  br_f (ax_nIm1 (by omega)) (ax_may_f _ hr hg (br_f (by decide) hp))
theorem lk_sup_n (post : SX → Prop) {g a : Nat} {s : Int32} (hg : g < 21) (ha : a < 201) (h1 : fa g = nI a) (h2 : ac a = -1) (hp : post (nc, nt, ns, mn, n, na, nI g, ws, vs, 1, rs, pc, tc, dc, cp, cf, mt, op, tk, tp, fp, sk, oc, of, bt, ba, rd, sl, ac, af, fa, fw, fv, wt, wd, wv, pr, mc)) : wpX_finishSuper post (nc, nt, ns, mn, n, na, nI g, ws, vs, en, rs, pc, tc, dc, cp, cf, mt, op, tk, tp, fp, sk, oc, of, bt, ba, rd, sl, ac, af, fa, fw, fv, wt, wd, wv, pr, mc) s :=
  And.intro (vp_in_nI hg (by decide)) (And.intro (by rw [nI_clamp (by omega), h1]; exact vp_in_nI ha (by decide)) (nm_r (e' := -1) (by rw [nI_clamp (n := g) (by omega), h1, nI_clamp (by omega), h2]) (br_t rfl (br_t rfl hp))))
theorem lk_sup_h (post : SX → Prop) {g a c : Nat} {s h p : Int32} (hg : g < 21) (ha : a < 201) (hc : c < 6) (h1 : fa g = nI a) (h2 : ac a = nI c) (h3 : cp c = p) (h4 : ∀ Q : Int32 → Prop, Q h → wpX_holderOf Q (nc, nt, ns, mn, n, na, nI g, ws, vs, en, rs, pc, tc, dc, cp, cf, mt, op, tk, tp, fp, sk, oc, of, bt, ba, rd, sl, ac, af, fa, fw, fv, wt, wd, wv, pr, mc) p s) (hp : wX_finishSuper_35 post s h nc nt ns mn n na (nI g) ws vs en rs pc tc dc cp cf mt op tk tp fp sk oc of bt ba rd sl ac af fa fw fv wt wd wv pr mc) : wpX_finishSuper post (nc, nt, ns, mn, n, na, nI g, ws, vs, en, rs, pc, tc, dc, cp, cf, mt, op, tk, tp, fp, sk, oc, of, bt, ba, rd, sl, ac, af, fa, fw, fv, wt, wd, wv, pr, mc) s :=
  And.intro (vp_in_nI hg (by decide)) (And.intro (by rw [nI_clamp (by omega), h1]; exact vp_in_nI ha (by decide)) (nm_r (e' := nI c) (by rw [nI_clamp (n := g) (by omega), h1, nI_clamp (by omega), h2]) (br_f (ax_nIm1 (by omega)) (And.intro (vp_in_nI hc (by decide)) (by rw [nI_clamp (by omega), h3]; exact h4 _ hp)))))
theorem lk_s35_s (post : SX → Prop) {s : Int32} (hp : post (nc, nt, ns, mn, n, na, f, ws, vs, 1, rs, pc, tc, dc, cp, cf, mt, op, tk, tp, fp, sk, oc, of, bt, ba, rd, sl, ac, af, fa, fw, fv, wt, wd, wv, pr, mc)) : wX_finishSuper_35 post s (-1) nc nt ns mn n na f ws vs en rs pc tc dc cp cf mt op tk tp fp sk oc of bt ba rd sl ac af fa fw fv wt wd wv pr mc :=
  br_t rfl hp
theorem lk_s35_t (post : SX → Prop) {s : Int32} {o : Nat} (ho : o < 6) (hp : post (nc, nt, ns, mn, n, na, f, ws, vs, 2, rs, pc, nI 200, dc, cp, cf, mt, op, tk, tp, fp, sk, oc, of, bt, ba, rd, sl, ac, af, fa, fw, fv, wt, wd, wv, pr, mc)) : wX_finishSuper_35 post s (nI o) nc nt ns mn n na f ws vs en rs pc (nI 200) dc cp cf mt op tk tp fp sk oc of bt ba rd sl ac af fa fw fv wt wd wv pr mc :=
  br_f (ax_nIm1 (by omega)) (ax_may_t _ (br_t rfl hp))
theorem lk_s35_d (post : SX → Prop) {s : Int32} {o r : Nat} (ho : o < 6) (hr : r < 200) (hp : post (nc, nt, ns, mn, n, na, nI 20, ws, vs, 3, rs, pc, nI (r + 1), dc, cp, cf, mt, op, tk, tp, fp, sk, oc, of, bt, ba, rd, sl, ac, af, fa, fw, fv, wt, wd, wv, pr, mc)) : wX_finishSuper_35 post s (nI o) nc nt ns mn n na (nI 20) ws vs en rs pc (nI r) dc cp cf mt op tk tp fp sk oc of bt ba rd sl ac af fa fw fv wt wd wv pr mc :=
  br_f (ax_nIm1 (by omega)) (ax_may_d _ hr (br_t rfl hp))
theorem lk_s35_f (post : SX → Prop) {s o r g a : Nat} (ho : o < 6) (hr : r < 200) (hg : g < 20) (ha : a < 201) (hs : s < 6) (h1 : fa g = nI a) (hp : wpX_activate post (nc, nt, ns, mn, n, na, nI g, ws, vs, en, rs, pc, nI (r + 1), dc, cp, cf, mt, op, tk, tp, fp, sk, oc, of, bt, ba, rd, sl, ac, af, fa, fw, fv, wt, wd, wv, pr, mc) (nI o) (nI s) (sl (a * 7 + 6)) (nI (s % 3))) : wX_finishSuper_35 post (nI s) (nI o) nc nt ns mn n na (nI g) ws vs en rs pc (nI r) dc cp cf mt op tk tp fp sk oc of bt ba rd sl ac af fa fw fv wt wd wv pr mc :=
  br_f (ax_nIm1 (by omega)) (ax_may_f _ hr hg (br_f (by decide) (ax_slot (j := 6) _ (by omega) h1 (ax_args _ hs (And.intro (vp_in_nI (by omega) (by decide)) (by rw [nI_clamp (by omega)]; exact hp))))))
theorem lk_sendY_s (post : SY → Prop) {q k : Nat} {s : Int32} (hq : q + 1 + k ≤ 2200) (h : ¬ vb_T (vl q) = 4) (hp : post (yc, yt, ys, ym, no, nb, ya, yw, nI (q + 1 + k), yu, yo, yk, yp, 1, ycp, ycf, ymt, kd, ytk, ytp, ysk, yoc, yof, ybt, ybp, sv, vr, ow, ed, wa, yh, vl, ypr, mo, mb)) : wpY_send post (yc, yt, ys, ym, no, nb, ya, yw, nI (q + 1 + k), yu, yo, yk, yp, ye, ycp, ycf, ymt, kd, ytk, ytp, ysk, yoc, yof, ybt, ybp, sv, vr, ow, ed, wa, yh, vl, ypr, mo, mb) s (nI k) := by
  have e : nI (q + 1 + k) - 1 - nI k = nI q := by
    rw [show (1 : Int32) = nI 1 from rfl, pk_sub (by omega), pk_sub (by omega)]
    exact congrArg nI (by omega)
  exact And.intro (by rw [e]; exact vp_in_nI (by omega) (by decide)) (nm_r (e' := vl q) (by rw [e, nI_clamp (by omega)]) (br_f h hp))
theorem lk_sendY_h (post : SY → Prop) {q k t c m : Nat} {s : Int32} (hq : q + 1 + k ≤ 2200) (h : vl q = vb_pk 4 (nI t)) (ht : t < 201) (h1 : yoc t = nI c) (hp : wY_activate_3 post s (vb_pk 4 (nI t)) (nI k) 1 yc yt ys ym no nb ya yw (nI (q + 1 + k)) yu yo yk yp ye ycp ycf ymt kd ytk ytp ysk yoc yof ybt ybp sv vr ow ed wa yh vl ypr mo mb m (nI c)) : wpY_send post (yc, yt, ys, ym, no, nb, ya, yw, nI (q + 1 + k), yu, yo, yk, yp, ye, ycp, ycf, ymt, kd, ytk, ytp, ysk, yoc, yof, ybt, ybp, sv, vr, ow, ed, wa, yh, vl, ypr, mo, mb) s (nI k) := by
  have e : nI (q + 1 + k) - 1 - nI k = nI q := by
    rw [show (1 : Int32) = nI 1 from rfl, pk_sub (by omega), pk_sub (by omega)]
    exact congrArg nI (by omega)
  exact And.intro (by rw [e]; exact vp_in_nI (by omega) (by decide)) (nm_r (e' := vb_pk 4 (nI t)) (by rw [e, nI_clamp (by omega)]; exact h) (ay_type _ (vC_4 _) (br_t rfl (ay_num _ (And.intro (vp_in_nI ht (by decide)) (by rw [nI_clamp (by omega), h1]; exact Exists.intro m hp))))))
theorem lk_supY_n (post : SY → Prop) {a : Nat} {s k : Int32} (ha : a < 202) (h1 : ow a = -1) (hp : post (yc, yt, ys, ym, no, nb, ya, yw, yv, yu, yo, yk, yp, 1, ycp, ycf, ymt, kd, ytk, ytp, ysk, yoc, yof, ybt, ybp, sv, vr, ow, ed, wa, yh, vl, ypr, mo, mb)) : wpY_sendAbove post (yc, yt, ys, ym, no, nb, ya, yw, yv, yu, yo, yk, yp, ye, ycp, ycf, ymt, kd, ytk, ytp, ysk, yoc, yof, ybt, ybp, sv, vr, ow, ed, wa, yh, vl, ypr, mo, mb) s k (nI a) :=
  And.intro (vp_in_nI ha (by decide)) (nm_r (e' := -1) (by rw [nI_clamp (by omega)]; exact h1) (br_t (by decide) hp))
theorem lk_supY_m (post : SY → Prop) {a c : Nat} {s k : Int32} (ha : a < 202) (hc : c < 6) (h1 : ow a = nI c) (h2 : ycp c = -1) (hp : post (yc, yt, ys, ym, no, nb, ya, yw, yv, yu, yo, yk, yp, 1, ycp, ycf, ymt, kd, ytk, ytp, ysk, yoc, yof, ybt, ybp, sv, vr, ow, ed, wa, yh, vl, ypr, mo, mb)) : wpY_sendAbove post (yc, yt, ys, ym, no, nb, ya, yw, yv, yu, yo, yk, yp, ye, ycp, ycf, ymt, kd, ytk, ytp, ysk, yoc, yof, ybt, ybp, sv, vr, ow, ed, wa, yh, vl, ypr, mo, mb) s k (nI a) :=
  And.intro (vp_in_nI ha (by decide)) (nm_r (e' := nI c) (by rw [nI_clamp (by omega)]; exact h1) (br_f (nI_pos (by omega)) (And.intro (vp_in_nI hc (by decide)) (br_f (by rw [nI_clamp (by omega), h2]; decide) hp))))
theorem lk_supY_h (post : SY → Prop) {a c p m : Nat} {s k : Int32} (ha : a < 202) (hc : c < 6) (hpc : p < 6) (h1 : ow a = nI c) (h2 : ycp c = nI p) (hp : wY_activate_3 post s (sv a) k 0 yc yt ys ym no nb ya yw yv yu yo yk yp ye ycp ycf ymt kd ytk ytp ysk yoc yof ybt ybp sv vr ow ed wa yh vl ypr mo mb m (nI p)) : wpY_sendAbove post (yc, yt, ys, ym, no, nb, ya, yw, yv, yu, yo, yk, yp, ye, ycp, ycf, ymt, kd, ytk, ytp, ysk, yoc, yof, ybt, ybp, sv, vr, ow, ed, wa, yh, vl, ypr, mo, mb) s k (nI a) :=
  And.intro (vp_in_nI ha (by decide)) (nm_r (e' := nI c) (by rw [nI_clamp (by omega)]; exact h1) (br_f (nI_pos (by omega)) (And.intro (vp_in_nI hc (by decide)) (br_t (by rw [nI_clamp (by omega), h2]; exact nI_pos' (by omega)) (And.intro (vp_in_nI hc (by decide)) (And.intro (vp_in_nI ha (by decide)) (by rw [nI_clamp (n := c) (by omega), h2, nI_clamp (by omega)]; exact Exists.intro m hp)))))))
end
