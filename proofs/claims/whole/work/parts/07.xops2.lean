section
variable {nc nt ns mn n na f ws vs en pc tc dc : Int32} {rs : Int64} {cp cf mt op tk tp fp sk oc bt ba rd ac af fa fw fv wt wd pr mc : Nat → Int32} {of sl wv : Nat → Int64}
theorem ax_may_t (post : Int32 → SX → Prop) (hp : post 0 (nc, nt, ns, mn, n, na, f, ws, vs, 2, rs, pc, nI 200, dc, cp, cf, mt, op, tk, tp, fp, sk, oc, of, bt, ba, rd, sl, ac, af, fa, fw, fv, wt, wd, wv, pr, mc)) : wpX_mayEnter post (nc, nt, ns, mn, n, na, f, ws, vs, en, rs, pc, nI 200, dc, cp, cf, mt, op, tk, tp, fp, sk, oc, of, bt, ba, rd, sl, ac, af, fa, fw, fv, wt, wd, wv, pr, mc) := by
  unfold wpX_mayEnter
  exact ax_turn_n _ (br_t rfl hp)
theorem ax_may_d (post : Int32 → SX → Prop) {r : Nat} (hr : r < 200) (hp : post 0 (nc, nt, ns, mn, n, na, nI 20, ws, vs, 3, rs, pc, nI (r + 1), dc, cp, cf, mt, op, tk, tp, fp, sk, oc, of, bt, ba, rd, sl, ac, af, fa, fw, fv, wt, wd, wv, pr, mc)) : wpX_mayEnter post (nc, nt, ns, mn, n, na, nI 20, ws, vs, en, rs, pc, nI r, dc, cp, cf, mt, op, tk, tp, fp, sk, oc, of, bt, ba, rd, sl, ac, af, fa, fw, fv, wt, wd, wv, pr, mc) := by
  unfold wpX_mayEnter
  exact ax_turn_f _ hr (br_f (by decide) (br_f (by decide) hp))
theorem ax_may_f (post : Int32 → SX → Prop) {r g : Nat} (hr : r < 200) (hg : g < 20) (hp : post 1 (nc, nt, ns, mn, n, na, nI g, ws, vs, en, rs, pc, nI (r + 1), dc, cp, cf, mt, op, tk, tp, fp, sk, oc, of, bt, ba, rd, sl, ac, af, fa, fw, fv, wt, wd, wv, pr, mc)) : wpX_mayEnter post (nc, nt, ns, mn, n, na, nI g, ws, vs, en, rs, pc, nI r, dc, cp, cf, mt, op, tk, tp, fp, sk, oc, of, bt, ba, rd, sl, ac, af, fa, fw, fv, wt, wd, wv, pr, mc) := by
  unfold wpX_mayEnter
  exact ax_turn_f _ hr (br_f (by decide) (br_t (nI_lt (b := 20) hg (by decide)) hp))
theorem ax_open (post : SX → Prop) {g d : Nat} {a : Int32} (hg : g < 20) (hd : d < 1000) (hp : post (nc, nt, ns, mn, n, na, nI (g + 1), ws, vs, en, rs, pc, tc, nI (ay_mx g d), cp, cf, mt, op, tk, tp, fp, sk, oc, of, bt, ba, rd, sl, ac, af, upd fa (g + 1) a, upd fw (g + 1) ws, upd fv (g + 1) vs, wt, wd, wv, pr, mc)) : wpX_openFrame post (nc, nt, ns, mn, n, na, nI g, ws, vs, en, rs, pc, tc, nI d, cp, cf, mt, op, tk, tp, fp, sk, oc, of, bt, ba, rd, sl, ac, af, fa, fw, fv, wt, wd, wv, pr, mc) a := by
  refine nm_r (nI_1 g) (And.intro (vp_in_nI (by omega) (by decide)) (nm_r (e' := upd fa (g + 1) a) (by rw [nI_clamp (by omega)]) (And.intro (vp_in_nI (by omega) (by decide)) (nm_r (e' := upd fw (g + 1) ws) (by rw [nI_clamp (by omega)]) (And.intro (vp_in_nI (by omega) (by decide)) (nm_r (e' := upd fv (g + 1) vs) (by rw [nI_clamp (by omega)]) ?_))))))
  by_cases z : g + 1 ≤ d
  · rw [show ay_mx g d = d from if_pos z] at hp
    exact br_t (nI_le z (by omega)) hp
  · rw [show ay_mx g d = g + 1 from if_neg z] at hp
    exact br_f (nI_ge (by omega) (by omega)) hp
theorem ax_ix7 {a j : Nat} : nI a * 7 + nI j = nI (a * 7 + j) := by
  rw [show (7 : Int32) = nI 7 from rfl, pk_mul, nI_add]
theorem ax_ix6 {c s : Nat} : nI c * 6 + nI s = nI (6 * c + s) := by
  rw [show (6 : Int32) = nI 6 from rfl, pk_mul, nI_add, Nat.mul_comm]
def ax_ga (args : Nat) (w : Nat → Int64) (b : Nat) (j : Nat) : Int64 := if j < args then w (b + j) else vb_pk 1 0
theorem ax_act_l (post : SX → Prop) {a g w v d o s tm args tn fA : Nat} {self : Int64} (ha : a < 201) (hg : g < 20) (hw : w < 2100) (hd : d < 1000) (ho : o < 6) (hs : s < 6) (hf : fA + args ≤ 2100) (hv : v + tn = fA + args) (hm : mt (6 * o + s) = nI tm) (hp : post (nc, nt, ns, mn, n, na, nI (g + 1), nI (w + 1), nI v, en, rs, pc, tc, nI (ay_mx g d), cp, cf, mt, op, tk, tp, fp, sk, oc, of, bt, ba, rd, vp_updL (up_n sl (a * 7) (ax_ga args wv fA) 6) (a * 7 + 6) self, upd ac a (nI o), upd af a (nI (g + 1)), upd fa (g + 1) (nI a), upd fw (g + 1) (nI w), upd fv (g + 1) (nI v), upd wt w (nI tm), upd wd w 0, wv, pr, mc)) : ∀ e k : Nat, k + e = 6 → wX_activate_34 post (nI o) (nI s) self (nI tn) (nI a) (nI args) (nI fA) nc nt ns mn n na (nI g) (nI w) (nI (fA + args)) en rs pc tc (nI d) (e + 1) (nI k) cp cf mt op tk tp fp sk oc of bt ba rd (up_n sl (a * 7) (ax_ga args wv fA) k) ac af fa fw fv wt wd wv pr mc := by
  intro e
  induction e with
  | zero =>
    intro k h
    have : k = 6 := by omega
    subst this
    refine br_t (by decide) (And.intro (by rw [show (6 : Int32) = nI 6 from rfl, ax_ix7]; exact vp_in_nI (by omega) (by decide)) (nm_r (e' := vp_updL (up_n sl (a * 7) (ax_ga args wv fA) 6) (a * 7 + 6) self) (by rw [show nI a * 7 + 6 = nI (a * 7 + 6) from ax_ix7 (j := 6), nI_clamp (by omega)]) (And.intro (vp_in_nI ha (by decide)) (nm_r (e' := upd ac a (nI o)) (by rw [nI_clamp (by omega)]) (And.intro (vp_in_nI ha (by decide)) (nm_r (e' := upd af a (nI (g + 1))) (by rw [nI_clamp (by omega), nI_1]) (nm_r (e' := nI v) (by rw [pk_sub (by omega)]; exact congrArg nI (by omega)) (ax_open _ hg hd (And.intro (by rw [ax_ix6]; exact vp_in_nI (by omega) (by decide)) ?_)))))))))
    rw [ax_ix6, nI_clamp (by omega), hm]
    exact ax_begin _ hw hp
  | succ e ih =>
    intro k h
    refine br_f (nI_ge (b := 6) (by omega) (by decide)) ?_
    have h1 : vp_in (nI a * 7 + nI k) 1407 := by rw [ax_ix7]; exact vp_in_nI (by omega) (by decide)
    have h2 : (nI a * 7 + nI k).toNatClampNeg = a * 7 + k := by rw [ax_ix7]; exact nI_clamp (by omega)
    by_cases z : k < args
    · have h3 : nI fA + nI k = nI (fA + k) := nI_add _ _
      exact br_f (nI_ge z (by omega)) (And.intro (by rw [h3]; exact vp_in_nI (by omega) (by decide)) (And.intro h1 (nm_r (e' := up_n sl (a * 7) (ax_ga args wv fA) (k + 1)) (by rw [h2, h3, nI_clamp (by omega)]; show _ = vp_updL _ _ (ax_ga args wv fA k); rw [show ax_ga args wv fA k = wv (fA + k) from if_pos z]) (nm_r (nI_1 k) (ih (k + 1) (by omega))))))
    · exact br_t (nI_le (by omega) (by omega)) (And.intro h1 (nm_r (e' := up_n sl (a * 7) (ax_ga args wv fA) (k + 1)) (by rw [h2, vb_nil]; show _ = vp_updL _ _ (ax_ga args wv fA k); rw [show ax_ga args wv fA k = vb_pk 1 0 from if_neg z]) (nm_r (nI_1 k) (ih (k + 1) (by omega)))))
theorem ax_act (post : SX → Prop) {a g w v d o s tm tn fA : Nat} {self : Int64} (ha : a < 201) (hg : g < 20) (hw : w < 2100) (hd : d < 1000) (ho : o < 6) (hs : s < 6) (hf : fA + s % 3 ≤ 2100) (hv : v + tn = fA + s % 3) (hm : mt (6 * o + s) = nI tm) (hp : post (nc, nt, ns, mn, n, nI (a + 1), nI (g + 1), nI (w + 1), nI v, en, rs, pc, tc, nI (ay_mx g d), cp, cf, mt, op, tk, tp, fp, sk, oc, of, bt, ba, rd, vp_updL (up_n sl (a * 7) (ax_ga (s % 3) wv fA) 6) (a * 7 + 6) self, upd ac a (nI o), upd af a (nI (g + 1)), upd fa (g + 1) (nI a), upd fw (g + 1) (nI w), upd fv (g + 1) (nI v), upd wt w (nI tm), upd wd w 0, wv, pr, mc)) : wpX_activate post (nc, nt, ns, mn, n, nI a, nI g, nI w, nI (fA + s % 3), en, rs, pc, tc, nI d, cp, cf, mt, op, tk, tp, fp, sk, oc, of, bt, ba, rd, sl, ac, af, fa, fw, fv, wt, wd, wv, pr, mc) (nI o) (nI s) self (nI tn) :=
  nm_r (nI_1 a) (ax_args _ hs (nm_r (e' := nI fA) (by rw [pk_sub (by omega)]; exact congrArg nI (by omega)) (Exists.intro 7 (ax_act_l post ha hg hw hd ho hs hf hv hm hp 6 0 rfl))))
/-! call -/
theorem ax_call_s (post : SX → Prop) {q : Nat} {x : Int32} {z : Int64} (hq : q < 2100) (h1 : ¬ vb_T (wv q) = 3) (hp : post (nc, nt, ns, mn, n, na, f, ws, nI q, 1, rs, pc, tc, dc, cp, cf, mt, op, tk, tp, fp, sk, oc, of, bt, ba, rd, sl, ac, af, fa, fw, fv, wt, wd, wv, pr, mc)) : wX_finishCall_14 post x z nc nt ns mn n na f ws (nI (q + 1)) en rs pc tc dc cp cf mt op tk tp fp sk oc of bt ba rd sl ac af fa fw fv wt wd wv pr mc := by
  unfold wX_finishCall_14
  exact ax_pop _ hq (br_f h1 hp)
theorem ax_call_h (post : SX → Prop) {q b t : Nat} {x y k : Int32} {z : Int64} (hq : q < 2100) (h1 : wv q = vb_pk 3 (nI b)) (hb : b < 200) (h2 : bt b = nI t) (ht : t < 100) (h3 : tk t = k) (hy : (k = -1 ∧ y = 0) ∨ (¬ k = -1 ∧ y = 1)) (hp : wX_finishCall_73 post x z (nI b) (nI t) k y x nc nt ns mn n na f ws (nI q) en rs pc tc dc cp cf mt op tk tp fp sk oc of bt ba rd sl ac af fa fw fv wt wd wv pr mc) : wX_finishCall_14 post x z nc nt ns mn n na f ws (nI (q + 1)) en rs pc tc dc cp cf mt op tk tp fp sk oc of bt ba rd sl ac af fa fw fv wt wd wv pr mc := by
  refine ax_pop _ hq ?_
  rw [h1]
  refine ax_sort _ (vC_3 _) (br_t rfl (ax_num _ (And.intro (vp_in_nI hb (by decide)) (nm_r (e' := nI t) (by rw [nI_clamp (by omega)]; exact h2) (And.intro (vp_in_nI ht (by decide)) (nm_r (e' := k) (by rw [nI_clamp (by omega)]; exact h3) ?_))))))
  rcases hy with ⟨hk, rfl⟩ | ⟨hk, rfl⟩
  · exact br_t hk hp
  · exact br_f hk hp
theorem ax_call_m (post : SX → Prop) {x y k b t : Int32} {z : Int64} (h : ¬ x = y) (hp : post (nc, nt, ns, mn, n, na, f, ws, vs, 1, rs, pc, tc, dc, cp, cf, mt, op, tk, tp, fp, sk, oc, of, bt, ba, rd, sl, ac, af, fa, fw, fv, wt, wd, wv, pr, mc)) : wX_finishCall_73 post x z b t k y x nc nt ns mn n na f ws vs en rs pc tc dc cp cf mt op tk tp fp sk oc of bt ba rd sl ac af fa fw fv wt wd wv pr mc :=
  br_f h hp
theorem ax_call_t (post : SX → Prop) {x k b t : Int32} {z : Int64} (hp : post (nc, nt, ns, mn, n, na, f, ws, vs, 2, rs, pc, nI 200, dc, cp, cf, mt, op, tk, tp, fp, sk, oc, of, bt, ba, rd, sl, ac, af, fa, fw, fv, wt, wd, wv, pr, mc)) : wX_finishCall_73 post x z b t k x x nc nt ns mn n na f ws vs en rs pc (nI 200) dc cp cf mt op tk tp fp sk oc of bt ba rd sl ac af fa fw fv wt wd wv pr mc :=
  br_t rfl (ax_may_t _ (br_t rfl hp))
theorem ax_call_d (post : SX → Prop) {r : Nat} {x k b t : Int32} {z : Int64} (hr : r < 200) (hp : post (nc, nt, ns, mn, n, na, nI 20, ws, vs, 3, rs, pc, nI (r + 1), dc, cp, cf, mt, op, tk, tp, fp, sk, oc, of, bt, ba, rd, sl, ac, af, fa, fw, fv, wt, wd, wv, pr, mc)) : wX_finishCall_73 post x z b t k x x nc nt ns mn n na (nI 20) ws vs en rs pc (nI r) dc cp cf mt op tk tp fp sk oc of bt ba rd sl ac af fa fw fv wt wd wv pr mc :=
  br_t rfl (ax_may_d _ hr (br_t rfl hp))
theorem ax_call_f0 (post : SX → Prop) {r g w d b t a p : Nat} {k : Int32} {z : Int64} (hr : r < 200) (hg : g < 20) (hw : w < 2100) (hd : d < 1000) (hb : b < 200) (ht : t < 100) (h1 : ba b = nI a) (h2 : tp (3 * t) = nI p) (hp : post (nc, nt, ns, mn, n, na, nI (g + 1), nI (w + 1), vs, en, rs, pc, nI (r + 1), nI (ay_mx g d), cp, cf, mt, op, tk, tp, fp, sk, oc, of, bt, ba, rd, sl, ac, af, upd fa (g + 1) (nI a), upd fw (g + 1) (nI w), upd fv (g + 1) vs, upd wt w (nI p), upd wd w 0, wv, pr, mc)) : wX_finishCall_73 post 0 z (nI b) (nI t) k 0 0 nc nt ns mn n na (nI g) (nI w) vs en rs pc (nI r) (nI d) cp cf mt op tk tp fp sk oc of bt ba rd sl ac af fa fw fv wt wd wv pr mc :=
  br_t rfl (ax_may_f _ hr hg (br_f (by decide) (And.intro (vp_in_nI hb (by decide)) (nm_r (e' := nI a) (by rw [nI_clamp (by omega)]; exact h1) (br_t rfl (ax_open _ hg hd (And.intro (by rw [show (3 : Int32) = nI 3 from rfl, pk_mul]; exact vp_in_nI (by omega) (by decide)) (by rw [show (3 : Int32) = nI 3 from rfl, pk_mul, Nat.mul_comm t 3, nI_clamp (by omega), h2]; exact ax_begin _ hw hp))))))))
theorem ax_call_f1 (post : SX → Prop) {r g w d b t a p k : Nat} {z : Int64} (hr : r < 200) (hg : g < 20) (hw : w < 2100) (hd : d < 1000) (hb : b < 200) (ht : t < 100) (ha : a < 201) (hk : k < 6) (h1 : ba b = nI a) (h2 : tp (3 * t) = nI p) (hp : post (nc, nt, ns, mn, n, na, nI (g + 1), nI (w + 1), vs, en, rs, pc, nI (r + 1), nI (ay_mx g d), cp, cf, mt, op, tk, tp, fp, sk, oc, of, bt, ba, rd, vp_updL sl (a * 7 + k) z, ac, af, upd fa (g + 1) (nI a), upd fw (g + 1) (nI w), upd fv (g + 1) vs, upd wt w (nI p), upd wd w 0, wv, pr, mc)) : wX_finishCall_73 post 1 z (nI b) (nI t) (nI k) 1 1 nc nt ns mn n na (nI g) (nI w) vs en rs pc (nI r) (nI d) cp cf mt op tk tp fp sk oc of bt ba rd sl ac af fa fw fv wt wd wv pr mc :=
  br_t rfl (ax_may_f _ hr hg (br_f (by decide) (And.intro (vp_in_nI hb (by decide)) (nm_r (e' := nI a) (by rw [nI_clamp (by omega)]; exact h1) (br_f (by decide) (And.intro (by rw [ax_ix7]; exact vp_in_nI (by omega) (by decide)) (nm_r (e' := vp_updL sl (a * 7 + k) z) (by rw [ax_ix7, nI_clamp (by omega)]) (ax_open _ hg hd (And.intro (by rw [show (3 : Int32) = nI 3 from rfl, pk_mul]; exact vp_in_nI (by omega) (by decide)) (by rw [show (3 : Int32) = nI 3 from rfl, pk_mul, Nat.mul_comm t 3, nI_clamp (by omega), h2]; exact ax_begin _ hw hp))))))))))
/-! loop -/
theorem ax_loop_b (post : SX → Prop) {q w : Nat} {t : Int32} (hq : q < 2100) (hw : w < 2100) (h1 : wd w = 2) (hp : post (nc, nt, ns, mn, n, na, f, nI (w + 1), nI q, en, rs, pc, tc, dc, cp, cf, mt, op, tk, tp, fp, sk, oc, of, bt, ba, rd, sl, ac, af, fa, fw, fv, upd wt w t, upd wd w 0, wv, pr, mc)) : wpX_finishLoop post (nc, nt, ns, mn, n, na, f, nI w, nI (q + 1), en, rs, pc, tc, dc, cp, cf, mt, op, tk, tp, fp, sk, oc, of, bt, ba, rd, sl, ac, af, fa, fw, fv, wt, wd, wv, pr, mc) t :=
  And.intro (vp_in_nI hw (by decide)) (br_t (by rw [nI_clamp (by omega)]; exact h1) (ax_pop _ hq (br_f (by decide) (ax_begin _ hw hp))))
theorem ax_loop_s (post : SX → Prop) {q w : Nat} {t : Int32} (hq : q < 2100) (hw : w < 2100) (h1 : ¬ wd w = 2) (h2 : ¬ vb_T (wv q) = 2) (hp : post (nc, nt, ns, mn, n, na, f, nI w, nI q, 1, rs, pc, tc, dc, cp, cf, mt, op, tk, tp, fp, sk, oc, of, bt, ba, rd, sl, ac, af, fa, fw, fv, wt, wd, wv, pr, mc)) : wpX_finishLoop post (nc, nt, ns, mn, n, na, f, nI w, nI (q + 1), en, rs, pc, tc, dc, cp, cf, mt, op, tk, tp, fp, sk, oc, of, bt, ba, rd, sl, ac, af, fa, fw, fv, wt, wd, wv, pr, mc) t :=
  And.intro (vp_in_nI hw (by decide)) (br_f (by rw [nI_clamp (by omega)]; exact h1) (ax_pop _ hq (br_t rfl (br_f h2 hp))))
theorem ax_loop_0 (post : SX → Prop) {q w : Nat} {t : Int32} (hq : q < 2100) (hw : w < 2100) (h1 : ¬ wd w = 2) (h2 : vb_T (wv q) = 2) (h3 : (wv q).toInt32 = 0) (hp : post (nc, nt, ns, mn, n, na, f, nI w, nI (q + 1), en, rs, pc, tc, dc, cp, cf, mt, op, tk, tp, fp, sk, oc, of, bt, ba, rd, sl, ac, af, fa, fw, fv, wt, wd, vp_updL wv q (vb_pk 1 0), pr, mc)) : wpX_finishLoop post (nc, nt, ns, mn, n, na, f, nI w, nI (q + 1), en, rs, pc, tc, dc, cp, cf, mt, op, tk, tp, fp, sk, oc, of, bt, ba, rd, sl, ac, af, fa, fw, fv, wt, wd, wv, pr, mc) t :=
  And.intro (vp_in_nI hw (by decide)) (br_f (by rw [nI_clamp (by omega)]; exact h1) (ax_pop _ hq (br_t rfl (br_t h2 (br_t h3 (by rw [vb_nil]; exact ax_push _ hq hp))))))
theorem ax_loop_t (post : SX → Prop) {q w : Nat} {t : Int32} (hq : q < 2100) (hw : w < 2100) (h1 : ¬ wd w = 2) (h2 : vb_T (wv q) = 2) (h3 : ¬ (wv q).toInt32 = 0) (hp : post (nc, nt, ns, mn, n, na, f, nI w, nI q, 2, rs, pc, nI 200, dc, cp, cf, mt, op, tk, tp, fp, sk, oc, of, bt, ba, rd, sl, ac, af, fa, fw, fv, wt, wd, wv, pr, mc)) : wpX_finishLoop post (nc, nt, ns, mn, n, na, f, nI w, nI (q + 1), en, rs, pc, nI 200, dc, cp, cf, mt, op, tk, tp, fp, sk, oc, of, bt, ba, rd, sl, ac, af, fa, fw, fv, wt, wd, wv, pr, mc) t :=
  And.intro (vp_in_nI hw (by decide)) (br_f (by rw [nI_clamp (by omega)]; exact h1) (ax_pop _ hq (br_t rfl (br_t h2 (br_f h3 (ax_turn_n _ (br_t rfl hp)))))))
theorem ax_loop_f (post : SX → Prop) {q w r t p : Nat} (hq : q < 2100) (hw : w + 1 < 2100) (hr : r < 200) (ht : t < 100) (h1 : ¬ wd w = 2) (h2 : vb_T (wv q) = 2) (h3 : ¬ (wv q).toInt32 = 0) (h4 : tp (3 * t + 1) = nI p) (hp : post (nc, nt, ns, mn, n, na, f, nI (w + 2), nI q, en, rs, pc, nI (r + 1), dc, cp, cf, mt, op, tk, tp, fp, sk, oc, of, bt, ba, rd, sl, ac, af, fa, fw, fv, upd (upd wt w (nI t)) (w + 1) (nI p), upd (upd (upd wd w 0) w 2) (w + 1) 0, wv, pr, mc)) : wpX_finishLoop post (nc, nt, ns, mn, n, na, f, nI w, nI (q + 1), en, rs, pc, nI r, dc, cp, cf, mt, op, tk, tp, fp, sk, oc, of, bt, ba, rd, sl, ac, af, fa, fw, fv, wt, wd, wv, pr, mc) (nI t) :=
  And.intro (vp_in_nI (by omega) (by decide)) (br_f (by rw [nI_clamp (by omega)]; exact h1) (ax_pop _ hq (br_t rfl (br_t h2 (br_f h3 (ax_turn_f _ hr (br_f (by decide) (ax_begin _ (by omega) (And.intro (by rw [nI_pred]; exact vp_in_nI (by omega) (by decide)) (nm_r (e' := upd (upd wd w 0) w 2) (by rw [nI_pred, nI_clamp (by omega)]) (And.intro (by rw [show (1 : Int32) = nI 1 from rfl, ax_ix3]; exact vp_in_nI (by omega) (by decide)) (by rw [show nI t * 3 + 1 = nI (3 * t + 1) from ax_ix3 (d := 1), nI_clamp (by omega), h4]; exact ax_begin _ hw hp))))))))))))
/-! arithmetic -/
def ax_r (k : Nat) (x y : Int32) : Int32 := if k = 15 then x + y else if k = 16 then x - y else if k = 17 then x * y else if y ≤ x then 0 else 1
theorem ax_ar_s (post : SX → Prop) {q : Nat} {o : Int32} (hq : q + 1 < 2100) (h : ¬ (vb_T (wv q) = 2 ∧ vb_T (wv (q + 1)) = 2)) (hp : post (nc, nt, ns, mn, n, na, f, ws, nI q, 1, rs, pc, tc, dc, cp, cf, mt, op, tk, tp, fp, sk, oc, of, bt, ba, rd, sl, ac, af, fa, fw, fv, wt, wd, wv, pr, mc)) : wpX_finishArithmetic post (nc, nt, ns, mn, n, na, f, ws, nI (q + 2), en, rs, pc, tc, dc, cp, cf, mt, op, tk, tp, fp, sk, oc, of, bt, ba, rd, sl, ac, af, fa, fw, fv, wt, wd, wv, pr, mc) o := by
  unfold wpX_finishArithmetic
  exact ax_pop (q := q + 1) _ hq (ax_pop _ (by omega) (by
    by_cases z : vb_T (wv q) = 2
    · exact br_t z (br_f (fun e => h ⟨z, e⟩) hp)
    · exact br_f z hp))
theorem ax_ar_f (post : SX → Prop) {q o : Nat} (hq : q + 1 < 2100) (ho : 15 ≤ o ∧ o ≤ 18) (h1 : vb_T (wv q) = 2) (h2 : vb_T (wv (q + 1)) = 2) (hp : post (nc, nt, ns, mn, n, na, f, ws, nI (q + 1), en, rs, pc, tc, dc, cp, cf, mt, op, tk, tp, fp, sk, oc, of, bt, ba, rd, sl, ac, af, fa, fw, fv, wt, wd, vp_updL wv q (vb_pk 2 (ax_r o (wv q).toInt32 (wv (q + 1)).toInt32)), pr, mc)) : wpX_finishArithmetic post (nc, nt, ns, mn, n, na, f, ws, nI (q + 2), en, rs, pc, tc, dc, cp, cf, mt, op, tk, tp, fp, sk, oc, of, bt, ba, rd, sl, ac, af, fa, fw, fv, wt, wd, wv, pr, mc) (nI o) := by
  unfold wpX_finishArithmetic
  exact ax_pop (q := q + 1) _ hq (ax_pop _ (by omega) (br_t h1 (br_t h2 (by
    have hc : o = 15 ∨ o = 16 ∨ o = 17 ∨ o = 18 := by omega
    rcases hc with rfl | rfl | rfl | rfl
    · exact br_f (by decide) (br_f (by decide) (br_t (by decide) (ax_pushInt _ (by omega) hp)))
    · exact br_f (by decide) (br_f (by decide) (br_f (by decide) (br_t (by decide) (ax_pushInt _ (by omega) hp))))
    · exact br_f (by decide) (br_f (by decide) (br_f (by decide) (br_f (by decide) (br_t (by decide) (ax_pushInt _ (by omega) hp)))))
    · refine br_f (by decide) (br_t (by decide) ?_)
      by_cases z : (wv (q + 1)).toInt32 ≤ (wv q).toInt32
      · rw [show ax_r 18 (wv q).toInt32 (wv (q + 1)).toInt32 = 0 from if_pos z] at hp
        exact br_t z (ax_pushInt _ (by omega) hp)
      · rw [show ax_r 18 (wv q).toInt32 (wv (q + 1)).toInt32 = 1 from if_neg z] at hp
        exact br_f z (ax_pushInt _ (by omega) hp)))))
end
