section
variable {nc nt ns mn n na f ws vs en pc tc dc : Int32} {rs : Int64} {cp cf mt op tk tp fp sk oc bt ba rd ac af fa fw fv wt wd pr mc : Nat → Int32} {of sl wv : Nat → Int64}
theorem ax_slot (post : Int32 → Prop) {g a j : Nat} (hg : g < 21) (h1 : fa g = nI a) (hp : post (nI (a * 7 + j))) : wpX_slotIndex post (nc, nt, ns, mn, n, na, nI g, ws, vs, en, rs, pc, tc, dc, cp, cf, mt, op, tk, tp, fp, sk, oc, of, bt, ba, rd, sl, ac, af, fa, fw, fv, wt, wd, wv, pr, mc) (nI j) :=
  And.intro (vp_in_nI hg (by decide)) (by rw [nI_clamp (by omega), h1, show (7 : Int32) = nI 7 from rfl, pk_mul, nI_add]; exact hp)
theorem ax_num (post : Int32 → Prop) {s i : Int32} (h : post i) : wpX_numberOf post (vb_pk s i) := by
  unfold wpX_numberOf
  rw [vb_n]
  exact h
theorem ax_sort (post : Int32 → Prop) {x : Int64} {s : Int32} (h0 : vb_T x = s) (h : post s) : wpX_sortOf post x := by
  subst h0
  exact h
theorem ax_args (post : Int32 → Prop) {s : Nat} (hs : s < 6) (h : post (nI (s % 3))) : wpX_argumentsOf post (nI s) :=
  And.intro (by decide) (by rw [show (3 : Int32) = nI 3 from rfl, pk_rem (by omega) (by omega) (by omega)]; exact h)
theorem ax_pushSlot (post : SX → Prop) {g a j q : Nat} (hg : g < 21) (ha : a < 201) (hj : j < 7) (hq : q < 2100) (h1 : fa g = nI a) (hp : post (nc, nt, ns, mn, n, na, nI g, ws, nI (q + 1), en, rs, pc, tc, dc, cp, cf, mt, op, tk, tp, fp, sk, oc, of, bt, ba, rd, sl, ac, af, fa, fw, fv, wt, wd, vp_updL wv q (sl (a * 7 + j)), pr, mc)) : wpX_pushSlot post (nc, nt, ns, mn, n, na, nI g, ws, nI q, en, rs, pc, tc, dc, cp, cf, mt, op, tk, tp, fp, sk, oc, of, bt, ba, rd, sl, ac, af, fa, fw, fv, wt, wd, wv, pr, mc) (nI j) := by
  unfold wpX_pushSlot
  exact ax_slot _ hg h1 (And.intro (vp_in_nI (by omega) (by decide)) (by rw [nI_clamp (by omega)]; exact ax_push _ hq hp))
theorem ax_fi_n (post : Int32 → Prop) {g a : Nat} {k : Int32} (hg : g < 21) (ha : a < 201) (h1 : fa g = nI a) (h2 : ¬ vb_T (sl (a * 7 + 6)) = 4) (hp : post (-1)) : wpX_fieldIndex post (nc, nt, ns, mn, n, na, nI g, ws, vs, en, rs, pc, tc, dc, cp, cf, mt, op, tk, tp, fp, sk, oc, of, bt, ba, rd, sl, ac, af, fa, fw, fv, wt, wd, wv, pr, mc) k := by
  unfold wpX_fieldIndex
  exact ax_slot (j := 6) _ hg h1 (And.intro (vp_in_nI (by omega) (by decide)) (nm_r (e' := sl (a * 7 + 6)) (by rw [nI_clamp (by omega)]) (br_f h2 hp)))
theorem ax_fi_s (post : Int32 → Prop) {g a o c m k : Nat} (hg : g < 21) (ha : a < 201) (h1 : fa g = nI a) (h2 : sl (a * 7 + 6) = vb_pk 4 (nI o)) (ho : o < 200) (h3 : oc o = nI c) (hc : c < 6) (h4 : cf c = nI m) (hm : m ≤ k) (hk : k < 4) (hp : post (-1)) : wpX_fieldIndex post (nc, nt, ns, mn, n, na, nI g, ws, vs, en, rs, pc, tc, dc, cp, cf, mt, op, tk, tp, fp, sk, oc, of, bt, ba, rd, sl, ac, af, fa, fw, fv, wt, wd, wv, pr, mc) (nI k) := by
  unfold wpX_fieldIndex
  exact ax_slot (j := 6) _ hg h1 (And.intro (vp_in_nI (by omega) (by decide)) (nm_r (e' := vb_pk 4 (nI o)) (by rw [nI_clamp (by omega)]; exact h2) (ax_sort _ (vC_4 _) (br_t rfl (ax_num _ (And.intro (vp_in_nI ho (by decide)) (And.intro (by rw [nI_clamp (by omega), h3]; exact vp_in_nI hc (by decide)) (br_t (by rw [nI_clamp (n := o) (by omega), h3, nI_clamp (by omega), h4]; exact nI_le hm (by omega)) hp))))))))
theorem ax_fi_o (post : Int32 → Prop) {g a o c m k : Nat} (hg : g < 21) (ha : a < 201) (h1 : fa g = nI a) (h2 : sl (a * 7 + 6) = vb_pk 4 (nI o)) (ho : o < 200) (h3 : oc o = nI c) (hc : c < 6) (h4 : cf c = nI m) (hm : k < m) (hm4 : m ≤ 4) (hp : post (nI (o * 4 + k))) : wpX_fieldIndex post (nc, nt, ns, mn, n, na, nI g, ws, vs, en, rs, pc, tc, dc, cp, cf, mt, op, tk, tp, fp, sk, oc, of, bt, ba, rd, sl, ac, af, fa, fw, fv, wt, wd, wv, pr, mc) (nI k) := by
  unfold wpX_fieldIndex
  exact ax_slot (j := 6) _ hg h1 (And.intro (vp_in_nI (by omega) (by decide)) (nm_r (e' := vb_pk 4 (nI o)) (by rw [nI_clamp (by omega)]; exact h2) (ax_sort _ (vC_4 _) (br_t rfl (ax_num _ (And.intro (vp_in_nI ho (by decide)) (And.intro (by rw [nI_clamp (by omega), h3]; exact vp_in_nI hc (by decide)) (br_f (by rw [nI_clamp (n := o) (by omega), h3, nI_clamp (by omega), h4]; exact nI_ge hm (by omega)) (by rw [show (4 : Int32) = nI 4 from rfl, pk_mul, nI_add]; exact hp)))))))))
theorem ax_nIm1 {n : Nat} (h : n < 2 ^ 31) : ¬ nI n = -1 := fun e => nI_pos h (by rw [e]; decide)
theorem ax_field_s (post : SX → Prop) {g : Nat} {k : Int32} (h : ∀ Q : Int32 → Prop, Q (-1) → wpX_fieldIndex Q (nc, nt, ns, mn, n, na, nI g, ws, vs, en, rs, pc, tc, dc, cp, cf, mt, op, tk, tp, fp, sk, oc, of, bt, ba, rd, sl, ac, af, fa, fw, fv, wt, wd, wv, pr, mc) k) (hp : post (nc, nt, ns, mn, n, na, nI g, ws, vs, 1, rs, pc, tc, dc, cp, cf, mt, op, tk, tp, fp, sk, oc, of, bt, ba, rd, sl, ac, af, fa, fw, fv, wt, wd, wv, pr, mc)) : wpX_finishField post (nc, nt, ns, mn, n, na, nI g, ws, vs, en, rs, pc, tc, dc, cp, cf, mt, op, tk, tp, fp, sk, oc, of, bt, ba, rd, sl, ac, af, fa, fw, fv, wt, wd, wv, pr, mc) k := by
  unfold wpX_finishField
  exact h _ (br_t rfl hp)
theorem ax_field_o (post : SX → Prop) {g i q : Nat} {k : Int32} (h : ∀ Q : Int32 → Prop, Q (nI i) → wpX_fieldIndex Q (nc, nt, ns, mn, n, na, nI g, ws, nI q, en, rs, pc, tc, dc, cp, cf, mt, op, tk, tp, fp, sk, oc, of, bt, ba, rd, sl, ac, af, fa, fw, fv, wt, wd, wv, pr, mc) k) (hi : i < 800) (hq : q < 2100) (hp : post (nc, nt, ns, mn, n, na, nI g, ws, nI (q + 1), en, rs, pc, tc, dc, cp, cf, mt, op, tk, tp, fp, sk, oc, of, bt, ba, rd, sl, ac, af, fa, fw, fv, wt, wd, vp_updL wv q (of i), pr, mc)) : wpX_finishField post (nc, nt, ns, mn, n, na, nI g, ws, nI q, en, rs, pc, tc, dc, cp, cf, mt, op, tk, tp, fp, sk, oc, of, bt, ba, rd, sl, ac, af, fa, fw, fv, wt, wd, wv, pr, mc) k := by
  unfold wpX_finishField
  exact h _ (br_f (ax_nIm1 (by omega)) (And.intro (vp_in_nI hi (by decide)) (by rw [nI_clamp (by omega)]; exact ax_push _ hq hp)))
theorem ax_setf_s (post : SX → Prop) {g : Nat} {k : Int32} (h : ∀ Q : Int32 → Prop, Q (-1) → wpX_fieldIndex Q (nc, nt, ns, mn, n, na, nI g, ws, vs, en, rs, pc, tc, dc, cp, cf, mt, op, tk, tp, fp, sk, oc, of, bt, ba, rd, sl, ac, af, fa, fw, fv, wt, wd, wv, pr, mc) k) (hp : post (nc, nt, ns, mn, n, na, nI g, ws, vs, 1, rs, pc, tc, dc, cp, cf, mt, op, tk, tp, fp, sk, oc, of, bt, ba, rd, sl, ac, af, fa, fw, fv, wt, wd, wv, pr, mc)) : wpX_finishSetField post (nc, nt, ns, mn, n, na, nI g, ws, vs, en, rs, pc, tc, dc, cp, cf, mt, op, tk, tp, fp, sk, oc, of, bt, ba, rd, sl, ac, af, fa, fw, fv, wt, wd, wv, pr, mc) k := by
  unfold wpX_finishSetField
  exact h _ (br_t rfl hp)
theorem ax_setf_o (post : SX → Prop) {g i q : Nat} {k : Int32} (h : ∀ Q : Int32 → Prop, Q (nI i) → wpX_fieldIndex Q (nc, nt, ns, mn, n, na, nI g, ws, nI (q + 1), en, rs, pc, tc, dc, cp, cf, mt, op, tk, tp, fp, sk, oc, of, bt, ba, rd, sl, ac, af, fa, fw, fv, wt, wd, wv, pr, mc) k) (hi : i < 800) (hq : q < 2100) (hp : post (nc, nt, ns, mn, n, na, nI g, ws, nI (q + 1), en, rs, pc, tc, dc, cp, cf, mt, op, tk, tp, fp, sk, oc, vp_updL of i (wv q), bt, ba, rd, sl, ac, af, fa, fw, fv, wt, wd, wv, pr, mc)) : wpX_finishSetField post (nc, nt, ns, mn, n, na, nI g, ws, nI (q + 1), en, rs, pc, tc, dc, cp, cf, mt, op, tk, tp, fp, sk, oc, of, bt, ba, rd, sl, ac, af, fa, fw, fv, wt, wd, wv, pr, mc) k := by
  unfold wpX_finishSetField
  exact h _ (br_f (ax_nIm1 (by omega)) (And.intro (by rw [nI_pred]; exact vp_in_nI hq (by decide)) (And.intro (vp_in_nI hi (by decide)) (nm_r (by rw [nI_clamp (n := i) (by omega), nI_pred, nI_clamp (by omega)]) hp))))
theorem ax_set (post : SX → Prop) {g a j q : Nat} (hg : g < 21) (ha : a < 201) (hj : j < 7) (hq : q < 2100) (h1 : fa g = nI a) (hp : post (nc, nt, ns, mn, n, na, nI g, ws, nI (q + 1), en, rs, pc, tc, dc, cp, cf, mt, op, tk, tp, fp, sk, oc, of, bt, ba, rd, vp_updL sl (a * 7 + j) (wv q), ac, af, fa, fw, fv, wt, wd, wv, pr, mc)) : wpX_finishSet post (nc, nt, ns, mn, n, na, nI g, ws, nI (q + 1), en, rs, pc, tc, dc, cp, cf, mt, op, tk, tp, fp, sk, oc, of, bt, ba, rd, sl, ac, af, fa, fw, fv, wt, wd, wv, pr, mc) (nI j) := by
  unfold wpX_finishSet
  exact ax_slot _ hg h1 (And.intro (by rw [nI_pred]; exact vp_in_nI hq (by decide)) (And.intro (vp_in_nI (by omega) (by decide)) (nm_r (by rw [nI_clamp (n := a * 7 + j) (by omega), nI_pred, nI_clamp (by omega)]) hp)))
theorem ax_new_n (post : SX → Prop) {k : Int32} (hp : post (nc, nt, ns, mn, n, na, f, ws, vs, 2, rs, pc, nI 200, dc, cp, cf, mt, op, tk, tp, fp, sk, oc, of, bt, ba, rd, sl, ac, af, fa, fw, fv, wt, wd, wv, pr, mc)) : wpX_finishNew post (nc, nt, ns, mn, n, na, f, ws, vs, en, rs, pc, nI 200, dc, cp, cf, mt, op, tk, tp, fp, sk, oc, of, bt, ba, rd, sl, ac, af, fa, fw, fv, wt, wd, wv, pr, mc) k := by
  unfold wpX_finishNew
  exact ax_turn_n _ (br_t rfl hp)
theorem ax_ix4 {t d : Nat} : nI t * 4 + nI d = nI (t * 4 + d) := by
  rw [show (4 : Int32) = nI 4 from rfl, pk_mul, nI_add]
def ax_of4 (of : Nat → Int64) (t : Nat) : Nat → Int64 := up_n of (t * 4) (fun _ => vb_pk 1 0) 4
theorem ax_new_f (post : SX → Prop) {q t c r : Nat} (hq : q < 2100) (ht : t < 200) (hc : c < 6) (hr : r < 200) (hp : post (nc, nt, ns, mn, nI (t + 1), na, f, ws, nI (q + 1), en, rs, pc, nI (r + 1), dc, cp, cf, mt, op, tk, tp, fp, sk, upd oc t (nI c), ax_of4 of t, bt, ba, rd, sl, ac, af, fa, fw, fv, wt, wd, vp_updL wv q (vb_pk 4 (nI t)), pr, upd mc c (mc c + 1))) : wpX_finishNew post (nc, nt, ns, mn, nI t, na, f, ws, nI q, en, rs, pc, nI r, dc, cp, cf, mt, op, tk, tp, fp, sk, oc, of, bt, ba, rd, sl, ac, af, fa, fw, fv, wt, wd, wv, pr, mc) (nI c) := by
  unfold wpX_finishNew
  refine ax_turn_f _ hr (br_f (by decide) (nm_r (nI_1 t) (And.intro (vp_in_nI ht (by decide)) (nm_r (e' := upd oc t (nI c)) (by rw [nI_clamp (by omega)]) (Exists.intro 5 ?_)))))
  have st : ∀ d, d < 4 → vp_in (nI t * 4 + nI d) 800 ∧ (nI t * 4 + nI d).toNatClampNeg = t * 4 + d := fun d hd => by
    rw [ax_ix4]
    exact ⟨vp_in_nI (by omega) (by decide), nI_clamp (by omega)⟩
  refine br_f (by decide) (And.intro (st 0 (by omega)).1 (nm_r (by rw [vb_nil, show (0 : Int32) = nI 0 from rfl, (st 0 (by omega)).2]) (nm_r (e' := nI 1) rfl ?_)))
  refine br_f (by decide) (And.intro (st 1 (by omega)).1 (nm_r (by rw [vb_nil, (st 1 (by omega)).2]) (nm_r (e' := nI 2) rfl ?_)))
  refine br_f (by decide) (And.intro (st 2 (by omega)).1 (nm_r (by rw [vb_nil, (st 2 (by omega)).2]) (nm_r (e' := nI 3) rfl ?_)))
  refine br_f (by decide) (And.intro (st 3 (by omega)).1 (nm_r (by rw [vb_nil, (st 3 (by omega)).2]) (nm_r (e' := nI 4) rfl ?_)))
  exact br_t (by decide) (And.intro (vp_in_nI hc (by decide)) (And.intro (vp_in_nI hc (by decide)) (nm_r (by rw [nI_clamp (by omega)]) (ax_push _ hq hp))))
theorem ax_block_n (post : SX → Prop) {k : Int32} (hp : post (nc, nt, ns, mn, n, na, f, ws, vs, 2, rs, pc, nI 200, dc, cp, cf, mt, op, tk, tp, fp, sk, oc, of, bt, ba, rd, sl, ac, af, fa, fw, fv, wt, wd, wv, pr, mc)) : wpX_finishBlock post (nc, nt, ns, mn, n, na, f, ws, vs, en, rs, pc, nI 200, dc, cp, cf, mt, op, tk, tp, fp, sk, oc, of, bt, ba, rd, sl, ac, af, fa, fw, fv, wt, wd, wv, pr, mc) k := by
  unfold wpX_finishBlock
  exact ax_turn_n _ (br_t rfl hp)
theorem ax_block_f (post : SX → Prop) {q t g a r : Nat} {k : Int32} (hq : q < 2100) (ht : t < 200) (hg : g < 21) (h1 : fa g = nI a) (hr : r < 200) (hp : post (nc, nt, ns, mn, nI (t + 1), na, nI g, ws, nI (q + 1), en, rs, pc, nI (r + 1), dc, cp, cf, mt, op, tk, tp, fp, sk, oc, of, upd bt t k, upd ba t (nI a), rd, sl, ac, af, fa, fw, fv, wt, wd, vp_updL wv q (vb_pk 3 (nI t)), pr, mc)) : wpX_finishBlock post (nc, nt, ns, mn, nI t, na, nI g, ws, nI q, en, rs, pc, nI r, dc, cp, cf, mt, op, tk, tp, fp, sk, oc, of, bt, ba, rd, sl, ac, af, fa, fw, fv, wt, wd, wv, pr, mc) k := by
  unfold wpX_finishBlock
  exact ax_turn_f _ hr (br_f (by decide) (nm_r (nI_1 t) (And.intro (vp_in_nI ht (by decide)) (nm_r (by rw [nI_clamp (by omega)]) (And.intro (vp_in_nI hg (by decide)) (And.intro (vp_in_nI ht (by decide)) (nm_r (by rw [nI_clamp (n := t) (by omega), nI_clamp (by omega), h1]) (ax_push _ hq hp))))))))
theorem ax_print_s (post : SX → Prop) {q : Nat} (hq : q < 2100) (h1 : ¬ vb_T (wv q) = 2) (hp : post (nc, nt, ns, mn, n, na, f, ws, nI (q + 1), 1, rs, pc, tc, dc, cp, cf, mt, op, tk, tp, fp, sk, oc, of, bt, ba, rd, sl, ac, af, fa, fw, fv, wt, wd, wv, pr, mc)) : wpX_finishPrint post (nc, nt, ns, mn, n, na, f, ws, nI (q + 1), en, rs, pc, tc, dc, cp, cf, mt, op, tk, tp, fp, sk, oc, of, bt, ba, rd, sl, ac, af, fa, fw, fv, wt, wd, wv, pr, mc) :=
  And.intro (by rw [nI_pred]; exact vp_in_nI hq (by decide)) (nm_r (e' := wv q) (by rw [nI_pred, nI_clamp (by omega)]) (br_f h1 hp))
theorem ax_print_n (post : SX → Prop) {q : Nat} (hq : q < 2100) (h1 : vb_T (wv q) = 2) (hp : post (nc, nt, ns, mn, n, na, f, ws, nI (q + 1), 4, rs, nI 20, tc, dc, cp, cf, mt, op, tk, tp, fp, sk, oc, of, bt, ba, rd, sl, ac, af, fa, fw, fv, wt, wd, wv, pr, mc)) : wpX_finishPrint post (nc, nt, ns, mn, n, na, f, ws, nI (q + 1), en, rs, nI 20, tc, dc, cp, cf, mt, op, tk, tp, fp, sk, oc, of, bt, ba, rd, sl, ac, af, fa, fw, fv, wt, wd, wv, pr, mc) :=
  And.intro (by rw [nI_pred]; exact vp_in_nI hq (by decide)) (nm_r (e' := wv q) (by rw [nI_pred, nI_clamp (by omega)]) (br_t h1 (br_f (by decide) hp)))
theorem ax_print_f (post : SX → Prop) {q r : Nat} (hq : q < 2100) (hr : r < 20) (h1 : vb_T (wv q) = 2) (hp : post (nc, nt, ns, mn, n, na, f, ws, nI (q + 1), en, rs, nI (r + 1), tc, dc, cp, cf, mt, op, tk, tp, fp, sk, oc, of, bt, ba, rd, sl, ac, af, fa, fw, fv, wt, wd, wv, upd pr r (wv q).toInt32, mc)) : wpX_finishPrint post (nc, nt, ns, mn, n, na, f, ws, nI (q + 1), en, rs, nI r, tc, dc, cp, cf, mt, op, tk, tp, fp, sk, oc, of, bt, ba, rd, sl, ac, af, fa, fw, fv, wt, wd, wv, pr, mc) :=
  And.intro (by rw [nI_pred]; exact vp_in_nI hq (by decide)) (nm_r (e' := wv q) (by rw [nI_pred, nI_clamp (by omega)]) (br_t h1 (br_t (nI_lt (b := 20) hr (by decide)) (And.intro (vp_in_nI hr (by decide)) (nm_r (by rw [nI_clamp (by omega)]) (nm_r (nI_1 r) hp))))))
theorem ax_same (post : SX → Prop) {q : Nat} {i : Int32} (hq : q + 1 < 2100) (h1 : (wv q = wv (q + 1) ∧ i = 1) ∨ (¬ wv q = wv (q + 1) ∧ i = 0)) (hp : post (nc, nt, ns, mn, n, na, f, ws, nI (q + 1), en, rs, pc, tc, dc, cp, cf, mt, op, tk, tp, fp, sk, oc, of, bt, ba, rd, sl, ac, af, fa, fw, fv, wt, wd, vp_updL wv q (vb_pk 2 i), pr, mc)) : wpX_finishSame post (nc, nt, ns, mn, n, na, f, ws, nI (q + 2), en, rs, pc, tc, dc, cp, cf, mt, op, tk, tp, fp, sk, oc, of, bt, ba, rd, sl, ac, af, fa, fw, fv, wt, wd, wv, pr, mc) := by
  unfold wpX_finishSame
  exact ax_pop (q := q + 1) _ hq (ax_pop _ (by omega) (by
    rcases h1 with ⟨h1, rfl⟩ | ⟨h1, rfl⟩
    · exact br_t h1 (ax_pushInt _ (by omega) hp)
    · exact br_f h1 (ax_pushInt _ (by omega) hp)))
theorem ax_then (post : SX → Prop) {q : Nat} (hq : q + 1 < 2100) (hp : post (nc, nt, ns, mn, n, na, f, ws, nI (q + 1), en, rs, pc, tc, dc, cp, cf, mt, op, tk, tp, fp, sk, oc, of, bt, ba, rd, sl, ac, af, fa, fw, fv, wt, wd, vp_updL wv q (wv (q + 1)), pr, mc)) : wpX_finishThen post (nc, nt, ns, mn, n, na, f, ws, nI (q + 2), en, rs, pc, tc, dc, cp, cf, mt, op, tk, tp, fp, sk, oc, of, bt, ba, rd, sl, ac, af, fa, fw, fv, wt, wd, wv, pr, mc) := by
  unfold wpX_finishThen
  exact ax_pop (q := q + 1) _ hq (And.intro (by rw [nI_pred]; exact vp_in_nI (by omega) (by decide)) (nm_r (by rw [nI_pred, nI_clamp (by omega)]) hp))
theorem ax_choose_s (post : SX → Prop) {q : Nat} {t : Int32} (hq : q < 2100) (h1 : ¬ vb_T (wv q) = 2) (hp : post (nc, nt, ns, mn, n, na, f, ws, nI q, 1, rs, pc, tc, dc, cp, cf, mt, op, tk, tp, fp, sk, oc, of, bt, ba, rd, sl, ac, af, fa, fw, fv, wt, wd, wv, pr, mc)) : wpX_finishChoose post (nc, nt, ns, mn, n, na, f, ws, nI (q + 1), en, rs, pc, tc, dc, cp, cf, mt, op, tk, tp, fp, sk, oc, of, bt, ba, rd, sl, ac, af, fa, fw, fv, wt, wd, wv, pr, mc) t := by
  unfold wpX_finishChoose
  exact ax_pop _ hq (br_f h1 hp)
theorem ax_choose_f (post : SX → Prop) {q t w d p : Nat} (hq : q < 2100) (hw : w < 2100) (ht : t < 100) (hd : ((wv q).toInt32 = 0 ∧ d = 2) ∨ (¬ (wv q).toInt32 = 0 ∧ d = 1)) (h1 : vb_T (wv q) = 2) (h2 : tp (3 * t + d) = nI p) (hp : post (nc, nt, ns, mn, n, na, f, nI (w + 1), nI q, en, rs, pc, tc, dc, cp, cf, mt, op, tk, tp, fp, sk, oc, of, bt, ba, rd, sl, ac, af, fa, fw, fv, upd wt w (nI p), upd wd w 0, wv, pr, mc)) : wpX_finishChoose post (nc, nt, ns, mn, n, na, f, nI w, nI (q + 1), en, rs, pc, tc, dc, cp, cf, mt, op, tk, tp, fp, sk, oc, of, bt, ba, rd, sl, ac, af, fa, fw, fv, wt, wd, wv, pr, mc) (nI t) := by
  unfold wpX_finishChoose
  exact ax_pop _ hq (br_t h1 (by
    rcases hd with ⟨hd, rfl⟩ | ⟨hd, rfl⟩
    · exact br_t hd (And.intro (by rw [show (2 : Int32) = nI 2 from rfl, ax_ix3]; exact vp_in_nI (by omega) (by decide)) (by rw [show (2 : Int32) = nI 2 from rfl, ax_ix3, nI_clamp (by omega), h2]; exact ax_begin _ hw hp))
    · exact br_f hd (And.intro (by rw [show (1 : Int32) = nI 1 from rfl, ax_ix3]; exact vp_in_nI (by omega) (by decide)) (by rw [show (1 : Int32) = nI 1 from rfl, ax_ix3, nI_clamp (by omega), h2]; exact ax_begin _ hw hp))))
end
