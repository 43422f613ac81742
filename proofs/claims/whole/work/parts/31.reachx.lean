def xr_o (ob : Nat → Bool) (p : Nat → Int32) : Nat → Int32 := fun t => if ob t = true then p t else 0
theorem xr_ot {ob : Nat → Bool} {p : Nat → Int32} {t : Nat} (h : ob t = true) : xr_o ob p t = p t := if_pos h
theorem xr_of {ob : Nat → Bool} {p : Nat → Int32} {t : Nat} (h : ob t = false) : xr_o ob p t = 0 := if_neg (by rw [h]; exact Bool.noConfusion)
theorem xr_oc {ob : Nat → Bool} {p q : Nat → Int32} {N : Nat} (h : ∀ t, t < N → (p t = 0 ↔ q t = 0)) : cn_z (xr_o ob p) N = cn_z (xr_o ob q) N := by
  refine cn_cg (fun t ht => ?_)
  cases z : ob t with
  | true => rw [xr_ot z, xr_ot z]; exact h t ht
  | false => rw [xr_of z, xr_of z]
theorem xr_ou1 {ob : Nat → Bool} {p : Nat → Int32} {N t : Nat} (hb : ob t = true) (h : p t = 0) (ht : t < N) : cn_z (xr_o ob (upd p t 1)) N = cn_z (xr_o ob p) N + 1 := by
  rw [← cn_up (p := xr_o ob p) (by rw [xr_ot hb]; exact h) ht]
  refine cn_cg (fun s hs => ?_)
  by_cases e : s = t
  · subst e
    rw [xr_ot hb, pk_us, pk_us]
  · rw [pk_un e]
    cases z : ob s with
    | true => rw [xr_ot z, xr_ot z, pk_un e]
    | false => rw [xr_of z, xr_of z]
theorem xr_ou0 {ob : Nat → Bool} {p : Nat → Int32} {N t : Nat} (hb : ob t = false) : cn_z (xr_o ob (upd p t 1)) N = cn_z (xr_o ob p) N := by
  refine cn_cg (fun s hs => ?_)
  by_cases e : s = t
  · subst e
    rw [xr_of hb, xr_of hb]
  · cases z : ob s with
    | true => rw [xr_ot z, xr_ot z, pk_un e]
    | false => rw [xr_of z, xr_of z]
/-- a value of X's heap -/
def xr_k (N : Nat) (ob : Nat → Bool) (x : Int64) : Prop := (∃ s, s < N ∧ vf_R ob x s) ∨ (¬ vb_T x = 3 ∧ ¬ vb_T x = 4)
theorem xr_kb {N : Nat} {ob : Nat → Bool} {x y : Int64} (r : vb_R ob N x y) : xr_k N ob x := by
  rcases r with ⟨rfl, _⟩ | ⟨i, rfl, _⟩ | ⟨t, a, b, rfl, _⟩ | ⟨t, a, b, rfl, _⟩
  · exact Or.inr ⟨by rw [vC_1]; decide, by rw [vC_1]; decide⟩
  · exact Or.inr ⟨by rw [vC_2]; decide, by rw [vC_2]; decide⟩
  · exact Or.inl ⟨t, a, Or.inl ⟨b, rfl⟩⟩
  · exact Or.inl ⟨t, a, Or.inr ⟨b, rfl⟩⟩
theorem qx_nume (post : Int32 → Prop) {x : Int64} {s i : Int32} (e : x = vb_pk s i) (h : post i) : wpX_numberOf post x := by
  rw [e]
  exact qx_num _ h
theorem xr_pop {N A w : Nat} {ob : Nat → Bool} {ba : Nat → Int32} {of sl : Nat → Int64} {rs : Int64} {dn rd : Nat → Int32} {wv : Nat → Int64} {wg : Nat → Nat} (J : xr_J N A ob ba of sl rs dn rd (w + 1) wv wg) : xr_J N A ob ba of sl rs (upd dn (wg w) 1) rd w wv wg := by
  obtain ⟨J1, J2, J3, J4, J5, J6⟩ := J
  obtain ⟨a1, a2, a3, a4⟩ := J2 w (by omega)
  refine ⟨J1, fun j hj => ?_, fun j i hj hi => J3 j i (by omega) (by omega), fun t ht hr hd => ?_, fun t ht hr => ?_, ?_⟩
  · obtain ⟨b1, b2, b3, b4⟩ := J2 j (by omega)
    refine ⟨b1, b2, b3, ?_⟩
    rw [pk_un (fun e => by have := J3 j w (by omega) (by omega) e; omega)]
    exact b4
  · have ne : t ≠ wg w := fun e => by
      rw [e, pk_us] at hd
      exact absurd hd (by decide)
    rw [pk_un ne] at hd
    obtain ⟨j, hj, e⟩ := J4 t ht hr hd
    have : j ≠ w := fun z => ne (by rw [← e, z])
    exact ⟨j, by omega, e⟩
  · rw [pk_un (fun e => a3 (by rw [← e]; exact hr))]
    exact J5 t ht hr
  · rw [cn_up a4 a1]
    omega
section
variable {nc nt ns mn n na f ws vs en pc tc dc : Int32} {rs : Int64} {cp cf mt op tk tp fp sk oc bt ba rd ac af fa fw fv wt wd pr mc : Nat → Int32} {of sl wv : Nat → Int64}
variable {N A : Nat} {ob : Nat → Bool}
theorem xr_main {root : Int64} (hN : N ≤ 200) (hA : A ≤ 201) (hVo : ∀ t, t < N → ob t = true → ∀ k, k < 4 → xr_k N ob (of (t * 4 + k))) (hVb : ∀ t, t < N → ob t = false → ∃ a, a < A ∧ ba t = nI a) (hVs : ∀ a, a < A → ∀ k, k < 7 → xr_k N ob (sl (a * 7 + k))) : ∀ e i : Nat, i + e = 200 → ∀ (dn rd : Nat → Int32) (w : Nat) (wv : Nat → Int64) (wg : Nat → Nat), xr_J N A ob ba of sl root dn rd w wv wg → (∀ t, t < N → ¬ dn t = 0 → ∀ x, vf_V A ob ba of sl t x → ∀ s, s < N → vf_R ob x s → ¬ rd s = 0) → cn_z dn N = i → ∃ rd' wv', (∀ C, rc_C N A ob ba of sl root C → ∀ t, t < N → ¬ rd' t = 0 → C t) ∧ (∀ t, t < N → ¬ rd' t = 0 → ∀ x, vf_V A ob ba of sl t x → ∀ s, s < N → vf_R ob x s → ¬ rd' s = 0) ∧ (∀ t, t < N → ¬ rd t = 0 → ¬ rd' t = 0) ∧ ∀ post : Int32 → SX → Prop, post (nI (cn_z (xr_o ob rd') N)) (nc, nt, ns, mn, n, na, f, ws, nI 0, en, rs, pc, tc, dc, cp, cf, mt, op, tk, tp, fp, sk, oc, of, bt, ba, rd', sl, ac, af, fa, fw, fv, wt, wd, wv', pr, mc) → wX_countReached_34 post (e + 1) (nI (cn_z (xr_o ob dn) N)) (nI i) nc nt ns mn n na f ws (nI w) en rs pc tc dc cp cf mt op tk tp fp sk oc of bt ba rd sl ac af fa fw fv wt wd wv pr mc := by
  intro e
  induction e with
  | zero =>
    intro i h dn rd w wv wg J Hc hi
    have i200 : i = 200 := by omega
    have w0 : w = 0 := by
      have a := cn_le rd N
      have b := J.2.2.2.2.2
      omega
    clear hi
    subst i200
    subst w0
    have eq : ∀ t, t < N → (rd t = 0 ↔ dn t = 0) := fun t ht => ⟨J.2.2.2.2.1 t ht, fun z => Classical.byContradiction fun y => by
      obtain ⟨j, hj, _⟩ := J.2.2.2.1 t ht y z
      omega⟩
    refine ⟨rd, wv, J.1, fun t ht hr => Hc t ht (fun z => hr ((eq t ht).mpr z)), fun t ht hr => hr, fun post hp => br_t (by decide) ?_⟩
    rw [xr_oc eq] at hp
    exact hp
  | succ e ih =>
    intro i h dn rd w wv wg J Hc hi
    cases w with
    | zero =>
      have eq : ∀ t, t < N → (rd t = 0 ↔ dn t = 0) := fun t ht => ⟨J.2.2.2.2.1 t ht, fun z => Classical.byContradiction fun y => by
        obtain ⟨j, hj, _⟩ := J.2.2.2.1 t ht y z
        omega⟩
      refine ⟨rd, wv, J.1, fun t ht hr => Hc t ht (fun z => hr ((eq t ht).mpr z)), fun t ht hr => hr, fun post hp => br_f (nI_ge (b := 200) (by omega) (by decide)) (br_t (by decide) ?_)⟩
      rw [xr_oc eq] at hp
      exact hp
    | succ w =>
      have wl : w < 2100 := by
        have a := cn_le rd N
        have b := J.2.2.2.2.2
        omega
      obtain ⟨a1, a2, a3, a4⟩ := J.2.1 w (by omega)
      have Jp := xr_pop J
      have cd : cn_z (upd dn (wg w) 1) N = i + 1 := by rw [cn_up a4 a1, hi]
      cases hb : ob (wg w) with
      | true =>
        obtain ⟨rd1, w1, wv1, wg1, J1, m1, s1, p1⟩ := xr_fl (nc := nc) (nt := nt) (ns := ns) (mn := mn) (n := n) (na := na) (f := f) (ws := ws) (en := en) (rs := rs) (pc := pc) (tc := tc) (dc := dc) (cp := cp) (cf := cf) (mt := mt) (op := op) (tk := tk) (tp := tp) (fp := fp) (sk := sk) (oc := oc) (bt := bt) (ac := ac) (af := af) (fa := fa) (fw := fw) (fv := fv) (wt := wt) (wd := wd) (pr := pr) (mc := mc) (t := wg w) hN a1 hb (hVo _ a1 hb) (fun C hC => J.1 C hC _ a1 a3) 4 0 rfl rd w wv wg Jp
        obtain ⟨rd2, wv2, F1, F2, F3, p2⟩ := ih (i + 1) (by omega) (upd dn (wg w) 1) rd1 w1 wv1 wg1 J1 (fun t ht hd x hx s hs hv => by
          by_cases e : t = wg w
          · subst e
            rcases hx with ⟨_, k, hk, rfl⟩ | ⟨hz, _⟩
            · exact s1 k (by omega) hk s hs hv
            · rw [hb] at hz; exact Bool.noConfusion hz
          · rw [pk_un e] at hd
            exact m1 s hs (Hc t ht hd x hx s hs hv)) cd
        rw [xr_ou1 hb a4 a1] at p2
        have ev : wv w = vb_pk 4 (nI (wg w)) := by rw [a2]; exact if_pos hb
        refine ⟨rd2, wv2, F1, F2, fun t ht hr => F3 t ht (m1 t ht hr), fun post hp => br_f (nI_ge (b := 200) (by omega) (by decide)) (br_f (nI_nle (by omega) (by omega)) (ax_pop _ wl ?_))⟩
        exact qx_nume _ ev (qx_sort (s := 4) _ (by rw [ev]; exact vC_4 _) (br_t rfl (nm_r (nI_1 _) (Exists.intro 5 (p1 _ (nm_r (nI_1 i) (p2 post hp)))))))
      | false =>
        obtain ⟨a, ha, ea⟩ := hVb _ a1 hb
        obtain ⟨rd1, w1, wv1, wg1, J1, m1, s1, p1⟩ := xr_sl (nc := nc) (nt := nt) (ns := ns) (mn := mn) (n := n) (na := na) (f := f) (ws := ws) (en := en) (rs := rs) (pc := pc) (tc := tc) (dc := dc) (cp := cp) (cf := cf) (mt := mt) (op := op) (tk := tk) (tp := tp) (fp := fp) (sk := sk) (oc := oc) (bt := bt) (ac := ac) (af := af) (fa := fa) (fw := fw) (fv := fv) (wt := wt) (wd := wd) (pr := pr) (mc := mc) (t := wg w) hN hA a1 hb ha ea (hVs _ ha) (fun C hC => J.1 C hC _ a1 a3) 7 0 rfl rd w wv wg Jp
        obtain ⟨rd2, wv2, F1, F2, F3, p2⟩ := ih (i + 1) (by omega) (upd dn (wg w) 1) rd1 w1 wv1 wg1 J1 (fun t ht hd x hx s hs hv => by
          by_cases e : t = wg w
          · subst e
            rcases hx with ⟨hz, _⟩ | ⟨_, a', k, ha', hk, ea', rfl⟩
            · rw [hb] at hz; exact Bool.noConfusion hz
            · have : a' = a := by
                rw [ea] at ea'
                exact ((nI_eq (by omega) (by omega)).mp ea').symm
              subst this
              exact s1 k (by omega) hk s hs hv
          · rw [pk_un e] at hd
            exact m1 s hs (Hc t ht hd x hx s hs hv)) cd
        rw [xr_ou0 hb] at p2
        have ev : wv w = vb_pk 3 (nI (wg w)) := by
          rw [a2]
          exact if_neg (by rw [hb]; exact Bool.noConfusion)
        refine ⟨rd2, wv2, F1, F2, fun t ht hr => F3 t ht (m1 t ht hr), fun post hp => br_f (nI_ge (b := 200) (by omega) (by decide)) (br_f (nI_nle (by omega) (by omega)) (ax_pop _ wl ?_))⟩
        exact qx_nume _ ev (qx_sort (s := 3) _ (by rw [ev]; exact vC_3 _) (br_f (by decide) (And.intro (vp_in_nI (by omega) (by decide)) (by
          rw [nI_clamp (by omega), ea]
          exact Exists.intro 8 (p1 _ (nm_r (nI_1 i) (p2 post hp)))))))
theorem xr_cl (post : Int32 → SX → Prop) (hp : wpX_noteReached (fun u => match u with | (nc, nt, ns, mn, n, na, f, ws, vs, en, rs, pc, tc, dc, cp, cf, mt, op, tk, tp, fp, sk, oc, of, bt, ba, rd, sl, ac, af, fa, fw, fv, wt, wd, wv, pr, mc) => ∃ m, wX_countReached_34 post m 0 0 nc nt ns mn n na f ws vs en rs pc tc dc cp cf mt op tk tp fp sk oc of bt ba rd sl ac af fa fw fv wt wd wv pr mc) (nc, nt, ns, mn, n, na, f, ws, vs, en, rs, pc, tc, dc, cp, cf, mt, op, tk, tp, fp, sk, oc, of, bt, ba, um_n rd 200, sl, ac, af, fa, fw, fv, wt, wd, wv, pr, mc) rs) : ∀ e k : Nat, k + e = 200 → wX_countReached_4 post 0 nc nt ns mn n na f ws vs en rs pc tc dc (e + 1) (nI k) cp cf mt op tk tp fp sk oc of bt ba (um_n rd k) sl ac af fa fw fv wt wd wv pr mc := by
  intro e
  induction e with
  | zero =>
    intro k h
    have : k = 200 := by omega
    subst this
    exact br_t (by decide) hp
  | succ e ih =>
    intro k h
    exact br_f (nI_ge (b := 200) (by omega) (by decide)) (And.intro (vp_in_nI (by omega) (by decide)) (nm_r (e' := um_n rd (k + 1)) (by rw [nI_clamp (by omega), ay_n0]; rfl) (nm_r (nI_1 k) (ih (k + 1) (by omega)))))
theorem xr_go (hN : N ≤ 200) (hA : A ≤ 201) (hr : xr_k N ob rs) (hVo : ∀ t, t < N → ob t = true → ∀ k, k < 4 → xr_k N ob (of (t * 4 + k))) (hVb : ∀ t, t < N → ob t = false → ∃ a, a < A ∧ ba t = nI a) (hVs : ∀ a, a < A → ∀ k, k < 7 → xr_k N ob (sl (a * 7 + k))) : ∃ rd' wv', (∀ C, rc_C N A ob ba of sl rs C → ∀ t, t < N → ¬ rd' t = 0 → C t) ∧ rc_C N A ob ba of sl rs (fun t => ¬ rd' t = 0) ∧ ∀ post : Int32 → SX → Prop, post (nI (cn_z (xr_o ob rd') N)) (nc, nt, ns, mn, n, na, f, ws, nI 0, en, rs, pc, tc, dc, cp, cf, mt, op, tk, tp, fp, sk, oc, of, bt, ba, rd', sl, ac, af, fa, fw, fv, wt, wd, wv', pr, mc) → wpX_countReached post (nc, nt, ns, mn, n, na, f, ws, nI 0, en, rs, pc, tc, dc, cp, cf, mt, op, tk, tp, fp, sk, oc, of, bt, ba, rd, sl, ac, af, fa, fw, fv, wt, wd, wv, pr, mc) := by
  have z : ∀ t, t < N → um_n rd 200 t = 0 := fun t ht => um_in (by omega)
  have c0 : cn_z (um_n rd 200) N = 0 := by
    rw [cn_cg (q := fun _ => 0) (fun t ht => ⟨fun _ => rfl, fun _ => z t ht⟩), cn_0]
  have J0 : xr_J N A ob ba of sl rs (fun _ => 0) (um_n rd 200) 0 wv (fun _ => 0) := ⟨fun C hC t ht hr => absurd (z t ht) hr, fun j hj => absurd hj (Nat.not_lt_zero _), fun j i hj => absurd hj (Nat.not_lt_zero _), fun t ht hr => absurd (z t ht) hr, fun _ _ _ => rfl, by rw [c0, cn_0]⟩
  obtain ⟨rd1, w1, wv1, wg1, J1, m1, s1, p1⟩ := xr_note (nc := nc) (nt := nt) (ns := ns) (mn := mn) (n := n) (na := na) (f := f) (ws := ws) (en := en) (rs := rs) (pc := pc) (tc := tc) (dc := dc) (cp := cp) (cf := cf) (mt := mt) (op := op) (tk := tk) (tp := tp) (fp := fp) (sk := sk) (oc := oc) (bt := bt) (ac := ac) (af := af) (fa := fa) (fw := fw) (fv := fv) (wt := wt) (wd := wd) (pr := pr) (mc := mc) (root := rs) (x := rs) hN hr (fun C hC s hs hv => hC.1 s hs hv) J0
  obtain ⟨rd2, wv2, F1, F2, F3, p2⟩ := xr_main (nc := nc) (nt := nt) (ns := ns) (mn := mn) (n := n) (na := na) (f := f) (ws := ws) (en := en) (rs := rs) (pc := pc) (tc := tc) (dc := dc) (cp := cp) (cf := cf) (mt := mt) (op := op) (tk := tk) (tp := tp) (fp := fp) (sk := sk) (oc := oc) (bt := bt) (ac := ac) (af := af) (fa := fa) (fw := fw) (fv := fv) (wt := wt) (wd := wd) (pr := pr) (mc := mc) hN hA hVo hVb hVs 200 0 rfl (fun _ => 0) rd1 w1 wv1 wg1 J1 (fun t ht hd => absurd rfl hd) (cn_0 N)
  have e0 : cn_z (xr_o ob (fun _ => 0)) N = 0 := by
    rw [cn_cg (q := fun _ => 0) (fun t ht => ⟨fun _ => rfl, fun _ => by unfold xr_o; split <;> rfl⟩), cn_0]
  rw [e0] at p2
  exact ⟨rd2, wv2, F1, ⟨fun s hs hv => F3 s hs (s1 s hs hv), fun t ht hr x hx s hs hv => F2 t ht hr x hx s hs hv⟩, fun post hp => Exists.intro 201 (xr_cl (vs := nI 0) post (p1 _ (Exists.intro 201 (p2 post hp))) 200 0 rfl)⟩
end
