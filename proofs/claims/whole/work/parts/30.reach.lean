/-! counting -/
def cn_z (p : Nat → Int32) : Nat → Nat
  | 0 => 0
  | n + 1 => cn_z p n + (if p n = 0 then 0 else 1)
theorem cn_le (p : Nat → Int32) : ∀ n, cn_z p n ≤ n
  | 0 => Nat.le_refl _
  | n + 1 => by
    have := cn_le p n
    show cn_z p n + (if p n = 0 then 0 else 1) ≤ n + 1
    split <;> omega
theorem cn_cg {p q : Nat → Int32} : ∀ {n : Nat}, (∀ t, t < n → (p t = 0 ↔ q t = 0)) → cn_z p n = cn_z q n
  | 0, _ => rfl
  | n + 1, h => by
    show cn_z p n + (if p n = 0 then 0 else 1) = cn_z q n + (if q n = 0 then 0 else 1)
    rw [cn_cg (fun t ht => h t (by omega))]
    by_cases z : p n = 0
    · rw [if_pos z, if_pos ((h n (by omega)).mp z)]
    · rw [if_neg z, if_neg (fun y => z ((h n (by omega)).mpr y))]
theorem cn_up {p : Nat → Int32} {t : Nat} (h : p t = 0) : ∀ {n : Nat}, t < n → cn_z (upd p t 1) n = cn_z p n + 1
  | 0, h => absurd h (Nat.not_lt_zero _)
  | n + 1, hn => by
    show cn_z (upd p t 1) n + (if upd p t 1 n = 0 then 0 else 1) = cn_z p n + (if p n = 0 then 0 else 1) + 1
    by_cases e : t = n
    · subst e
      rw [cn_cg (q := p) (fun s hs => by rw [pk_un (show s ≠ t by omega)]), pk_us, if_pos h, if_neg (by decide)]
    · rw [cn_up h (by omega), pk_un (show n ≠ t by omega)]
      omega
theorem cn_0 : ∀ n, cn_z (fun _ => 0) n = 0
  | 0 => rfl
  | n + 1 => by
    show cn_z (fun _ => 0) n + (if (0 : Int32) = 0 then 0 else 1) = 0
    rw [cn_0 n, if_pos rfl]
/-! every number is a thing's -/
theorem cu_st1 {ob : Nat → Bool} : ∀ {N o : Nat}, o < cu_O ob N → ∃ t, t < N ∧ ob t = true ∧ cu_g ob t = o
  | 0, o, h => absurd h (Nat.not_lt_zero _)
  | N + 1, o, h => by
    by_cases e : o < cu_O ob N
    · obtain ⟨t, a, b, c⟩ := cu_st1 e
      exact ⟨t, by omega, b, c⟩
    · cases z : ob N with
      | true =>
        rw [cu_st z] at h
        refine ⟨N, by omega, z, ?_⟩
        unfold cu_g
        rw [if_pos z]
        omega
      | false =>
        rw [cu_sf z] at h
        omega
theorem cu_st0 {ob : Nat → Bool} : ∀ {N o : Nat}, o < N - cu_O ob N → ∃ t, t < N ∧ ob t = false ∧ cu_g ob t = o
  | 0, o, h => absurd h (by omega)
  | N + 1, o, h => by
    have l := cu_le ob N
    by_cases e : o < N - cu_O ob N
    · obtain ⟨t, a, b, c⟩ := cu_st0 e
      exact ⟨t, by omega, b, c⟩
    · cases z : ob N with
      | true =>
        rw [cu_st z] at h
        omega
      | false =>
        rw [cu_sf z] at h
        refine ⟨N, by omega, z, ?_⟩
        unfold cu_g
        rw [if_neg (by rw [z]; exact Bool.noConfusion)]
        omega
/-! what is reached -/
def vf_R (ob : Nat → Bool) (x : Int64) (s : Nat) : Prop := (ob s = false ∧ x = vb_pk 3 (nI s)) ∨ (ob s = true ∧ x = vb_pk 4 (nI s))
def vf_V (A : Nat) (ob : Nat → Bool) (ba : Nat → Int32) (of sl : Nat → Int64) (t : Nat) (x : Int64) : Prop := (ob t = true ∧ ∃ k, k < 4 ∧ x = of (t * 4 + k)) ∨ (ob t = false ∧ ∃ a k, a < A ∧ k < 7 ∧ ba t = nI a ∧ x = sl (a * 7 + k))
def rc_C (N A : Nat) (ob : Nat → Bool) (ba : Nat → Int32) (of sl : Nat → Int64) (rs : Int64) (C : Nat → Prop) : Prop := (∀ s, s < N → vf_R ob rs s → C s) ∧ ∀ t, t < N → C t → ∀ x, vf_V A ob ba of sl t x → ∀ s, s < N → vf_R ob x s → C s
theorem vf_no {ob : Nat → Bool} {x : Int64} (h3 : ¬ vb_T x = 3) (h4 : ¬ vb_T x = 4) {s : Nat} : ¬ vf_R ob x s := fun z => by
  rcases z with ⟨_, e⟩ | ⟨_, e⟩
  · exact h3 (by rw [e, vC_3])
  · exact h4 (by rw [e, vC_4])
theorem vf_one {ob : Nat → Bool} {x : Int64} {s s' : Nat} (hs : s < 1000) (hs' : s' < 1000) (h : vf_R ob x s) (h' : vf_R ob x s') : s' = s := by
  rcases h with ⟨_, rfl⟩ | ⟨_, rfl⟩
  · rcases h' with ⟨_, e⟩ | ⟨_, e⟩
    · exact ((nI_eq (by omega) (by omega)).mp (vb_inj (by decide) (by decide) e).2).symm
    · exact absurd (vb_inj (by decide) (by decide) e).1 (by decide)
  · rcases h' with ⟨_, e⟩ | ⟨_, e⟩
    · exact absurd (vb_inj (by decide) (by decide) e).1 (by decide)
    · exact ((nI_eq (by omega) (by omega)).mp (vb_inj (by decide) (by decide) e).2).symm
/-- the value of thing t -/
def vf_pv (ob : Nat → Bool) (t : Nat) : Int64 := if ob t = true then vb_pk 4 (nI t) else vb_pk 3 (nI t)
theorem vf_pR {ob : Nat → Bool} {x : Int64} {s : Nat} (h : vf_R ob x s) : x = vf_pv ob s := by
  unfold vf_pv
  rcases h with ⟨a, e⟩ | ⟨a, e⟩
  · rw [if_neg (by rw [a]; exact Bool.noConfusion)]; exact e
  · rw [if_pos a]; exact e
theorem xr_i4 {t k : Nat} : nI t * 4 + nI k = nI (t * 4 + k) := by
  rw [show (4 : Int32) = nI 4 from rfl, pk_mul, nI_add]
theorem xr_i7 {t k : Nat} : nI t * 7 + nI k = nI (t * 7 + k) := by
  rw [show (7 : Int32) = nI 7 from rfl, pk_mul, nI_add]
/-! X's marks: rd, the waiting things wg 0 .. wg (w - 1), those done dn -/
def xr_J (N A : Nat) (ob : Nat → Bool) (ba : Nat → Int32) (of sl : Nat → Int64) (rs : Int64) (dn rd : Nat → Int32) (w : Nat) (wv : Nat → Int64) (wg : Nat → Nat) : Prop :=
  (∀ C, rc_C N A ob ba of sl rs C → ∀ t, t < N → ¬ rd t = 0 → C t)
  ∧ (∀ j, j < w → wg j < N ∧ wv j = vf_pv ob (wg j) ∧ ¬ rd (wg j) = 0 ∧ dn (wg j) = 0)
  ∧ (∀ j i, j < w → i < w → wg j = wg i → j = i)
  ∧ (∀ t, t < N → ¬ rd t = 0 → dn t = 0 → ∃ j, j < w ∧ wg j = t)
  ∧ (∀ t, t < N → rd t = 0 → dn t = 0)
  ∧ cn_z rd N = cn_z dn N + w
section
variable {nc nt ns mn n na f ws vs en pc tc dc : Int32} {rs : Int64} {cp cf mt op tk tp fp sk oc bt ba rd ac af fa fw fv wt wd pr mc : Nat → Int32} {of sl wv : Nat → Int64}
variable {N A w : Nat} {ob : Nat → Bool} {dn : Nat → Int32} {wg : Nat → Nat}
theorem xr_note {root x : Int64} (hN : N ≤ 200) (hx : (∃ s, s < N ∧ vf_R ob x s) ∨ (¬ vb_T x = 3 ∧ ¬ vb_T x = 4)) (hm : ∀ C, rc_C N A ob ba of sl root C → ∀ s, s < N → vf_R ob x s → C s) (J : xr_J N A ob ba of sl root dn rd w wv wg) : ∃ rd' w' wv' wg', xr_J N A ob ba of sl root dn rd' w' wv' wg' ∧ (∀ t, t < N → ¬ rd t = 0 → ¬ rd' t = 0) ∧ (∀ s, s < N → vf_R ob x s → ¬ rd' s = 0) ∧ ∀ post : SX → Prop, post (nc, nt, ns, mn, n, na, f, ws, nI w', en, rs, pc, tc, dc, cp, cf, mt, op, tk, tp, fp, sk, oc, of, bt, ba, rd', sl, ac, af, fa, fw, fv, wt, wd, wv', pr, mc) → wpX_noteReached post (nc, nt, ns, mn, n, na, f, ws, nI w, en, rs, pc, tc, dc, cp, cf, mt, op, tk, tp, fp, sk, oc, of, bt, ba, rd, sl, ac, af, fa, fw, fv, wt, wd, wv, pr, mc) x := by
  rcases hx with ⟨s, hs, hv⟩ | ⟨h3, h4⟩
  · have L : ∀ post : SX → Prop, wX_noteReached_16 post x nc nt ns mn n na f ws (nI w) en rs pc tc dc cp cf mt op tk tp fp sk oc of bt ba rd sl ac af fa fw fv wt wd wv pr mc → wpX_noteReached post (nc, nt, ns, mn, n, na, f, ws, nI w, en, rs, pc, tc, dc, cp, cf, mt, op, tk, tp, fp, sk, oc, of, bt, ba, rd, sl, ac, af, fa, fw, fv, wt, wd, wv, pr, mc) x := fun post hp => by
      unfold wpX_noteReached
      rcases hv with ⟨_, e⟩ | ⟨_, e⟩
      · exact qx_sort (s := 3) _ (by rw [e, vC_3]) (br_f (by decide) (br_t rfl hp))
      · exact qx_sort (s := 4) _ (by rw [e, vC_4]) (br_t rfl hp)
    have M : ∀ Q : Int32 → Prop, Q (nI s) → wpX_numberOf Q x := fun Q hQ => by
      rcases hv with ⟨_, e⟩ | ⟨_, e⟩
      · rw [e]; exact qx_num _ hQ
      · rw [e]; exact qx_num _ hQ
    by_cases z : rd s = 0
    · obtain ⟨J1, J2, J3, J4, J5, J6⟩ := J
      have wl : w < 2100 := by
        have := cn_le rd N
        omega
      refine ⟨upd rd s 1, w + 1, vp_updL wv w x, sg_u wg w s, ⟨?_, ?_, ?_, ?_, ?_, ?_⟩, ?_, ?_, fun post hp => L post ?_⟩
      · intro C hC t ht hr
        by_cases e : t = s
        · subst e; exact hm C hC t hs hv
        · rw [pk_un e] at hr; exact J1 C hC t ht hr
      · intro j hj
        by_cases e : j = w
        · subst e
          rw [sg_us, pk_uLs, pk_us]
          exact ⟨hs, vf_pR hv, by decide, J5 s hs z⟩
        · obtain ⟨a, b, c, d⟩ := J2 j (by omega)
          have ne : wg j ≠ s := fun y => c (by rw [y]; exact z)
          rw [sg_un e, pk_uLn e, pk_un ne]
          exact ⟨a, b, c, d⟩
      · intro j i hj hi he
        by_cases e : j = w
        · by_cases e' : i = w
          · omega
          · subst e
            rw [sg_us, sg_un e'] at he
            exact absurd (by rw [← he]; exact z) (J2 i (by omega)).2.2.1
        · by_cases e' : i = w
          · subst e'
            rw [sg_us, sg_un e] at he
            exact absurd (by rw [he]; exact z) (J2 j (by omega)).2.2.1
          · rw [sg_un e, sg_un e'] at he
            exact J3 j i (by omega) (by omega) he
      · intro t ht hr hd
        by_cases e : t = s
        · subst e
          exact ⟨w, by omega, sg_us⟩
        · rw [pk_un e] at hr
          obtain ⟨j, a, b⟩ := J4 t ht hr hd
          exact ⟨j, by omega, by rw [sg_un (by omega)]; exact b⟩
      · intro t ht hr
        by_cases e : t = s
        · subst e
          rw [pk_us] at hr
          exact absurd hr (by decide)
        · rw [pk_un e] at hr
          exact J5 t ht hr
      · rw [cn_up z hs]
        omega
      · intro t ht hr
        by_cases e : t = s
        · subst e
          rw [pk_us]; decide
        · rw [pk_un e]; exact hr
      · intro s' hs' hv'
        have e := vf_one (by omega) (by omega) hv hv'
        subst e
        rw [pk_us]; decide
      · exact M _ (And.intro (vp_in_nI (by omega) (by decide)) (br_t (by rw [nI_clamp (by omega)]; exact z) (And.intro (vp_in_nI (by omega) (by decide)) (nm_r (e' := upd rd s 1) (by rw [nI_clamp (by omega), ay_n1]) (ax_push _ wl hp)))))
    · refine ⟨rd, w, wv, wg, J, fun t ht hr => hr, fun s' hs' hv' => ?_, fun post hp => L post (M _ (And.intro (vp_in_nI (by omega) (by decide)) (br_f (by rw [nI_clamp (by omega)]; exact z) hp)))⟩
      rw [vf_one (by omega) (by omega) hv hv']
      exact z
  · exact ⟨rd, w, wv, wg, J, fun t ht hr => hr, fun s hs hv => absurd hv (vf_no h3 h4), fun post hp => by
      unfold wpX_noteReached
      exact qx_sort _ rfl (br_f h4 (br_f h3 hp))⟩
theorem xr_fl {root : Int64} {t : Nat} (hN : N ≤ 200) (ht : t < N) (hb : ob t = true) (hV : ∀ k, k < 4 → (∃ s, s < N ∧ vf_R ob (of (t * 4 + k)) s) ∨ (¬ vb_T (of (t * 4 + k)) = 3 ∧ ¬ vb_T (of (t * 4 + k)) = 4)) (hC : ∀ C, rc_C N A ob ba of sl root C → C t) : ∀ e k : Nat, k + e = 4 → ∀ (rd : Nat → Int32) (w : Nat) (wv : Nat → Int64) (wg : Nat → Nat), xr_J N A ob ba of sl root dn rd w wv wg → ∃ rd' w' wv' wg', xr_J N A ob ba of sl root dn rd' w' wv' wg' ∧ (∀ t, t < N → ¬ rd t = 0 → ¬ rd' t = 0) ∧ (∀ i, k ≤ i → i < 4 → ∀ s, s < N → vf_R ob (of (t * 4 + i)) s → ¬ rd' s = 0) ∧ ∀ post : SX → Prop, post (nc, nt, ns, mn, n, na, f, ws, nI w', en, rs, pc, tc, dc, cp, cf, mt, op, tk, tp, fp, sk, oc, of, bt, ba, rd', sl, ac, af, fa, fw, fv, wt, wd, wv', pr, mc) → wX_noteFields_2 post (nI t) (e + 1) (nI k) nc nt ns mn n na f ws (nI w) en rs pc tc dc cp cf mt op tk tp fp sk oc of bt ba rd sl ac af fa fw fv wt wd wv pr mc := by
  intro e
  induction e with
  | zero =>
    intro k h rd w wv wg J
    have : k = 4 := by omega
    subst this
    exact ⟨rd, w, wv, wg, J, fun t ht hr => hr, fun i h1 h2 => absurd h2 (by omega), fun post hp => br_t (by decide) hp⟩
  | succ e ih =>
    intro k h rd w wv wg J
    obtain ⟨rd1, w1, wv1, wg1, J1, m1, s1, p1⟩ := xr_note (nc := nc) (nt := nt) (ns := ns) (mn := mn) (n := n) (na := na) (f := f) (ws := ws) (en := en) (rs := rs) (pc := pc) (tc := tc) (dc := dc) (cp := cp) (cf := cf) (mt := mt) (op := op) (tk := tk) (tp := tp) (fp := fp) (sk := sk) (oc := oc) (bt := bt) (ac := ac) (af := af) (fa := fa) (fw := fw) (fv := fv) (wt := wt) (wd := wd) (pr := pr) (mc := mc) hN (hV k (by omega)) (fun C hc s hs hv => hc.2 t ht (hC C hc) _ (Or.inl ⟨hb, k, by omega, rfl⟩) s hs hv) J
    obtain ⟨rd2, w2, wv2, wg2, J2, m2, s2, p2⟩ := ih (k + 1) (by omega) rd1 w1 wv1 wg1 J1
    refine ⟨rd2, w2, wv2, wg2, J2, fun t ht hr => m2 t ht (m1 t ht hr), fun i h1 h2 s hs hv => ?_, fun post hp => ?_⟩
    · by_cases e : i = k
      · subst e
        exact m2 s hs (s1 s hs hv)
      · exact s2 i (by omega) h2 s hs hv
    · exact br_f (nI_ge (b := 4) (by omega) (by decide)) (And.intro (by rw [xr_i4]; exact vp_in_nI (by omega) (by decide)) (by rw [xr_i4, nI_clamp (by omega)]; exact p1 _ (nm_r (nI_1 k) (p2 post hp))))
theorem xr_sl {root : Int64} {t a : Nat} (hN : N ≤ 200) (hA : A ≤ 201) (ht : t < N) (hb : ob t = false) (ha : a < A) (hba : ba t = nI a) (hV : ∀ k, k < 7 → (∃ s, s < N ∧ vf_R ob (sl (a * 7 + k)) s) ∨ (¬ vb_T (sl (a * 7 + k)) = 3 ∧ ¬ vb_T (sl (a * 7 + k)) = 4)) (hC : ∀ C, rc_C N A ob ba of sl root C → C t) : ∀ e k : Nat, k + e = 7 → ∀ (rd : Nat → Int32) (w : Nat) (wv : Nat → Int64) (wg : Nat → Nat), xr_J N A ob ba of sl root dn rd w wv wg → ∃ rd' w' wv' wg', xr_J N A ob ba of sl root dn rd' w' wv' wg' ∧ (∀ t, t < N → ¬ rd t = 0 → ¬ rd' t = 0) ∧ (∀ i, k ≤ i → i < 7 → ∀ s, s < N → vf_R ob (sl (a * 7 + i)) s → ¬ rd' s = 0) ∧ ∀ post : SX → Prop, post (nc, nt, ns, mn, n, na, f, ws, nI w', en, rs, pc, tc, dc, cp, cf, mt, op, tk, tp, fp, sk, oc, of, bt, ba, rd', sl, ac, af, fa, fw, fv, wt, wd, wv', pr, mc) → wX_noteSlots_2 post (nI a) (e + 1) (nI k) nc nt ns mn n na f ws (nI w) en rs pc tc dc cp cf mt op tk tp fp sk oc of bt ba rd sl ac af fa fw fv wt wd wv pr mc := by
  intro e
  induction e with
  | zero =>
    intro k h rd w wv wg J
    have : k = 7 := by omega
    subst this
    exact ⟨rd, w, wv, wg, J, fun t ht hr => hr, fun i h1 h2 => absurd h2 (by omega), fun post hp => br_t (by decide) hp⟩
  | succ e ih =>
    intro k h rd w wv wg J
    obtain ⟨rd1, w1, wv1, wg1, J1, m1, s1, p1⟩ := xr_note (nc := nc) (nt := nt) (ns := ns) (mn := mn) (n := n) (na := na) (f := f) (ws := ws) (en := en) (rs := rs) (pc := pc) (tc := tc) (dc := dc) (cp := cp) (cf := cf) (mt := mt) (op := op) (tk := tk) (tp := tp) (fp := fp) (sk := sk) (oc := oc) (bt := bt) (ac := ac) (af := af) (fa := fa) (fw := fw) (fv := fv) (wt := wt) (wd := wd) (pr := pr) (mc := mc) hN (hV k (by omega)) (fun C hc s hs hv => hc.2 t ht (hC C hc) _ (Or.inr ⟨hb, a, k, ha, by omega, hba, rfl⟩) s hs hv) J
    obtain ⟨rd2, w2, wv2, wg2, J2, m2, s2, p2⟩ := ih (k + 1) (by omega) rd1 w1 wv1 wg1 J1
    refine ⟨rd2, w2, wv2, wg2, J2, fun t ht hr => m2 t ht (m1 t ht hr), fun i h1 h2 s hs hv => ?_, fun post hp => ?_⟩
    · by_cases e : i = k
      · subst e
        exact m2 s hs (s1 s hs hv)
      · exact s2 i (by omega) h2 s hs hv
    · exact br_f (nI_ge (b := 7) (by omega) (by decide)) (And.intro (by rw [xr_i7]; exact vp_in_nI (by omega) (by decide)) (by rw [xr_i7, nI_clamp (by omega)]; exact p1 _ (nm_r (nI_1 k) (p2 post hp))))
end
