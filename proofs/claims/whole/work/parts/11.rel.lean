/-! the relation of two runs under way -/
def pe_P (pr py : Nat → Int32) (k : Nat) : Nat → Int32 := fun i => if i < k then pr i else py i
theorem pe_0 {pr py : Nat → Int32} : pe_P pr py 0 = py := funext fun i => if_neg (Nat.not_lt_zero i)
theorem pe_u {pr py : Nat → Int32} {k : Nat} {x : Int32} : upd (pe_P pr py k) k x = pe_P (upd pr k x) py (k + 1) := by
  funext i
  by_cases e : i = k
  · subst e
    rw [pk_us]
    show x = if i < i + 1 then upd pr i x i else py i
    rw [if_pos (Nat.lt_succ_self i), pk_us]
  · rw [pk_un e]
    show (if i < k then pr i else py i) = if i < k + 1 then upd pr k x i else py i
    by_cases z : i < k
    · rw [if_pos z, if_pos (by omega), pk_un e]
    · rw [if_neg z, if_neg (by omega)]
theorem pe_lt {pr py : Nat → Int32} {k i : Nat} (h : i < k) : pe_P pr py k i = pr i := if_pos h
def cu_n (yoc : Nat → Int32) (c : Nat) : Nat → Nat
  | 0 => 0
  | i + 1 => cu_n yoc c i + (if yoc i = nI c then 1 else 0)
def rl_H (NC NT N A : Nat) (ob : Nat → Bool) (KN : Nat → Nat) (oc bt ba ac : Nat → Int32) (of sl : Nat → Int64) (yoc ybt ybp ow : Nat → Int32) (yof sv vr : Nat → Int64) : Prop :=
  (∀ t, t < N → ob t = true → (∃ c, c < NC ∧ oc t = nI c ∧ yoc (cu_g ob t) = nI c) ∧ ∀ k, k < 4 → vb_R ob N (of (t * 4 + k)) (yof (4 * cu_g ob t + k)))
  ∧ (∀ t, t < N → ob t = false → ∃ tm a, tm < NT ∧ KN tm = 13 ∧ a < A ∧ bt t = nI tm ∧ ybt (cu_g ob t) = nI tm ∧ ba t = nI a ∧ ybp (cu_g ob t) = nI a)
  ∧ (∀ a, a < A → vb_R ob N (sl (a * 7 + 6)) (sv a) ∧ (∀ v, v < 6 → vb_R ob N (sl (a * 7 + v)) (vr (6 * a + v))) ∧ ow a = ac a ∧ (ac a = -1 ∨ ∃ c, c < NC ∧ ac a = nI c))
def rl_B (NC N A T Pc D : Nat) (ob : Nat → Bool) (K : List (Bool × Nat × Nat)) (mc yoc : Nat → Int32) : Prop :=
  (1 ≤ A ∧ N + A ≤ T + 1 ∧ T ≤ 200) ∧ (Pc ≤ 20 ∧ kl_F K ≤ D ∧ D ≤ 20) ∧ (∀ c, c < NC → mc c = nI (cu_n yoc c (cu_O ob N))) ∧ ∀ i, i < cu_O ob N → ∃ c, c < NC ∧ yoc i = nI c
def rl_K (NT A : Nat) (R : Int64 → Int64 → Prop) (KN SZ : Nat → Nat) (K : List (Bool × Nat × Nat)) (af fa fw fv wt wd : Nat → Int32) (wv : Nat → Int64) (ed wa yh : Nat → Int32) (vl : Nat → Int64) : Prop :=
  kl_S NT A R KN SZ fa fw fv wt wd wv wa yh vl K ∧ (fa 0 = 0 ∧ fw 0 = 0 ∧ fv 0 = 0) ∧ ∀ a, a < A → af a = kl_ax K a ∧ ed a = kl_ay K a
def rl_R (NC NT N A T Pc D : Nat) (ob : Nat → Bool) (K : List (Bool × Nat × Nat)) (cp cf mt op tk tp fp kd : Nat → Int32) (KN PN SZ : Nat → Nat) (oc : Nat → Int32) (of : Nat → Int64) (bt ba : Nat → Int32) (sl : Nat → Int64) (ac af fa fw fv wt wd : Nat → Int32) (wv : Nat → Int64) (mc yoc : Nat → Int32) (yof : Nat → Int64) (ybt ybp : Nat → Int32) (sv vr : Nat → Int64) (ow ed wa yh : Nat → Int32) (vl : Nat → Int64) : Prop :=
  pg_P NC NT cp cf mt op tk tp fp kd KN PN SZ ∧ rl_H NC NT N A ob KN oc bt ba ac of sl yoc ybt ybp ow yof sv vr ∧ rl_K NT A (vb_R ob N) KN SZ K af fa fw fv wt wd wv ed wa yh vl ∧ rl_B NC N A T Pc D ob K mc yoc
def cf_V (NC NT : Nat) (ns mn : Int32) (cp cf mt op tk tp fp sk kd py : Nat → Int32) (KN PN SZ : Nat → Nat) (μ : Nat) (u : SX) (v : SY) : Prop := ∃ (N A T Pc D : Nat) (ob : Nat → Bool) (K : List (Bool × Nat × Nat)) (rs : Int64) (oc bt ba rd ac af fa fw fv wt wd pr mc : Nat → Int32) (of sl wv : Nat → Int64) (yoc ybt ybp ow ed wa yh mo mb : Nat → Int32) (yof sv vr vl : Nat → Int64), u = (nI NC, nI NT, ns, mn, nI N, nI A, nI (kl_F K), nI (kl_W K), nI (kl_X KN K + 1), -1, rs, nI Pc, nI T, nI D, cp, cf, mt, op, tk, tp, fp, sk, oc, of, bt, ba, rd, sl, ac, af, fa, fw, fv, wt, wd, wv, pr, mc) ∧ v = (nI NC, nI NT, ns, mn, nI (cu_O ob N), nI (N - cu_O ob N), nI A, nI (kl_Q KN K), nI (kl_Y KN K + 1), nI (kl_F K), nI D, nI T, nI Pc, -4, cp, cf, mt, kd, tk, tp, sk, yoc, yof, ybt, ybp, sv, vr, ow, ed, wa, yh, vl, pe_P pr py Pc, mo, mb) ∧ (rl_R NC NT N A T Pc D ob K cp cf mt op tk tp fp kd KN PN SZ oc of bt ba sl ac af fa fw fv wt wd wv mc yoc yof ybt ybp sv vr ow ed wa yh vl) ∧ vb_R ob N (wv (kl_X KN K)) (vl (kl_Y KN K)) ∧ 802 * (200 - T) + kl_C KN PN SZ K + 1 ≤ μ
def cf_E (NC NT : Nat) (ns mn : Int32) (cp cf mt op tk tp fp sk kd py : Nat → Int32) (KN PN SZ : Nat → Nat) (μ : Nat) (u : SX) (v : SY) : Prop := ∃ (N A T Pc D : Nat) (ob : Nat → Bool) (K : List (Bool × Nat × Nat)) (rs : Int64) (oc bt ba rd ac af fa fw fv wt wd pr mc : Nat → Int32) (of sl wv : Nat → Int64) (yoc ybt ybp ow ed wa yh mo mb : Nat → Int32) (yof sv vr vl : Nat → Int64) (t : Nat), u = (nI NC, nI NT, ns, mn, nI N, nI A, nI (kl_F K), nI (kl_W K + 1), nI (kl_X KN K), -1, rs, nI Pc, nI T, nI D, cp, cf, mt, op, tk, tp, fp, sk, oc, of, bt, ba, rd, sl, ac, af, fa, fw, fv, wt, wd, wv, pr, mc) ∧ v = (nI NC, nI NT, ns, mn, nI (cu_O ob N), nI (N - cu_O ob N), nI A, nI (kl_Q KN K + 1), nI (kl_Y KN K), nI (kl_F K), nI D, nI T, nI Pc, -4, cp, cf, mt, kd, tk, tp, sk, yoc, yof, ybt, ybp, sv, vr, ow, ed, wa, yh, vl, pe_P pr py Pc, mo, mb) ∧ (rl_R NC NT N A T Pc D ob K cp cf mt op tk tp fp kd KN PN SZ oc of bt ba sl ac af fa fw fv wt wd wv mc yoc yof ybt ybp sv vr ow ed wa yh vl) ∧ (t < NT ∧ kl_W K + kl_X KN K + SZ t ≤ 100 * (kl_F K + 1)) ∧ wt (kl_W K) = nI t ∧ wd (kl_W K) = 0 ∧ wa (kl_Q KN K) = nI (1024 * kl_A K + 8 * t + 0) ∧ 802 * (200 - T) + kl_C KN PN SZ K + 4 * SZ t ≤ μ
def fr_R (NC NT : Nat) (ns mn : Int32) (cp cf mt op tk tp fp sk kd py : Nat → Int32) (KN PN SZ : Nat → Nat) (u : SX) (v : SY) : Prop := ∃ (N A T Pc D : Nat) (ob : Nat → Bool) (na f ws vs en ya yw yv yu : Int32) (rs : Int64) (oc bt ba rd ac af fa fw fv wt wd pr mc : Nat → Int32) (of sl wv : Nat → Int64) (yoc ybt ybp ow ed wa yh mo mb : Nat → Int32) (yof sv vr vl : Nat → Int64), u = (nI NC, nI NT, ns, mn, nI N, na, f, ws, vs, en, rs, nI Pc, nI T, nI D, cp, cf, mt, op, tk, tp, fp, sk, oc, of, bt, ba, rd, sl, ac, af, fa, fw, fv, wt, wd, wv, pr, mc) ∧ v = (nI NC, nI NT, ns, mn, nI (cu_O ob N), nI (N - cu_O ob N), ya, yw, yv, yu, nI D, nI T, nI Pc, en, cp, cf, mt, kd, tk, tp, sk, yoc, yof, ybt, ybp, sv, vr, ow, ed, wa, yh, vl, pe_P pr py Pc, mo, mb) ∧ (en = 0 ∨ en = 1 ∨ en = 2 ∨ en = 3 ∨ en = 4) ∧ (N ≤ 200 ∧ Pc ≤ 20) ∧ ((∀ c, c < NC → mc c = nI (cu_n yoc c (cu_O ob N))) ∧ ∀ i, i < cu_O ob N → ∃ c, c < NC ∧ yoc i = nI c) ∧ (en = 0 → vs = nI 0 ∧ A ≤ 201 ∧ rl_H NC NT N A ob KN oc bt ba ac of sl yoc ybt ybp ow yof sv vr ∧ vb_R ob N rs (vl 0))
/-! the loops -/
def xl_L (Q : SX → Prop) (k i : Nat) (u : SX) : Prop := match u with | (nc, nt, ns, mn, n, na, f, ws, vs, en, rs, pc, tc, dc, cp, cf, mt, op, tk, tp, fp, sk, oc, of, bt, ba, rd, sl, ac, af, fa, fw, fv, wt, wd, wv, pr, mc) => wX_perform_6 Q k (nI i) nc nt ns mn n na f ws vs en rs pc tc dc cp cf mt op tk tp fp sk oc of bt ba rd sl ac af fa fw fv wt wd wv pr mc
def yl_L (Q : SY → Prop) (k : Nat) (v : SY) : Prop := match v with | (yc, yt, ys, ym, no, nb, ya, yw, yv, yu, yo, yk, yp, ye, ycp, ycf, ymt, kd, ytk, ytp, ysk, yoc, yof, ybt, ybp, sv, vr, ow, ed, wa, yh, vl, ypr, mo, mb) => wY_work_133 Q k yc yt ys ym no nb ya yw yv yu yo yk yp ye ycp ycf ymt kd ytk ytp ysk yoc yof ybt ybp sv vr ow ed wa yh vl ypr mo mb
def xs_S (P : SX → Prop) (u : SX) : Prop := match u with
  | (nc, nt, ns, mn, n, na, f, ws, vs, en, rs, pc, tc, dc, cp, cf, mt, op, tk, tp, fp, sk, oc, of, bt, ba, rd, sl, ac, af, fa, fw, fv, wt, wd, wv, pr, mc) => en = -1 ∧ vp_in f 21 ∧ (ws = fw f.toNatClampNeg → wpX_leave P (nc, nt, ns, mn, n, na, f, ws, vs, en, rs, pc, tc, dc, cp, cf, mt, op, tk, tp, fp, sk, oc, of, bt, ba, rd, sl, ac, af, fa, fw, fv, wt, wd, wv, pr, mc)) ∧ (¬ ws = fw f.toNatClampNeg → wpX_beginNextPart (fun r w => (r = 0 → wpX_finish P w) ∧ (¬ r = 0 → P w)) (nc, nt, ns, mn, n, na, f, ws, vs, en, rs, pc, tc, dc, cp, cf, mt, op, tk, tp, fp, sk, oc, of, bt, ba, rd, sl, ac, af, fa, fw, fv, wt, wd, wv, pr, mc))
theorem xl_s {u u1 : SX} (h : ∀ P : SX → Prop, P u1 → xs_S P u) {Q : SX → Prop} {k i : Nat} (hi : i < 1000000) (hl : xl_L Q k (i + 1) u1) : xl_L Q (k + 1) i u := by
  have h' := h (fun w => match w with | (nc, nt, ns, mn, n, na, f, ws, vs, en, rs, pc, tc, dc, cp, cf, mt, op, tk, tp, fp, sk, oc, of, bt, ba, rd, sl, ac, af, fa, fw, fv, wt, wd, wv, pr, mc) => ∀ x : Int32, x = nI i + 1 → wX_perform_6 Q k x nc nt ns mn n na f ws vs en rs pc tc dc cp cf mt op tk tp fp sk oc of bt ba rd sl ac af fa fw fv wt wd wv pr mc) (by
    obtain ⟨nc, nt, ns, mn, n, na, f, ws, vs, en, rs, pc, tc, dc, cp, cf, mt, op, tk, tp, fp, sk, oc, of, bt, ba, rd, sl, ac, af, fa, fw, fv, wt, wd, wv, pr, mc⟩ := u1
    intro x hx
    rw [hx, nI_1]
    exact hl)
  obtain ⟨nc, nt, ns, mn, n, na, f, ws, vs, en, rs, pc, tc, dc, cp, cf, mt, op, tk, tp, fp, sk, oc, of, bt, ba, rd, sl, ac, af, fa, fw, fv, wt, wd, wv, pr, mc⟩ := u
  obtain ⟨e, hv, hb⟩ := h'
  exact br_f (nI_ge (b := 1000000) hi (by decide)) (br_t e (And.intro hv hb))
theorem xl_e {u : SX} (h : match u with | (nc, nt, ns, mn, n, na, f, ws, vs, en, rs, pc, tc, dc, cp, cf, mt, op, tk, tp, fp, sk, oc, of, bt, ba, rd, sl, ac, af, fa, fw, fv, wt, wd, wv, pr, mc) => ¬ en = -1) {Q : SX → Prop} {k i : Nat} (hq : Q u) : xl_L Q (k + 1) i u := by
  obtain ⟨nc, nt, ns, mn, n, na, f, ws, vs, en, rs, pc, tc, dc, cp, cf, mt, op, tk, tp, fp, sk, oc, of, bt, ba, rd, sl, ac, af, fa, fw, fv, wt, wd, wv, pr, mc⟩ := u
  by_cases z : (1000000 : Int32) ≤ nI i
  · exact br_t z hq
  · exact br_f z (br_f h hq)
section
variable {yc yt ys ym no nb ya yw yv yu yo yk yp ye : Int32} {ycp ycf ymt kd ytk ytp ysk yoc ybt ybp ow ed wa yh ypr mo mb : Nat → Int32} {yof sv vr vl : Nat → Int64}
theorem yl_s {v1 : SY} {q : Nat} {Q : SY → Prop} {k : Nat} (hq : q < 2200) (h : ∀ P : SY → Prop, P v1 → wpY_step P (yc, yt, ys, ym, no, nb, ya, nI (q + 1), yv, yu, yo, yk, yp, -4, ycp, ycf, ymt, kd, ytk, ytp, ysk, yoc, yof, ybt, ybp, sv, vr, ow, ed, wa, yh, vl, ypr, mo, mb)) (hl : yl_L Q k v1) : yl_L Q (k + 1) (yc, yt, ys, ym, no, nb, ya, nI (q + 1), yv, yu, yo, yk, yp, -4, ycp, ycf, ymt, kd, ytk, ytp, ysk, yoc, yof, ybt, ybp, sv, vr, ow, ed, wa, yh, vl, ypr, mo, mb) :=
  br_t rfl (br_f (nI_nle (by omega) (by omega)) (h (yl_L Q k) hl))
theorem yl_e1 {Q : SY → Prop} {k : Nat} (h : ¬ ye = -4) (hq : Q (yc, yt, ys, ym, no, nb, ya, yw, yv, yu, yo, yk, yp, ye, ycp, ycf, ymt, kd, ytk, ytp, ysk, yoc, yof, ybt, ybp, sv, vr, ow, ed, wa, yh, vl, ypr, mo, mb)) : yl_L Q (k + 1) (yc, yt, ys, ym, no, nb, ya, yw, yv, yu, yo, yk, yp, ye, ycp, ycf, ymt, kd, ytk, ytp, ysk, yoc, yof, ybt, ybp, sv, vr, ow, ed, wa, yh, vl, ypr, mo, mb) :=
  br_f h (br_f h hq)
theorem yl_e2 {Q : SY → Prop} {k : Nat} (hq : Q (yc, yt, ys, ym, no, nb, ya, nI 0, yv, yu, yo, yk, yp, 0, ycp, ycf, ymt, kd, ytk, ytp, ysk, yoc, yof, ybt, ybp, sv, vr, ow, ed, wa, yh, vl, ypr, mo, mb)) : yl_L Q (k + 1) (yc, yt, ys, ym, no, nb, ya, nI 0, yv, yu, yo, yk, yp, -4, ycp, ycf, ymt, kd, ytk, ytp, ysk, yoc, yof, ybt, ybp, sv, vr, ow, ed, wa, yh, vl, ypr, mo, mb) :=
  br_t rfl (br_t (by decide) (br_t rfl hq))
end
def nx_S (NC NT : Nat) (ns mn : Int32) (cp cf mt op tk tp fp sk kd py : Nat → Int32) (KN PN SZ : Nat → Nat) (μ : Nat) (u : SX) (v : SY) : Prop :=
  (∃ (u1 : SX) (v1 : SY) (k μ' : Nat), 1 ≤ k ∧ μ' + k ≤ μ ∧ (∀ (Q : SX → Prop) (m i : Nat), i + k ≤ 1000000 → xl_L Q m (i + k) u1 → xl_L Q (m + k) i u) ∧ (∀ (Q : SY → Prop) (m : Nat), yl_L Q m v1 → ∃ m', yl_L Q m' v) ∧ (cf_V NC NT ns mn cp cf mt op tk tp fp sk kd py KN PN SZ μ' u1 v1 ∨ cf_E NC NT ns mn cp cf mt op tk tp fp sk kd py KN PN SZ μ' u1 v1))
  ∨ (1 ≤ μ ∧ ∃ (u1 : SX) (v1 : SY), (∀ P : SX → Prop, P u1 → xs_S P u) ∧ (∀ Q : SY → Prop, Q v1 → ∃ m', yl_L Q m' v) ∧ fr_R NC NT ns mn cp cf mt op tk tp fp sk kd py KN PN SZ u1 v1)
section
variable {NC NT : Nat} {ns mn : Int32} {cp cf mt op tk tp fp sk kd py : Nat → Int32} {KN PN SZ : Nat → Nat}
theorem nx_go (H : ∀ μ u v, cf_V NC NT ns mn cp cf mt op tk tp fp sk kd py KN PN SZ μ u v ∨ cf_E NC NT ns mn cp cf mt op tk tp fp sk kd py KN PN SZ μ u v → nx_S NC NT ns mn cp cf mt op tk tp fp sk kd py KN PN SZ μ u v) : ∀ (b μ : Nat) (u : SX) (v : SY), μ < b → cf_V NC NT ns mn cp cf mt op tk tp fp sk kd py KN PN SZ μ u v ∨ cf_E NC NT ns mn cp cf mt op tk tp fp sk kd py KN PN SZ μ u v → ∃ u' v', fr_R NC NT ns mn cp cf mt op tk tp fp sk kd py KN PN SZ u' v' ∧ (∀ (Q : SX → Prop) (i : Nat), i + μ < 1000000 → Q u' → ∃ m, xl_L Q m i u) ∧ (∀ Q : SY → Prop, Q v' → ∃ m, yl_L Q m v) := by
  intro b
  induction b with
  | zero => intro μ u v h; omega
  | succ b ih =>
    intro μ u v hb hC
    rcases H μ u v hC with ⟨u1, v1, k, μ', hk, hm, hX, hY, hC'⟩ | ⟨hm, u1, v1, hX, hY, hF⟩
    · obtain ⟨u', v', F, gX, gY⟩ := ih μ' u1 v1 (by omega) hC'
      refine ⟨u', v', F, fun Q i hi hq => ?_, fun Q hq => ?_⟩
      · obtain ⟨m, hm'⟩ := gX Q (i + k) (by omega) hq
        exact ⟨m + k, hX Q m i (by omega) hm'⟩
      · obtain ⟨m, hm'⟩ := gY Q hq
        exact hY Q m hm'
    · refine ⟨u1, v1, hF, fun Q i hi hq => ?_, hY⟩
      refine ⟨2, xl_s hX (by omega) (xl_e ?_ hq)⟩
      obtain ⟨N, A, T, Pc, D, ob, na, f, ws, vs, en, ya, yw, yv, yu, rs, oc, bt, ba, rd, ac, af, fa, fw, fv, wt, wd, pr, mc, of, sl, wv, yoc, ybt, ybp, ow, ed, wa, yh, mo, mb, yof, sv, vr, vl, e1, e2, e3, _⟩ := hF
      subst e1
      show ¬ en = -1
      rcases e3 with e | e | e | e | e <;> rw [e] <;> decide
end
