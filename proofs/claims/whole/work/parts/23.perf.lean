/-! a run from its beginning -/
def um_n (g : Nat → Int32) : Nat → Nat → Int32
  | 0 => g
  | k + 1 => upd (um_n g k) k 0
theorem um_in {g : Nat → Int32} : ∀ {k j : Nat}, j < k → um_n g k j = 0
  | 0, _, h => absurd h (Nat.not_lt_zero _)
  | k + 1, j, h => by
    show upd (um_n g k) k 0 j = 0
    by_cases e : j = k
    · subst e; exact pk_us
    · rw [pk_un e]; exact um_in (by omega)
section
variable {nc nt ns mn n na f ws vs en pc tc dc : Int32} {rs : Int64} {cp cf mt op tk tp fp sk oc bt ba rd ac af fa fw fv wt wd pr mc : Nat → Int32} {of sl wv : Nat → Int64}
theorem pf_x55 (post : SX → Prop) (hp : (mn = -1 → post (nc, nt, ns, mn, n, 1, 0, 0, nI (0 + 1), en, rs, pc, tc, dc, cp, cf, mt, op, tk, tp, fp, sk, oc, of, bt, ba, rd, up_n sl 0 (fun _ => vb_pk 1 0) 7, upd ac 0 (-1), upd af 0 0, upd fa 0 0, upd fw 0 0, upd fv 0 0, wt, wd, vp_updL wv 0 (vb_pk 1 0), pr, mc)) ∧ (¬ mn = -1 → post (nc, nt, ns, mn, n, 1, 0, nI (0 + 1), 0, en, rs, pc, tc, dc, cp, cf, mt, op, tk, tp, fp, sk, oc, of, bt, ba, rd, up_n sl 0 (fun _ => vb_pk 1 0) 7, upd ac 0 (-1), upd af 0 0, upd fa 0 0, upd fw 0 0, upd fv 0 0, upd wt 0 mn, upd wd 0 0, wv, pr, mc))) : ∀ e k : Nat, k + e = 7 → wX_prepare_55 post nc nt ns mn n na f ws vs en rs pc tc dc (e + 1) (nI k) cp cf mt op tk tp fp sk oc of bt ba rd (up_n sl 0 (fun _ => vb_pk 1 0) k) ac af fa fw fv wt wd wv pr mc := by
  intro e
  induction e with
  | zero =>
    intro k h
    have : k = 7 := by omega
    subst this
    refine br_t (by decide) (nm_e (nm_e (nm_e (nm_e (nm_e (br_c (fun z => ?_) (fun z => ?_)))))))
    · rw [vb_nil]
      exact ax_push (q := 0) _ (by omega) (hp.1 z)
    · exact ax_begin (q := 0) _ (by omega) (hp.2 z)
  | succ e ih =>
    intro k h
    exact br_f (nI_ge (b := 7) (by omega) (by decide)) (And.intro (vp_in_nI (by omega) (by decide)) (nm_r (e' := up_n sl 0 (fun _ => vb_pk 1 0) (k + 1)) (by rw [vb_nil, nI_clamp (by omega)]; show _ = vp_updL _ (0 + k) _; rw [Nat.zero_add]) (nm_r (nI_1 k) (ih (k + 1) (by omega)))))
theorem pf_x34 (post : SX → Prop) (hp : wX_prepare_55 post nc nt ns mn n na f ws vs en rs pc tc dc 8 0 cp cf mt op tk tp fp sk oc of bt ba rd sl ac af fa fw fv wt wd wv pr (um_n mc 6)) : ∀ e k : Nat, k + e = 6 → wX_prepare_34 post nc nt ns mn n na f ws vs en rs pc tc dc (e + 1) (nI k) cp cf mt op tk tp fp sk oc of bt ba rd sl ac af fa fw fv wt wd wv pr (um_n mc k) := by
  intro e
  induction e with
  | zero =>
    intro k h
    have : k = 6 := by omega
    subst this
    exact br_t (by decide) (Exists.intro 8 hp)
  | succ e ih =>
    intro k h
    exact br_f (nI_ge (b := 6) (by omega) (by decide)) (And.intro (vp_in_nI (by omega) (by decide)) (nm_r (e' := um_n mc (k + 1)) (by rw [nI_clamp (by omega)]; rfl) (nm_r (nI_1 k) (ih (k + 1) (by omega)))))
theorem pf_x (post : SX → Prop) (hp : (mn = -1 → post (nc, nt, ns, mn, 0, 1, 0, 0, nI (0 + 1), -1, 4294967296, 0, 0, 0, cp, cf, mt, op, tk, tp, fp, sk, oc, of, bt, ba, rd, up_n sl 0 (fun _ => vb_pk 1 0) 7, upd ac 0 (-1), upd af 0 0, upd fa 0 0, upd fw 0 0, upd fv 0 0, wt, wd, vp_updL wv 0 (vb_pk 1 0), pr, um_n mc 6)) ∧ (¬ mn = -1 → post (nc, nt, ns, mn, 0, 1, 0, nI (0 + 1), 0, -1, 4294967296, 0, 0, 0, cp, cf, mt, op, tk, tp, fp, sk, oc, of, bt, ba, rd, up_n sl 0 (fun _ => vb_pk 1 0) 7, upd ac 0 (-1), upd af 0 0, upd fa 0 0, upd fw 0 0, upd fv 0 0, upd wt 0 mn, upd wd 0 0, wv, pr, um_n mc 6))) : wpX_prepare post (nc, nt, ns, mn, n, na, f, ws, vs, en, rs, pc, tc, dc, cp, cf, mt, op, tk, tp, fp, sk, oc, of, bt, ba, rd, sl, ac, af, fa, fw, fv, wt, wd, wv, pr, mc) :=
  Exists.intro 7 (pf_x34 post (pf_x55 post hp 7 0 rfl) 6 0 rfl)
end
section
variable {yc yt ys ym no nb ya yw yv yu yo yk yp ye : Int32} {ycp ycf ymt kd ytk ytp ysk yoc ybt ybp ow ed wa yh ypr mo mb : Nat → Int32} {yof sv vr vl : Nat → Int64}
theorem pf_y43 (post : SY → Prop) (hp : (0 ≤ ym → ∃ m, wY_work_133 post m yc yt ys ym no nb ya (nI (0 + 1)) (nI 0) 0 0 0 0 (-4) ycp ycf ymt kd ytk ytp ysk yoc yof ybt ybp sv (up_n vr 0 (fun _ => vb_pk 1 0) 6) ow ed (upd wa 0 (1024 * 0 + 8 * ym + 0)) (upd yh 0 0) vl ypr mo mb) ∧ (¬ 0 ≤ ym → ∃ m, wY_work_133 post m yc yt ys ym no nb ya 0 (nI (0 + 1)) 0 0 0 0 (-4) ycp ycf ymt kd ytk ytp ysk yoc yof ybt ybp sv (up_n vr 0 (fun _ => vb_pk 1 0) 6) ow ed wa yh (vp_updL vl 0 (vb_pk 1 0)) ypr mo mb)) : ∀ e k : Nat, k + e = 6 → wY_work_43 post yc yt ys ym no nb ya yw yv yu yo yk yp ye (e + 1) (nI k) ycp ycf ymt kd ytk ytp ysk yoc yof ybt ybp sv (up_n vr 0 (fun _ => vb_pk 1 0) k) ow ed wa yh vl ypr mo mb := by
  intro e
  induction e with
  | zero =>
    intro k h
    have : k = 6 := by omega
    subst this
    refine br_t (by decide) (br_c (fun z => ?_) (fun z => ?_))
    · exact And.intro (vp_in_nI (n := 0) (by decide) (by decide)) (nm_e (And.intro (vp_in_nI (n := 0) (by decide) (by decide)) (nm_e (nm_e (hp.1 z)))))
    · exact ay_thing _ (ay_hold (q := 0) _ (by omega) (hp.2 z))
  | succ e ih =>
    intro k h
    exact br_f (nI_ge (b := 6) (by omega) (by decide)) (ay_thing _ (And.intro (vp_in_nI (by omega) (by decide)) (nm_r (e' := up_n vr 0 (fun _ => vb_pk 1 0) (k + 1)) (by rw [nI_clamp (by omega)]; show _ = vp_updL _ (0 + k) _; rw [Nat.zero_add]) (nm_r (nI_1 k) (ih (k + 1) (by omega))))))
theorem pf_y (post : SY → Prop) (hp : (0 ≤ ym → ∃ m, wY_work_133 post m yc yt ys ym 0 0 1 (nI (0 + 1)) (nI 0) 0 0 0 0 (-4) ycp ycf ymt kd ytk ytp ysk yoc yof ybt ybp (vp_updL sv 0 (vb_pk 1 0)) (up_n vr 0 (fun _ => vb_pk 1 0) 6) (upd ow 0 (-1)) (upd ed 0 0) (upd wa 0 (1024 * 0 + 8 * ym + 0)) (upd yh 0 0) vl ypr mo mb) ∧ (¬ 0 ≤ ym → ∃ m, wY_work_133 post m yc yt ys ym 0 0 1 0 (nI (0 + 1)) 0 0 0 0 (-4) ycp ycf ymt kd ytk ytp ysk yoc yof ybt ybp (vp_updL sv 0 (vb_pk 1 0)) (up_n vr 0 (fun _ => vb_pk 1 0) 6) (upd ow 0 (-1)) (upd ed 0 0) wa yh (vp_updL vl 0 (vb_pk 1 0)) ypr mo mb)) : wpY_work post (yc, yt, ys, ym, no, nb, ya, yw, yv, yu, yo, yk, yp, ye, ycp, ycf, ymt, kd, ytk, ytp, ysk, yoc, yof, ybt, ybp, sv, vr, ow, ed, wa, yh, vl, ypr, mo, mb) := by
  unfold wpY_work
  exact ay_thing _ (nm_e (nm_e (nm_r (e' := upd ed 0 0) (by rw [ay_n0]) (Exists.intro 7 (pf_y43 post hp 6 0 rfl)))))
end
section
variable {NC NT : Nat} {ns mn : Int32} {cp cf mt op tk tp fp sk kd py : Nat → Int32} {KN PN SZ : Nat → Nat}
theorem pf_go (P : pg_P NC NT cp cf mt op tk tp fp kd KN PN SZ) (hmn : mn = -1 ∨ ∃ t, t < NT ∧ mn = nI t) {n na f ws vs en pc tc dc : Int32} {rs : Int64} {oc bt ba rd ac af fa fw fv wt wd pr mc : Nat → Int32} {of sl wv : Nat → Int64} {no nb ya yw yv yu yo yk yp ye : Int32} {yoc ybt ybp ow ed wa yh mo mb : Nat → Int32} {yof sv vr vl : Nat → Int64} : ∃ u' v', fr_R NC NT ns mn cp cf mt op tk tp fp sk kd py KN PN SZ u' v' ∧ (∀ Q : SX → Prop, Q u' → wpX_perform Q (nI NC, nI NT, ns, mn, n, na, f, ws, vs, en, rs, pc, tc, dc, cp, cf, mt, op, tk, tp, fp, sk, oc, of, bt, ba, rd, sl, ac, af, fa, fw, fv, wt, wd, wv, pr, mc)) ∧ (∀ Q : SY → Prop, Q v' → wpY_work Q (nI NC, nI NT, ns, mn, no, nb, ya, yw, yv, yu, yo, yk, yp, ye, cp, cf, mt, kd, tk, tp, sk, yoc, yof, ybt, ybp, sv, vr, ow, ed, wa, yh, vl, py, mo, mb)) := by
  have hN := P.1
  have nl : vb_R (fun _ => false) 0 (vb_pk 1 0) (vb_pk 1 0) := Or.inl ⟨rfl, rfl⟩
  have r : ∀ (wt wd wa yh : Nat → Int32) (wv vl : Nat → Int64), (rl_R NC NT 0 1 0 0 0 ((fun _ => false)) ([]) cp cf mt op tk tp fp kd KN PN SZ oc of bt ba (up_n sl 0 (fun _ => vb_pk 1 0) 7) (upd ac 0 (-1)) (upd af 0 0) (upd fa 0 0) (upd fw 0 0) (upd fv 0 0) wt wd wv (um_n mc 6) yoc yof ybt ybp (vp_updL sv 0 (vb_pk 1 0)) (up_n vr 0 (fun _ => vb_pk 1 0) 6) (upd ow 0 (-1)) (upd ed 0 0) wa yh vl) := by
    intro wt wd wa yh wv vl
    refine ⟨P, ⟨fun t h => absurd h (Nat.not_lt_zero _), fun t h => absurd h (Nat.not_lt_zero _), ?_⟩, ⟨True.intro, ⟨pk_us, pk_us, pk_us⟩, ?_⟩, ⟨by omega, by omega, by omega⟩, ⟨by omega, Nat.le_refl _, by omega⟩, ?_, fun i h => absurd h (Nat.not_lt_zero _)⟩
    · intro a ha
      have : a = 0 := by omega
      subst this
      refine ⟨?_, ?_, ?_, ?_⟩
      · rw [show 0 * 7 + 6 = 0 + 6 from rfl, up_in (by omega), pk_uLs]; exact nl
      · intro v hv
        rw [show 0 * 7 + v = 0 + v by omega, show 6 * 0 + v = 0 + v by omega, up_in (by omega), up_in hv]; exact nl
      · rw [pk_us, pk_us]
      · exact Or.inl pk_us
    · intro a ha
      have : a = 0 := by omega
      subst this
      exact ⟨pk_us, pk_us⟩
    · intro c hc
      exact um_in (by omega)
  rcases hmn with rfl | ⟨t, ht, rfl⟩
  · have C := cf_Vi (μ := 161000) (K := []) (N := 0) (A := 1) (T := 0) (Pc := 0) (D := 0) (ob := fun _ => false) (ns := ns) (mn := -1) (sk := sk) (rs := 4294967296) (rd := rd) (pr := pr) (mo := mo) (mb := mb) (py := py) (r wt wd wa yh (vp_updL wv 0 (vb_pk 1 0)) (vp_updL vl 0 (vb_pk 1 0))) (by show vb_R _ _ (vp_updL wv 0 (vb_pk 1 0) 0) (vp_updL vl 0 (vb_pk 1 0) 0); rw [pk_uLs, pk_uLs]; exact nl) (by show 802 * (200 - 0) + 0 + 1 ≤ 161000; omega)
    rw [pe_0] at C
    obtain ⟨u', v', F, gX, gY⟩ := nx_go op_all 161001 161000 _ _ (by omega) C
    refine ⟨u', v', F, fun Q hQ => ?_, fun Q hQ => ?_⟩
    · unfold wpX_perform
      exact pf_x _ ⟨fun _ => gX Q 0 (by omega) hQ, fun z => absurd rfl z⟩
    · exact pf_y Q ⟨fun z => absurd z (by decide), fun _ => gY Q hQ⟩
  · have z := pg_sz P ht
    have h100 := P.2.1
    have C := cf_Ei (μ := 161000) (K := []) (t := t) (N := 0) (A := 1) (T := 0) (Pc := 0) (D := 0) (ob := fun _ => false) (ns := ns) (mn := nI t) (sk := sk) (rs := 4294967296) (rd := rd) (pr := pr) (mo := mo) (mb := mb) (py := py) (r (upd wt 0 (nI t)) (upd wd 0 0) (upd wa 0 (nI (8 * t))) (upd yh 0 0) wv vl) ⟨ht, by show 0 + 0 + SZ t ≤ 100 * (0 + 1); omega⟩ pk_us pk_us (by show upd wa 0 (nI (8 * t)) 0 = nI (1024 * 0 + 8 * t + 0); rw [pk_us]; exact congrArg nI (by omega)) (by show 802 * (200 - 0) + 0 + 4 * SZ t ≤ 161000; omega)
    rw [pe_0] at C
    obtain ⟨u', v', F, gX, gY⟩ := nx_go op_all 161001 161000 _ _ (by omega) C
    have e8 : (1024 * 0 + 8 * nI t + 0 : Int32) = nI (8 * t) := by
      rw [show (1024 * 0 : Int32) = 0 from by decide, Int32.zero_add, Int32.add_zero, show (8 : Int32) = nI 8 from rfl, pk_mul]
    refine ⟨u', v', F, fun Q hQ => ?_, fun Q hQ => ?_⟩
    · unfold wpX_perform
      exact pf_x _ ⟨fun z => absurd z (ax_nIm1 (by omega)), fun _ => gX Q 0 (by omega) hQ⟩
    · exact pf_y Q ⟨fun _ => by rw [e8]; exact gY Q hQ, fun z => absurd (nI_pos' (by omega)) z⟩
end
