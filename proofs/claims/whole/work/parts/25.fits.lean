/-! which calls fit -/
def fi_R (n : Nat) (x r : Int32) : Prop := (r = 0 ∧ x < 0) ∨ (∃ j, j < 2 ^ 31 ∧ x = nI j ∧ ((r = 0 ∧ n ≤ j) ∨ (r = 1 ∧ j < n)))
def fm_R (a : Nat) (x r : Int32) : Prop := (r = 0 ∧ x < 0) ∨ (∃ j, j < 2 ^ 31 ∧ x = nI j ∧ ((r = 0 ∧ 6 ≤ j) ∨ (r = 0 ∧ j < 6 ∧ j % 3 ≠ a) ∨ (r = 1 ∧ j < 6 ∧ j % 3 = a)))
def fn_R (x r : Int32) : Prop := (r = 0 ∧ x < -99) ∨ (r = 0 ∧ ¬ x < -99 ∧ 99 < x) ∨ (r = 1 ∧ ¬ x < -99 ∧ ¬ 99 < x)
def fb_R (x r : Int32) : Prop := (r = 0 ∧ x < 0 ∧ x < -1 ∧ ¬ x = -1) ∨ (r = 1 ∧ x = -1) ∨ (∃ j, j < 2 ^ 31 ∧ x = nI j ∧ ((r = 0 ∧ 6 ≤ j) ∨ (r = 1 ∧ j < 6)))
theorem fi_ex (n : Nat) (x : Int32) : ∃ r, fi_R n x r := by
  by_cases h : x < 0
  · exact ⟨0, Or.inl ⟨rfl, h⟩⟩
  · obtain ⟨j, hj, rfl⟩ := nI_of h
    by_cases z : j < n
    · exact ⟨1, Or.inr ⟨j, hj, rfl, Or.inr ⟨rfl, z⟩⟩⟩
    · exact ⟨0, Or.inr ⟨j, hj, rfl, Or.inl ⟨rfl, by omega⟩⟩⟩
theorem fm_ex (a : Nat) (x : Int32) : ∃ r, fm_R a x r := by
  by_cases h : x < 0
  · exact ⟨0, Or.inl ⟨rfl, h⟩⟩
  · obtain ⟨j, hj, rfl⟩ := nI_of h
    by_cases z : j < 6
    · by_cases y : j % 3 = a
      · exact ⟨1, Or.inr ⟨j, hj, rfl, Or.inr (Or.inr ⟨rfl, z, y⟩)⟩⟩
      · exact ⟨0, Or.inr ⟨j, hj, rfl, Or.inr (Or.inl ⟨rfl, z, y⟩)⟩⟩
    · exact ⟨0, Or.inr ⟨j, hj, rfl, Or.inl ⟨rfl, by omega⟩⟩⟩
theorem fn_ex (x : Int32) : ∃ r, fn_R x r := by
  by_cases h : x < -99
  · exact ⟨0, Or.inl ⟨rfl, h⟩⟩
  · by_cases z : 99 < x
    · exact ⟨0, Or.inr (Or.inl ⟨rfl, h, z⟩)⟩
    · exact ⟨1, Or.inr (Or.inr ⟨rfl, h, z⟩)⟩
theorem fb_m {x : Int32} (h : x < 0) (hn : ¬ x = -1) : x < -1 := by
  have e : ¬ x.toInt = -1 := fun z => hn (Int32.toInt_inj.mp (by rw [z]; decide))
  rw [Int32.lt_iff_toInt_lt] at h ⊢
  rw [show (0 : Int32).toInt = 0 from by decide] at h
  rw [show (-1 : Int32).toInt = -1 from by decide]
  omega
theorem fi_m1 {x : Int32} (h : ¬ x < 0) : (-1 : Int32) < x := by
  rw [Int32.lt_iff_toInt_lt] at h ⊢
  rw [show (0 : Int32).toInt = 0 from by decide] at h
  rw [show (-1 : Int32).toInt = -1 from by decide]
  omega
theorem fi_nm1 {x : Int32} (h : ¬ x < 0) : ¬ x < -1 := fun z => by
  rw [Int32.lt_iff_toInt_lt] at h z
  rw [show (0 : Int32).toInt = 0 from by decide] at h
  rw [show (-1 : Int32).toInt = -1 from by decide] at z
  omega
theorem fb_ex (x : Int32) : ∃ r, fb_R x r := by
  by_cases h : x < 0
  · by_cases e : x = -1
    · exact ⟨1, Or.inr (Or.inl ⟨rfl, e⟩)⟩
    · exact ⟨0, Or.inl ⟨rfl, h, fb_m h e, e⟩⟩
  · obtain ⟨j, hj, rfl⟩ := nI_of h
    by_cases z : j < 6
    · exact ⟨1, Or.inr (Or.inr ⟨j, hj, rfl, Or.inr ⟨rfl, z⟩⟩)⟩
    · exact ⟨0, Or.inr (Or.inr ⟨j, hj, rfl, Or.inl ⟨rfl, by omega⟩⟩)⟩
theorem fi_01 {n : Nat} {x r : Int32} (h : fi_R n x r) : r = 0 ∨ (r = 1 ∧ ∃ j, j < n ∧ x = nI j) := by
  rcases h with ⟨rfl, _⟩ | ⟨j, _, e, ⟨rfl, _⟩ | ⟨rfl, h⟩⟩
  · exact Or.inl rfl
  · exact Or.inl rfl
  · exact Or.inr ⟨rfl, j, h, e⟩
theorem fm_01 {n : Nat} {x r : Int32} (h : fm_R n x r) : r = 0 ∨ (r = 1 ∧ ∃ j, j < 6 ∧ j % 3 = n ∧ x = nI j) := by
  rcases h with ⟨rfl, _⟩ | ⟨j, _, e, ⟨rfl, _⟩ | ⟨rfl, _⟩ | ⟨rfl, h, h'⟩⟩
  · exact Or.inl rfl
  · exact Or.inl rfl
  · exact Or.inl rfl
  · exact Or.inr ⟨rfl, j, h, h', e⟩
theorem fn_01 {x r : Int32} (h : fn_R x r) : r = 0 ∨ r = 1 := by
  rcases h with ⟨rfl, _⟩ | ⟨rfl, _⟩ | ⟨rfl, _⟩
  · exact Or.inl rfl
  · exact Or.inl rfl
  · exact Or.inr rfl
theorem fb_01 {x r : Int32} (h : fb_R x r) : r = 0 ∨ (r = 1 ∧ (x = -1 ∨ ∃ j, j < 6 ∧ x = nI j)) := by
  rcases h with ⟨rfl, _⟩ | ⟨rfl, e⟩ | ⟨j, _, e, ⟨rfl, _⟩ | ⟨rfl, h⟩⟩
  · exact Or.inl rfl
  · exact Or.inr ⟨rfl, Or.inl e⟩
  · exact Or.inl rfl
  · exact Or.inr ⟨rfl, Or.inr ⟨j, h, e⟩⟩
theorem fi_nar {r : Int32} (h : r = 0 ∨ r = 1) : narrow .boolean (.int r) = .int r := by
  rcases h with rfl | rfl <;> rfl
theorem fm_rem {j : Nat} (h : j < 6) : nI j - nI j / 3 * 3 = nI (j % 3) := pk_rem (d := 3) (by omega) (by omega) (by omega)
theorem fx_var (Q : Int32 → Prop) {x r : Int32} (h : fi_R 6 x r) (hQ : Q r) : wpX_isVariable Q x := by
  rcases h with ⟨rfl, h⟩ | ⟨j, hj, rfl, ⟨rfl, h⟩ | ⟨rfl, h⟩⟩
  · exact br_t h hQ
  · exact br_f (nI_pos hj) (br_t (nI_le (a := 6) h hj) hQ)
  · exact br_f (nI_pos hj) (br_f (nI_ge (b := 6) h (by decide)) hQ)
theorem fx_fld (Q : Int32 → Prop) {x r : Int32} (h : fi_R 4 x r) (hQ : Q r) : wpX_isField Q x := by
  rcases h with ⟨rfl, h⟩ | ⟨j, hj, rfl, ⟨rfl, h⟩ | ⟨rfl, h⟩⟩
  · exact br_t h hQ
  · exact br_f (nI_pos hj) (br_t (nI_le (a := 4) h hj) hQ)
  · exact br_f (nI_pos hj) (br_f (nI_ge (b := 4) h (by decide)) hQ)
theorem fx_msg (Q : Int32 → Prop) {a : Nat} {x r : Int32} (ha : a < 3) (h : fm_R a x r) (hQ : Q r) : wpX_isMessage Q x (nI a) := by
  rcases h with ⟨rfl, h⟩ | ⟨j, hj, rfl, ⟨rfl, h⟩ | ⟨rfl, h, h'⟩ | ⟨rfl, h, h'⟩⟩
  · exact br_t h hQ
  · exact br_f (nI_pos hj) (br_t (nI_le (a := 6) h hj) hQ)
  · exact br_f (nI_pos hj) (br_f (nI_ge (b := 6) h (by decide)) (And.intro (by decide) (br_f (by rw [fm_rem h]; exact ay_nIne h' (by omega) (by omega)) hQ)))
  · exact br_f (nI_pos hj) (br_f (nI_ge (b := 6) h (by decide)) (And.intro (by decide) (br_t (by rw [fm_rem h, h']) hQ)))
section
variable {nc nt ns mn n na f ws vs en pc tc dc : Int32} {rs : Int64} {cp cf mt op tk tp fp sk oc bt ba rd ac af fa fw fv wt wd pr mc : Nat → Int32} {of sl wv : Nat → Int64}
variable {NC : Nat}
theorem fx_cls (Q : Int32 → Prop) {x r : Int32} (hN : NC ≤ 6) (h : fi_R NC x r) (hQ : Q r) : wpX_isClass Q (nI NC, nt, ns, mn, n, na, f, ws, vs, en, rs, pc, tc, dc, cp, cf, mt, op, tk, tp, fp, sk, oc, of, bt, ba, rd, sl, ac, af, fa, fw, fv, wt, wd, wv, pr, mc) x := by
  rcases h with ⟨rfl, h⟩ | ⟨j, hj, rfl, ⟨rfl, h⟩ | ⟨rfl, h⟩⟩
  · exact br_t h hQ
  · exact br_f (nI_pos hj) (br_t (nI_le h hj) hQ)
  · exact br_f (nI_pos hj) (br_f (nI_ge h (by omega)) hQ)
end
section
variable {yc yt ys ym no nb ya yw yv yu yo yk yp ye : Int32} {ycp ycf ymt kd ytk ytp ysk yoc ybt ybp ow ed wa yh ypr mo mb : Nat → Int32} {yof sv vr vl : Nat → Int64}
variable {NC : Nat}
theorem fy_in (Q : Int32 → Prop) {m : Nat} {x r : Int32} (hm : m < 100) (h : fi_R (m + 1) x r) (hQ : Q r) : wpY_isIn Q (yc, yt, ys, ym, no, nb, ya, yw, yv, yu, yo, yk, yp, ye, ycp, ycf, ymt, kd, ytk, ytp, ysk, yoc, yof, ybt, ybp, sv, vr, ow, ed, wa, yh, vl, ypr, mo, mb) x 0 (nI m) := by
  rcases h with ⟨rfl, h⟩ | ⟨j, hj, rfl, ⟨rfl, h⟩ | ⟨rfl, h⟩⟩
  · exact br_t h hQ
  · exact br_f (nI_pos hj) (br_t (nI_lt (by omega) hj) hQ)
  · exact br_f (nI_pos hj) (br_f (nI_nlt (by omega) (by omega)) hQ)
theorem fy_cls (Q : Int32 → Prop) {x r : Int32} (hN : NC ≤ 6) (h : fi_R NC x r) (hQ : Q r) : wpY_isIn Q (nI NC, yt, ys, ym, no, nb, ya, yw, yv, yu, yo, yk, yp, ye, ycp, ycf, ymt, kd, ytk, ytp, ysk, yoc, yof, ybt, ybp, sv, vr, ow, ed, wa, yh, vl, ypr, mo, mb) x 0 (nI NC - 1) := by
  cases NC with
  | zero =>
    rw [show (nI 0 - 1 : Int32) = -1 from by decide]
    rcases h with ⟨rfl, h⟩ | ⟨j, hj, rfl, ⟨rfl, h⟩ | ⟨rfl, h⟩⟩
    · exact br_t h hQ
    · exact br_f (nI_pos hj) (br_t (fi_m1 (nI_pos hj)) hQ)
    · exact absurd h (Nat.not_lt_zero _)
  | succ m =>
    rw [nI_pred]
    exact fy_in Q (by omega) h hQ
theorem fy_num (Q : Int32 → Prop) {x r : Int32} (h : fn_R x r) (hQ : Q r) : wpY_isIn Q (yc, yt, ys, ym, no, nb, ya, yw, yv, yu, yo, yk, yp, ye, ycp, ycf, ymt, kd, ytk, ytp, ysk, yoc, yof, ybt, ybp, sv, vr, ow, ed, wa, yh, vl, ypr, mo, mb) x (-99) 99 := by
  rcases h with ⟨rfl, h⟩ | ⟨rfl, h, h'⟩ | ⟨rfl, h, h'⟩
  · exact br_t h hQ
  · exact br_f h (br_t h' hQ)
  · exact br_f h (br_f h' hQ)
theorem fy_blk (Q : Int32 → Prop) {x r : Int32} (h : fb_R x r) (hQ : Q r) : wpY_isIn Q (yc, yt, ys, ym, no, nb, ya, yw, yv, yu, yo, yk, yp, ye, ycp, ycf, ymt, kd, ytk, ytp, ysk, yoc, yof, ybt, ybp, sv, vr, ow, ed, wa, yh, vl, ypr, mo, mb) x (-1) 5 := by
  rcases h with ⟨rfl, _, h, _⟩ | ⟨rfl, rfl⟩ | ⟨j, hj, rfl, ⟨rfl, h⟩ | ⟨rfl, h⟩⟩
  · exact br_t h hQ
  · exact br_f (by decide) (br_f (by decide) hQ)
  · exact br_f (fi_nm1 (nI_pos hj)) (br_t (nI_lt (a := 5) (by omega) hj) hQ)
  · exact br_f (fi_nm1 (nI_pos hj)) (br_f (nI_nlt (a := 5) (by omega) (by decide)) hQ)
theorem fy_msg (Q : Int32 → Prop) {a : Nat} {x r : Int32} (ha : a < 3) (h : fm_R a x r) (hQ : Q r) : wpY_isMessage Q (yc, yt, ys, ym, no, nb, ya, yw, yv, yu, yo, yk, yp, ye, ycp, ycf, ymt, kd, ytk, ytp, ysk, yoc, yof, ybt, ybp, sv, vr, ow, ed, wa, yh, vl, ypr, mo, mb) x (nI a) := by
  rcases h with ⟨rfl, h⟩ | ⟨j, hj, rfl, ⟨rfl, h⟩ | ⟨rfl, h, h'⟩ | ⟨rfl, h, h'⟩⟩
  · exact br_t h hQ
  · exact br_f (nI_pos hj) (br_t (nI_lt (a := 5) (by omega) hj) hQ)
  · exact br_f (nI_pos hj) (br_f (nI_nlt (a := 5) (by omega) (by decide)) (And.intro (by decide) (br_f (by rw [fm_rem h]; exact ay_nIne h' (by omega) (by omega)) hQ)))
  · exact br_f (nI_pos hj) (br_f (nI_nlt (a := 5) (by omega) (by decide)) (And.intro (by decide) (br_t (by rw [fm_rem h, h']) hQ)))
end
def fleaf_R (NC : Nat) (c k r : Int32) : Prop := (r = 0 ∧ c < 0) ∨ (∃ j, j < 2 ^ 31 ∧ c = nI j ∧ ((r = 0 ∧ 7 ≤ j) ∨ (j = 0 ∧ fn_R k r) ∨ (j = 1 ∧ r = 1) ∨ (j = 2 ∧ r = 1) ∨ (j = 3 ∧ fi_R 6 k r) ∨ (j = 4 ∧ fi_R 4 k r) ∨ (j = 5 ∧ fi_R NC k r) ∨ (j = 6 ∧ fm_R 0 k r)))
theorem fleaf_ex (NC : Nat) (c k : Int32) : ∃ r, fleaf_R NC c k r := by
  by_cases h : c < 0
  · exact ⟨0, Or.inl ⟨rfl, h⟩⟩
  · obtain ⟨j, hj, rfl⟩ := nI_of h
    by_cases z : 7 ≤ j
    · exact ⟨0, Or.inr ⟨j, hj, rfl, Or.inl ⟨rfl, z⟩⟩⟩
    · have cs : j = 0 ∨ j = 1 ∨ j = 2 ∨ j = 3 ∨ j = 4 ∨ j = 5 ∨ j = 6 := by omega
      rcases cs with rfl | rfl | rfl | rfl | rfl | rfl | rfl
      · obtain ⟨r, hr⟩ := fn_ex k
        exact ⟨r, Or.inr ⟨0, by omega, rfl, Or.inr (Or.inl ⟨rfl, hr⟩)⟩⟩
      · exact ⟨1, Or.inr ⟨1, by omega, rfl, Or.inr (Or.inr (Or.inl ⟨rfl, rfl⟩))⟩⟩
      · exact ⟨1, Or.inr ⟨2, by omega, rfl, Or.inr (Or.inr (Or.inr (Or.inl ⟨rfl, rfl⟩)))⟩⟩
      · obtain ⟨r, hr⟩ := fi_ex 6 k
        exact ⟨r, Or.inr ⟨3, by omega, rfl, Or.inr (Or.inr (Or.inr (Or.inr (Or.inl ⟨rfl, hr⟩))))⟩⟩
      · obtain ⟨r, hr⟩ := fi_ex 4 k
        exact ⟨r, Or.inr ⟨4, by omega, rfl, Or.inr (Or.inr (Or.inr (Or.inr (Or.inr (Or.inl ⟨rfl, hr⟩)))))⟩⟩
      · obtain ⟨r, hr⟩ := fi_ex NC k
        exact ⟨r, Or.inr ⟨5, by omega, rfl, Or.inr (Or.inr (Or.inr (Or.inr (Or.inr (Or.inr (Or.inl ⟨rfl, hr⟩))))))⟩⟩
      · obtain ⟨r, hr⟩ := fm_ex 0 k
        exact ⟨r, Or.inr ⟨6, by omega, rfl, Or.inr (Or.inr (Or.inr (Or.inr (Or.inr (Or.inr (Or.inr (⟨rfl, hr⟩)))))))⟩⟩
theorem fleaf_01 {NC : Nat} {c k r : Int32} (h : fleaf_R NC c k r) : r = 0 ∨ (r = 1 ∧ ∃ j, j < 7 ∧ c = nI j ∧ pg_v (0 + j) ∧ pg_k NC (0 + j) k) := by
  rcases h with ⟨rfl, _⟩ | ⟨j, hj, rfl, ⟨rfl, _⟩ | ⟨rfl, hr⟩ | ⟨rfl, rfl⟩ | ⟨rfl, rfl⟩ | ⟨rfl, hr⟩ | ⟨rfl, hr⟩ | ⟨rfl, hr⟩ | ⟨rfl, hr⟩⟩
  · exact Or.inl rfl
  · exact Or.inl rfl
  · rcases fn_01 hr with rfl | rfl
    · exact Or.inl rfl
    · exact Or.inr ⟨rfl, 0, by omega, rfl, by unfold pg_v; omega, ⟨fun z => absurd z (by decide), fun z => absurd z (by decide), fun z => absurd z (by decide), fun z => absurd z (by decide), fun z => absurd z (by decide), fun z => absurd z (by decide), fun z => absurd z (by decide)⟩⟩
  · exact Or.inr ⟨rfl, 1, by omega, rfl, by unfold pg_v; omega, ⟨fun z => absurd z (by decide), fun z => absurd z (by decide), fun z => absurd z (by decide), fun z => absurd z (by decide), fun z => absurd z (by decide), fun z => absurd z (by decide), fun z => absurd z (by decide)⟩⟩
  · exact Or.inr ⟨rfl, 2, by omega, rfl, by unfold pg_v; omega, ⟨fun z => absurd z (by decide), fun z => absurd z (by decide), fun z => absurd z (by decide), fun z => absurd z (by decide), fun z => absurd z (by decide), fun z => absurd z (by decide), fun z => absurd z (by decide)⟩⟩
  · rcases fi_01 hr with rfl | ⟨rfl, hk⟩
    · exact Or.inl rfl
    · exact Or.inr ⟨rfl, 3, by omega, rfl, by unfold pg_v; omega, ⟨fun _ => hk, fun z => absurd z (by decide), fun z => absurd z (by decide), fun z => absurd z (by decide), fun z => absurd z (by decide), fun z => absurd z (by decide), fun z => absurd z (by decide)⟩⟩
  · rcases fi_01 hr with rfl | ⟨rfl, hk⟩
    · exact Or.inl rfl
    · exact Or.inr ⟨rfl, 4, by omega, rfl, by unfold pg_v; omega, ⟨fun z => absurd z (by decide), fun _ => hk, fun z => absurd z (by decide), fun z => absurd z (by decide), fun z => absurd z (by decide), fun z => absurd z (by decide), fun z => absurd z (by decide)⟩⟩
  · rcases fi_01 hr with rfl | ⟨rfl, hk⟩
    · exact Or.inl rfl
    · exact Or.inr ⟨rfl, 5, by omega, rfl, by unfold pg_v; omega, ⟨fun z => absurd z (by decide), fun z => absurd z (by decide), fun _ => hk, fun z => absurd z (by decide), fun z => absurd z (by decide), fun z => absurd z (by decide), fun z => absurd z (by decide)⟩⟩
  · rcases fm_01 hr with rfl | ⟨rfl, hk⟩
    · exact Or.inl rfl
    · exact Or.inr ⟨rfl, 6, by omega, rfl, by unfold pg_v; omega, ⟨fun z => absurd z (by decide), fun z => absurd z (by decide), fun z => absurd z (by decide), fun z => absurd z (by decide), fun _ => hk, fun z => absurd z (by decide), fun z => absurd z (by decide)⟩⟩
def fone_R (NC : Nat) (c k r : Int32) : Prop := (r = 0 ∧ c < 0) ∨ (∃ j, j < 2 ^ 31 ∧ c = nI j ∧ ((r = 0 ∧ 9 ≤ j) ∨ (j = 0 ∧ fi_R 6 k r) ∨ (j = 1 ∧ fi_R 4 k r) ∨ (j = 2 ∧ fi_R NC k r) ∨ (j = 3 ∧ fb_R k r) ∨ (j = 4 ∧ r = 1) ∨ (j = 5 ∧ r = 1) ∨ (j = 6 ∧ r = 1) ∨ (j = 7 ∧ fm_R 0 k r) ∨ (j = 8 ∧ fm_R 1 k r)))
theorem fone_ex (NC : Nat) (c k : Int32) : ∃ r, fone_R NC c k r := by
  by_cases h : c < 0
  · exact ⟨0, Or.inl ⟨rfl, h⟩⟩
  · obtain ⟨j, hj, rfl⟩ := nI_of h
    by_cases z : 9 ≤ j
    · exact ⟨0, Or.inr ⟨j, hj, rfl, Or.inl ⟨rfl, z⟩⟩⟩
    · have cs : j = 0 ∨ j = 1 ∨ j = 2 ∨ j = 3 ∨ j = 4 ∨ j = 5 ∨ j = 6 ∨ j = 7 ∨ j = 8 := by omega
      rcases cs with rfl | rfl | rfl | rfl | rfl | rfl | rfl | rfl | rfl
      · obtain ⟨r, hr⟩ := fi_ex 6 k
        exact ⟨r, Or.inr ⟨0, by omega, rfl, Or.inr (Or.inl ⟨rfl, hr⟩)⟩⟩
      · obtain ⟨r, hr⟩ := fi_ex 4 k
        exact ⟨r, Or.inr ⟨1, by omega, rfl, Or.inr (Or.inr (Or.inl ⟨rfl, hr⟩))⟩⟩
      · obtain ⟨r, hr⟩ := fi_ex NC k
        exact ⟨r, Or.inr ⟨2, by omega, rfl, Or.inr (Or.inr (Or.inr (Or.inl ⟨rfl, hr⟩)))⟩⟩
      · obtain ⟨r, hr⟩ := fb_ex k
        exact ⟨r, Or.inr ⟨3, by omega, rfl, Or.inr (Or.inr (Or.inr (Or.inr (Or.inl ⟨rfl, hr⟩))))⟩⟩
      · exact ⟨1, Or.inr ⟨4, by omega, rfl, Or.inr (Or.inr (Or.inr (Or.inr (Or.inr (Or.inl ⟨rfl, rfl⟩)))))⟩⟩
      · exact ⟨1, Or.inr ⟨5, by omega, rfl, Or.inr (Or.inr (Or.inr (Or.inr (Or.inr (Or.inr (Or.inl ⟨rfl, rfl⟩))))))⟩⟩
      · exact ⟨1, Or.inr ⟨6, by omega, rfl, Or.inr (Or.inr (Or.inr (Or.inr (Or.inr (Or.inr (Or.inr (Or.inl ⟨rfl, rfl⟩)))))))⟩⟩
      · obtain ⟨r, hr⟩ := fm_ex 0 k
        exact ⟨r, Or.inr ⟨7, by omega, rfl, Or.inr (Or.inr (Or.inr (Or.inr (Or.inr (Or.inr (Or.inr (Or.inr (Or.inl ⟨rfl, hr⟩))))))))⟩⟩
      · obtain ⟨r, hr⟩ := fm_ex 1 k
        exact ⟨r, Or.inr ⟨8, by omega, rfl, Or.inr (Or.inr (Or.inr (Or.inr (Or.inr (Or.inr (Or.inr (Or.inr (Or.inr (⟨rfl, hr⟩)))))))))⟩⟩
theorem fone_01 {NC : Nat} {c k r : Int32} (h : fone_R NC c k r) : r = 0 ∨ (r = 1 ∧ ∃ j, j < 9 ∧ c = nI j ∧ pg_v (10 + j) ∧ pg_k NC (10 + j) k) := by
  rcases h with ⟨rfl, _⟩ | ⟨j, hj, rfl, ⟨rfl, _⟩ | ⟨rfl, hr⟩ | ⟨rfl, hr⟩ | ⟨rfl, hr⟩ | ⟨rfl, hr⟩ | ⟨rfl, rfl⟩ | ⟨rfl, rfl⟩ | ⟨rfl, rfl⟩ | ⟨rfl, hr⟩ | ⟨rfl, hr⟩⟩
  · exact Or.inl rfl
  · exact Or.inl rfl
  · rcases fi_01 hr with rfl | ⟨rfl, hk⟩
    · exact Or.inl rfl
    · exact Or.inr ⟨rfl, 0, by omega, rfl, by unfold pg_v; omega, ⟨fun _ => hk, fun z => absurd z (by decide), fun z => absurd z (by decide), fun z => absurd z (by decide), fun z => absurd z (by decide), fun z => absurd z (by decide), fun z => absurd z (by decide)⟩⟩
  · rcases fi_01 hr with rfl | ⟨rfl, hk⟩
    · exact Or.inl rfl
    · exact Or.inr ⟨rfl, 1, by omega, rfl, by unfold pg_v; omega, ⟨fun z => absurd z (by decide), fun _ => hk, fun z => absurd z (by decide), fun z => absurd z (by decide), fun z => absurd z (by decide), fun z => absurd z (by decide), fun z => absurd z (by decide)⟩⟩
  · rcases fi_01 hr with rfl | ⟨rfl, hk⟩
    · exact Or.inl rfl
    · exact Or.inr ⟨rfl, 2, by omega, rfl, by unfold pg_v; omega, ⟨fun z => absurd z (by decide), fun z => absurd z (by decide), fun z => absurd z (by decide), fun z => absurd z (by decide), fun z => absurd z (by decide), fun z => absurd z (by decide), fun z => absurd z (by decide)⟩⟩
  · rcases fb_01 hr with rfl | ⟨rfl, hk⟩
    · exact Or.inl rfl
    · exact Or.inr ⟨rfl, 3, by omega, rfl, by unfold pg_v; omega, ⟨fun z => absurd z (by decide), fun z => absurd z (by decide), fun z => absurd z (by decide), fun _ => hk, fun z => absurd z (by decide), fun z => absurd z (by decide), fun z => absurd z (by decide)⟩⟩
  · exact Or.inr ⟨rfl, 4, by omega, rfl, by unfold pg_v; omega, ⟨fun z => absurd z (by decide), fun z => absurd z (by decide), fun z => absurd z (by decide), fun z => absurd z (by decide), fun z => absurd z (by decide), fun z => absurd z (by decide), fun z => absurd z (by decide)⟩⟩
  · exact Or.inr ⟨rfl, 5, by omega, rfl, by unfold pg_v; omega, ⟨fun z => absurd z (by decide), fun z => absurd z (by decide), fun z => absurd z (by decide), fun z => absurd z (by decide), fun z => absurd z (by decide), fun z => absurd z (by decide), fun z => absurd z (by decide)⟩⟩
  · exact Or.inr ⟨rfl, 6, by omega, rfl, by unfold pg_v; omega, ⟨fun z => absurd z (by decide), fun z => absurd z (by decide), fun z => absurd z (by decide), fun z => absurd z (by decide), fun z => absurd z (by decide), fun z => absurd z (by decide), fun z => absurd z (by decide)⟩⟩
  · rcases fm_01 hr with rfl | ⟨rfl, hk⟩
    · exact Or.inl rfl
    · exact Or.inr ⟨rfl, 7, by omega, rfl, by unfold pg_v; omega, ⟨fun z => absurd z (by decide), fun z => absurd z (by decide), fun z => absurd z (by decide), fun z => absurd z (by decide), fun _ => hk, fun z => absurd z (by decide), fun z => absurd z (by decide)⟩⟩
  · rcases fm_01 hr with rfl | ⟨rfl, hk⟩
    · exact Or.inl rfl
    · exact Or.inr ⟨rfl, 8, by omega, rfl, by unfold pg_v; omega, ⟨fun z => absurd z (by decide), fun z => absurd z (by decide), fun z => absurd z (by decide), fun z => absurd z (by decide), fun z => absurd z (by decide), fun _ => hk, fun z => absurd z (by decide)⟩⟩
def ftwo_R (NC : Nat) (c k r : Int32) : Prop := (r = 0 ∧ c < 0) ∨ (∃ j, j < 2 ^ 31 ∧ c = nI j ∧ ((r = 0 ∧ 10 ≤ j) ∨ (j = 0 ∧ r = 1) ∨ (j = 1 ∧ r = 1) ∨ (j = 2 ∧ r = 1) ∨ (j = 3 ∧ r = 1) ∨ (j = 4 ∧ r = 1) ∨ (j = 5 ∧ r = 1) ∨ (j = 6 ∧ r = 1) ∨ (j = 7 ∧ r = 1) ∨ (j = 8 ∧ fm_R 1 k r) ∨ (j = 9 ∧ fm_R 2 k r)))
theorem ftwo_ex (NC : Nat) (c k : Int32) : ∃ r, ftwo_R NC c k r := by
  by_cases h : c < 0
  · exact ⟨0, Or.inl ⟨rfl, h⟩⟩
  · obtain ⟨j, hj, rfl⟩ := nI_of h
    by_cases z : 10 ≤ j
    · exact ⟨0, Or.inr ⟨j, hj, rfl, Or.inl ⟨rfl, z⟩⟩⟩
    · have cs : j = 0 ∨ j = 1 ∨ j = 2 ∨ j = 3 ∨ j = 4 ∨ j = 5 ∨ j = 6 ∨ j = 7 ∨ j = 8 ∨ j = 9 := by omega
      rcases cs with rfl | rfl | rfl | rfl | rfl | rfl | rfl | rfl | rfl | rfl
      · exact ⟨1, Or.inr ⟨0, by omega, rfl, Or.inr (Or.inl ⟨rfl, rfl⟩)⟩⟩
      · exact ⟨1, Or.inr ⟨1, by omega, rfl, Or.inr (Or.inr (Or.inl ⟨rfl, rfl⟩))⟩⟩
      · exact ⟨1, Or.inr ⟨2, by omega, rfl, Or.inr (Or.inr (Or.inr (Or.inl ⟨rfl, rfl⟩)))⟩⟩
      · exact ⟨1, Or.inr ⟨3, by omega, rfl, Or.inr (Or.inr (Or.inr (Or.inr (Or.inl ⟨rfl, rfl⟩))))⟩⟩
      · exact ⟨1, Or.inr ⟨4, by omega, rfl, Or.inr (Or.inr (Or.inr (Or.inr (Or.inr (Or.inl ⟨rfl, rfl⟩)))))⟩⟩
      · exact ⟨1, Or.inr ⟨5, by omega, rfl, Or.inr (Or.inr (Or.inr (Or.inr (Or.inr (Or.inr (Or.inl ⟨rfl, rfl⟩))))))⟩⟩
      · exact ⟨1, Or.inr ⟨6, by omega, rfl, Or.inr (Or.inr (Or.inr (Or.inr (Or.inr (Or.inr (Or.inr (Or.inl ⟨rfl, rfl⟩)))))))⟩⟩
      · exact ⟨1, Or.inr ⟨7, by omega, rfl, Or.inr (Or.inr (Or.inr (Or.inr (Or.inr (Or.inr (Or.inr (Or.inr (Or.inl ⟨rfl, rfl⟩))))))))⟩⟩
      · obtain ⟨r, hr⟩ := fm_ex 1 k
        exact ⟨r, Or.inr ⟨8, by omega, rfl, Or.inr (Or.inr (Or.inr (Or.inr (Or.inr (Or.inr (Or.inr (Or.inr (Or.inr (Or.inl ⟨rfl, hr⟩)))))))))⟩⟩
      · obtain ⟨r, hr⟩ := fm_ex 2 k
        exact ⟨r, Or.inr ⟨9, by omega, rfl, Or.inr (Or.inr (Or.inr (Or.inr (Or.inr (Or.inr (Or.inr (Or.inr (Or.inr (Or.inr (⟨rfl, hr⟩))))))))))⟩⟩
theorem ftwo_01 {NC : Nat} {c k r : Int32} (h : ftwo_R NC c k r) : r = 0 ∨ (r = 1 ∧ ∃ j, j < 10 ∧ c = nI j ∧ pg_v (20 + j) ∧ pg_k NC (20 + j) k) := by
  rcases h with ⟨rfl, _⟩ | ⟨j, hj, rfl, ⟨rfl, _⟩ | ⟨rfl, rfl⟩ | ⟨rfl, rfl⟩ | ⟨rfl, rfl⟩ | ⟨rfl, rfl⟩ | ⟨rfl, rfl⟩ | ⟨rfl, rfl⟩ | ⟨rfl, rfl⟩ | ⟨rfl, rfl⟩ | ⟨rfl, hr⟩ | ⟨rfl, hr⟩⟩
  · exact Or.inl rfl
  · exact Or.inl rfl
  · exact Or.inr ⟨rfl, 0, by omega, rfl, by unfold pg_v; omega, ⟨fun z => absurd z (by decide), fun z => absurd z (by decide), fun z => absurd z (by decide), fun z => absurd z (by decide), fun z => absurd z (by decide), fun z => absurd z (by decide), fun z => absurd z (by decide)⟩⟩
  · exact Or.inr ⟨rfl, 1, by omega, rfl, by unfold pg_v; omega, ⟨fun z => absurd z (by decide), fun z => absurd z (by decide), fun z => absurd z (by decide), fun z => absurd z (by decide), fun z => absurd z (by decide), fun z => absurd z (by decide), fun z => absurd z (by decide)⟩⟩
  · exact Or.inr ⟨rfl, 2, by omega, rfl, by unfold pg_v; omega, ⟨fun z => absurd z (by decide), fun z => absurd z (by decide), fun z => absurd z (by decide), fun z => absurd z (by decide), fun z => absurd z (by decide), fun z => absurd z (by decide), fun z => absurd z (by decide)⟩⟩
  · exact Or.inr ⟨rfl, 3, by omega, rfl, by unfold pg_v; omega, ⟨fun z => absurd z (by decide), fun z => absurd z (by decide), fun z => absurd z (by decide), fun z => absurd z (by decide), fun z => absurd z (by decide), fun z => absurd z (by decide), fun z => absurd z (by decide)⟩⟩
  · exact Or.inr ⟨rfl, 4, by omega, rfl, by unfold pg_v; omega, ⟨fun z => absurd z (by decide), fun z => absurd z (by decide), fun z => absurd z (by decide), fun z => absurd z (by decide), fun z => absurd z (by decide), fun z => absurd z (by decide), fun z => absurd z (by decide)⟩⟩
  · exact Or.inr ⟨rfl, 5, by omega, rfl, by unfold pg_v; omega, ⟨fun z => absurd z (by decide), fun z => absurd z (by decide), fun z => absurd z (by decide), fun z => absurd z (by decide), fun z => absurd z (by decide), fun z => absurd z (by decide), fun z => absurd z (by decide)⟩⟩
  · exact Or.inr ⟨rfl, 6, by omega, rfl, by unfold pg_v; omega, ⟨fun z => absurd z (by decide), fun z => absurd z (by decide), fun z => absurd z (by decide), fun z => absurd z (by decide), fun z => absurd z (by decide), fun z => absurd z (by decide), fun z => absurd z (by decide)⟩⟩
  · exact Or.inr ⟨rfl, 7, by omega, rfl, by unfold pg_v; omega, ⟨fun z => absurd z (by decide), fun z => absurd z (by decide), fun z => absurd z (by decide), fun z => absurd z (by decide), fun z => absurd z (by decide), fun z => absurd z (by decide), fun z => absurd z (by decide)⟩⟩
  · rcases fm_01 hr with rfl | ⟨rfl, hk⟩
    · exact Or.inl rfl
    · exact Or.inr ⟨rfl, 8, by omega, rfl, by unfold pg_v; omega, ⟨fun z => absurd z (by decide), fun z => absurd z (by decide), fun z => absurd z (by decide), fun z => absurd z (by decide), fun z => absurd z (by decide), fun _ => hk, fun z => absurd z (by decide)⟩⟩
  · rcases fm_01 hr with rfl | ⟨rfl, hk⟩
    · exact Or.inl rfl
    · exact Or.inr ⟨rfl, 9, by omega, rfl, by unfold pg_v; omega, ⟨fun z => absurd z (by decide), fun z => absurd z (by decide), fun z => absurd z (by decide), fun z => absurd z (by decide), fun z => absurd z (by decide), fun z => absurd z (by decide), fun _ => hk⟩⟩
def fthree_R (NC : Nat) (c k r : Int32) : Prop := (r = 0 ∧ c < 0) ∨ (∃ j, j < 2 ^ 31 ∧ c = nI j ∧ ((r = 0 ∧ 2 ≤ j) ∨ (j = 0 ∧ r = 1) ∨ (j = 1 ∧ fm_R 2 k r)))
theorem fthree_ex (NC : Nat) (c k : Int32) : ∃ r, fthree_R NC c k r := by
  by_cases h : c < 0
  · exact ⟨0, Or.inl ⟨rfl, h⟩⟩
  · obtain ⟨j, hj, rfl⟩ := nI_of h
    by_cases z : 2 ≤ j
    · exact ⟨0, Or.inr ⟨j, hj, rfl, Or.inl ⟨rfl, z⟩⟩⟩
    · have cs : j = 0 ∨ j = 1 := by omega
      rcases cs with rfl | rfl
      · exact ⟨1, Or.inr ⟨0, by omega, rfl, Or.inr (Or.inl ⟨rfl, rfl⟩)⟩⟩
      · obtain ⟨r, hr⟩ := fm_ex 2 k
        exact ⟨r, Or.inr ⟨1, by omega, rfl, Or.inr (Or.inr (⟨rfl, hr⟩))⟩⟩
theorem fthree_01 {NC : Nat} {c k r : Int32} (h : fthree_R NC c k r) : r = 0 ∨ (r = 1 ∧ ∃ j, j < 2 ∧ c = nI j ∧ pg_v (30 + j) ∧ pg_k NC (30 + j) k) := by
  rcases h with ⟨rfl, _⟩ | ⟨j, hj, rfl, ⟨rfl, _⟩ | ⟨rfl, rfl⟩ | ⟨rfl, hr⟩⟩
  · exact Or.inl rfl
  · exact Or.inl rfl
  · exact Or.inr ⟨rfl, 0, by omega, rfl, by unfold pg_v; omega, ⟨fun z => absurd z (by decide), fun z => absurd z (by decide), fun z => absurd z (by decide), fun z => absurd z (by decide), fun z => absurd z (by decide), fun z => absurd z (by decide), fun z => absurd z (by decide)⟩⟩
  · rcases fm_01 hr with rfl | ⟨rfl, hk⟩
    · exact Or.inl rfl
    · exact Or.inr ⟨rfl, 1, by omega, rfl, by unfold pg_v; omega, ⟨fun z => absurd z (by decide), fun z => absurd z (by decide), fun z => absurd z (by decide), fun z => absurd z (by decide), fun z => absurd z (by decide), fun z => absurd z (by decide), fun _ => hk⟩⟩
