/-! the relation between calls -/
def sg_sm (SZ G : Nat → Nat) : Nat → Nat
  | 0 => 0
  | d + 1 => sg_sm SZ G d + SZ (G d)
def sg_u (f : Nat → Nat) (i x : Nat) : Nat → Nat := fun j => if j = i then x else f j
def sg_P (PN G : Nat → Nat) (c b : Nat) : Nat → Nat := fun j => if c ≤ j then G (b + (j - c)) else PN j
def sg_S (NC NT SP : Nat) (mn : Int32) (cp cf mt op tk tp fp sk kd : Nat → Int32) (KN PN SZ G : Nat → Nat) : Prop :=
  pg_P NC NT cp cf mt op tk tp fp kd KN PN SZ ∧ SP ≤ 8 ∧ (∀ i, i < SP → G i < NT ∧ sk i = nI (G i)) ∧ sg_sm SZ G SP ≤ NT ∧ (mn = -1 ∨ ∃ t, t < NT ∧ mn = nI t)
def rk_R (u : SX) (v : SY) : Prop := ∃ (NC NT SP : Nat) (KN PN SZ G : Nat → Nat) (mn n na f ws vs en pc tc dc no nb ya yw yv yu yo yk yp ye : Int32) (rs : Int64) (cp cf mt op tk tp fp sk oc bt ba rd ac af fa fw fv wt wd pr mc kd yoc ybt ybp ow ed wa yh ypr mo mb : Nat → Int32) (of sl wv yof sv vr vl : Nat → Int64), u = (nI NC, nI NT, nI SP, mn, n, na, f, ws, vs, en, rs, pc, tc, dc, cp, cf, mt, op, tk, tp, fp, sk, oc, of, bt, ba, rd, sl, ac, af, fa, fw, fv, wt, wd, wv, pr, mc) ∧ v = (nI NC, nI NT, nI SP, mn, no, nb, ya, yw, yv, yu, yo, yk, yp, ye, cp, cf, mt, kd, tk, tp, sk, yoc, yof, ybt, ybp, sv, vr, ow, ed, wa, yh, vl, ypr, mo, mb) ∧ sg_S NC NT SP mn cp cf mt op tk tp fp sk kd KN PN SZ G
section
variable {nc nt ns mn n na f ws vs en pc tc dc : Int32} {rs : Int64} {cp cf mt op tk tp fp sk oc bt ba rd ac af fa fw fv wt wd pr mc : Nat → Int32} {of sl wv : Nat → Int64}
variable {yc yt ys ym no nb ya yw yv yu yo yk yp ye : Int32} {ycp ycf ymt kd ytk ytp ysk yoc ybt ybp ow ed wa yh ypr mo mb : Nat → Int32} {yof sv vr vl : Nat → Int64}
variable {NC NT SP : Nat} {KN PN SZ G : Nat → Nat}
theorem rk_i (S : sg_S NC NT SP mn cp cf mt op tk tp fp sk kd KN PN SZ G) : rk_R (nI NC, nI NT, nI SP, mn, n, na, f, ws, vs, en, rs, pc, tc, dc, cp, cf, mt, op, tk, tp, fp, sk, oc, of, bt, ba, rd, sl, ac, af, fa, fw, fv, wt, wd, wv, pr, mc) (nI NC, nI NT, nI SP, mn, no, nb, ya, yw, yv, yu, yo, yk, yp, ye, cp, cf, mt, kd, tk, tp, sk, yoc, yof, ybt, ybp, sv, vr, ow, ed, wa, yh, vl, ypr, mo, mb) :=
  ⟨NC, NT, SP, KN, PN, SZ, G, mn, n, na, f, ws, vs, en, pc, tc, dc, no, nb, ya, yw, yv, yu, yo, yk, yp, ye, rs, cp, cf, mt, op, tk, tp, fp, sk, oc, bt, ba, rd, ac, af, fa, fw, fv, wt, wd, pr, mc, kd, yoc, ybt, ybp, ow, ed, wa, yh, ypr, mo, mb, of, sl, wv, yof, sv, vr, vl, rfl, rfl, S⟩
end
theorem sg_us {f : Nat → Nat} {i x : Nat} : sg_u f i x i = x := if_pos rfl
theorem sg_un {f : Nat → Nat} {i j x : Nat} (h : j ≠ i) : sg_u f i x j = f j := if_neg h
theorem sg_add {SZ G : Nat → Nat} {b : Nat} : ∀ p, sg_sm SZ G (b + p) = sg_sm SZ G b + sg_sm SZ (fun j => G (b + j)) p
  | 0 => rfl
  | p + 1 => by
    show sg_sm SZ G (b + p) + SZ (G (b + p)) = sg_sm SZ G b + (sg_sm SZ (fun j => G (b + j)) p + SZ (G (b + p)))
    rw [sg_add p, Nat.add_assoc]
theorem sg_cg {SZ SZ' G G' : Nat → Nat} : ∀ {p : Nat}, (∀ j, j < p → SZ' (G' j) = SZ (G j)) → sg_sm SZ' G' p = sg_sm SZ G p
  | 0, _ => rfl
  | p + 1, h => by
    show sg_sm SZ' G' p + SZ' (G' p) = sg_sm SZ G p + SZ (G p)
    rw [sg_cg (fun j hj => h j (by omega)), h p (by omega)]
theorem sg_pm {SZ SZ' PN G : Nat → Nat} {t : Nat} : ∀ {d : Nat}, (∀ j, j < d → SZ' (PN (3 * t + j)) = SZ (G j)) → pg_sm SZ' PN t d = sg_sm SZ G d
  | 0, _ => rfl
  | d + 1, h => by
    show pg_sm SZ' PN t d + SZ' (PN (3 * t + d)) = sg_sm SZ G d + SZ (G d)
    rw [sg_pm (fun j hj => h j (by omega)), h d (by omega)]
theorem sg_pc {SZ SZ' PN PN' : Nat → Nat} {t : Nat} : ∀ {d : Nat}, (∀ j, j < d → SZ' (PN' (3 * t + j)) = SZ (PN (3 * t + j))) → pg_sm SZ' PN' t d = pg_sm SZ PN t d
  | 0, _ => rfl
  | d + 1, h => by
    show pg_sm SZ' PN' t d + SZ' (PN' (3 * t + d)) = pg_sm SZ PN t d + SZ (PN (3 * t + d))
    rw [sg_pc (fun j hj => h j (by omega)), h d (by omega)]
/-! a term is built -/
def bu_n (tp sk : Nat → Int32) (c b : Nat) : Nat → Nat → Int32
  | 0 => tp
  | i + 1 => upd (bu_n tp sk c b i) (c + i) (sk (b + i))
theorem bu_in {tp sk : Nat → Int32} {c b : Nat} : ∀ {p j : Nat}, j < p → bu_n tp sk c b p (c + j) = sk (b + j)
  | 0, _, h => absurd h (Nat.not_lt_zero _)
  | p + 1, j, h => by
    show upd (bu_n tp sk c b p) (c + p) (sk (b + p)) (c + j) = sk (b + j)
    by_cases e : j = p
    · subst e; exact pk_us
    · rw [pk_un (by omega)]; exact bu_in (by omega)
theorem bu_out {tp sk : Nat → Int32} {c b i : Nat} (h : i < c) : ∀ {p : Nat}, bu_n tp sk c b p i = tp i
  | 0 => rfl
  | p + 1 => by
    show upd (bu_n tp sk c b p) (c + p) (sk (b + p)) i = tp i
    rw [pk_un (by omega)]; exact bu_out h
theorem bu_k {nc nc' k : Nat} {x : Int32} (hn : nc ≤ nc') (h : pg_k nc k x) : pg_k nc' k x := by
  obtain ⟨a, b, c, d⟩ := h
  exact ⟨a, b, fun z => by obtain ⟨j, h1, h2⟩ := c z; exact ⟨j, by omega, h2⟩, d⟩
theorem bu_go {NC NT b p k : Nat} {mn x : Int32} {cp cf mt op tk tp fp sk kd : Nat → Int32} {KN PN SZ G : Nat → Nat} (S : sg_S NC NT (b + p) mn cp cf mt op tk tp fp sk kd KN PN SZ G) (hk : pg_v k) (hx : pg_k NC k x) (hp : k / 10 = p) (hN : NT < 100) (h8 : b < 8) : sg_S NC (NT + 1) (b + 1) mn cp cf mt (upd op NT (nI (pg_op k))) (upd tk NT x) (bu_n tp sk (3 * NT) b p) (upd fp NT (nI (pg_fp k))) (upd sk b (nI NT)) (upd kd NT (nI k)) (sg_u KN NT k) (sg_P PN G (3 * NT) b) (sg_u SZ NT (1 + sg_sm SZ (fun j => G (b + j)) p)) (sg_u G b NT) := by
  obtain ⟨⟨P1, P2, P3, P4⟩, S2, S3, S4, S5⟩ := S
  have hs := sg_add (SZ := SZ) (G := G) (b := b) p
  have hp3 : p ≤ 3 := by
    have := (pg_fpl hk).2
    omega
  refine ⟨⟨P1, by omega, ?_, ?_⟩, by omega, ?_, ?_, ?_⟩
  · intro c hc
    obtain ⟨a1, a2, a3⟩ := P3 c hc
    refine ⟨a1, a2, fun s hs => ?_⟩
    rcases a3 s hs with h | ⟨t, h1, h2⟩
    · exact Or.inl h
    · exact Or.inr ⟨t, by omega, h2⟩
  · intro t ht
    by_cases e : t = NT
    · subst e
      have q : pg_sm (sg_u SZ t (1 + sg_sm SZ (fun j => G (b + j)) p)) (sg_P PN G (3 * t) b) t p = sg_sm SZ (fun j => G (b + j)) p := by
        refine sg_pm (fun j hj => ?_)
        have g : sg_P PN G (3 * t) b (3 * t + j) = G (b + j) := by
          show (if 3 * t ≤ 3 * t + j then G (b + (3 * t + j - 3 * t)) else PN (3 * t + j)) = G (b + j)
          rw [if_pos (by omega), show b + (3 * t + j - 3 * t) = b + j by omega]
        rw [g]
        exact sg_un (by have := (S3 (b + j) (by omega)).1; omega)
      unfold pg_T
      rw [sg_us, sg_us, pk_us, pk_us, pk_us, pk_us, hp, q]
      refine ⟨hk, rfl, rfl, rfl, hx, ?_, by omega, by omega⟩
      intro i hi
      have g : sg_P PN G (3 * t) b (3 * t + i) = G (b + i) := by
        show (if 3 * t ≤ 3 * t + i then G (b + (3 * t + i - 3 * t)) else PN (3 * t + i)) = G (b + i)
        rw [if_pos (by omega), show b + (3 * t + i - 3 * t) = b + i by omega]
      rw [g, bu_in hi]
      exact ⟨(S3 (b + i) (by omega)).2, (S3 (b + i) (by omega)).1⟩
    · have T := P4 t (by omega)
      unfold pg_T at T
      obtain ⟨t1, t2, t3, t4, t5, t6, t7⟩ := T
      have k3 := (pg_fpl t1).2
      have g : ∀ i, i < KN t / 10 → sg_P PN G (3 * NT) b (3 * t + i) = PN (3 * t + i) := fun i hi => if_neg (by omega)
      have q : pg_sm (sg_u SZ NT (1 + sg_sm SZ (fun j => G (b + j)) p)) (sg_P PN G (3 * NT) b) t (KN t / 10) = pg_sm SZ PN t (KN t / 10) := by
        refine sg_pc (fun j hj => ?_)
        rw [g j hj]
        exact sg_un (by have := (t6 j hj).2; omega)
      unfold pg_T
      rw [sg_un e, sg_un e, pk_un e, pk_un e, pk_un e, pk_un e, q]
      refine ⟨t1, t2, t3, t4, t5, ?_, t7⟩
      intro i hi
      rw [g i hi, bu_out (by omega)]
      exact t6 i hi
  · intro i hi
    by_cases e : i = b
    · subst e
      rw [sg_us, pk_us]
      exact ⟨by omega, rfl⟩
    · rw [sg_un e, pk_un e]
      have := S3 i (by omega)
      exact ⟨by omega, this.2⟩
  · show sg_sm (sg_u SZ NT (1 + sg_sm SZ (fun j => G (b + j)) p)) (sg_u G b NT) b + sg_u SZ NT (1 + sg_sm SZ (fun j => G (b + j)) p) (sg_u G b NT b) ≤ NT + 1
    have q : sg_sm (sg_u SZ NT (1 + sg_sm SZ (fun j => G (b + j)) p)) (sg_u G b NT) b = sg_sm SZ G b := by
      refine sg_cg (fun j hj => ?_)
      rw [sg_un (show j ≠ b by omega)]
      exact sg_un (by have := (S3 j (by omega)).1; omega)
    rw [q, sg_us, sg_us]
    omega
  · rcases S5 with h | ⟨t, h1, h2⟩
    · exact Or.inl h
    · exact Or.inr ⟨t, by omega, h2⟩
theorem bu_i3 {t d : Nat} : 3 * nI t + nI d = nI (3 * t + d) := by
  rw [show (3 : Int32) = nI 3 from rfl, pk_mul, nI_add]
section
variable {nc nt ns mn n na f ws vs en pc tc dc : Int32} {rs : Int64} {cp cf mt op tk tp fp sk oc bt ba rd ac af fa fw fv wt wd pr mc : Nat → Int32} {of sl wv : Nat → Int64}
theorem bu_xl (post : Int32 → SX → Prop) {p t b : Nat} (hp3 : p ≤ 3) (ht : t < 100) (hb : b + p ≤ 8) (hb8 : b < 8) (hp : post (nI (b + 1)) (nc, nt, nI (b + 1), mn, n, na, f, ws, vs, en, rs, pc, tc, dc, cp, cf, mt, op, tk, bu_n tp sk (3 * t) b p, fp, upd sk b (nI t), oc, of, bt, ba, rd, sl, ac, af, fa, fw, fv, wt, wd, wv, pr, mc)) : ∀ e k : Nat, k + e = p → wX_build_57 post (nI p) (nI t) nc nt (nI b) mn n na f ws vs en rs pc tc dc (e + 1) (nI k) cp cf mt op tk (bu_n tp sk (3 * t) b k) fp sk oc of bt ba rd sl ac af fa fw fv wt wd wv pr mc := by
  intro e
  induction e with
  | zero =>
    intro k h
    have : k = p := by omega
    subst this
    exact br_t (nI_le (Nat.le_refl _) (by omega)) (And.intro (vp_in_nI hb8 (by decide)) (nm_r (e' := upd sk b (nI t)) (by rw [nI_clamp (by omega)]) (nm_r (nI_1 b) hp)))
  | succ e ih =>
    intro k h
    exact br_f (nI_ge (b := p) (by omega) (by omega)) (And.intro (by rw [nI_add]; exact vp_in_nI (by omega) (by decide)) (And.intro (by rw [ax_ix3]; exact vp_in_nI (by omega) (by decide)) (nm_r (e' := bu_n tp sk (3 * t) b (k + 1)) (by rw [ax_ix3, nI_add, nI_clamp (by omega), nI_clamp (by omega)]; rfl) (nm_r (nI_1 k) (ih (k + 1) (by omega))))))
theorem bu_x (post : Int32 → SX → Prop) {p t b q : Nat} {o x : Int32} (hp3 : p ≤ 3) (ht : t < 100) (hb : b + p ≤ 8) (hb8 : b < 8) (hF : ∀ Q : Int32 → Prop, Q (nI q) → wpX_firstParts Q o (nI p)) (hp : post (nI (b + 1)) (nc, nI (t + 1), nI (b + 1), mn, n, na, f, ws, vs, en, rs, pc, tc, dc, cp, cf, mt, upd op t o, upd tk t x, bu_n tp sk (3 * t) b p, upd fp t (nI q), upd sk b (nI t), oc, of, bt, ba, rd, sl, ac, af, fa, fw, fv, wt, wd, wv, pr, mc)) : wpX_build post (nc, nI t, nI (b + p), mn, n, na, f, ws, vs, en, rs, pc, tc, dc, cp, cf, mt, op, tk, tp, fp, sk, oc, of, bt, ba, rd, sl, ac, af, fa, fw, fv, wt, wd, wv, pr, mc) o x (nI p) :=
  nm_r (nI_1 t) (And.intro (vp_in_nI ht (by decide)) (nm_r (e' := upd op t o) (by rw [nI_clamp (by omega)]) (And.intro (vp_in_nI ht (by decide)) (nm_r (e' := upd tk t x) (by rw [nI_clamp (by omega)]) (hF _ (And.intro (vp_in_nI ht (by decide)) (nm_r (e' := upd fp t (nI q)) (by rw [nI_clamp (by omega)]) (nm_r (e' := nI b) (by rw [pk_sub (by omega)]; exact congrArg nI (by omega)) (Exists.intro (p + 1) (bu_xl post hp3 ht hb hb8 hp p 0 (by omega)))))))))))
end
theorem bu_fp {k : Nat} (h : pg_v k) (Q : Int32 → Prop) (hQ : Q (nI (pg_fp k))) : wpX_firstParts Q (nI (pg_op k)) (nI (k / 10)) := by
  have k31 : k < 32 := by unfold pg_v at h; omega
  have o : ∀ k, k < 32 → (pg_op k = 10 ↔ k = 13) ∧ (pg_op k = 23 ↔ k = 30) ∧ (pg_op k = 21 ↔ k = 26) ∧ pg_op k < 40 := by
    decide +kernel
  obtain ⟨a, b, c, d⟩ := o k k31
  by_cases e1 : k = 13
  · subst e1
    exact br_t rfl hQ
  · by_cases e2 : k = 30
    · subst e2
      exact br_f (by decide) (br_t rfl hQ)
    · by_cases e3 : k = 26
      · subst e3
        exact br_f (by decide) (br_f (by decide) (br_t rfl hQ))
      · rw [show pg_fp k = k / 10 by unfold pg_fp; rw [if_neg e1, if_neg (by omega)]] at hQ
        have N : ∀ j, j < 40 → pg_op k ≠ j → ¬ nI (pg_op k) = nI j := fun j hj z e => z ((nI_eq (by omega) (by omega)).mp e)
        exact br_f (N 10 (by omega) (fun z => e1 (a.mp z))) (br_f (N 23 (by omega) (fun z => e2 (b.mp z))) (br_f (N 21 (by omega) (fun z => e3 (c.mp z))) hQ))
section
variable {yc yt ys ym no nb ya yw yv yu yo yk yp ye : Int32} {ycp ycf ymt kd ytk ytp ysk yoc ybt ybp ow ed wa yh ypr mo mb : Nat → Int32} {yof sv vr vl : Nat → Int64}
theorem bu_yl (post : Int32 → SY → Prop) {p t b : Nat} {kk x : Int32} (hp3 : p ≤ 3) (ht : t < 100) (hb : b + p ≤ 8) (hb8 : b < 8) (hp : post (nI (b + 1)) (yc, nI (t + 1), nI (b + 1), ym, no, nb, ya, yw, yv, yu, yo, yk, yp, ye, ycp, ycf, ymt, upd kd t kk, upd ytk t x, bu_n ytp ysk (3 * t) b p, upd ysk b (nI t), yoc, yof, ybt, ybp, sv, vr, ow, ed, wa, yh, vl, ypr, mo, mb)) : ∀ e k : Nat, k + e = p → wY_note_13 post kk x (nI p) yc (nI t) (nI b) ym no nb ya yw yv yu yo yk yp ye (e + 1) (nI k) ycp ycf ymt kd ytk (bu_n ytp ysk (3 * t) b k) ysk yoc yof ybt ybp sv vr ow ed wa yh vl ypr mo mb := by
  intro e
  induction e with
  | zero =>
    intro k h
    have : k = p := by omega
    subst this
    exact br_t (nI_le (Nat.le_refl _) (by omega)) (And.intro (vp_in_nI ht (by decide)) (nm_r (e' := upd kd t kk) (by rw [nI_clamp (by omega)]) (And.intro (vp_in_nI ht (by decide)) (nm_r (e' := upd ytk t x) (by rw [nI_clamp (by omega)]) (And.intro (vp_in_nI hb8 (by decide)) (nm_r (e' := upd ysk b (nI t)) (by rw [nI_clamp (by omega)]) (nm_r (nI_1 t) (nm_r (nI_1 b) hp))))))))
  | succ e ih =>
    intro k h
    exact br_f (nI_ge (b := p) (by omega) (by omega)) (And.intro (by rw [nI_add]; exact vp_in_nI (by omega) (by decide)) (And.intro (by rw [bu_i3]; exact vp_in_nI (by omega) (by decide)) (nm_r (e' := bu_n ytp ysk (3 * t) b (k + 1)) (by rw [bu_i3, nI_add, nI_clamp (by omega), nI_clamp (by omega)]; rfl) (nm_r (nI_1 k) (ih (k + 1) (by omega))))))
theorem bu_y (post : Int32 → SY → Prop) {p t b : Nat} {kk x : Int32} (hp3 : p ≤ 3) (ht : t < 100) (hb : b + p ≤ 8) (hb8 : b < 8) (hp : post (nI (b + 1)) (yc, nI (t + 1), nI (b + 1), ym, no, nb, ya, yw, yv, yu, yo, yk, yp, ye, ycp, ycf, ymt, upd kd t kk, upd ytk t x, bu_n ytp ysk (3 * t) b p, upd ysk b (nI t), yoc, yof, ybt, ybp, sv, vr, ow, ed, wa, yh, vl, ypr, mo, mb)) : wpY_note post (yc, nI t, nI (b + p), ym, no, nb, ya, yw, yv, yu, yo, yk, yp, ye, ycp, ycf, ymt, kd, ytk, ytp, ysk, yoc, yof, ybt, ybp, sv, vr, ow, ed, wa, yh, vl, ypr, mo, mb) kk x (nI p) :=
  nm_r (e' := nI b) (by rw [pk_sub (by omega)]; exact congrArg nI (by omega)) (Exists.intro (p + 1) (bu_yl post hp3 ht hb hb8 hp p 0 (by omega)))
/-! what note's caller asks -/
theorem my_0 (post : Int32 → SY → Prop) {kk x p : Int32} (hp : post (-1) (yc, yt, ys, ym, no, nb, ya, yw, yv, yu, yo, yk, yp, ye, ycp, ycf, ymt, kd, ytk, ytp, ysk, yoc, yof, ybt, ybp, sv, vr, ow, ed, wa, yh, vl, ypr, mo, mb)) : wpY_make post (yc, yt, ys, ym, no, nb, ya, yw, yv, yu, yo, yk, yp, ye, ycp, ycf, ymt, kd, ytk, ytp, ysk, yoc, yof, ybt, ybp, sv, vr, ow, ed, wa, yh, vl, ypr, mo, mb) kk x p 0 :=
  br_t rfl hp
theorem my_n (post : Int32 → SY → Prop) {kk x p : Int32} (hp : post (-2) (yc, nI 100, ys, ym, no, nb, ya, yw, yv, yu, yo, yk, yp, ye, ycp, ycf, ymt, kd, ytk, ytp, ysk, yoc, yof, ybt, ybp, sv, vr, ow, ed, wa, yh, vl, ypr, mo, mb)) : wpY_make post (yc, nI 100, ys, ym, no, nb, ya, yw, yv, yu, yo, yk, yp, ye, ycp, ycf, ymt, kd, ytk, ytp, ysk, yoc, yof, ybt, ybp, sv, vr, ow, ed, wa, yh, vl, ypr, mo, mb) kk x p 1 :=
  br_f (by decide) (br_t rfl hp)
theorem my_s (post : Int32 → SY → Prop) {t : Nat} {kk x : Int32} (ht : t < 100) (hp : post (-2) (yc, nI t, nI 8, ym, no, nb, ya, yw, yv, yu, yo, yk, yp, ye, ycp, ycf, ymt, kd, ytk, ytp, ysk, yoc, yof, ybt, ybp, sv, vr, ow, ed, wa, yh, vl, ypr, mo, mb)) : wpY_make post (yc, nI t, nI 8, ym, no, nb, ya, yw, yv, yu, yo, yk, yp, ye, ycp, ycf, ymt, kd, ytk, ytp, ysk, yoc, yof, ybt, ybp, sv, vr, ow, ed, wa, yh, vl, ypr, mo, mb) kk x 0 1 :=
  br_f (by decide) (br_f (ay_nIne (b := 100) (by omega) (by omega) (by omega)) (br_t rfl (br_t rfl hp)))
theorem my_f (post : Int32 → SY → Prop) {t s p : Nat} {kk x : Int32} (ht : t < 100) (h0 : 1 ≤ p) (hp3 : p ≤ 3) (hs : s < p) (hp : post (-3) (yc, nI t, nI s, ym, no, nb, ya, yw, yv, yu, yo, yk, yp, ye, ycp, ycf, ymt, kd, ytk, ytp, ysk, yoc, yof, ybt, ybp, sv, vr, ow, ed, wa, yh, vl, ypr, mo, mb)) : wpY_make post (yc, nI t, nI s, ym, no, nb, ya, yw, yv, yu, yo, yk, yp, ye, ycp, ycf, ymt, kd, ytk, ytp, ysk, yoc, yof, ybt, ybp, sv, vr, ow, ed, wa, yh, vl, ypr, mo, mb) kk x (nI p) 1 :=
  br_f (by decide) (br_f (ay_nIne (b := 100) (by omega) (by omega) (by omega)) (br_f (nI_ne0 h0 (by omega)) (br_f (nI_ge hs (by omega)) hp)))
theorem my_g (post : Int32 → SY → Prop) {t b p : Nat} {kk x : Int32} (ht : t < 100) (hp3 : p ≤ 3) (hb : b + p ≤ 8) (hb8 : b < 8) (hp : post (nI (b + 1)) (yc, nI (t + 1), nI (b + 1), ym, no, nb, ya, yw, yv, yu, yo, yk, yp, ye, ycp, ycf, ymt, upd kd t kk, upd ytk t x, bu_n ytp ysk (3 * t) b p, upd ysk b (nI t), yoc, yof, ybt, ybp, sv, vr, ow, ed, wa, yh, vl, ypr, mo, mb)) : wpY_make post (yc, nI t, nI (b + p), ym, no, nb, ya, yw, yv, yu, yo, yk, yp, ye, ycp, ycf, ymt, kd, ytk, ytp, ysk, yoc, yof, ybt, ybp, sv, vr, ow, ed, wa, yh, vl, ypr, mo, mb) kk x (nI p) 1 := by
  have M : wY_make_32 post kk x (nI p) yc (nI t) (nI (b + p)) ym no nb ya yw yv yu yo yk yp ye ycp ycf ymt kd ytk ytp ysk yoc yof ybt ybp sv vr ow ed wa yh vl ypr mo mb := br_t (nI_le (by omega) (by omega)) (bu_y _ hp3 ht hb hb8 hp)
  by_cases z : p = 0
  · subst z
    exact br_f (by decide) (br_f (ay_nIne (b := 100) (by omega) (by omega) (by omega)) (br_t rfl (br_f (ay_nIne (b := 8) (by omega) (by omega) (by omega)) M)))
  · exact br_f (by decide) (br_f (ay_nIne (b := 100) (by omega) (by omega) (by omega)) (br_f (nI_ne0 (by omega) (by omega)) M))
end
