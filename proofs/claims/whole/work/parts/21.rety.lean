theorem ed_self (g : Nat → Int32) (a : Nat) : upd g a (g a) = g := by
  funext j
  unfold upd
  split
  · next h => rw [h]
  · rfl
section
variable {yc yt ys ym no nb ya yw yv yu yo yk yp ye : Int32} {ycp ycf ymt kd ytk ytp ysk yoc ybt ybp ow ed wa yh ypr mo mb : Nat → Int32} {yof sv vr vl : Nat → Int64}
variable {NC NT A : Nat} {R : Int64 → Int64 → Prop} {KN PN SZ : Nat → Nat} {fa fw fv wt wd : Nat → Int32} {wv : Nat → Int64} {b : Nat} {x : Int64} {cp cf mt op tk tp fp : Nat → Int32}
theorem ry_e (post : SY → Prop) {q a t s n : Nat} {x1 : Int32} (hq : q < 2200) (ha : a < 202) (ht : t < 100) (hs : s < 8) (h1 : wa q = nI (1024 * a + 8 * t + s)) (h01 : ed a = 0 ∨ ed a = 1) (hp : wY_leave_55 post x1 x yc yt ys ym no nb ya yv yo yk yp ye n 0 (nI q) yu ycp ycf ymt kd ytk ytp ysk yoc yof ybt ybp sv vr ow ed wa yh vl ypr mo mb) : wY_leave_55 post x1 x yc yt ys ym no nb ya yv yo yk yp ye (n + 1) 0 (nI (q + 1)) yu ycp ycf ymt kd ytk ytp ysk yoc yof ybt ybp sv vr ow ed wa yh vl ypr mo mb := by
  have D := ay_dec (show a < 1000 by omega) (show t < 128 by omega) hs
  have n127 : ¬ nI t = 127 := ay_nIne (b := 127) (by omega) (by omega) (by omega)
  refine br_t rfl (nm_r (nI_pred q) (And.intro (vp_in_nI hq (by decide)) (And.intro (by decide) (And.intro (by decide) (nm_r (e' := nI t) (by rw [nI_clamp (by omega), h1]; exact D.2.1) (And.intro (vp_in_nI hq (by decide)) (And.intro (by decide) (nm_r (e' := nI a) (by rw [nI_clamp (by omega), h1]; exact D.2.2) (br_t (nI_le (b := 125) (by omega) (by decide)) (And.intro (vp_in_nI ha (by decide)) ?_))))))))))
  rcases h01 with z | z
  · exact br_t (by rw [nI_clamp (by omega)]; exact z) (br_f n127 (And.intro (vp_in_nI ha (by decide)) (nm_r (e' := ed) (by rw [nI_clamp (by omega), ay_n0, ← z]; exact ed_self ed a) (br_f n127 hp))))
  · exact br_f (by rw [nI_clamp (by omega), z]; decide) (And.intro (vp_in_nI ha (by decide)) (nm_r (e' := ed) (by rw [nI_clamp (by omega), ay_n1, ← z]; exact ed_self ed a) (br_f n127 hp)))
theorem ry_m (post : SY → Prop) {q a m g n : Nat} {x1 y z4 : Int32} (hq : q < 2200) (ha : a < 202) (hm : m ≤ 1) (h1 : wa q = nI (1024 * a + 8 * (126 + m) + 0)) (h01 : ed a = 0 ∨ ed a = 1) (hy : (m = 1 ∧ y = 1) ∨ (m = 0 ∧ y = ed a)) (hz : (m = 1 ∧ nI a = x1 ∧ z4 = 1) ∨ (¬ (m = 1 ∧ nI a = x1) ∧ z4 = 0)) (hp : wY_leave_55 post x1 x yc yt ys ym no nb ya yv yo yk yp ye n z4 (nI q) (nI g) ycp ycf ymt kd ytk ytp ysk yoc yof ybt ybp sv vr ow (upd ed a y) wa yh vl ypr mo mb) : wY_leave_55 post x1 x yc yt ys ym no nb ya yv yo yk yp ye (n + 1) 0 (nI (q + 1)) (nI (g + 1)) ycp ycf ymt kd ytk ytp ysk yoc yof ybt ybp sv vr ow ed wa yh vl ypr mo mb := by
  have D := ay_dec (show a < 1000 by omega) (show 126 + m < 128 by omega) (show 0 < 8 by omega)
  refine br_t rfl (nm_r (nI_pred q) (And.intro (vp_in_nI hq (by decide)) (And.intro (by decide) (And.intro (by decide) (nm_r (e' := nI (126 + m)) (by rw [nI_clamp (by omega), h1]; exact D.2.1) (And.intro (vp_in_nI hq (by decide)) (And.intro (by decide) (nm_r (e' := nI a) (by rw [nI_clamp (by omega), h1]; exact D.2.2) (br_f (nI_ge (a := 125) (by omega) (by omega)) ?_)))))))))
  rw [nI_pred]
  refine And.intro (vp_in_nI ha (by decide)) ?_
  have fin : ∀ w : Int32, vp_nar .boolean w = y → wY_leave_155 post (wY_leave_55 post x1 x yc yt ys ym no nb ya yv yo yk yp ye n) x1 x (nI (126 + m)) (nI a) w (nI a) yc yt ys ym no nb ya (nI q) yv (nI g) yo yk yp ye ycp ycf ymt kd ytk ytp ysk yoc yof ybt ybp sv vr ow ed wa yh vl ypr mo mb := by
    intro w hw
    refine And.intro (vp_in_nI ha (by decide)) (nm_r (e' := upd ed a y) (by rw [nI_clamp (by omega), hw]) ?_)
    rcases hz with ⟨rfl, e, rfl⟩ | ⟨e, rfl⟩
    · exact br_t rfl (br_t e hp)
    · by_cases k : m = 1
      · subst k
        exact br_t rfl (br_f (fun z => e ⟨rfl, z⟩) hp)
      · have : m = 0 := by omega
        subst this
        exact br_f (by decide) hp
  rcases h01 with z | z
  · refine br_t (by rw [nI_clamp (by omega)]; exact z) ?_
    rcases hy with ⟨rfl, rfl⟩ | ⟨rfl, rfl⟩
    · exact br_t rfl (fin 1 ay_n1)
    · exact br_f (by decide) (fin 0 (by rw [ay_n0, z]))
  · refine br_f (by rw [nI_clamp (by omega), z]; decide) ?_
    rcases hy with ⟨rfl, rfl⟩ | ⟨rfl, rfl⟩
    · exact fin 1 ay_n1
    · exact fin 1 (by rw [ay_n1, z])
theorem ry_x (post : SY → Prop) {q h n : Nat} (hq : q < 2200) (hb : b < 202) (hh : h < 2200) (h1 : yh q = nI h) (hp : post (yc, yt, ys, ym, no, nb, ya, nI q, nI (h + 1), yu, yo, yk, yp, ye, ycp, ycf, ymt, kd, ytk, ytp, ysk, yoc, yof, ybt, ybp, sv, vr, ow, upd ed b 1, wa, yh, vp_updL vl h x, ypr, mo, mb)) : wY_leave_55 post (nI b) x yc yt ys ym no nb ya yv yo yk yp ye (n + 1) 1 (nI q) yu ycp ycf ymt kd ytk ytp ysk yoc yof ybt ybp sv vr ow ed wa yh vl ypr mo mb :=
  br_f (by decide) (And.intro (vp_in_nI hb (by decide)) (nm_r (e' := upd ed b 1) (by rw [nI_clamp (by omega), ay_n1]) (And.intro (vp_in_nI hq (by decide)) (nm_r (e' := nI h) (by rw [nI_clamp (by omega)]; exact h1) (ay_hold _ hh hp)))))
theorem kl_dl {k : Nat} (h : pg_v k) : kl_d k ≤ 3 := by
  have := pg_fpl h
  unfold kl_d
  split <;> omega
theorem rt_y (P : pg_P NC NT cp cf mt op tk tp fp kd KN PN SZ) (hA : A ≤ 201) (hA1 : 1 ≤ A) (hb : b < A) : ∀ (K : List (Bool × Nat × Nat)), kl_S NT A R KN SZ fa fw fv wt wd wv wa yh vl K → ∀ ed : Nat → Int32, (∀ a, a < A → ed a = kl_ay K a) → 1 ≤ kl_L b K → kl_Q KN K ≤ 2200 → kl_Y KN K < 2200 → ∃ ed' : Nat → Int32, (∀ a, a < A → ed' a = kl_ay (kl_U b K) a) ∧ ∀ (post : SY → Prop) (m : Nat), kl_Q KN K + 1 < m → post (yc, yt, ys, ym, no, nb, ya, nI (kl_Q KN (kl_U b K)), nI (kl_Y KN (kl_U b K) + 1), nI (kl_F (kl_U b K)), yo, yk, yp, ye, ycp, ycf, ymt, kd, ytk, ytp, ysk, yoc, yof, ybt, ybp, sv, vr, ow, ed', wa, yh, vp_updL vl (kl_Y KN (kl_U b K)) x, ypr, mo, mb) → wY_leave_55 post (nI b) x yc yt ys ym no nb ya yv yo yk yp ye m 0 (nI (kl_Q KN K)) (nI (kl_F K)) ycp ycf ymt kd ytk ytp ysk yoc yof ybt ybp sv vr ow ed wa yh vl ypr mo mb
  | [], _, _, _, h, _, _ => absurd h (by show ¬ 1 ≤ 0; omega)
  | (true, t, d) :: K, S, ed, AF, h, hQ, hY => by
    obtain ⟨⟨s1, s2, s3, s4⟩, s5, s6, s7, s8, S⟩ := S
    have T := P.2.2.2 t s1
    have dl := kl_dl T.1
    have nt := P.2.1
    have aA := kl_Ab hA1 S
    have eQ : kl_Q KN ((true, t, d) :: K) = kl_Q KN K + kl_q (KN t) d := rfl
    have eY : kl_Y KN ((true, t, d) :: K) = kl_Y KN K + kl_ny (KN t) d := rfl
    obtain ⟨ed', A2, hx⟩ := rt_y P hA hA1 hb K S ed AF h (by omega) (by omega)
    refine ⟨ed', A2, fun post m hm hp => ?_⟩
    by_cases z : KN t = 25 ∧ d = 2
    · have q0 : kl_q (KN t) d = 0 := if_pos z
      rw [eQ, q0] at hm ⊢
      exact hx post m hm hp
    · have q1 : kl_q (KN t) d = 1 := if_neg z
      rw [eQ, q1] at hm ⊢
      rw [eQ, q1] at hQ
      obtain ⟨m, rfl⟩ : ∃ k', m = k' + 1 := ⟨m - 1, by omega⟩
      exact ry_e post (by omega) (by omega) (by omega) (by omega) (s7 z) (by rw [AF _ aA]; exact kl_ed _) (hx post m (by omega) hp)
  | (false, a, m) :: K, S, ed, AF, h, hQ, hY => by
    have hF := kl_Fb S
    obtain ⟨⟨s1, s2, s3, s4, s5⟩, s6, s7, s8, s9, s10, S⟩ := S
    have eQ : kl_Q KN ((false, a, m) :: K) = kl_Q KN K + 1 := rfl
    have eF : kl_F ((false, a, m) :: K) = kl_F K + 1 := rfl
    have eY : kl_Y KN ((false, a, m) :: K) = kl_Y KN K := rfl
    rw [eQ] at hQ ⊢
    rw [eY] at hY
    rw [eF]
    have f1 := AF a s1
    have e01 : ed a = 0 ∨ ed a = 1 := by rw [f1]; exact kl_ed _
    by_cases e : a = b ∧ m = 1
    · obtain ⟨rfl, rfl⟩ := e
      obtain ⟨a1, l0⟩ := s3 rfl
      rw [kl_Uf]
      refine ⟨upd (upd ed a 1) a 1, ?_, fun post k hk hp => ?_⟩
      · intro a' ha'
        by_cases e : a' = a
        · subst e
          rw [pk_us]
          exact (kl_a0 a1 l0).2.symm
        · rw [pk_un e, pk_un e]
          exact (AF a' ha').trans (kl_ae (kl_Ln (a := a) (b := a') (m := 1) (Or.inl (fun z => e z.symm)) K)).2
      · obtain ⟨k, rfl⟩ : ∃ k', k = k' + 2 := ⟨k - 2, by omega⟩
        exact ry_m post (by omega) (by omega) s2 s9 e01 (Or.inl ⟨rfl, rfl⟩) (Or.inl ⟨rfl, rfl, rfl⟩) (ry_x post (by omega) (by omega) hY s10 hp)
    · have e' : a ≠ b ∨ m ≠ 1 := by omega
      rw [kl_Ln e'] at h
      rw [kl_Un e']
      have hz : ¬ (m = 1 ∧ nI a = nI b) := fun z => e ⟨(nI_eq (by omega) (by omega)).mp z.2, z.1⟩
      by_cases hm1 : m = 1
      · subst hm1
        obtain ⟨a1, l0⟩ := s3 rfl
        obtain ⟨ed', A2, hx⟩ := rt_y P hA hA1 hb K S (upd ed a 1) (by
          intro a' ha'
          by_cases e : a' = a
          · subst e
            rw [pk_us]
            exact (kl_a0 a1 l0).2.symm
          · rw [pk_un e]
            exact (AF a' ha').trans (kl_ae (kl_Ln (a := a) (b := a') (m := 1) (Or.inl (fun z => e z.symm)) K)).2) h (by omega) hY
        refine ⟨ed', A2, fun post k hk hp => ?_⟩
        obtain ⟨k, rfl⟩ : ∃ k', k = k' + 1 := ⟨k - 1, by omega⟩
        exact ry_m post (by omega) (by omega) s2 s9 e01 (Or.inl ⟨rfl, rfl⟩) (Or.inr ⟨hz, rfl⟩) (hx post k (by omega) hp)
      · have hm0 : m = 0 := by omega
        subst hm0
        obtain ⟨ed', A2, hx⟩ := rt_y P hA hA1 hb K S ed (fun a' ha' => (AF a' ha').trans (kl_ae (kl_Ln (a := a) (b := a') (m := 0) (Or.inr (by omega)) K)).2) h (by omega) hY
        refine ⟨ed', A2, fun post k hk hp => ?_⟩
        obtain ⟨k, rfl⟩ : ∃ k', k = k' + 1 := ⟨k - 1, by omega⟩
        exact ry_m post (by omega) (by omega) s2 s9 e01 (Or.inr ⟨rfl, rfl⟩) (Or.inr ⟨hz, rfl⟩) (by rw [ed_self]; exact hx post k (by omega) hp)
theorem ry_0 (post : SY → Prop) {q : Nat} (hq : q < 2200) (hp : post (yc, yt, ys, ym, no, nb, ya, yw, nI q, yu, yo, yk, yp, 0, ycp, ycf, ymt, kd, ytk, ytp, ysk, yoc, yof, ybt, ybp, sv, vr, ow, ed, wa, yh, vp_updL vl 0 (vl q), ypr, mo, mb)) : wpY_leave post (yc, yt, ys, ym, no, nb, ya, yw, nI (q + 1), yu, yo, yk, yp, ye, ycp, ycf, ymt, kd, ytk, ytp, ysk, yoc, yof, ybt, ybp, sv, vr, ow, ed, wa, yh, vl, ypr, mo, mb) (nI 0) :=
  nm_r (nI_pred q) (And.intro (vp_in_nI hq (by decide)) (nm_r (e' := vl q) (by rw [nI_clamp (by omega)]) (br_t rfl (nm_e hp))))
theorem ry_s (post : SY → Prop) {q a : Nat} (hq : q < 2200) (ha : a < 202) (h0 : 1 ≤ a) (h1 : ed a = 1) (hp : post (yc, yt, ys, ym, no, nb, ya, yw, nI q, yu, yo, yk, yp, 1, ycp, ycf, ymt, kd, ytk, ytp, ysk, yoc, yof, ybt, ybp, sv, vr, ow, ed, wa, yh, vl, ypr, mo, mb)) : wpY_leave post (yc, yt, ys, ym, no, nb, ya, yw, nI (q + 1), yu, yo, yk, yp, ye, ycp, ycf, ymt, kd, ytk, ytp, ysk, yoc, yof, ybt, ybp, sv, vr, ow, ed, wa, yh, vl, ypr, mo, mb) (nI a) :=
  nm_r (nI_pred q) (And.intro (vp_in_nI hq (by decide)) (nm_r (e' := vl q) (by rw [nI_clamp (by omega)]) (br_f (nI_ne0 (by omega) (by omega)) (And.intro (vp_in_nI ha (by decide)) (br_f (by rw [nI_clamp (by omega), h1]; decide) hp)))))
theorem ry_f (post : SY → Prop) {q a m : Nat} (hq : q < 2200) (ha : a < 202) (h0 : 1 ≤ a) (h1 : ed a = 0) (hp : wY_leave_55 post (nI a) (vl q) yc yt ys ym no nb ya (nI q) yo yk yp ye m 0 yw yu ycp ycf ymt kd ytk ytp ysk yoc yof ybt ybp sv vr ow ed wa yh vl ypr mo mb) : wpY_leave post (yc, yt, ys, ym, no, nb, ya, yw, nI (q + 1), yu, yo, yk, yp, ye, ycp, ycf, ymt, kd, ytk, ytp, ysk, yoc, yof, ybt, ybp, sv, vr, ow, ed, wa, yh, vl, ypr, mo, mb) (nI a) :=
  nm_r (nI_pred q) (And.intro (vp_in_nI hq (by decide)) (nm_r (e' := vl q) (by rw [nI_clamp (by omega)]) (br_f (nI_ne0 (by omega) (by omega)) (And.intro (vp_in_nI ha (by decide)) (br_t (by rw [nI_clamp (by omega), h1]) (Exists.intro m hp))))))
end
