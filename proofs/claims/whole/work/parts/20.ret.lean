/-! a method is left from within -/
def kl_U (b : Nat) : List (Bool × Nat × Nat) → List (Bool × Nat × Nat)
  | [] => []
  | (true, _, _) :: K => kl_U b K
  | (false, a, m) :: K => if a = b ∧ m = 1 then K else kl_U b K
theorem kl_Uf (a : Nat) (K : List (Bool × Nat × Nat)) : kl_U a ((false, a, 1) :: K) = K := if_pos ⟨rfl, rfl⟩
theorem kl_Un {a b m : Nat} (h : a ≠ b ∨ m ≠ 1) (K : List (Bool × Nat × Nat)) : kl_U b ((false, a, m) :: K) = kl_U b K := if_neg (by omega)
section
variable {nt na : Nat} {R : Int64 → Int64 → Prop} {KN PN SZ : Nat → Nat} {fa fw fv wt wd : Nat → Int32} {wv : Nat → Int64} {wa hs : Nat → Int32} {vl : Nat → Int64} {b : Nat}
theorem kl_SU : ∀ {K : List (Bool × Nat × Nat)}, kl_S nt na R KN SZ fa fw fv wt wd wv wa hs vl K → 1 ≤ kl_L b K → kl_S nt na R KN SZ fa fw fv wt wd wv wa hs vl (kl_U b K) ∧ kl_F (kl_U b K) + 1 = kl_L b K ∧ fw (kl_L b K) = nI (kl_W (kl_U b K)) ∧ fv (kl_L b K) = nI (kl_X KN (kl_U b K)) ∧ kl_C KN PN SZ (kl_U b K) ≤ kl_C KN PN SZ K ∧ kl_X KN (kl_U b K) ≤ kl_X KN K ∧ kl_Y KN (kl_U b K) ≤ kl_Y KN K ∧ kl_Q KN (kl_U b K) ≤ kl_Q KN K
  | [], _, h => absurd h (by show ¬ 1 ≤ 0; omega)
  | (true, t, d) :: K, S, h => by
    obtain ⟨h1, h2, h3, h4, h5, h6, h7, h8⟩ := kl_SU (K := K) S.2.2.2.2.2 h
    refine ⟨h1, h2, h3, h4, ?_, ?_, ?_, ?_⟩
    · exact Nat.le_trans h5 (Nat.le_add_right _ _)
    · exact Nat.le_trans h6 (Nat.le_add_right _ _)
    · exact Nat.le_trans h7 (Nat.le_add_right _ _)
    · exact Nat.le_trans h8 (Nat.le_add_right _ _)
  | (false, a, m) :: K, S, h => by
    by_cases e : a = b ∧ m = 1
    · obtain ⟨rfl, rfl⟩ := e
      rw [kl_Lf, kl_Uf]
      exact ⟨S.2.2.2.2.2.2, rfl, S.2.2.1, S.2.2.2.1, Nat.le_succ _, Nat.le_refl _, Nat.le_refl _, Nat.le_succ _⟩
    · have e' : a ≠ b ∨ m ≠ 1 := by omega
      rw [kl_Ln e'] at h ⊢
      rw [kl_Un e']
      obtain ⟨h1, h2, h3, h4, h5, h6, h7, h8⟩ := kl_SU (K := K) S.2.2.2.2.2.2 h
      exact ⟨h1, h2, h3, h4, Nat.le_trans h5 (Nat.le_succ _), h6, h7, Nat.le_trans h8 (Nat.le_succ _)⟩
theorem kl_ed {K : List (Bool × Nat × Nat)} (a : Nat) : kl_ay K a = 0 ∨ kl_ay K a = 1 := by
  unfold kl_ay
  split
  · exact Or.inl rfl
  · split
    · exact Or.inr rfl
    · exact Or.inl rfl
end
section
variable {nc nt ns mn n na f ws vs en pc tc dc : Int32} {rs : Int64} {cp cf mt op tk tp fp sk oc bt ba rd ac af fa fw fv wt wd pr mc : Nat → Int32} {of sl wv : Nat → Int64}
variable {NT A : Nat} {R : Int64 → Int64 → Prop} {KN SZ : Nat → Nat} {wv0 : Nat → Int64} {wa yh : Nat → Int32} {vl : Nat → Int64} {b : Nat}
theorem rt_x (hA : A ≤ 201) : ∀ (K : List (Bool × Nat × Nat)), kl_S NT A R KN SZ fa fw fv wt wd wv0 wa yh vl K → ∀ af : Nat → Int32, (∀ a, a < A → af a = kl_ax K a) → 1 ≤ kl_L b K → ∃ af' : Nat → Int32, (∀ a, a < A → af' a = kl_ax (kl_U b K) a) ∧ ∀ (post : SX → Prop) (m : Nat), kl_F K + 1 < m → post (nc, nt, ns, mn, n, na, nI (kl_F (kl_U b K)), ws, vs, en, rs, pc, tc, dc, cp, cf, mt, op, tk, tp, fp, sk, oc, of, bt, ba, rd, sl, ac, af', fa, fw, fv, wt, wd, wv, pr, mc) → wX_finishReturn_62 post (nI (kl_L b K)) m (nI (kl_F K)) nc nt ns mn n na (nI (kl_F K)) ws vs en rs pc tc dc cp cf mt op tk tp fp sk oc of bt ba rd sl ac af fa fw fv wt wd wv pr mc
  | [], _, _, _, h => absurd h (by show ¬ 1 ≤ 0; omega)
  | (true, t, d) :: K, S, af, AF, h => rt_x hA K S.2.2.2.2.2 af AF h
  | (false, a, m) :: K, S, af, AF, h => by
    have hF := kl_Fb S
    obtain ⟨⟨s1, s2, s3, s4, s5⟩, s6, s7, s8, s9, s10, S⟩ := S
    have hF' : kl_F ((false, a, m) :: K) = kl_F K + 1 := rfl
    have lb := kl_Lb b ((false, a, m) :: K)
    rw [hF'] at lb hF ⊢
    have nl : ¬ nI (kl_F K + 1) < nI (kl_L b ((false, a, m) :: K)) := nI_nlt (by omega) (by omega)
    have stop : ∀ af' : Nat → Int32, (∀ a', a' < A → af' a' = kl_ax K a') → (∀ Q : SX → Prop, Q (nc, nt, ns, mn, n, na, nI (kl_F K), ws, vs, en, rs, pc, tc, dc, cp, cf, mt, op, tk, tp, fp, sk, oc, of, bt, ba, rd, sl, ac, af', fa, fw, fv, wt, wd, wv, pr, mc) → wpX_leave Q (nc, nt, ns, mn, n, na, nI (kl_F K + 1), ws, vs, en, rs, pc, tc, dc, cp, cf, mt, op, tk, tp, fp, sk, oc, of, bt, ba, rd, sl, ac, af, fa, fw, fv, wt, wd, wv, pr, mc)) → ∃ af'' : Nat → Int32, (∀ a', a' < A → af'' a' = kl_ax (kl_U b ((false, a, m) :: K)) a') ∧ ∀ (post : SX → Prop) (k : Nat), kl_F K + 1 + 1 < k → post (nc, nt, ns, mn, n, na, nI (kl_F (kl_U b ((false, a, m) :: K))), ws, vs, en, rs, pc, tc, dc, cp, cf, mt, op, tk, tp, fp, sk, oc, of, bt, ba, rd, sl, ac, af'', fa, fw, fv, wt, wd, wv, pr, mc) → wX_finishReturn_62 post (nI (kl_L b ((false, a, m) :: K))) k (nI (kl_F K + 1)) nc nt ns mn n na (nI (kl_F K + 1)) ws vs en rs pc tc dc cp cf mt op tk tp fp sk oc of bt ba rd sl ac af fa fw fv wt wd wv pr mc := by
      intro af' AF' hl
      by_cases e : a = b ∧ m = 1
      · obtain ⟨rfl, rfl⟩ := e
        rw [kl_Lf, kl_Uf]
        rw [kl_Lf] at nl
        refine ⟨af', AF', fun post k hk hp => ?_⟩
        obtain ⟨k, rfl⟩ : ∃ k', k = k' + 2 := ⟨k - 2, by omega⟩
        exact br_f nl (hl _ (nm_r (pk_m1 (kl_F K)) (br_t (nI_lt (by omega) (by omega)) hp)))
      · have e' : a ≠ b ∨ m ≠ 1 := by omega
        rw [kl_Ln e'] at h nl ⊢
        rw [kl_Un e']
        obtain ⟨af'', A2, hx⟩ := rt_x hA K S af' AF' h
        refine ⟨af'', A2, fun post k hk hp => ?_⟩
        obtain ⟨k, rfl⟩ : ∃ k', k = k' + 1 := ⟨k - 1, by omega⟩
        exact br_f nl (hl _ (nm_r (pk_m1 (kl_F K)) (hx post k (by omega) hp)))
    have fa1 := AF a s1
    by_cases hm1 : m = 1
    · subst hm1
      obtain ⟨a1, l0⟩ := s3 rfl
      have g1 : af a = nI (kl_F K + 1) := by
        rw [fa1]
        exact (kl_a1 a1 (kl_Lf a K)).1
      refine stop (upd af a (-1)) ?_ (fun Q hQ => ax_leave_m Q s5 (by omega) s6 g1 hQ)
      intro a' ha'
      by_cases e : a' = a
      · subst e
        rw [pk_us]
        exact (kl_a0 a1 l0).1.symm
      · rw [pk_un e]
        exact (AF a' ha').trans (kl_ae (kl_Ln (a := a) (b := a') (m := 1) (Or.inl (fun z => e z.symm)) K)).1
    · have hm0 : m = 0 := by omega
      subst hm0
      have Lb : ∀ a', kl_L a' ((false, a, 0) :: K) = kl_L a' K := fun a' => kl_Ln (Or.inr (by omega)) K
      have g1 : ¬ af a = nI (kl_F K + 1) := by
        rw [fa1]
        unfold kl_ax
        rw [Lb]
        have lb := kl_Lb a K
        split
        · exact fun z => by rw [show (0 : Int32) = nI 0 from rfl, nI_eq (by omega) (by omega)] at z; omega
        · split
          · exact fun z => ax_nIm1 (n := kl_F K + 1) (by omega) z.symm
          · exact fun z => by rw [nI_eq (by omega) (by omega)] at z; omega
      exact stop af (fun a' ha' => (AF a' ha').trans (kl_ae (Lb a')).1) (fun Q hQ => ax_leave_b Q s5 (by omega) s6 g1 hQ)
theorem rt_x0 (hA : A ≤ 201) {q : Nat} (hq : q < 2100) : ∀ (K : List (Bool × Nat × Nat)), kl_S NT A R KN SZ fa fw fv wt wd wv0 wa yh vl K → ∀ af : Nat → Int32, ∃ af' : Nat → Int32, ∀ (post : SX → Prop) (m : Nat), kl_F K + 1 < m → post (nc, nt, ns, mn, n, na, nI 0, ws, nI q, 0, wv q, pc, tc, dc, cp, cf, mt, op, tk, tp, fp, sk, oc, of, bt, ba, rd, sl, ac, af', fa, fw, fv, wt, wd, wv, pr, mc) → wX_finishReturn_62 post (nI 0) m (nI (kl_F K)) nc nt ns mn n na (nI (kl_F K)) ws (nI (q + 1)) en rs pc tc dc cp cf mt op tk tp fp sk oc of bt ba rd sl ac af fa fw fv wt wd wv pr mc
  | [], _, af => ⟨af, fun post m hm hp => by
    obtain ⟨m, rfl⟩ : ∃ k', m = k' + 2 := ⟨m - 2, by omega⟩
    exact br_f (by decide) (ax_leave_0 _ hq (nm_r (e' := -1) (by decide) (br_t (by decide) hp)))⟩
  | (true, t, d) :: K, S, af => rt_x0 hA hq K S.2.2.2.2.2 af
  | (false, a, m) :: K, S, af => by
    have hF := kl_Fb S
    obtain ⟨⟨s1, s2, s3, s4, s5⟩, s6, s7, s8, s9, s10, S⟩ := S
    have hF' : kl_F ((false, a, m) :: K) = kl_F K + 1 := rfl
    rw [hF'] at hF ⊢
    have nl : ¬ nI (kl_F K + 1) < nI 0 := nI_nlt (by omega) (by omega)
    by_cases g1 : af a = nI (kl_F K + 1)
    · obtain ⟨af', hx⟩ := rt_x0 hA hq K S (upd af a (-1))
      refine ⟨af', fun post k hk hp => ?_⟩
      obtain ⟨k, rfl⟩ : ∃ k', k = k' + 1 := ⟨k - 1, by omega⟩
      exact br_f nl (ax_leave_m _ s5 (by omega) s6 g1 (nm_r (pk_m1 (kl_F K)) (hx post k (by omega) hp)))
    · obtain ⟨af', hx⟩ := rt_x0 hA hq K S af
      refine ⟨af', fun post k hk hp => ?_⟩
      obtain ⟨k, rfl⟩ : ∃ k', k = k' + 1 := ⟨k - 1, by omega⟩
      exact br_f nl (ax_leave_b _ s5 (by omega) s6 g1 (nm_r (pk_m1 (kl_F K)) (hx post k (by omega) hp)))
theorem rt_xs (post : SX → Prop) {g a q : Nat} (hq : q < 2100) (hg : g < 21) (ha : a < 201) (h1 : fa g = nI a) (h2 : af a = -1) (hp : post (nc, nt, ns, mn, n, na, nI g, ws, nI q, 1, rs, pc, tc, dc, cp, cf, mt, op, tk, tp, fp, sk, oc, of, bt, ba, rd, sl, ac, af, fa, fw, fv, wt, wd, wv, pr, mc)) : wpX_finishReturn post (nc, nt, ns, mn, n, na, nI g, ws, nI (q + 1), en, rs, pc, tc, dc, cp, cf, mt, op, tk, tp, fp, sk, oc, of, bt, ba, rd, sl, ac, af, fa, fw, fv, wt, wd, wv, pr, mc) := by
  unfold wpX_finishReturn
  exact ax_pop _ hq (And.intro (vp_in_nI hg (by decide)) (And.intro (by rw [nI_clamp (by omega), h1]; exact vp_in_nI ha (by decide)) (nm_r (e' := -1) (by rw [nI_clamp (n := g) (by omega), h1, nI_clamp (by omega), h2]) (br_t rfl hp))))
theorem rt_xf (post : SX → Prop) {g a q k w v m : Nat} (hq : q < 2100) (hg : g < 21) (ha : a < 201) (hk : k < 21) (hv : v < 2100) (h1 : fa g = nI a) (h2 : af a = nI k) (h3 : fw k = nI w) (h4 : fv k = nI v) (hp : wX_finishReturn_62 post (nI k) m (nI g) nc nt ns mn n na (nI g) (nI w) (nI (v + 1)) en rs pc tc dc cp cf mt op tk tp fp sk oc of bt ba rd sl ac af fa fw fv wt wd (vp_updL wv v (wv q)) pr mc) : wpX_finishReturn post (nc, nt, ns, mn, n, na, nI g, ws, nI (q + 1), en, rs, pc, tc, dc, cp, cf, mt, op, tk, tp, fp, sk, oc, of, bt, ba, rd, sl, ac, af, fa, fw, fv, wt, wd, wv, pr, mc) := by
  unfold wpX_finishReturn
  exact ax_pop _ hq (And.intro (vp_in_nI hg (by decide)) (And.intro (by rw [nI_clamp (by omega), h1]; exact vp_in_nI ha (by decide)) (nm_r (e' := nI k) (by rw [nI_clamp (n := g) (by omega), h1, nI_clamp (by omega), h2]) (br_f (ax_nIm1 (by omega)) (And.intro (vp_in_nI hk (by decide)) (nm_r (e' := nI w) (by rw [nI_clamp (by omega)]; exact h3) (And.intro (vp_in_nI hk (by decide)) (nm_r (e' := nI v) (by rw [nI_clamp (by omega)]; exact h4) (ax_push _ hv (Exists.intro m hp))))))))))
end
