/-! a new thing -/
def cu_a (ob : Nat → Bool) (N : Nat) (b : Bool) : Nat → Bool := fun s => if s = N then b else ob s
theorem cu_an (ob : Nat → Bool) (N : Nat) (b : Bool) : cu_a ob N b N = b := if_pos rfl
theorem cu_al (ob : Nat → Bool) (N : Nat) (b : Bool) : ∀ t, t < N → cu_a ob N b t = ob t := fun t h => if_neg (by omega)
theorem cu_at (ob : Nat → Bool) (N : Nat) : cu_O (cu_a ob N true) (N + 1) = cu_O ob N + 1 := by
  rw [cu_st (cu_an ob N true), cu_cg (cu_al ob N true)]
theorem cu_af (ob : Nat → Bool) (N : Nat) : cu_O (cu_a ob N false) (N + 1) = cu_O ob N := by
  rw [cu_sf (cu_an ob N false), cu_cg (cu_al ob N false)]
theorem cu_at' (ob : Nat → Bool) (N : Nat) : N + 1 - cu_O (cu_a ob N true) (N + 1) = N - cu_O ob N := by
  have := cu_le ob N
  rw [cu_at]; omega
theorem cu_af' (ob : Nat → Bool) (N : Nat) : N + 1 - cu_O (cu_a ob N false) (N + 1) = N - cu_O ob N + 1 := by
  have := cu_le ob N
  rw [cu_af]; omega
theorem cu_agt (ob : Nat → Bool) (N : Nat) : cu_g (cu_a ob N true) N = cu_O ob N := by
  unfold cu_g
  rw [if_pos (cu_an ob N true), cu_cg (cu_al ob N true)]
theorem cu_agf (ob : Nat → Bool) (N : Nat) : cu_g (cu_a ob N false) N = N - cu_O ob N := by
  unfold cu_g
  rw [if_neg (by rw [cu_an]; exact Bool.noConfusion), cu_cg (cu_al ob N false)]
theorem cu_agl {ob : Nat → Bool} {N t : Nat} (b : Bool) (h : t < N) : cu_g (cu_a ob N b) t = cu_g ob t := cu_gcg (cu_al ob N b) h
theorem cu_aR {ob : Nat → Bool} {N : Nat} (b : Bool) {x y : Int64} (h : vb_R ob N x y) : vb_R (cu_a ob N b) (N + 1) x y := vB_mono (cu_al ob N b) (Nat.le_succ _) h
theorem cu_ncg {f g : Nat → Int32} {c : Nat} : ∀ {n : Nat}, (∀ i, i < n → f i = g i) → cu_n f c n = cu_n g c n
  | 0, _ => rfl
  | n + 1, h => by
    show cu_n f c n + (if f n = nI c then 1 else 0) = cu_n g c n + (if g n = nI c then 1 else 0)
    rw [h n (by omega), cu_ncg (fun i hi => h i (by omega))]
section
variable {NC NT : Nat} {ns mn : Int32} {cp cf mt op tk tp fp sk kd py : Nat → Int32} {KN PN SZ : Nat → Nat}
variable {N A T Pc D : Nat} {ob : Nat → Bool} {K : List (Bool × Nat × Nat)} {rs : Int64} {oc bt ba rd ac af fa fw fv wt wd pr mc : Nat → Int32} {of sl wv : Nat → Int64} {yoc ybt ybp ow ed wa yh mo mb : Nat → Int32} {yof sv vr vl : Nat → Int64}
theorem rl_new (r : (rl_R NC NT N A T Pc D ob K cp cf mt op tk tp fp kd KN PN SZ oc of bt ba sl ac af fa fw fv wt wd wv mc yoc yof ybt ybp sv vr ow ed wa yh vl)) (hT : T < 200) {c : Nat} (hc : c < NC) : (rl_R NC NT (N + 1) A (T + 1) Pc D (cu_a ob N true) K cp cf mt op tk tp fp kd KN PN SZ (upd oc N (nI c)) (ax_of4 of N) bt ba sl ac af fa fw fv wt wd wv (upd mc c (mc c + 1)) (upd yoc (cu_O ob N) (nI c)) (up_n yof (4 * cu_O ob N) (fun _ => vb_pk 1 0) 4) ybt ybp sv vr ow ed wa yh vl) := by
  obtain ⟨P, H, ⟨S, F0, AF⟩, B⟩ := r
  have nl : vb_R (cu_a ob N true) (N + 1) (vb_pk 1 0) (vb_pk 1 0) := Or.inl ⟨rfl, rfl⟩
  refine ⟨P, ⟨?_, ?_, ?_⟩, ⟨kl_cg (fun _ _ h => cu_aR true h) (Nat.le_refl _) (fun _ _ => ⟨rfl, rfl⟩) (fun _ _ _ => ⟨rfl, rfl, rfl⟩) (fun _ _ => rfl) (fun _ _ => ⟨rfl, rfl⟩) (fun _ _ => rfl) S, F0, AF⟩, ⟨⟨B.1.1, by have := B.1; omega, by omega⟩, B.2.1, ?_, ?_⟩⟩
  · intro t ht h0
    by_cases e : t = N
    · subst e
      rw [cu_agt, pk_us, pk_us]
      refine ⟨⟨c, hc, rfl, rfl⟩, fun k hk => ?_⟩
      unfold ax_of4
      rw [up_in hk, up_in hk]
      exact nl
    · have hl : t < N := by omega
      have h0' : ob t = true := by rw [← cu_al ob N true t hl]; exact h0
      have gl := cu_gt h0' hl
      obtain ⟨⟨c', hc', o1, o2⟩, of1⟩ := H.1 t hl h0'
      rw [cu_agl true hl, pk_un e, pk_un (by omega)]
      refine ⟨⟨c', hc', o1, o2⟩, fun k hk => ?_⟩
      unfold ax_of4
      rw [up_out (by omega), up_out (by omega)]
      exact cu_aR true (of1 k hk)
  · intro t ht h0
    have e : ¬ t = N := fun e => by subst e; rw [cu_an] at h0; exact absurd h0 (by decide)
    have hl : t < N := by omega
    have h0' : ob t = false := by rw [← cu_al ob N true t hl]; exact h0
    rw [cu_agl true hl]
    exact H.2.1 t hl h0'
  · intro a ha
    obtain ⟨h1, h2, h3⟩ := H.2.2 a ha
    exact ⟨cu_aR true h1, fun v hv => cu_aR true (h2 v hv), h3⟩
  · intro c' hc'
    rw [cu_at]
    show _ = nI (cu_n (upd yoc (cu_O ob N) (nI c)) c' (cu_O ob N) + (if upd yoc (cu_O ob N) (nI c) (cu_O ob N) = nI c' then 1 else 0))
    rw [cu_ncg (g := yoc) (fun i hi => pk_un (by omega)), pk_us]
    have m := B.2.2.1 c' hc'
    have hN := P.1
    by_cases e : c' = c
    · subst e
      rw [pk_us, if_pos rfl, m, nI_1]
    · rw [pk_un e, if_neg (fun z => e ((nI_eq (by omega) (by omega)).mp z).symm), Nat.add_zero]
      exact m
  · intro i hi
    rw [cu_at] at hi
    by_cases e : i = cu_O ob N
    · subst e
      exact ⟨c, hc, pk_us⟩
    · rw [pk_un e]
      exact B.2.2.2 i (by omega)
theorem rl_blk (r : (rl_R NC NT N A T Pc D ob K cp cf mt op tk tp fp kd KN PN SZ oc of bt ba sl ac af fa fw fv wt wd wv mc yoc yof ybt ybp sv vr ow ed wa yh vl)) (hT : T < 200) {t0 a0 : Nat} (ht : t0 < NT) (hk : KN t0 = 13) (ha : a0 < A) : (rl_R NC NT (N + 1) A (T + 1) Pc D (cu_a ob N false) K cp cf mt op tk tp fp kd KN PN SZ oc of (upd bt N (nI t0)) (upd ba N (nI a0)) sl ac af fa fw fv wt wd wv mc yoc yof (upd ybt (N - cu_O ob N) (nI t0)) (upd ybp (N - cu_O ob N) (nI a0)) sv vr ow ed wa yh vl) := by
  obtain ⟨P, H, ⟨S, F0, AF⟩, B⟩ := r
  refine ⟨P, ⟨?_, ?_, ?_⟩, ⟨kl_cg (fun _ _ h => cu_aR false h) (Nat.le_refl _) (fun _ _ => ⟨rfl, rfl⟩) (fun _ _ _ => ⟨rfl, rfl, rfl⟩) (fun _ _ => rfl) (fun _ _ => ⟨rfl, rfl⟩) (fun _ _ => rfl) S, F0, AF⟩, ⟨⟨B.1.1, by have := B.1; omega, by omega⟩, B.2.1, ?_, ?_⟩⟩
  · intro t h h0
    have e : ¬ t = N := fun e => by subst e; rw [cu_an] at h0; exact absurd h0 (by decide)
    have hl : t < N := by omega
    have h0' : ob t = true := by rw [← cu_al ob N false t hl]; exact h0
    rw [cu_agl false hl]
    obtain ⟨o1, o2⟩ := H.1 t hl h0'
    exact ⟨o1, fun k hk => cu_aR false (o2 k hk)⟩
  · intro t h h0
    by_cases e : t = N
    · subst e
      rw [cu_agf, pk_us, pk_us, pk_us, pk_us]
      exact ⟨t0, a0, ht, hk, ha, rfl, rfl, rfl, rfl⟩
    · have hl : t < N := by omega
      have h0' : ob t = false := by rw [← cu_al ob N false t hl]; exact h0
      have gl := cu_gf h0' hl
      rw [cu_agl false hl, pk_un e, pk_un e, pk_un (by omega), pk_un (by omega)]
      exact H.2.1 t hl h0'
  · intro a ha
    obtain ⟨h1, h2, h3⟩ := H.2.2 a ha
    exact ⟨cu_aR false h1, fun v hv => cu_aR false (h2 v hv), h3⟩
  · intro c hc
    rw [cu_af]
    exact B.2.2.1 c hc
  · intro i hi
    rw [cu_af] at hi
    exact B.2.2.2 i hi
theorem rl_set (r : (rl_R NC NT N A T Pc D ob K cp cf mt op tk tp fp kd KN PN SZ oc of bt ba sl ac af fa fw fv wt wd wv mc yoc yof ybt ybp sv vr ow ed wa yh vl)) {a j : Nat} (ha : a < A) (hj : j < 6) {x y : Int64} (h : vb_R ob N x y) : (rl_R NC NT N A T Pc D ob K cp cf mt op tk tp fp kd KN PN SZ oc of bt ba (vp_updL sl (a * 7 + j) x) ac af fa fw fv wt wd wv mc yoc yof ybt ybp sv (vp_updL vr (6 * a + j) y) ow ed wa yh vl) := by
  obtain ⟨P, H, S, B⟩ := r
  refine ⟨P, ⟨H.1, H.2.1, ?_⟩, S, B⟩
  intro a' ha'
  obtain ⟨h1, h2, h3⟩ := H.2.2 a' ha'
  refine ⟨?_, ?_, h3⟩
  · rw [pk_uLn (by omega)]; exact h1
  · intro v hv
    by_cases e : a' = a ∧ v = j
    · obtain ⟨rfl, rfl⟩ := e
      rw [pk_uLs, pk_uLs]; exact h
    · rw [pk_uLn (by omega), pk_uLn (by omega)]; exact h2 v hv
theorem rl_fld (r : (rl_R NC NT N A T Pc D ob K cp cf mt op tk tp fp kd KN PN SZ oc of bt ba sl ac af fa fw fv wt wd wv mc yoc yof ybt ybp sv vr ow ed wa yh vl)) {o k : Nat} (ho : o < N) (h0 : ob o = true) (hk : k < 4) {x y : Int64} (h : vb_R ob N x y) : (rl_R NC NT N A T Pc D ob K cp cf mt op tk tp fp kd KN PN SZ oc (vp_updL of (o * 4 + k) x) bt ba sl ac af fa fw fv wt wd wv mc yoc (vp_updL yof (4 * cu_g ob o + k) y) ybt ybp sv vr ow ed wa yh vl) := by
  obtain ⟨P, H, S, B⟩ := r
  refine ⟨P, ⟨?_, H.2.1, H.2.2⟩, S, B⟩
  intro t ht ht0
  obtain ⟨h1, h2⟩ := H.1 t ht ht0
  refine ⟨h1, fun k' hk' => ?_⟩
  by_cases e : t = o ∧ k' = k
  · obtain ⟨rfl, rfl⟩ := e
    rw [pk_uLs, pk_uLs]; exact h
  · have ne : t = o ∨ cu_g ob t ≠ cu_g ob o := by
      by_cases z : t = o
      · exact Or.inl z
      · exact Or.inr (fun q => z (cu_inj (ht0.trans h0.symm) q))
    have ne2 : t = o → k' ≠ k := fun z q => e ⟨z, q⟩
    rw [pk_uLn (by
      rcases ne with z | z
      · have := ne2 z; omega
      · intro q; exact z (by have : t = o := by omega
                             rw [this])), pk_uLn (by
      rcases ne with z | z
      · have := ne2 z; subst z; omega
      · omega)]
    exact h2 k' hk'
end
